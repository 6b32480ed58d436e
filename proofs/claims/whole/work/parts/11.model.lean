/-! model: pure functions, printed by wip/whole/gen.py out of the bytecode, and their walks -/
def f_X5_isHouse (p0 : Int32) : Option (Bool) := (if p0 < 0 then some false else (if 4 ≤ p0 then some false else some true))
def f_X5_isIn (p0 : Int32) (p1 : Int32) (p2 : Int32) : Option (Bool) := (if p0 < p1 then some false else (if p2 < p0 then some false else some true))
def f_X5_thrown (th : Int32) : Option (Int32) := some th
def f_X5_isThrown (p1 : Bool) (p2 : Int32) : Option (Bool × Int32) := (if (bI p1) = 0 then some (p1, 0) else some (p1, p2))
def l_X5_many_5 (ma : Int32) (ho : Nat → Int32) (sa : Nat → Int32) (v1 : Int32) (v2 : Int32) : Nat → Int32 → Int32 → Option (Int32)
  | 0, _, _ => none
  | F + 1, v3, v4 => (if ma ≤ v4 then some v3 else (if inB v4 120 = true then (if (ho v4.toNatClampNeg) = v1 then (if inB v4 120 = true then (if (sa v4.toNatClampNeg) = v2 then l_X5_many_5 ma ho sa v1 v2 F (v3 + 1) (v4 + 1) else l_X5_many_5 ma ho sa v1 v2 F (v3 + 0) (v4 + 1)) else none) else l_X5_many_5 ma ho sa v1 v2 F (v3 + 0) (v4 + 1)) else none))
def f_X5_many (ma : Int32) (ho : Nat → Int32) (sa : Nat → Int32) (p1 : Int32) (p2 : Int32) : Option (Int32) := l_X5_many_5 ma ho sa p1 p2 FU 0 0
def f_X5_isAhead (ti : Nat → Int32) (p1 : Int32) (p2 : Int32) : Option (Bool) := (if inB p1 120 = true then (if inB p2 120 = true then (if (ti p1.toNatClampNeg) < (ti p2.toNatClampNeg) then some true else (if inB p1 120 = true then (if inB p2 120 = true then (if (ti p1.toNatClampNeg) = (ti p2.toNatClampNeg) then (if p2 ≤ p1 then some false else some true) else some false) else none) else none)) else none) else none)
def b_X5_behind_50 (ti : Nat → Int32) (ko5 : Int32 → Int32 → Option (Int32)) (v1 : Int32) (v2 : Int32) (v3 : Int32) (v4 : Int32) : Option (Int32) := (if v3 = (-1) then ko5 v4 (v4 + 1) else ((f_X5_isAhead ti v4 v3).bind fun g2 => (if (bI g2) = 0 then ko5 v3 (v4 + 1) else ko5 v4 (v4 + 1))))
def l_X5_behind_5 (ma : Int32) (ti : Nat → Int32) (ho : Nat → Int32) (sa : Nat → Int32) (v1 : Int32) (v2 : Int32) : Nat → Int32 → Int32 → Option (Int32)
  | 0, _, _ => none
  | F + 1, v3, v4 => (if ma ≤ v4 then some v3 else (if inB v4 120 = true then (if (ho v4.toNatClampNeg) = v1 then (if inB v4 120 = true then (if (sa v4.toNatClampNeg) = 0 then (if v2 = (-1) then b_X5_behind_50 ti (fun qv3 qv4 => l_X5_behind_5 ma ti ho sa v1 v2 F qv3 qv4) v1 v2 v3 v4 else ((f_X5_isAhead ti v2 v4).bind fun g7 => (if (bI g7) = 0 then l_X5_behind_5 ma ti ho sa v1 v2 F v3 (v4 + 1) else b_X5_behind_50 ti (fun qv3 qv4 => l_X5_behind_5 ma ti ho sa v1 v2 F qv3 qv4) v1 v2 v3 v4))) else l_X5_behind_5 ma ti ho sa v1 v2 F v3 (v4 + 1)) else none) else l_X5_behind_5 ma ti ho sa v1 v2 F v3 (v4 + 1)) else none))
def f_X5_behind (ma : Int32) (ti : Nat → Int32) (ho : Nat → Int32) (sa : Nat → Int32) (p1 : Int32) (p2 : Int32) : Option (Int32) := l_X5_behind_5 ma ti ho sa p1 p2 FU (-1) 0
def f_X5_first (ma : Int32) (ti : Nat → Int32) (ho : Nat → Int32) (sa : Nat → Int32) (p1 : Int32) : Option (Int32) := ((f_X5_behind ma ti ho sa p1 (-1)).bind fun g1 => some g1)
def f_X5_isWaiting (ma : Int32) (ho : Nat → Int32) (sa : Nat → Int32) (p1 : Int32) (p2 : Int32) : Option (Bool) := (if p2 < 0 then some false else (if ma ≤ p2 then some false else (if inB p2 120 = true then (if (ho p2.toNatClampNeg) = p1 then (if inB p2 120 = true then (if (sa p2.toNatClampNeg) = 0 then some true else some false) else none) else some false) else none)))
def f_X5_makes (ma : Int32) (ti : Nat → Int32) (sp : Nat → Int32) (we : Nat → Int32) (ho : Nat → Int32) (sa : Nat → Int32) (p1 : Int32) (p2 : Int32) (p3 : Int32) (p4 : Int32) : Option (Int32 × Int32 × (Nat → Int32) × (Nat → Int32) × (Nat → Int32) × (Nat → Int32) × (Nat → Int32)) := (if inB ma 120 = true then (if inB ma 120 = true then (if inB ma 120 = true then (if inB ma 120 = true then (if inB ma 120 = true then some (((ma + 1) - 1), (ma + 1), (upd ti ma.toNatClampNeg p2), (upd sp ma.toNatClampNeg p3), (upd we ma.toNatClampNeg p4), (upd ho ma.toNatClampNeg p1), (upd sa ma.toNatClampNeg 0)) else none) else none) else none) else none) else none)
def b_X5_book_104 (ma : Int32) (ti : Nat → Int32) (sp : Nat → Int32) (we : Nat → Int32) (ho : Nat → Int32) (sa : Nat → Int32) (v1 : Int32) (v2 : Int32) (v3 : Int32) (v4 : Int32) (s1 : Bool) (thc : Int32) : Option (Int32 × Int32 × Int32 × (Nat → Int32) × (Nat → Int32) × (Nat → Int32) × (Nat → Int32) × (Nat → Int32)) := ((f_X5_isThrown s1 3).bind fun g1 => (if (bI g1.1) = 0 then ((f_X5_makes ma ti sp we ho sa v1 v2 v3 v4).bind fun g3 => some (g3.1, g1.2, g3.2.1, g3.2.2.1, g3.2.2.2.1, g3.2.2.2.2.1, g3.2.2.2.2.2.1, g3.2.2.2.2.2.2)) else some (0, g1.2, ma, ti, sp, we, ho, sa)))
def b_X5_book_59 (ma : Int32) (ti : Nat → Int32) (sp : Nat → Int32) (we : Nat → Int32) (ho : Nat → Int32) (sa : Nat → Int32) (cl : Nat → Int32) (v1 : Int32) (v2 : Int32) (v3 : Int32) (v4 : Int32) (s1 : Bool) (thc : Int32) : Option (Int32 × Int32 × Int32 × (Nat → Int32) × (Nat → Int32) × (Nat → Int32) × (Nat → Int32) × (Nat → Int32)) := ((f_X5_isThrown s1 2).bind fun g1 => (if (bI g1.1) = 0 then (if inB v1 4 = true then (if v2 < (cl v1.toNatClampNeg) then b_X5_book_104 ma ti sp we ho sa v1 v2 v3 v4 true g1.2 else ((f_X5_many ma ho sa v1 0).bind fun g5 => (if g5 = 48 then b_X5_book_104 ma ti sp we ho sa v1 v2 v3 v4 true g1.2 else (if ma = 120 then b_X5_book_104 ma ti sp we ho sa v1 v2 v3 v4 true g1.2 else b_X5_book_104 ma ti sp we ho sa v1 v2 v3 v4 false g1.2)))) else none) else some (0, g1.2, ma, ti, sp, we, ho, sa)))
def b_X5_book_13 (ma : Int32) (ti : Nat → Int32) (sp : Nat → Int32) (we : Nat → Int32) (ho : Nat → Int32) (sa : Nat → Int32) (cl : Nat → Int32) (v1 : Int32) (v2 : Int32) (v3 : Int32) (v4 : Int32) (s1 : Bool) : Option (Int32 × Int32 × Int32 × (Nat → Int32) × (Nat → Int32) × (Nat → Int32) × (Nat → Int32) × (Nat → Int32)) := ((f_X5_isThrown s1 1).bind fun g1 => (if (bI g1.1) = 0 then ((f_X5_isIn v2 0 9999).bind fun g3 => (if (bI g3) = 0 then b_X5_book_59 ma ti sp we ho sa cl v1 v2 v3 v4 true g1.2 else ((f_X5_isIn v3 0 500).bind fun g5 => (if (bI g5) = 0 then b_X5_book_59 ma ti sp we ho sa cl v1 v2 v3 v4 true g1.2 else ((f_X5_isIn v4 1 9).bind fun g7 => (if (bI g7) = 0 then b_X5_book_59 ma ti sp we ho sa cl v1 v2 v3 v4 true g1.2 else b_X5_book_59 ma ti sp we ho sa cl v1 v2 v3 v4 false g1.2)))))) else some (0, g1.2, ma, ti, sp, we, ho, sa)))
def f_X5_book (ma : Int32) (ti : Nat → Int32) (sp : Nat → Int32) (we : Nat → Int32) (ho : Nat → Int32) (sa : Nat → Int32) (cl : Nat → Int32) (p1 : Int32) (p2 : Int32) (p3 : Int32) (p4 : Int32) : Option (Int32 × Int32 × Int32 × (Nat → Int32) × (Nat → Int32) × (Nat → Int32) × (Nat → Int32) × (Nat → Int32)) := ((f_X5_isHouse p1).bind fun g1 => (if (bI g1) = 0 then b_X5_book_13 ma ti sp we ho sa cl p1 p2 p3 p4 true else b_X5_book_13 ma ti sp we ho sa cl p1 p2 p3 p4 false))
def l_X5_series_182 (v1 : Int32) (v2 : Int32) (v3 : Int32) (v4 : Int32) (v5 : Int32) (v6 : Int32) (v7 : Int32) (thc : Int32) : Nat → Int32 → Int32 → (Nat → Int32) → (Nat → Int32) → (Nat → Int32) → (Nat → Int32) → (Nat → Int32) → Option (Int32 × Int32 × Int32 × (Nat → Int32) × (Nat → Int32) × (Nat → Int32) × (Nat → Int32) × (Nat → Int32))
  | 0, _, _, _, _, _, _, _ => none
  | F + 1, v8, mac, tic, spc, wec, hoc, sac => (if v4 ≤ v8 then some (v7, thc, mac, tic, spc, wec, hoc, sac) else ((f_X5_makes mac tic spc wec hoc sac v1 (v2 + (v3 * v8)) v5 v6).bind fun g2 => l_X5_series_182 v1 v2 v3 v4 v5 v6 v7 thc F (v8 + 1) g2.2.1 g2.2.2.1 g2.2.2.2.1 g2.2.2.2.2.1 g2.2.2.2.2.2.1 g2.2.2.2.2.2.2))
def b_X5_series_164 (ma : Int32) (ti : Nat → Int32) (sp : Nat → Int32) (we : Nat → Int32) (ho : Nat → Int32) (sa : Nat → Int32) (v1 : Int32) (v2 : Int32) (v3 : Int32) (v4 : Int32) (v5 : Int32) (v6 : Int32) (s1 : Bool) (thc : Int32) : Option (Int32 × Int32 × Int32 × (Nat → Int32) × (Nat → Int32) × (Nat → Int32) × (Nat → Int32) × (Nat → Int32)) := ((f_X5_isThrown s1 3).bind fun g1 => (if (bI g1.1) = 0 then l_X5_series_182 v1 v2 v3 v4 v5 v6 ma g1.2 FU 0 ma ti sp we ho sa else some (0, g1.2, ma, ti, sp, we, ho, sa)))
def b_X5_series_113 (ma : Int32) (ti : Nat → Int32) (sp : Nat → Int32) (we : Nat → Int32) (ho : Nat → Int32) (sa : Nat → Int32) (cl : Nat → Int32) (v1 : Int32) (v2 : Int32) (v3 : Int32) (v4 : Int32) (v5 : Int32) (v6 : Int32) (s1 : Bool) (thc : Int32) : Option (Int32 × Int32 × Int32 × (Nat → Int32) × (Nat → Int32) × (Nat → Int32) × (Nat → Int32) × (Nat → Int32)) := ((f_X5_isThrown s1 2).bind fun g1 => (if (bI g1.1) = 0 then (if inB v1 4 = true then (if v2 < (cl v1.toNatClampNeg) then b_X5_series_164 ma ti sp we ho sa v1 v2 v3 v4 v5 v6 true g1.2 else ((f_X5_many ma ho sa v1 0).bind fun g5 => (if 48 < (g5 + v4) then b_X5_series_164 ma ti sp we ho sa v1 v2 v3 v4 v5 v6 true g1.2 else (if (ma + v4) ≤ 120 then b_X5_series_164 ma ti sp we ho sa v1 v2 v3 v4 v5 v6 false g1.2 else b_X5_series_164 ma ti sp we ho sa v1 v2 v3 v4 v5 v6 true g1.2)))) else none) else some (0, g1.2, ma, ti, sp, we, ho, sa)))
def b_X5_series_84 (ma : Int32) (ti : Nat → Int32) (sp : Nat → Int32) (we : Nat → Int32) (ho : Nat → Int32) (sa : Nat → Int32) (cl : Nat → Int32) (v1 : Int32) (v2 : Int32) (v3 : Int32) (v4 : Int32) (v5 : Int32) (v6 : Int32) (s1 : Bool) (thc : Int32) : Option (Int32 × Int32 × Int32 × (Nat → Int32) × (Nat → Int32) × (Nat → Int32) × (Nat → Int32) × (Nat → Int32)) := ((f_X5_isThrown s1 2).bind fun g1 => (if (bI g1.1) = 0 then (if (v2 + (v3 * (v4 - 1))) ≤ 9999 then b_X5_series_113 ma ti sp we ho sa cl v1 v2 v3 v4 v5 v6 false g1.2 else b_X5_series_113 ma ti sp we ho sa cl v1 v2 v3 v4 v5 v6 true g1.2) else some (0, g1.2, ma, ti, sp, we, ho, sa)))
def b_X5_series_13 (ma : Int32) (ti : Nat → Int32) (sp : Nat → Int32) (we : Nat → Int32) (ho : Nat → Int32) (sa : Nat → Int32) (cl : Nat → Int32) (v1 : Int32) (v2 : Int32) (v3 : Int32) (v4 : Int32) (v5 : Int32) (v6 : Int32) (s1 : Bool) : Option (Int32 × Int32 × Int32 × (Nat → Int32) × (Nat → Int32) × (Nat → Int32) × (Nat → Int32) × (Nat → Int32)) := ((f_X5_isThrown s1 1).bind fun g1 => (if (bI g1.1) = 0 then ((f_X5_isIn v3 0 500).bind fun g3 => (if (bI g3) = 0 then b_X5_series_84 ma ti sp we ho sa cl v1 v2 v3 v4 v5 v6 true g1.2 else ((f_X5_isIn v4 1 12).bind fun g5 => (if (bI g5) = 0 then b_X5_series_84 ma ti sp we ho sa cl v1 v2 v3 v4 v5 v6 true g1.2 else ((f_X5_isIn v5 0 500).bind fun g7 => (if (bI g7) = 0 then b_X5_series_84 ma ti sp we ho sa cl v1 v2 v3 v4 v5 v6 true g1.2 else ((f_X5_isIn v6 1 9).bind fun g9 => (if (bI g9) = 0 then b_X5_series_84 ma ti sp we ho sa cl v1 v2 v3 v4 v5 v6 true g1.2 else ((f_X5_isIn v2 0 9999).bind fun g11 => (if (bI g11) = 0 then b_X5_series_84 ma ti sp we ho sa cl v1 v2 v3 v4 v5 v6 true g1.2 else b_X5_series_84 ma ti sp we ho sa cl v1 v2 v3 v4 v5 v6 false g1.2)))))))))) else some (0, g1.2, ma, ti, sp, we, ho, sa)))
def f_X5_series (ma : Int32) (ti : Nat → Int32) (sp : Nat → Int32) (we : Nat → Int32) (ho : Nat → Int32) (sa : Nat → Int32) (cl : Nat → Int32) (p1 : Int32) (p2 : Int32) (p3 : Int32) (p4 : Int32) (p5 : Int32) (p6 : Int32) : Option (Int32 × Int32 × Int32 × (Nat → Int32) × (Nat → Int32) × (Nat → Int32) × (Nat → Int32) × (Nat → Int32)) := ((f_X5_isHouse p1).bind fun g1 => (if (bI g1) = 0 then b_X5_series_13 ma ti sp we ho sa cl p1 p2 p3 p4 p5 p6 true else b_X5_series_13 ma ti sp we ho sa cl p1 p2 p3 p4 p5 p6 false))
def b_X5_callOff_13 (ma : Int32) (ho : Nat → Int32) (sa : Nat → Int32) (v1 : Int32) (v2 : Int32) (s1 : Bool) : Option (Bool × Int32 × (Nat → Int32)) := ((f_X5_isThrown s1 1).bind fun g1 => (if (bI g1.1) = 0 then ((f_X5_isWaiting ma ho sa v1 v2).bind fun g3 => (if (bI g3) = 0 then some (false, g1.2, sa) else (if inB v2 120 = true then some (true, g1.2, (upd sa v2.toNatClampNeg 2)) else none))) else some (false, g1.2, sa)))
def f_X5_callOff (ma : Int32) (ho : Nat → Int32) (sa : Nat → Int32) (p1 : Int32) (p2 : Int32) : Option (Bool × Int32 × (Nat → Int32)) := ((f_X5_isHouse p1).bind fun g1 => (if (bI g1) = 0 then b_X5_callOff_13 ma ho sa p1 p2 true else b_X5_callOff_13 ma ho sa p1 p2 false))
def l_X5_callOffAll_46 (ma : Int32) (ti : Nat → Int32) (ho : Nat → Int32) (v1 : Int32) (v2 : Int32) (v3 : Int32) (thc : Int32) : Nat → Int32 → Int32 → (Nat → Int32) → Option (Int32 × Int32 × (Nat → Int32))
  | 0, _, _, _ => none
  | F + 1, v4, v5, sac => (if ma ≤ v5 then some (v4, thc, sac) else ((f_X5_isWaiting ma ho sac v1 v5).bind fun g2 => (if (bI g2) = 0 then l_X5_callOffAll_46 ma ti ho v1 v2 v3 thc F v4 (v5 + 1) sac else (if inB v5 120 = true then (if (ti v5.toNatClampNeg) < v2 then l_X5_callOffAll_46 ma ti ho v1 v2 v3 thc F v4 (v5 + 1) sac else (if inB v5 120 = true then (if v3 ≤ (ti v5.toNatClampNeg) then l_X5_callOffAll_46 ma ti ho v1 v2 v3 thc F v4 (v5 + 1) sac else (if inB v5 120 = true then l_X5_callOffAll_46 ma ti ho v1 v2 v3 thc F (v4 + 1) (v5 + 1) (upd sac v5.toNatClampNeg 2) else none)) else none)) else none))))
def b_X5_callOffAll_31 (ma : Int32) (ti : Nat → Int32) (ho : Nat → Int32) (sa : Nat → Int32) (v1 : Int32) (v2 : Int32) (v3 : Int32) (s1 : Bool) (thc : Int32) : Option (Int32 × Int32 × (Nat → Int32)) := ((f_X5_isThrown s1 2).bind fun g1 => (if (bI g1.1) = 0 then l_X5_callOffAll_46 ma ti ho v1 v2 v3 g1.2 FU 0 0 sa else some (0, g1.2, sa)))
def b_X5_callOffAll_13 (ma : Int32) (ti : Nat → Int32) (ho : Nat → Int32) (sa : Nat → Int32) (v1 : Int32) (v2 : Int32) (v3 : Int32) (s1 : Bool) : Option (Int32 × Int32 × (Nat → Int32)) := ((f_X5_isThrown s1 1).bind fun g1 => (if (bI g1.1) = 0 then (if v2 ≤ v3 then b_X5_callOffAll_31 ma ti ho sa v1 v2 v3 false g1.2 else b_X5_callOffAll_31 ma ti ho sa v1 v2 v3 true g1.2) else some (0, g1.2, sa)))
def f_X5_callOffAll (ma : Int32) (ti : Nat → Int32) (ho : Nat → Int32) (sa : Nat → Int32) (p1 : Int32) (p2 : Int32) (p3 : Int32) : Option (Int32 × Int32 × (Nat → Int32)) := ((f_X5_isHouse p1).bind fun g1 => (if (bI g1) = 0 then b_X5_callOffAll_13 ma ti ho sa p1 p2 p3 true else b_X5_callOffAll_13 ma ti ho sa p1 p2 p3 false))
def b_X5_put_82 (ti : Nat → Int32) (v2 : Int32) (v3 : Int32) (s1 : Bool) (thc : Int32) : Option (Int32 × Int32 × (Nat → Int32)) := ((f_X5_isThrown s1 4).bind fun g1 => (if (bI g1.1) = 0 then (if inB v2 120 = true then (if inB v2 120 = true then some ((ti v2.toNatClampNeg), g1.2, (upd ti v2.toNatClampNeg v3)) else none) else none) else some (0, g1.2, ti)))
def b_X5_put_59 (ti : Nat → Int32) (cl : Nat → Int32) (v1 : Int32) (v2 : Int32) (v3 : Int32) (s1 : Bool) (thc : Int32) : Option (Int32 × Int32 × (Nat → Int32)) := ((f_X5_isThrown s1 3).bind fun g1 => (if (bI g1.1) = 0 then (if inB v1 4 = true then (if (cl v1.toNatClampNeg) ≤ v3 then b_X5_put_82 ti v2 v3 false g1.2 else b_X5_put_82 ti v2 v3 true g1.2) else none) else some (0, g1.2, ti)))
def b_X5_put_37 (ma : Int32) (ti : Nat → Int32) (ho : Nat → Int32) (sa : Nat → Int32) (cl : Nat → Int32) (v1 : Int32) (v2 : Int32) (v3 : Int32) (s1 : Bool) (thc : Int32) : Option (Int32 × Int32 × (Nat → Int32)) := ((f_X5_isThrown s1 2).bind fun g1 => (if (bI g1.1) = 0 then ((f_X5_isWaiting ma ho sa v1 v2).bind fun g3 => (if (bI g3) = 0 then b_X5_put_59 ti cl v1 v2 v3 true g1.2 else b_X5_put_59 ti cl v1 v2 v3 false g1.2)) else some (0, g1.2, ti)))
def b_X5_put_13 (ma : Int32) (ti : Nat → Int32) (ho : Nat → Int32) (sa : Nat → Int32) (cl : Nat → Int32) (v1 : Int32) (v2 : Int32) (v3 : Int32) (s1 : Bool) : Option (Int32 × Int32 × (Nat → Int32)) := ((f_X5_isThrown s1 1).bind fun g1 => (if (bI g1.1) = 0 then ((f_X5_isIn v3 0 9999).bind fun g3 => (if (bI g3) = 0 then b_X5_put_37 ma ti ho sa cl v1 v2 v3 true g1.2 else b_X5_put_37 ma ti ho sa cl v1 v2 v3 false g1.2)) else some (0, g1.2, ti)))
def f_X5_put (ma : Int32) (ti : Nat → Int32) (ho : Nat → Int32) (sa : Nat → Int32) (cl : Nat → Int32) (p1 : Int32) (p2 : Int32) (p3 : Int32) : Option (Int32 × Int32 × (Nat → Int32)) := ((f_X5_isHouse p1).bind fun g1 => (if (bI g1) = 0 then b_X5_put_13 ma ti ho sa cl p1 p2 p3 true else b_X5_put_13 ma ti ho sa cl p1 p2 p3 false))
def l_X5_moved_6 (ma : Int32) (ti : Nat → Int32) (sa : Nat → Int32) (v1 : Int32) (v2 : Int32) (v3 : Int32) (v4 : Int32) (v5 : Bool) : Nat → Int32 → Int32 → (Nat → Int32) → Option (Int32 × (Nat → Int32))
  | 0, _, _, _ => none
  | F + 1, v6, v7, hoc => (if ma ≤ v7 then some (v6, hoc) else ((f_X5_isWaiting ma hoc sa v1 v7).bind fun g2 => (if (bI g2) = 0 then l_X5_moved_6 ma ti sa v1 v2 v3 v4 v5 F v6 (v7 + 1) hoc else (if inB v7 120 = true then (if (ti v7.toNatClampNeg) < v3 then l_X5_moved_6 ma ti sa v1 v2 v3 v4 v5 F v6 (v7 + 1) hoc else (if inB v7 120 = true then (if v4 ≤ (ti v7.toNatClampNeg) then l_X5_moved_6 ma ti sa v1 v2 v3 v4 v5 F v6 (v7 + 1) hoc else (if (bI v5) = 0 then (if inB v7 120 = true then l_X5_moved_6 ma ti sa v1 v2 v3 v4 v5 F (v6 + 1) (v7 + 1) (upd hoc v7.toNatClampNeg v1) else none) else (if inB v7 120 = true then l_X5_moved_6 ma ti sa v1 v2 v3 v4 v5 F (v6 + 1) (v7 + 1) (upd hoc v7.toNatClampNeg v2) else none))) else none)) else none))))
def f_X5_moved (ma : Int32) (ti : Nat → Int32) (ho : Nat → Int32) (sa : Nat → Int32) (p1 : Int32) (p2 : Int32) (p3 : Int32) (p4 : Int32) (p5 : Bool) : Option (Int32 × (Nat → Int32)) := l_X5_moved_6 ma ti sa p1 p2 p3 p4 p5 FU 0 0 ho
def b_X5_goes_49 (ma : Int32) (ti : Nat → Int32) (sa : Nat → Int32) (v1 : Int32) (v2 : Int32) (v3 : Int32) (s0 : Bool) (hoc : Nat → Int32) : Option (Int32 × Int32 × (Nat → Int32)) := ((f_X5_isThrown s0 2).bind fun g1 => (if (bI g1.1) = 0 then ((f_X5_moved ma ti hoc sa v1 v2 v3 100000 true).bind fun g3 => some (g3.1, g1.2, g3.2)) else some (0, g1.2, hoc)))
def f_X5_goes (ma : Int32) (ti : Nat → Int32) (ho : Nat → Int32) (sa : Nat → Int32) (cl : Nat → Int32) (p1 : Int32) (p2 : Int32) (p3 : Int32) : Option (Int32 × Int32 × (Nat → Int32)) := (if p1 = p2 then b_X5_goes_49 ma ti sa p1 p2 p3 true ho else (if inB p2 4 = true then ((f_X5_moved ma ti ho sa p1 p2 p3 (cl p2.toNatClampNeg) false).bind fun g3 => (if 0 < g3.1 then b_X5_goes_49 ma ti sa p1 p2 p3 true g3.2 else ((f_X5_many ma g3.2 sa p2 0).bind fun g5 => ((f_X5_moved ma ti g3.2 sa p1 p2 p3 100000 false).bind fun g6 => (if (g5 + g6.1) ≤ 48 then b_X5_goes_49 ma ti sa p1 p2 p3 false g6.2 else b_X5_goes_49 ma ti sa p1 p2 p3 true g6.2))))) else none))
def b_X5_join_20 (ma : Int32) (ti : Nat → Int32) (ho : Nat → Int32) (sa : Nat → Int32) (cl : Nat → Int32) (v1 : Int32) (v2 : Int32) (s1 : Bool) : Option (Int32 × Int32 × (Nat → Int32)) := ((f_X5_isThrown s1 1).bind fun g1 => (if (bI g1.1) = 0 then ((f_X5_goes ma ti ho sa cl v2 v1 0).bind fun g3 => some (g3.1, g3.2.1, g3.2.2)) else some (0, g1.2, ho)))
def f_X5_join (ma : Int32) (ti : Nat → Int32) (ho : Nat → Int32) (sa : Nat → Int32) (cl : Nat → Int32) (p1 : Int32) (p2 : Int32) : Option (Int32 × Int32 × (Nat → Int32)) := ((f_X5_isHouse p1).bind fun g1 => (if (bI g1) = 0 then b_X5_join_20 ma ti ho sa cl p1 p2 true else ((f_X5_isHouse p2).bind fun g3 => (if (bI g3) = 0 then b_X5_join_20 ma ti ho sa cl p1 p2 true else b_X5_join_20 ma ti ho sa cl p1 p2 false))))
def b_X5_part_20 (ma : Int32) (ti : Nat → Int32) (ho : Nat → Int32) (sa : Nat → Int32) (cl : Nat → Int32) (v1 : Int32) (v2 : Int32) (v3 : Int32) (s1 : Bool) : Option (Int32 × Int32 × (Nat → Int32)) := ((f_X5_isThrown s1 1).bind fun g1 => (if (bI g1.1) = 0 then ((f_X5_goes ma ti ho sa cl v1 v2 v3).bind fun g3 => some (g3.1, g3.2.1, g3.2.2)) else some (0, g1.2, ho)))
def f_X5_part (ma : Int32) (ti : Nat → Int32) (ho : Nat → Int32) (sa : Nat → Int32) (cl : Nat → Int32) (p1 : Int32) (p2 : Int32) (p3 : Int32) : Option (Int32 × Int32 × (Nat → Int32)) := ((f_X5_isHouse p1).bind fun g1 => (if (bI g1) = 0 then b_X5_part_20 ma ti ho sa cl p1 p2 p3 true else ((f_X5_isHouse p2).bind fun g3 => (if (bI g3) = 0 then b_X5_part_20 ma ti ho sa cl p1 p2 p3 true else b_X5_part_20 ma ti ho sa cl p1 p2 p3 false))))
def f_X5_comes (st : Int32) (ti : Nat → Int32) (ho : Nat → Int32) (sa : Nat → Int32) (ca : Nat → Int32) (cl : Nat → Int32) (p1 : Int32) : Option (Int32 × (Nat → Int32) × (Nat → Int32) × (Nat → Int32)) := (if inB p1 120 = true then (if inB p1 120 = true then (if inB p1 120 = true then (if inB p1 120 = true then (if inB (ho p1.toNatClampNeg) 4 = true then some ((st + 1), (upd sa p1.toNatClampNeg 1), (upd ca p1.toNatClampNeg st), (upd cl (ho p1.toNatClampNeg).toNatClampNeg (ti p1.toNatClampNeg))) else none) else none) else none) else none) else none)
def b_X5_next_39 (st : Int32) (ti : Nat → Int32) (ho : Nat → Int32) (sa : Nat → Int32) (ca : Nat → Int32) (cl : Nat → Int32) (v2 : Int32) (s1 : Bool) (thc : Int32) : Option (Int32 × Int32 × Int32 × (Nat → Int32) × (Nat → Int32) × (Nat → Int32)) := ((f_X5_isThrown s1 2).bind fun g1 => (if (bI g1.1) = 0 then ((f_X5_comes st ti ho sa ca cl v2).bind fun g3 => some (v2, g1.2, g3.1, g3.2.1, g3.2.2.1, g3.2.2.2)) else some (0, g1.2, st, sa, ca, cl)))
def b_X5_next_13 (ma : Int32) (st : Int32) (ti : Nat → Int32) (ho : Nat → Int32) (sa : Nat → Int32) (ca : Nat → Int32) (cl : Nat → Int32) (v1 : Int32) (s1 : Bool) : Option (Int32 × Int32 × Int32 × (Nat → Int32) × (Nat → Int32) × (Nat → Int32)) := ((f_X5_isThrown s1 1).bind fun g1 => (if (bI g1.1) = 0 then ((f_X5_first ma ti ho sa v1).bind fun g3 => (if g3 = (-1) then b_X5_next_39 st ti ho sa ca cl g3 true g1.2 else b_X5_next_39 st ti ho sa ca cl g3 false g1.2)) else some (0, g1.2, st, sa, ca, cl)))
def f_X5_next (ma : Int32) (st : Int32) (ti : Nat → Int32) (ho : Nat → Int32) (sa : Nat → Int32) (ca : Nat → Int32) (cl : Nat → Int32) (p1 : Int32) : Option (Int32 × Int32 × Int32 × (Nat → Int32) × (Nat → Int32) × (Nat → Int32)) := ((f_X5_isHouse p1).bind fun g1 => (if (bI g1) = 0 then b_X5_next_13 ma st ti ho sa ca cl p1 true else b_X5_next_13 ma st ti ho sa ca cl p1 false))
def l_X5_run_78 (ma : Int32) (ti : Nat → Int32) (ho : Nat → Int32) (v1 : Int32) (v2 : Int32) (thc : Int32) : Nat → Int32 → Int32 → Int32 → (Nat → Int32) → (Nat → Int32) → (Nat → Int32) → Option (Int32 × Int32 × Int32 × (Nat → Int32) × (Nat → Int32) × (Nat → Int32))
  | 0, _, _, _, _, _, _ => none
  | F + 1, v3, v4, stc, sac, cac, clc => (if v4 = (-1) then (if inB v1 4 = true then some (v3, thc, stc, sac, cac, (upd clc v1.toNatClampNeg v2)) else none) else (if inB v4 120 = true then (if v2 < (ti v4.toNatClampNeg) then (if inB v1 4 = true then some (v3, thc, stc, sac, cac, (upd clc v1.toNatClampNeg v2)) else none) else ((f_X5_comes stc ti ho sac cac clc v4).bind fun g6 => ((f_X5_first ma ti ho g6.2.1 v1).bind fun g7 => l_X5_run_78 ma ti ho v1 v2 thc F (v3 + 1) g7 g6.1 g6.2.1 g6.2.2.1 g6.2.2.2))) else none))
def b_X5_run_60 (ma : Int32) (st : Int32) (ti : Nat → Int32) (ho : Nat → Int32) (sa : Nat → Int32) (ca : Nat → Int32) (cl : Nat → Int32) (v1 : Int32) (v2 : Int32) (s1 : Bool) (thc : Int32) : Option (Int32 × Int32 × Int32 × (Nat → Int32) × (Nat → Int32) × (Nat → Int32)) := ((f_X5_isThrown s1 3).bind fun g1 => (if (bI g1.1) = 0 then ((f_X5_first ma ti ho sa v1).bind fun g3 => l_X5_run_78 ma ti ho v1 v2 g1.2 FU 0 g3 st sa ca cl) else some (0, g1.2, st, sa, ca, cl)))
def b_X5_run_37 (ma : Int32) (st : Int32) (ti : Nat → Int32) (ho : Nat → Int32) (sa : Nat → Int32) (ca : Nat → Int32) (cl : Nat → Int32) (v1 : Int32) (v2 : Int32) (s1 : Bool) (thc : Int32) : Option (Int32 × Int32 × Int32 × (Nat → Int32) × (Nat → Int32) × (Nat → Int32)) := ((f_X5_isThrown s1 2).bind fun g1 => (if (bI g1.1) = 0 then (if inB v1 4 = true then (if (cl v1.toNatClampNeg) ≤ v2 then b_X5_run_60 ma st ti ho sa ca cl v1 v2 false g1.2 else b_X5_run_60 ma st ti ho sa ca cl v1 v2 true g1.2) else none) else some (0, g1.2, st, sa, ca, cl)))
def b_X5_run_13 (ma : Int32) (st : Int32) (ti : Nat → Int32) (ho : Nat → Int32) (sa : Nat → Int32) (ca : Nat → Int32) (cl : Nat → Int32) (v1 : Int32) (v2 : Int32) (s1 : Bool) : Option (Int32 × Int32 × Int32 × (Nat → Int32) × (Nat → Int32) × (Nat → Int32)) := ((f_X5_isThrown s1 1).bind fun g1 => (if (bI g1.1) = 0 then ((f_X5_isIn v2 0 9999).bind fun g3 => (if (bI g3) = 0 then b_X5_run_37 ma st ti ho sa ca cl v1 v2 true g1.2 else b_X5_run_37 ma st ti ho sa ca cl v1 v2 false g1.2)) else some (0, g1.2, st, sa, ca, cl)))
def f_X5_run (ma : Int32) (st : Int32) (ti : Nat → Int32) (ho : Nat → Int32) (sa : Nat → Int32) (ca : Nat → Int32) (cl : Nat → Int32) (p1 : Int32) (p2 : Int32) : Option (Int32 × Int32 × Int32 × (Nat → Int32) × (Nat → Int32) × (Nat → Int32)) := ((f_X5_isHouse p1).bind fun g1 => (if (bI g1) = 0 then b_X5_run_13 ma st ti ho sa ca cl p1 p2 true else b_X5_run_13 ma st ti ho sa ca cl p1 p2 false))
def l_X5_back_148 (ma : Int32) (ti : Nat → Int32) (ho : Nat → Int32) (cl : Nat → Int32) (v1 : Int32) (v2 : Int32) (v3 : Int32) (thc : Int32) : Nat → Int32 → (Nat → Int32) → Option (Int32 × Int32 × (Nat → Int32) × (Nat → Int32))
  | 0, _, _ => none
  | F + 1, v4, sac => (if ma ≤ v4 then (if inB v1 4 = true then some (v3, thc, sac, (upd cl v1.toNatClampNeg v2)) else none) else (if inB v4 120 = true then (if (ho v4.toNatClampNeg) = v1 then (if inB v4 120 = true then (if (sac v4.toNatClampNeg) = 1 then (if inB v4 120 = true then (if (ti v4.toNatClampNeg) ≤ v2 then l_X5_back_148 ma ti ho cl v1 v2 v3 thc F (v4 + 1) sac else (if inB v4 120 = true then l_X5_back_148 ma ti ho cl v1 v2 v3 thc F (v4 + 1) (upd sac v4.toNatClampNeg 0) else none)) else none) else l_X5_back_148 ma ti ho cl v1 v2 v3 thc F (v4 + 1) sac) else none) else l_X5_back_148 ma ti ho cl v1 v2 v3 thc F (v4 + 1) sac) else none))
def b_X5_back_136 (ma : Int32) (ti : Nat → Int32) (ho : Nat → Int32) (sa : Nat → Int32) (cl : Nat → Int32) (v1 : Int32) (v2 : Int32) (v3 : Int32) (s1 : Bool) (thc : Int32) : Option (Int32 × Int32 × (Nat → Int32) × (Nat → Int32)) := ((f_X5_isThrown s1 3).bind fun g1 => (if (bI g1.1) = 0 then l_X5_back_148 ma ti ho cl v1 v2 v3 g1.2 FU 0 sa else some (0, g1.2, sa, cl)))
def l_X5_back_51 (ma : Int32) (ti : Nat → Int32) (ho : Nat → Int32) (sa : Nat → Int32) (cl : Nat → Int32) (v1 : Int32) (v2 : Int32) (thc : Int32) : Nat → Int32 → Int32 → Option (Int32 × Int32 × (Nat → Int32) × (Nat → Int32))
  | 0, _, _ => none
  | F + 1, v3, v4 => (if ma ≤ v4 then (if inB v1 4 = true then (if (cl v1.toNatClampNeg) < v2 then b_X5_back_136 ma ti ho sa cl v1 v2 v3 true thc else ((f_X5_many ma ho sa v1 0).bind fun g4 => (if (g4 + v3) ≤ 48 then b_X5_back_136 ma ti ho sa cl v1 v2 v3 false thc else b_X5_back_136 ma ti ho sa cl v1 v2 v3 true thc))) else none) else (if inB v4 120 = true then (if (ho v4.toNatClampNeg) = v1 then (if inB v4 120 = true then (if (sa v4.toNatClampNeg) = 1 then (if inB v4 120 = true then (if (ti v4.toNatClampNeg) ≤ v2 then l_X5_back_51 ma ti ho sa cl v1 v2 thc F (v3 + 0) (v4 + 1) else l_X5_back_51 ma ti ho sa cl v1 v2 thc F (v3 + 1) (v4 + 1)) else none) else l_X5_back_51 ma ti ho sa cl v1 v2 thc F (v3 + 0) (v4 + 1)) else none) else l_X5_back_51 ma ti ho sa cl v1 v2 thc F (v3 + 0) (v4 + 1)) else none))
def b_X5_back_37 (ma : Int32) (ti : Nat → Int32) (ho : Nat → Int32) (sa : Nat → Int32) (cl : Nat → Int32) (v1 : Int32) (v2 : Int32) (s1 : Bool) (thc : Int32) : Option (Int32 × Int32 × (Nat → Int32) × (Nat → Int32)) := ((f_X5_isThrown s1 2).bind fun g1 => (if (bI g1.1) = 0 then l_X5_back_51 ma ti ho sa cl v1 v2 g1.2 FU 0 0 else some (0, g1.2, sa, cl)))
def b_X5_back_13 (ma : Int32) (ti : Nat → Int32) (ho : Nat → Int32) (sa : Nat → Int32) (cl : Nat → Int32) (v1 : Int32) (v2 : Int32) (s1 : Bool) : Option (Int32 × Int32 × (Nat → Int32) × (Nat → Int32)) := ((f_X5_isThrown s1 1).bind fun g1 => (if (bI g1.1) = 0 then ((f_X5_isIn v2 0 9999).bind fun g3 => (if (bI g3) = 0 then b_X5_back_37 ma ti ho sa cl v1 v2 true g1.2 else b_X5_back_37 ma ti ho sa cl v1 v2 false g1.2)) else some (0, g1.2, sa, cl)))
def f_X5_back (ma : Int32) (ti : Nat → Int32) (ho : Nat → Int32) (sa : Nat → Int32) (cl : Nat → Int32) (p1 : Int32) (p2 : Int32) : Option (Int32 × Int32 × (Nat → Int32) × (Nat → Int32)) := ((f_X5_isHouse p1).bind fun g1 => (if (bI g1) = 0 then b_X5_back_13 ma ti ho sa cl p1 p2 true else b_X5_back_13 ma ti ho sa cl p1 p2 false))
def b_X5_clock_13 (cl : Nat → Int32) (v1 : Int32) (s1 : Bool) : Option (Int32 × Int32) := ((f_X5_isThrown s1 1).bind fun g1 => (if (bI g1.1) = 0 then (if inB v1 4 = true then some ((cl v1.toNatClampNeg), g1.2) else none) else some (0, g1.2)))
def f_X5_clock (cl : Nat → Int32) (p1 : Int32) : Option (Int32 × Int32) := ((f_X5_isHouse p1).bind fun g1 => (if (bI g1) = 0 then b_X5_clock_13 cl p1 true else b_X5_clock_13 cl p1 false))
def b_X5_waiting_13 (ma : Int32) (ho : Nat → Int32) (sa : Nat → Int32) (v1 : Int32) (s1 : Bool) : Option (Int32 × Int32) := ((f_X5_isThrown s1 1).bind fun g1 => (if (bI g1.1) = 0 then ((f_X5_many ma ho sa v1 0).bind fun g3 => some (g3, g1.2)) else some (0, g1.2)))
def f_X5_waiting (ma : Int32) (ho : Nat → Int32) (sa : Nat → Int32) (p1 : Int32) : Option (Int32 × Int32) := ((f_X5_isHouse p1).bind fun g1 => (if (bI g1) = 0 then b_X5_waiting_13 ma ho sa p1 true else b_X5_waiting_13 ma ho sa p1 false))
def b_X5_came_13 (ma : Int32) (ho : Nat → Int32) (sa : Nat → Int32) (v1 : Int32) (s1 : Bool) : Option (Int32 × Int32) := ((f_X5_isThrown s1 1).bind fun g1 => (if (bI g1.1) = 0 then ((f_X5_many ma ho sa v1 1).bind fun g3 => some (g3, g1.2)) else some (0, g1.2)))
def f_X5_came (ma : Int32) (ho : Nat → Int32) (sa : Nat → Int32) (p1 : Int32) : Option (Int32 × Int32) := ((f_X5_isHouse p1).bind fun g1 => (if (bI g1) = 0 then b_X5_came_13 ma ho sa p1 true else b_X5_came_13 ma ho sa p1 false))
def b_X5_cameBehind_57 (ca : Nat → Int32) (ko5 : Int32 → Int32 → Option (Int32)) (v1 : Int32) (v2 : Int32) (v3 : Int32) (v4 : Int32) : Option (Int32) := (if v3 = (-1) then ko5 v4 (v4 + 1) else (if inB v4 120 = true then (if inB v3 120 = true then (if (ca v3.toNatClampNeg) ≤ (ca v4.toNatClampNeg) then ko5 v3 (v4 + 1) else ko5 v4 (v4 + 1)) else none) else none))
def l_X5_cameBehind_5 (ma : Int32) (ho : Nat → Int32) (sa : Nat → Int32) (ca : Nat → Int32) (v1 : Int32) (v2 : Int32) : Nat → Int32 → Int32 → Option (Int32)
  | 0, _, _ => none
  | F + 1, v3, v4 => (if ma ≤ v4 then some v3 else (if inB v4 120 = true then (if (ho v4.toNatClampNeg) = v1 then (if inB v4 120 = true then (if (sa v4.toNatClampNeg) = 1 then (if v2 = (-1) then b_X5_cameBehind_57 ca (fun qv3 qv4 => l_X5_cameBehind_5 ma ho sa ca v1 v2 F qv3 qv4) v1 v2 v3 v4 else (if inB v4 120 = true then (if inB v2 120 = true then (if (ca v4.toNatClampNeg) ≤ (ca v2.toNatClampNeg) then l_X5_cameBehind_5 ma ho sa ca v1 v2 F v3 (v4 + 1) else b_X5_cameBehind_57 ca (fun qv3 qv4 => l_X5_cameBehind_5 ma ho sa ca v1 v2 F qv3 qv4) v1 v2 v3 v4) else none) else none)) else l_X5_cameBehind_5 ma ho sa ca v1 v2 F v3 (v4 + 1)) else none) else l_X5_cameBehind_5 ma ho sa ca v1 v2 F v3 (v4 + 1)) else none))
def f_X5_cameBehind (ma : Int32) (ho : Nat → Int32) (sa : Nat → Int32) (ca : Nat → Int32) (p1 : Int32) (p2 : Int32) : Option (Int32) := l_X5_cameBehind_5 ma ho sa ca p1 p2 FU (-1) 0
def b_X5_waits_70 (v3 : Int32) (s1 : Bool) (thc : Int32) : Option (Int32 × Int32) := ((f_X5_isThrown s1 2).bind fun g1 => (if (bI g1.1) = 0 then some (v3, g1.2) else some (0, g1.2)))
def b_X5_waits_55 (v2 : Int32) (v3 : Int32) (thc : Int32) : Option (Int32 × Int32) := (if v2 < 0 then b_X5_waits_70 v3 true thc else (if v3 = (-1) then b_X5_waits_70 v3 true thc else b_X5_waits_70 v3 false thc))
def l_X5_waits_31 (ma : Int32) (ti : Nat → Int32) (ho : Nat → Int32) (sa : Nat → Int32) (v1 : Int32) (v2 : Int32) (thc : Int32) : Nat → Int32 → Int32 → Option (Int32 × Int32)
  | 0, _, _ => none
  | F + 1, v3, v4 => (if v2 ≤ v4 then b_X5_waits_55 v2 v3 thc else (if v3 = (-1) then b_X5_waits_55 v2 v3 thc else ((f_X5_behind ma ti ho sa v1 v3).bind fun g3 => l_X5_waits_31 ma ti ho sa v1 v2 thc F g3 (v4 + 1))))
def b_X5_waits_13 (ma : Int32) (ti : Nat → Int32) (ho : Nat → Int32) (sa : Nat → Int32) (v1 : Int32) (v2 : Int32) (s1 : Bool) : Option (Int32 × Int32) := ((f_X5_isThrown s1 1).bind fun g1 => (if (bI g1.1) = 0 then ((f_X5_first ma ti ho sa v1).bind fun g3 => l_X5_waits_31 ma ti ho sa v1 v2 g1.2 FU g3 0) else some (0, g1.2)))
def f_X5_waits (ma : Int32) (ti : Nat → Int32) (ho : Nat → Int32) (sa : Nat → Int32) (p1 : Int32) (p2 : Int32) : Option (Int32 × Int32) := ((f_X5_isHouse p1).bind fun g1 => (if (bI g1) = 0 then b_X5_waits_13 ma ti ho sa p1 p2 true else b_X5_waits_13 ma ti ho sa p1 p2 false))
def b_X5_cameAt_71 (v3 : Int32) (s1 : Bool) (thc : Int32) : Option (Int32 × Int32) := ((f_X5_isThrown s1 2).bind fun g1 => (if (bI g1.1) = 0 then some (v3, g1.2) else some (0, g1.2)))
def b_X5_cameAt_56 (v2 : Int32) (v3 : Int32) (thc : Int32) : Option (Int32 × Int32) := (if v2 < 0 then b_X5_cameAt_71 v3 true thc else (if v3 = (-1) then b_X5_cameAt_71 v3 true thc else b_X5_cameAt_71 v3 false thc))
def l_X5_cameAt_32 (ma : Int32) (ho : Nat → Int32) (sa : Nat → Int32) (ca : Nat → Int32) (v1 : Int32) (v2 : Int32) (thc : Int32) : Nat → Int32 → Int32 → Option (Int32 × Int32)
  | 0, _, _ => none
  | F + 1, v3, v4 => (if v2 ≤ v4 then b_X5_cameAt_56 v2 v3 thc else (if v3 = (-1) then b_X5_cameAt_56 v2 v3 thc else ((f_X5_cameBehind ma ho sa ca v1 v3).bind fun g3 => l_X5_cameAt_32 ma ho sa ca v1 v2 thc F g3 (v4 + 1))))
def b_X5_cameAt_13 (ma : Int32) (ho : Nat → Int32) (sa : Nat → Int32) (ca : Nat → Int32) (v1 : Int32) (v2 : Int32) (s1 : Bool) : Option (Int32 × Int32) := ((f_X5_isThrown s1 1).bind fun g1 => (if (bI g1.1) = 0 then ((f_X5_cameBehind ma ho sa ca v1 (-1)).bind fun g3 => l_X5_cameAt_32 ma ho sa ca v1 v2 g1.2 FU g3 0) else some (0, g1.2)))
def f_X5_cameAt (ma : Int32) (ho : Nat → Int32) (sa : Nat → Int32) (ca : Nat → Int32) (p1 : Int32) (p2 : Int32) : Option (Int32 × Int32) := ((f_X5_isHouse p1).bind fun g1 => (if (bI g1) = 0 then b_X5_cameAt_13 ma ho sa ca p1 p2 true else b_X5_cameAt_13 ma ho sa ca p1 p2 false))
def b_X5_nextTime_99 (v3 : Int32) (s1 : Bool) (thc : Int32) : Option (Int32 × Int32) := ((f_X5_isThrown s1 2).bind fun g1 => (if (bI g1.1) = 0 then some (v3, g1.2) else some (0, g1.2)))
def l_X5_nextTime_28 (ma : Int32) (ti : Nat → Int32) (ho : Nat → Int32) (sa : Nat → Int32) (v1 : Int32) (v2 : Int32) (thc : Int32) : Nat → Int32 → Int32 → Option (Int32 × Int32)
  | 0, _, _ => none
  | F + 1, v3, v4 => (if ma ≤ v4 then (if v3 = 100000 then b_X5_nextTime_99 v3 true thc else b_X5_nextTime_99 v3 false thc) else ((f_X5_isWaiting ma ho sa v1 v4).bind fun g3 => (if (bI g3) = 0 then l_X5_nextTime_28 ma ti ho sa v1 v2 thc F v3 (v4 + 1) else (if inB v4 120 = true then (if (ti v4.toNatClampNeg) < v2 then l_X5_nextTime_28 ma ti ho sa v1 v2 thc F v3 (v4 + 1) else (if inB v4 120 = true then (if v3 ≤ (ti v4.toNatClampNeg) then l_X5_nextTime_28 ma ti ho sa v1 v2 thc F v3 (v4 + 1) else (if inB v4 120 = true then l_X5_nextTime_28 ma ti ho sa v1 v2 thc F (ti v4.toNatClampNeg) (v4 + 1) else none)) else none)) else none))))
def b_X5_nextTime_13 (ma : Int32) (ti : Nat → Int32) (ho : Nat → Int32) (sa : Nat → Int32) (v1 : Int32) (v2 : Int32) (s1 : Bool) : Option (Int32 × Int32) := ((f_X5_isThrown s1 1).bind fun g1 => (if (bI g1.1) = 0 then l_X5_nextTime_28 ma ti ho sa v1 v2 g1.2 FU 100000 0 else some (0, g1.2)))
def f_X5_nextTime (ma : Int32) (ti : Nat → Int32) (ho : Nat → Int32) (sa : Nat → Int32) (p1 : Int32) (p2 : Int32) : Option (Int32 × Int32) := ((f_X5_isHouse p1).bind fun g1 => (if (bI g1) = 0 then b_X5_nextTime_13 ma ti ho sa p1 p2 true else b_X5_nextTime_13 ma ti ho sa p1 p2 false))
def b_X5_about_61 (ti : Nat → Int32) (sp : Nat → Int32) (we : Nat → Int32) (ho : Nat → Int32) (sa : Nat → Int32) (v1 : Int32) (v2 : Int32) (s1 : Bool) (thc : Int32) : Option (Int64 × Int32) := ((f_X5_isThrown s1 2).bind fun g1 => (if (bI g1.1) = 0 then (if v2 = 116 then (if inB v1 120 = true then some ((ti v1.toNatClampNeg).toInt64, g1.2) else none) else (if v2 = 115 then (if inB v1 120 = true then some ((sp v1.toNatClampNeg).toInt64, g1.2) else none) else (if v2 = 119 then (if inB v1 120 = true then some ((we v1.toNatClampNeg).toInt64, g1.2) else none) else (if v2 = 104 then (if inB v1 120 = true then some ((ho v1.toNatClampNeg).toInt64, g1.2) else none) else (if inB v1 120 = true then some ((sa v1.toNatClampNeg).toInt64, g1.2) else none))))) else some (0, g1.2)))
def b_X5_about_18 (ti : Nat → Int32) (sp : Nat → Int32) (we : Nat → Int32) (ho : Nat → Int32) (sa : Nat → Int32) (v1 : Int32) (v2 : Int32) (s1 : Bool) : Option (Int64 × Int32) := ((f_X5_isThrown s1 1).bind fun g1 => (if (bI g1.1) = 0 then (if v2 = 116 then b_X5_about_61 ti sp we ho sa v1 v2 false g1.2 else (if v2 = 115 then b_X5_about_61 ti sp we ho sa v1 v2 false g1.2 else (if v2 = 119 then b_X5_about_61 ti sp we ho sa v1 v2 false g1.2 else (if v2 = 104 then b_X5_about_61 ti sp we ho sa v1 v2 false g1.2 else (if v2 = 120 then b_X5_about_61 ti sp we ho sa v1 v2 false g1.2 else b_X5_about_61 ti sp we ho sa v1 v2 true g1.2))))) else some (0, g1.2)))
def f_X5_about (ma : Int32) (ti : Nat → Int32) (sp : Nat → Int32) (we : Nat → Int32) (ho : Nat → Int32) (sa : Nat → Int32) (p1 : Int32) (p2 : Int32) : Option (Int64 × Int32) := (if p1 < 0 then b_X5_about_18 ti sp we ho sa p1 p2 true else (if p1 < ma then b_X5_about_18 ti sp we ho sa p1 p2 false else b_X5_about_18 ti sp we ho sa p1 p2 true))
def f_X5_isOf (sp : Nat → Int32) (ho : Nat → Int32) (sa : Nat → Int32) (p1 : Int32) (p2 : Int32) : Option (Bool) := (if inB p2 120 = true then (if (ho p2.toNatClampNeg) = p1 then (if inB p2 120 = true then (if (sa p2.toNatClampNeg) = 1 then (if inB p2 120 = true then (if (sp p2.toNatClampNeg) ≤ 0 then some false else some true) else none) else some false) else none) else some false) else none)
def l_X5_crowdAt_5 (ma : Int32) (ti : Nat → Int32) (sp : Nat → Int32) (we : Nat → Int32) (ho : Nat → Int32) (sa : Nat → Int32) (v1 : Int32) (v2 : Int32) : Nat → Int32 → Int32 → Option (Int32)
  | 0, _, _ => none
  | F + 1, v3, v4 => (if ma ≤ v4 then some v3 else ((f_X5_isOf sp ho sa v1 v4).bind fun g2 => (if (bI g2) = 0 then l_X5_crowdAt_5 ma ti sp we ho sa v1 v2 F (v3 + 0) (v4 + 1) else (if inB v4 120 = true then (if v2 < (ti v4.toNatClampNeg) then l_X5_crowdAt_5 ma ti sp we ho sa v1 v2 F (v3 + 0) (v4 + 1) else (if inB v4 120 = true then (if inB v4 120 = true then (if ((ti v4.toNatClampNeg) + (sp v4.toNatClampNeg)) ≤ v2 then l_X5_crowdAt_5 ma ti sp we ho sa v1 v2 F (v3 + 0) (v4 + 1) else (if inB v4 120 = true then l_X5_crowdAt_5 ma ti sp we ho sa v1 v2 F (v3 + (we v4.toNatClampNeg)) (v4 + 1) else none)) else none) else none)) else none))))
def f_X5_crowdAt (ma : Int32) (ti : Nat → Int32) (sp : Nat → Int32) (we : Nat → Int32) (ho : Nat → Int32) (sa : Nat → Int32) (p1 : Int32) (p2 : Int32) : Option (Int32) := l_X5_crowdAt_5 ma ti sp we ho sa p1 p2 FU 0 0
def b_X5_changeAt_47 (ti : Nat → Int32) (sp : Nat → Int32) (we : Nat → Int32) (ho : Nat → Int32) (sa : Nat → Int32) (ko5 : Int32 → Int32 → Option (Int32)) (v1 : Int32) (v2 : Int32) (v4 : Int32) (s0 : Int32) (s1 : Int32) : Option (Int32) := ((f_X5_isOf sp ho sa v1 v4).bind fun g1 => (if (bI g1) = 0 then ko5 ((s0 + s1) - 0) (v4 + 1) else (if inB v4 120 = true then (if inB v4 120 = true then (if ((ti v4.toNatClampNeg) + (sp v4.toNatClampNeg)) = v2 then (if inB v4 120 = true then ko5 ((s0 + s1) - (we v4.toNatClampNeg)) (v4 + 1) else none) else ko5 ((s0 + s1) - 0) (v4 + 1)) else none) else none)))
def l_X5_changeAt_5 (ma : Int32) (ti : Nat → Int32) (sp : Nat → Int32) (we : Nat → Int32) (ho : Nat → Int32) (sa : Nat → Int32) (v1 : Int32) (v2 : Int32) : Nat → Int32 → Int32 → Option (Int32)
  | 0, _, _ => none
  | F + 1, v3, v4 => (if ma ≤ v4 then some v3 else ((f_X5_isOf sp ho sa v1 v4).bind fun g2 => (if (bI g2) = 0 then b_X5_changeAt_47 ti sp we ho sa (fun qv3 qv4 => l_X5_changeAt_5 ma ti sp we ho sa v1 v2 F qv3 qv4) v1 v2 v4 v3 0 else (if inB v4 120 = true then (if (ti v4.toNatClampNeg) = v2 then (if inB v4 120 = true then b_X5_changeAt_47 ti sp we ho sa (fun qv3 qv4 => l_X5_changeAt_5 ma ti sp we ho sa v1 v2 F qv3 qv4) v1 v2 v4 v3 (we v4.toNatClampNeg) else none) else b_X5_changeAt_47 ti sp we ho sa (fun qv3 qv4 => l_X5_changeAt_5 ma ti sp we ho sa v1 v2 F qv3 qv4) v1 v2 v4 v3 0) else none))))
def f_X5_changeAt (ma : Int32) (ti : Nat → Int32) (sp : Nat → Int32) (we : Nat → Int32) (ho : Nat → Int32) (sa : Nat → Int32) (p1 : Int32) (p2 : Int32) : Option (Int32) := l_X5_changeAt_5 ma ti sp we ho sa p1 p2 FU 0 0
def l_X5_busyFrom_19 (ma : Int32) (ti : Nat → Int32) (sp : Nat → Int32) (ho : Nat → Int32) (sa : Nat → Int32) (v1 : Int32) (v2 : Int32) : Nat → Int32 → Int32 → Option (Int32)
  | 0, _, _ => none
  | F + 1, v3, v4 => (if ma ≤ v4 then some v3 else ((f_X5_isOf sp ho sa v1 v4).bind fun g2 => (if (bI g2) = 0 then l_X5_busyFrom_19 ma ti sp ho sa v1 v2 F v3 (v4 + 1) else (if inB v4 120 = true then (if (ti v4.toNatClampNeg) < v2 then l_X5_busyFrom_19 ma ti sp ho sa v1 v2 F v3 (v4 + 1) else (if inB v4 120 = true then (if v3 ≤ (ti v4.toNatClampNeg) then l_X5_busyFrom_19 ma ti sp ho sa v1 v2 F v3 (v4 + 1) else (if inB v4 120 = true then l_X5_busyFrom_19 ma ti sp ho sa v1 v2 F (ti v4.toNatClampNeg) (v4 + 1) else none)) else none)) else none))))
def f_X5_busyFrom (ma : Int32) (ti : Nat → Int32) (sp : Nat → Int32) (we : Nat → Int32) (ho : Nat → Int32) (sa : Nat → Int32) (p1 : Int32) (p2 : Int32) : Option (Int32) := ((f_X5_crowdAt ma ti sp we ho sa p1 p2).bind fun g1 => (if g1 ≤ 0 then l_X5_busyFrom_19 ma ti sp ho sa p1 p2 FU 100000 0 else l_X5_busyFrom_19 ma ti sp ho sa p1 p2 FU p2 0))
def l_X5_idleFrom_17 (ma : Int32) (ti : Nat → Int32) (sp : Nat → Int32) (ho : Nat → Int32) (sa : Nat → Int32) (v1 : Int32) (v3 : Int32) (ko2 : Int32 → Option (Int32)) : Nat → Int32 → Int32 → Option (Int32)
  | 0, _, _ => none
  | F + 1, v4, v5 => (if ma ≤ v5 then ko2 v4 else ((f_X5_isOf sp ho sa v1 v5).bind fun g2 => (if (bI g2) = 0 then l_X5_idleFrom_17 ma ti sp ho sa v1 v3 ko2 F v4 (v5 + 1) else (if inB v5 120 = true then (if v3 < (ti v5.toNatClampNeg) then l_X5_idleFrom_17 ma ti sp ho sa v1 v3 ko2 F v4 (v5 + 1) else (if inB v5 120 = true then (if inB v5 120 = true then (if ((ti v5.toNatClampNeg) + (sp v5.toNatClampNeg)) ≤ v4 then l_X5_idleFrom_17 ma ti sp ho sa v1 v3 ko2 F v4 (v5 + 1) else (if inB v5 120 = true then (if inB v5 120 = true then l_X5_idleFrom_17 ma ti sp ho sa v1 v3 ko2 F ((ti v5.toNatClampNeg) + (sp v5.toNatClampNeg)) (v5 + 1) else none) else none)) else none) else none)) else none))))
def l_X5_idleFrom_2 (ma : Int32) (ti : Nat → Int32) (sp : Nat → Int32) (we : Nat → Int32) (ho : Nat → Int32) (sa : Nat → Int32) (v1 : Int32) : Nat → Int32 → Option (Int32)
  | 0, _ => none
  | F + 1, v3 => ((f_X5_crowdAt ma ti sp we ho sa v1 v3).bind fun g1 => (if g1 ≤ 0 then some v3 else l_X5_idleFrom_17 ma ti sp ho sa v1 v3 (fun qv3 => l_X5_idleFrom_2 ma ti sp we ho sa v1 F qv3) FU v3 0))
def f_X5_idleFrom (ma : Int32) (ti : Nat → Int32) (sp : Nat → Int32) (we : Nat → Int32) (ho : Nat → Int32) (sa : Nat → Int32) (p1 : Int32) (p2 : Int32) : Option (Int32) := l_X5_idleFrom_2 ma ti sp we ho sa p1 FU p2
def l_X5_greatestIn_6 (ma : Int32) (ti : Nat → Int32) (sp : Nat → Int32) (we : Nat → Int32) (ho : Nat → Int32) (sa : Nat → Int32) (v1 : Int32) (v2 : Int32) (v3 : Int32) : Nat → Int32 → Int32 → Option (Int32)
  | 0, _, _ => none
  | F + 1, v4, v5 => (if ma ≤ v5 then some v4 else ((f_X5_isOf sp ho sa v1 v5).bind fun g2 => (if (bI g2) = 0 then l_X5_greatestIn_6 ma ti sp we ho sa v1 v2 v3 F v4 (v5 + 1) else (if inB v5 120 = true then (if (ti v5.toNatClampNeg) < v2 then l_X5_greatestIn_6 ma ti sp we ho sa v1 v2 v3 F v4 (v5 + 1) else (if inB v5 120 = true then (if v3 ≤ (ti v5.toNatClampNeg) then l_X5_greatestIn_6 ma ti sp we ho sa v1 v2 v3 F v4 (v5 + 1) else (if inB v5 120 = true then ((f_X5_crowdAt ma ti sp we ho sa v1 (ti v5.toNatClampNeg)).bind fun g9 => (if g9 ≤ v4 then l_X5_greatestIn_6 ma ti sp we ho sa v1 v2 v3 F v4 (v5 + 1) else l_X5_greatestIn_6 ma ti sp we ho sa v1 v2 v3 F g9 (v5 + 1))) else none)) else none)) else none))))
def f_X5_greatestIn (ma : Int32) (ti : Nat → Int32) (sp : Nat → Int32) (we : Nat → Int32) (ho : Nat → Int32) (sa : Nat → Int32) (p1 : Int32) (p2 : Int32) (p3 : Int32) : Option (Int32) := l_X5_greatestIn_6 ma ti sp we ho sa p1 p2 p3 FU 0 0
def b_X5_crowd_13 (ma : Int32) (ti : Nat → Int32) (sp : Nat → Int32) (we : Nat → Int32) (ho : Nat → Int32) (sa : Nat → Int32) (v1 : Int32) (v2 : Int32) (s1 : Bool) : Option (Int32 × Int32) := ((f_X5_isThrown s1 1).bind fun g1 => (if (bI g1.1) = 0 then ((f_X5_crowdAt ma ti sp we ho sa v1 v2).bind fun g3 => some (g3, g1.2)) else some (0, g1.2)))
def f_X5_crowd (ma : Int32) (ti : Nat → Int32) (sp : Nat → Int32) (we : Nat → Int32) (ho : Nat → Int32) (sa : Nat → Int32) (p1 : Int32) (p2 : Int32) : Option (Int32 × Int32) := ((f_X5_isHouse p1).bind fun g1 => (if (bI g1) = 0 then b_X5_crowd_13 ma ti sp we ho sa p1 p2 true else b_X5_crowd_13 ma ti sp we ho sa p1 p2 false))
def b_X5_change_13 (ma : Int32) (ti : Nat → Int32) (sp : Nat → Int32) (we : Nat → Int32) (ho : Nat → Int32) (sa : Nat → Int32) (v1 : Int32) (v2 : Int32) (s1 : Bool) : Option (Int32 × Int32) := ((f_X5_isThrown s1 1).bind fun g1 => (if (bI g1.1) = 0 then ((f_X5_changeAt ma ti sp we ho sa v1 v2).bind fun g3 => some (g3, g1.2)) else some (0, g1.2)))
def f_X5_change (ma : Int32) (ti : Nat → Int32) (sp : Nat → Int32) (we : Nat → Int32) (ho : Nat → Int32) (sa : Nat → Int32) (p1 : Int32) (p2 : Int32) : Option (Int32 × Int32) := ((f_X5_isHouse p1).bind fun g1 => (if (bI g1) = 0 then b_X5_change_13 ma ti sp we ho sa p1 p2 true else b_X5_change_13 ma ti sp we ho sa p1 p2 false))
def b_X5_greatest_13 (ma : Int32) (ti : Nat → Int32) (sp : Nat → Int32) (we : Nat → Int32) (ho : Nat → Int32) (sa : Nat → Int32) (v1 : Int32) (s1 : Bool) : Option (Int32 × Int32) := ((f_X5_isThrown s1 1).bind fun g1 => (if (bI g1.1) = 0 then ((f_X5_greatestIn ma ti sp we ho sa v1 0 100000).bind fun g3 => some (g3, g1.2)) else some (0, g1.2)))
def f_X5_greatest (ma : Int32) (ti : Nat → Int32) (sp : Nat → Int32) (we : Nat → Int32) (ho : Nat → Int32) (sa : Nat → Int32) (p1 : Int32) : Option (Int32 × Int32) := ((f_X5_isHouse p1).bind fun g1 => (if (bI g1) = 0 then b_X5_greatest_13 ma ti sp we ho sa p1 true else b_X5_greatest_13 ma ti sp we ho sa p1 false))
def l_X5_greatestFrom_56 (ma : Int32) (ti : Nat → Int32) (sp : Nat → Int32) (we : Nat → Int32) (ho : Nat → Int32) (sa : Nat → Int32) (v1 : Int32) (v2 : Int32) (thc : Int32) : Nat → Int32 → Int32 → Option (Int32 × Int32)
  | 0, _, _ => none
  | F + 1, v3, v4 => (if ma ≤ v4 then some (v3, thc) else ((f_X5_isOf sp ho sa v1 v4).bind fun g2 => (if (bI g2) = 0 then l_X5_greatestFrom_56 ma ti sp we ho sa v1 v2 thc F v3 (v4 + 1) else (if inB v4 120 = true then (if v3 ≤ (ti v4.toNatClampNeg) then l_X5_greatestFrom_56 ma ti sp we ho sa v1 v2 thc F v3 (v4 + 1) else (if inB v4 120 = true then ((f_X5_crowdAt ma ti sp we ho sa v1 (ti v4.toNatClampNeg)).bind fun g7 => (if g7 = v2 then (if inB v4 120 = true then l_X5_greatestFrom_56 ma ti sp we ho sa v1 v2 thc F (ti v4.toNatClampNeg) (v4 + 1) else none) else l_X5_greatestFrom_56 ma ti sp we ho sa v1 v2 thc F v3 (v4 + 1))) else none)) else none))))
def b_X5_greatestFrom_41 (ma : Int32) (ti : Nat → Int32) (sp : Nat → Int32) (we : Nat → Int32) (ho : Nat → Int32) (sa : Nat → Int32) (v1 : Int32) (v2 : Int32) (s1 : Bool) (thc : Int32) : Option (Int32 × Int32) := ((f_X5_isThrown s1 2).bind fun g1 => (if (bI g1.1) = 0 then l_X5_greatestFrom_56 ma ti sp we ho sa v1 v2 g1.2 FU 100000 0 else some (0, g1.2)))
def b_X5_greatestFrom_13 (ma : Int32) (ti : Nat → Int32) (sp : Nat → Int32) (we : Nat → Int32) (ho : Nat → Int32) (sa : Nat → Int32) (v1 : Int32) (s1 : Bool) : Option (Int32 × Int32) := ((f_X5_isThrown s1 1).bind fun g1 => (if (bI g1.1) = 0 then ((f_X5_greatestIn ma ti sp we ho sa v1 0 100000).bind fun g3 => (if g3 = 0 then b_X5_greatestFrom_41 ma ti sp we ho sa v1 g3 true g1.2 else b_X5_greatestFrom_41 ma ti sp we ho sa v1 g3 false g1.2)) else some (0, g1.2)))
def f_X5_greatestFrom (ma : Int32) (ti : Nat → Int32) (sp : Nat → Int32) (we : Nat → Int32) (ho : Nat → Int32) (sa : Nat → Int32) (p1 : Int32) : Option (Int32 × Int32) := ((f_X5_isHouse p1).bind fun g1 => (if (bI g1) = 0 then b_X5_greatestFrom_13 ma ti sp we ho sa p1 true else b_X5_greatestFrom_13 ma ti sp we ho sa p1 false))
def b_X5_busyIn_73 (ma : Int32) (ti : Nat → Int32) (sp : Nat → Int32) (we : Nat → Int32) (ho : Nat → Int32) (sa : Nat → Int32) (ko11 : Int32 → Int32 → Option (Int32)) (v1 : Int32) (v2 : Int32) (v3 : Int32) (v6 : Int32) (s0 : Int32) (s1 : Int32) : Option (Int32) := ((f_X5_busyFrom ma ti sp we ho sa v1 v6).bind fun g1 => ko11 (s0 + s1) g1)
def b_X5_busyIn_53 (ma : Int32) (ti : Nat → Int32) (sp : Nat → Int32) (we : Nat → Int32) (ho : Nat → Int32) (sa : Nat → Int32) (ko11 : Int32 → Int32 → Option (Int32)) (v1 : Int32) (v2 : Int32) (v3 : Int32) (v4 : Int32) (v6 : Int32) (v7 : Int32) (s0 : Int32) : Option (Int32) := (if s0 ≤ v7 then b_X5_busyIn_73 ma ti sp we ho sa ko11 v1 v2 v3 v6 v4 0 else b_X5_busyIn_73 ma ti sp we ho sa ko11 v1 v2 v3 v6 v4 (s0 - v7))
def l_X5_busyIn_11 (ma : Int32) (ti : Nat → Int32) (sp : Nat → Int32) (we : Nat → Int32) (ho : Nat → Int32) (sa : Nat → Int32) (v1 : Int32) (v2 : Int32) (v3 : Int32) : Nat → Int32 → Int32 → Option (Int32)
  | 0, _, _ => none
  | F + 1, v4, v5 => (if 100000 ≤ v5 then some v4 else ((f_X5_idleFrom ma ti sp we ho sa v1 v5).bind fun g2 => (if v2 ≤ v5 then (if v3 ≤ g2 then b_X5_busyIn_53 ma ti sp we ho sa (fun qv4 qv5 => l_X5_busyIn_11 ma ti sp we ho sa v1 v2 v3 F qv4 qv5) v1 v2 v3 v4 g2 v5 v3 else b_X5_busyIn_53 ma ti sp we ho sa (fun qv4 qv5 => l_X5_busyIn_11 ma ti sp we ho sa v1 v2 v3 F qv4 qv5) v1 v2 v3 v4 g2 v5 g2) else (if v3 ≤ g2 then b_X5_busyIn_53 ma ti sp we ho sa (fun qv4 qv5 => l_X5_busyIn_11 ma ti sp we ho sa v1 v2 v3 F qv4 qv5) v1 v2 v3 v4 g2 v2 v3 else b_X5_busyIn_53 ma ti sp we ho sa (fun qv4 qv5 => l_X5_busyIn_11 ma ti sp we ho sa v1 v2 v3 F qv4 qv5) v1 v2 v3 v4 g2 v2 g2))))
def f_X5_busyIn (ma : Int32) (ti : Nat → Int32) (sp : Nat → Int32) (we : Nat → Int32) (ho : Nat → Int32) (sa : Nat → Int32) (p1 : Int32) (p2 : Int32) (p3 : Int32) : Option (Int32) := ((f_X5_busyFrom ma ti sp we ho sa p1 0).bind fun g1 => l_X5_busyIn_11 ma ti sp we ho sa p1 p2 p3 FU 0 g1)
def b_X5_busy_31 (ma : Int32) (ti : Nat → Int32) (sp : Nat → Int32) (we : Nat → Int32) (ho : Nat → Int32) (sa : Nat → Int32) (v1 : Int32) (v2 : Int32) (v3 : Int32) (s1 : Bool) (thc : Int32) : Option (Int32 × Int32) := ((f_X5_isThrown s1 2).bind fun g1 => (if (bI g1.1) = 0 then ((f_X5_busyIn ma ti sp we ho sa v1 v2 v3).bind fun g3 => some (g3, g1.2)) else some (0, g1.2)))
def b_X5_busy_13 (ma : Int32) (ti : Nat → Int32) (sp : Nat → Int32) (we : Nat → Int32) (ho : Nat → Int32) (sa : Nat → Int32) (v1 : Int32) (v2 : Int32) (v3 : Int32) (s1 : Bool) : Option (Int32 × Int32) := ((f_X5_isThrown s1 1).bind fun g1 => (if (bI g1.1) = 0 then (if v2 ≤ v3 then b_X5_busy_31 ma ti sp we ho sa v1 v2 v3 false g1.2 else b_X5_busy_31 ma ti sp we ho sa v1 v2 v3 true g1.2) else some (0, g1.2)))
def f_X5_busy (ma : Int32) (ti : Nat → Int32) (sp : Nat → Int32) (we : Nat → Int32) (ho : Nat → Int32) (sa : Nat → Int32) (p1 : Int32) (p2 : Int32) (p3 : Int32) : Option (Int32 × Int32) := ((f_X5_isHouse p1).bind fun g1 => (if (bI g1) = 0 then b_X5_busy_13 ma ti sp we ho sa p1 p2 p3 true else b_X5_busy_13 ma ti sp we ho sa p1 p2 p3 false))
def l_X5_spans_31 (ma : Int32) (ti : Nat → Int32) (sp : Nat → Int32) (we : Nat → Int32) (ho : Nat → Int32) (sa : Nat → Int32) (v1 : Int32) (thc : Int32) : Nat → Int32 → Int32 → Option (Int32 × Int32)
  | 0, _, _ => none
  | F + 1, v2, v3 => (if 100000 ≤ v3 then some (v2, thc) else ((f_X5_idleFrom ma ti sp we ho sa v1 v3).bind fun g2 => ((f_X5_busyFrom ma ti sp we ho sa v1 g2).bind fun g3 => l_X5_spans_31 ma ti sp we ho sa v1 thc F (v2 + 1) g3)))
def b_X5_spans_13 (ma : Int32) (ti : Nat → Int32) (sp : Nat → Int32) (we : Nat → Int32) (ho : Nat → Int32) (sa : Nat → Int32) (v1 : Int32) (s1 : Bool) : Option (Int32 × Int32) := ((f_X5_isThrown s1 1).bind fun g1 => (if (bI g1.1) = 0 then ((f_X5_busyFrom ma ti sp we ho sa v1 0).bind fun g3 => l_X5_spans_31 ma ti sp we ho sa v1 g1.2 FU 0 g3) else some (0, g1.2)))
def f_X5_spans (ma : Int32) (ti : Nat → Int32) (sp : Nat → Int32) (we : Nat → Int32) (ho : Nat → Int32) (sa : Nat → Int32) (p1 : Int32) : Option (Int32 × Int32) := ((f_X5_isHouse p1).bind fun g1 => (if (bI g1) = 0 then b_X5_spans_13 ma ti sp we ho sa p1 true else b_X5_spans_13 ma ti sp we ho sa p1 false))
def b_X5_span_114 (ma : Int32) (ti : Nat → Int32) (sp : Nat → Int32) (we : Nat → Int32) (ho : Nat → Int32) (sa : Nat → Int32) (v1 : Int32) (v3 : Int32) (v4 : Int32) (s1 : Bool) (thc : Int32) : Option (Int32 × Int32) := ((f_X5_isThrown s1 3).bind fun g1 => (if (bI g1.1) = 0 then ((f_X5_idleFrom ma ti sp we ho sa v1 v4).bind fun g3 => (if v3 = 98 then some (v4, g1.2) else (if v3 = 101 then some (g3, g1.2) else ((f_X5_greatestIn ma ti sp we ho sa v1 v4 g3).bind fun g6 => some (g6, g1.2))))) else some (0, g1.2)))
def b_X5_span_97 (ma : Int32) (ti : Nat → Int32) (sp : Nat → Int32) (we : Nat → Int32) (ho : Nat → Int32) (sa : Nat → Int32) (v1 : Int32) (v2 : Int32) (v3 : Int32) (v4 : Int32) (thc : Int32) : Option (Int32 × Int32) := (if v2 < 0 then b_X5_span_114 ma ti sp we ho sa v1 v3 v4 true thc else (if v4 = 100000 then b_X5_span_114 ma ti sp we ho sa v1 v3 v4 true thc else b_X5_span_114 ma ti sp we ho sa v1 v3 v4 false thc))
def l_X5_span_64 (ma : Int32) (ti : Nat → Int32) (sp : Nat → Int32) (we : Nat → Int32) (ho : Nat → Int32) (sa : Nat → Int32) (v1 : Int32) (v2 : Int32) (v3 : Int32) (thc : Int32) : Nat → Int32 → Int32 → Option (Int32 × Int32)
  | 0, _, _ => none
  | F + 1, v4, v5 => (if v2 ≤ v5 then b_X5_span_97 ma ti sp we ho sa v1 v2 v3 v4 thc else (if 100000 ≤ v4 then b_X5_span_97 ma ti sp we ho sa v1 v2 v3 v4 thc else ((f_X5_idleFrom ma ti sp we ho sa v1 v4).bind fun g3 => ((f_X5_busyFrom ma ti sp we ho sa v1 g3).bind fun g4 => l_X5_span_64 ma ti sp we ho sa v1 v2 v3 thc F g4 (v5 + 1)))))
def b_X5_span_44 (ma : Int32) (ti : Nat → Int32) (sp : Nat → Int32) (we : Nat → Int32) (ho : Nat → Int32) (sa : Nat → Int32) (v1 : Int32) (v2 : Int32) (v3 : Int32) (s1 : Bool) (thc : Int32) : Option (Int32 × Int32) := ((f_X5_isThrown s1 2).bind fun g1 => (if (bI g1.1) = 0 then ((f_X5_busyFrom ma ti sp we ho sa v1 0).bind fun g3 => l_X5_span_64 ma ti sp we ho sa v1 v2 v3 g1.2 FU g3 0) else some (0, g1.2)))
def b_X5_span_13 (ma : Int32) (ti : Nat → Int32) (sp : Nat → Int32) (we : Nat → Int32) (ho : Nat → Int32) (sa : Nat → Int32) (v1 : Int32) (v2 : Int32) (v3 : Int32) (s1 : Bool) : Option (Int32 × Int32) := ((f_X5_isThrown s1 1).bind fun g1 => (if (bI g1.1) = 0 then (if v3 = 98 then b_X5_span_44 ma ti sp we ho sa v1 v2 v3 false g1.2 else (if v3 = 101 then b_X5_span_44 ma ti sp we ho sa v1 v2 v3 false g1.2 else (if v3 = 103 then b_X5_span_44 ma ti sp we ho sa v1 v2 v3 false g1.2 else b_X5_span_44 ma ti sp we ho sa v1 v2 v3 true g1.2))) else some (0, g1.2)))
def f_X5_span (ma : Int32) (ti : Nat → Int32) (sp : Nat → Int32) (we : Nat → Int32) (ho : Nat → Int32) (sa : Nat → Int32) (p1 : Int32) (p2 : Int32) (p3 : Int32) : Option (Int32 × Int32) := ((f_X5_isHouse p1).bind fun g1 => (if (bI g1) = 0 then b_X5_span_13 ma ti sp we ho sa p1 p2 p3 true else b_X5_span_13 ma ti sp we ho sa p1 p2 p3 false))
def l_X5_free_69 (ma : Int32) (ti : Nat → Int32) (sp : Nat → Int32) (we : Nat → Int32) (ho : Nat → Int32) (sa : Nat → Int32) (v1 : Int32) (v3 : Int32) (thc : Int32) : Nat → Int32 → Int32 → Option (Int32 × Int32)
  | 0, _, _ => none
  | F + 1, v4, v5 => (if v3 ≤ (v5 - v4) then some (v4, thc) else ((f_X5_idleFrom ma ti sp we ho sa v1 v5).bind fun g2 => ((f_X5_busyFrom ma ti sp we ho sa v1 g2).bind fun g3 => l_X5_free_69 ma ti sp we ho sa v1 v3 thc F g2 g3)))
def b_X5_free_48 (ma : Int32) (ti : Nat → Int32) (sp : Nat → Int32) (we : Nat → Int32) (ho : Nat → Int32) (sa : Nat → Int32) (v1 : Int32) (v2 : Int32) (v3 : Int32) (s1 : Bool) (thc : Int32) : Option (Int32 × Int32) := ((f_X5_isThrown s1 2).bind fun g1 => (if (bI g1.1) = 0 then ((f_X5_busyFrom ma ti sp we ho sa v1 v2).bind fun g3 => l_X5_free_69 ma ti sp we ho sa v1 v3 g1.2 FU v2 g3) else some (0, g1.2)))
def b_X5_free_13 (ma : Int32) (ti : Nat → Int32) (sp : Nat → Int32) (we : Nat → Int32) (ho : Nat → Int32) (sa : Nat → Int32) (v1 : Int32) (v2 : Int32) (v3 : Int32) (s1 : Bool) : Option (Int32 × Int32) := ((f_X5_isThrown s1 1).bind fun g1 => (if (bI g1.1) = 0 then ((f_X5_isIn v2 0 20000).bind fun g3 => (if (bI g3) = 0 then b_X5_free_48 ma ti sp we ho sa v1 v2 v3 true g1.2 else ((f_X5_isIn v3 1 500).bind fun g5 => (if (bI g5) = 0 then b_X5_free_48 ma ti sp we ho sa v1 v2 v3 true g1.2 else b_X5_free_48 ma ti sp we ho sa v1 v2 v3 false g1.2)))) else some (0, g1.2)))
def f_X5_free (ma : Int32) (ti : Nat → Int32) (sp : Nat → Int32) (we : Nat → Int32) (ho : Nat → Int32) (sa : Nat → Int32) (p1 : Int32) (p2 : Int32) (p3 : Int32) : Option (Int32 × Int32) := ((f_X5_isHouse p1).bind fun g1 => (if (bI g1) = 0 then b_X5_free_13 ma ti sp we ho sa p1 p2 p3 true else b_X5_free_13 ma ti sp we ho sa p1 p2 p3 false))
def l_X5_loadOf_5 (ma : Int32) (sp : Nat → Int32) (we : Nat → Int32) (ho : Nat → Int32) (sa : Nat → Int32) (v1 : Int32) : Nat → Int64 → Int32 → Option (Int64)
  | 0, _, _ => none
  | F + 1, v2, v4 => (if ma ≤ v4 then some v2 else ((f_X5_isOf sp ho sa v1 v4).bind fun g2 => (if (bI g2) = 0 then l_X5_loadOf_5 ma sp we ho sa v1 F (v2 + 0) (v4 + 1) else (if inB v4 120 = true then (if inB v4 120 = true then l_X5_loadOf_5 ma sp we ho sa v1 F (v2 + (((we v4.toNatClampNeg).toInt64) * ((sp v4.toNatClampNeg).toInt64))) (v4 + 1) else none) else none))))
def f_X5_loadOf (ma : Int32) (sp : Nat → Int32) (we : Nat → Int32) (ho : Nat → Int32) (sa : Nat → Int32) (p1 : Int32) : Option (Int64) := l_X5_loadOf_5 ma sp we ho sa p1 FU 0 0
def b_X5_load_13 (ma : Int32) (sp : Nat → Int32) (we : Nat → Int32) (ho : Nat → Int32) (sa : Nat → Int32) (v1 : Int32) (s1 : Bool) : Option (Int64 × Int32) := ((f_X5_isThrown s1 1).bind fun g1 => (if (bI g1.1) = 0 then ((f_X5_loadOf ma sp we ho sa v1).bind fun g3 => some (g3, g1.2)) else some (0, g1.2)))
def f_X5_load (ma : Int32) (sp : Nat → Int32) (we : Nat → Int32) (ho : Nat → Int32) (sa : Nat → Int32) (p1 : Int32) : Option (Int64 × Int32) := ((f_X5_isHouse p1).bind fun g1 => (if (bI g1) = 0 then b_X5_load_13 ma sp we ho sa p1 true else b_X5_load_13 ma sp we ho sa p1 false))
def b_X5_isQuiet_13 (ma : Int32) (ti : Nat → Int32) (sp : Nat → Int32) (we : Nat → Int32) (ho : Nat → Int32) (sa : Nat → Int32) (cl : Nat → Int32) (v1 : Int32) (s1 : Bool) : Option (Bool × Int32) := ((f_X5_isThrown s1 1).bind fun g1 => (if (bI g1.1) = 0 then ((f_X5_many ma ho sa v1 0).bind fun g3 => (if g3 = 0 then (if inB v1 4 = true then ((f_X5_busyFrom ma ti sp we ho sa v1 (cl v1.toNatClampNeg)).bind fun g6 => (if g6 = 100000 then some (true, g1.2) else some (false, g1.2))) else none) else some (false, g1.2))) else some (false, g1.2)))
def f_X5_isQuiet (ma : Int32) (ti : Nat → Int32) (sp : Nat → Int32) (we : Nat → Int32) (ho : Nat → Int32) (sa : Nat → Int32) (cl : Nat → Int32) (p1 : Int32) : Option (Bool × Int32) := ((f_X5_isHouse p1).bind fun g1 => (if (bI g1) = 0 then b_X5_isQuiet_13 ma ti sp we ho sa cl p1 true else b_X5_isQuiet_13 ma ti sp we ho sa cl p1 false))
def f_X5_adds (su : Int64) (p1 : Int64) : Option (Int64) := some ((31 * su) + p1)
def b_X5_turnBehind_58 (ti : Nat → Int32) (sp : Nat → Int32) (ko6 : Int32 → Int32 → Option (Int32)) (v1 : Int32) (v2 : Int32) (v4 : Int32) (s0 : Int32) : Option (Int32) := (if inB v4 120 = true then (if inB v4 120 = true then (if ((ti v4.toNatClampNeg) + (sp v4.toNatClampNeg)) ≤ v2 then ko6 s0 (v4 + 1) else (if inB v4 120 = true then (if inB v4 120 = true then (if s0 ≤ ((ti v4.toNatClampNeg) + (sp v4.toNatClampNeg)) then ko6 s0 (v4 + 1) else (if inB v4 120 = true then (if inB v4 120 = true then ko6 ((ti v4.toNatClampNeg) + (sp v4.toNatClampNeg)) (v4 + 1) else none) else none)) else none) else none)) else none) else none)
def l_X5_turnBehind_6 (ma : Int32) (ti : Nat → Int32) (sp : Nat → Int32) (ho : Nat → Int32) (sa : Nat → Int32) (v1 : Int32) (v2 : Int32) : Nat → Int32 → Int32 → Option (Int32)
  | 0, _, _ => none
  | F + 1, v3, v4 => (if ma ≤ v4 then some v3 else ((f_X5_isOf sp ho sa v1 v4).bind fun g2 => (if (bI g2) = 0 then l_X5_turnBehind_6 ma ti sp ho sa v1 v2 F v3 (v4 + 1) else (if inB v4 120 = true then (if (ti v4.toNatClampNeg) ≤ v2 then b_X5_turnBehind_58 ti sp (fun qv3 qv4 => l_X5_turnBehind_6 ma ti sp ho sa v1 v2 F qv3 qv4) v1 v2 v4 v3 else (if inB v4 120 = true then (if v3 ≤ (ti v4.toNatClampNeg) then b_X5_turnBehind_58 ti sp (fun qv3 qv4 => l_X5_turnBehind_6 ma ti sp ho sa v1 v2 F qv3 qv4) v1 v2 v4 v3 else (if inB v4 120 = true then b_X5_turnBehind_58 ti sp (fun qv3 qv4 => l_X5_turnBehind_6 ma ti sp ho sa v1 v2 F qv3 qv4) v1 v2 v4 (ti v4.toNatClampNeg) else none)) else none)) else none))))
def f_X5_turnBehind (ma : Int32) (ti : Nat → Int32) (sp : Nat → Int32) (ho : Nat → Int32) (sa : Nat → Int32) (p1 : Int32) (p2 : Int32) : Option (Int32) := l_X5_turnBehind_6 ma ti sp ho sa p1 p2 FU 100000 0
def b_X5_checksum_143 (ma : Int32) (ti : Nat → Int32) (sp : Nat → Int32) (ho : Nat → Int32) (sa : Nat → Int32) (ko14 : Int32 → Int64 → Option (Int64 × Int32 × Int64)) (ko114 : Int32 → Int64 → Option (Int64 × Int32 × Int64)) (v1 : Int32) (v2 : Int32) (thc : Int32) (suc : Int64) : Option (Int64 × Int32 × Int64) := ((f_X5_turnBehind ma ti sp ho sa v1 v2).bind fun g1 => ko114 g1 suc)
def l_X5_checksum_114 (ma : Int32) (ti : Nat → Int32) (sp : Nat → Int32) (we : Nat → Int32) (ho : Nat → Int32) (sa : Nat → Int32) (v1 : Int32) (thc : Int32) (ko14 : Int32 → Int64 → Option (Int64 × Int32 × Int64)) : Nat → Int32 → Int64 → Option (Int64 × Int32 × Int64)
  | 0, _, _ => none
  | F + 1, v2, suc => (if 100000 ≤ v2 then ko14 (v1 + 1) suc else ((f_X5_changeAt ma ti sp we ho sa v1 v2).bind fun g2 => (if g2 = 0 then b_X5_checksum_143 ma ti sp ho sa ko14 (fun qv2 qsuc => l_X5_checksum_114 ma ti sp we ho sa v1 thc ko14 F qv2 qsuc) v1 v2 thc suc else ((f_X5_adds suc v2.toInt64).bind fun g4 => ((f_X5_adds g4 g2.toInt64).bind fun g5 => b_X5_checksum_143 ma ti sp ho sa ko14 (fun qv2 qsuc => l_X5_checksum_114 ma ti sp we ho sa v1 thc ko14 F qv2 qsuc) v1 v2 thc g5)))))
def l_X5_checksum_86 (ma : Int32) (ti : Nat → Int32) (sp : Nat → Int32) (we : Nat → Int32) (ho : Nat → Int32) (sa : Nat → Int32) (ca : Nat → Int32) (v1 : Int32) (thc : Int32) (ko14 : Int32 → Int64 → Option (Int64 × Int32 × Int64)) : Nat → Int32 → Int64 → Option (Int64 × Int32 × Int64)
  | 0, _, _ => none
  | F + 1, v2, suc => (if v2 = (-1) then ((f_X5_turnBehind ma ti sp ho sa v1 (-1)).bind fun g2 => l_X5_checksum_114 ma ti sp we ho sa v1 thc ko14 FU g2 suc) else ((f_X5_adds suc v2.toInt64).bind fun g3 => ((f_X5_cameBehind ma ho sa ca v1 v2).bind fun g4 => l_X5_checksum_86 ma ti sp we ho sa ca v1 thc ko14 F g4 g3)))
def l_X5_checksum_47 (ma : Int32) (ti : Nat → Int32) (sp : Nat → Int32) (we : Nat → Int32) (ho : Nat → Int32) (sa : Nat → Int32) (ca : Nat → Int32) (v1 : Int32) (thc : Int32) (ko14 : Int32 → Int64 → Option (Int64 × Int32 × Int64)) : Nat → Int32 → Int64 → Option (Int64 × Int32 × Int64)
  | 0, _, _ => none
  | F + 1, v2, suc => (if v2 = (-1) then ((f_X5_many ma ho sa v1 1).bind fun g2 => ((f_X5_adds suc g2.toInt64).bind fun g3 => ((f_X5_cameBehind ma ho sa ca v1 (-1)).bind fun g4 => l_X5_checksum_86 ma ti sp we ho sa ca v1 thc ko14 FU g4 g3))) else ((f_X5_adds suc v2.toInt64).bind fun g5 => ((f_X5_behind ma ti ho sa v1 v2).bind fun g6 => l_X5_checksum_47 ma ti sp we ho sa ca v1 thc ko14 F g6 g5)))
def l_X5_checksum_14 (ma : Int32) (ti : Nat → Int32) (sp : Nat → Int32) (we : Nat → Int32) (ho : Nat → Int32) (sa : Nat → Int32) (ca : Nat → Int32) (cl : Nat → Int32) (thc : Int32) : Nat → Int32 → Int64 → Option (Int64 × Int32 × Int64)
  | 0, _, _ => none
  | F + 1, v1, suc => (if 4 ≤ v1 then some (suc, thc, suc) else (if inB v1 4 = true then ((f_X5_adds suc ((cl v1.toNatClampNeg).toInt64)).bind fun g3 => ((f_X5_many ma ho sa v1 0).bind fun g4 => ((f_X5_adds g3 g4.toInt64).bind fun g5 => ((f_X5_first ma ti ho sa v1).bind fun g6 => l_X5_checksum_47 ma ti sp we ho sa ca v1 thc (fun qv1 qsuc => l_X5_checksum_14 ma ti sp we ho sa ca cl thc F qv1 qsuc) FU g6 g5)))) else none))
def f_X5_checksum (ma : Int32) (ti : Nat → Int32) (sp : Nat → Int32) (we : Nat → Int32) (ho : Nat → Int32) (sa : Nat → Int32) (ca : Nat → Int32) (cl : Nat → Int32) : Option (Int64 × Int32 × Int64) := l_X5_checksum_14 ma ti sp we ho sa ca cl 0 FU 0 7
def f_X5_isSound : Option (Bool × Int32) := some (true, 0)
abbrev r_X5_isHouse : Room := { frames := 1, cells := 0, slots := 0, locals := 20 }
set_option maxHeartbeats 4000000 in
set_option maxRecDepth 100000 in
theorem c_X5_isHouse (E : gE) (p0 : Int32) (o : (Bool)) (h : f_X5_isHouse p0 = some o) : Ct E yX5_isHouse wsX5_isHouse r_X5_isHouse [.int p0] ([] : va_W) (gO (fun u9 => some (.int (bI u9))) (fun u9 => ([] : va_W)) (.inr o)) := by
  refine Ct.of (cc := cX5_isHouse) (nL := 1) (ret := ((some .boolean))) (own := RX5) (by decide) rfl rfl (Nat.le_of_ble_eq_true rfl) rfl ?_ ?_
  · intro v w1 hh
    cases hh; rfl
  · intro X C hQ
    rw [f_X5_isHouse] at h
    refine g_iload_n C 0 rfl rfl dX5_isHouse_0 ?_
    refine g_if_lt C (tgt := 13) dX5_isHouse_1 (by decide) (fun cd1 => ?_) (fun cd1 => ?_)
    · replace h := (if_pos cd1).symm.trans h
      refine g_iconst C (v := 0) (by decide) dX5_isHouse_13 ?_
      obtain rfl := Option.some.inj h
      exact g_zret C hQ rfl rfl ⟨by decide, by decide⟩ dX5_isHouse_14
    · replace h := (if_neg cd1).symm.trans h
      refine g_iload_n C 0 rfl rfl dX5_isHouse_4 ?_
      refine g_iconst C (v := 4) (by decide) dX5_isHouse_5 ?_
      refine g_icmp_ge C (tgt := 13) dX5_isHouse_6 (by decide) (fun cd2 => ?_) (fun cd2 => ?_)
      · replace h := (if_pos cd2).symm.trans h
        refine g_iconst C (v := 0) (by decide) dX5_isHouse_13 ?_
        obtain rfl := Option.some.inj h
        exact g_zret C hQ rfl rfl ⟨by decide, by decide⟩ dX5_isHouse_14
      · replace h := (if_neg cd2).symm.trans h
        refine g_iconst C (v := 1) (by decide) dX5_isHouse_9 ?_
        refine g_goto C (tgt := 14) dX5_isHouse_10 (by decide) ?_
        obtain rfl := Option.some.inj h
        exact g_zret C hQ rfl rfl ⟨by decide, by decide⟩ dX5_isHouse_14
abbrev r_X5_isIn : Room := { frames := 1, cells := 0, slots := 0, locals := 20 }
set_option maxHeartbeats 4000000 in
set_option maxRecDepth 100000 in
theorem c_X5_isIn (E : gE) (p0 : Int32) (p1 : Int32) (p2 : Int32) (o : (Bool)) (h : f_X5_isIn p0 p1 p2 = some o) : Ct E yX5_isIn wsX5_isIn r_X5_isIn [.int p0, .int p1, .int p2] ([] : va_W) (gO (fun u9 => some (.int (bI u9))) (fun u9 => ([] : va_W)) (.inr o)) := by
  refine Ct.of (cc := cX5_isIn) (nL := 3) (ret := ((some .boolean))) (own := RX5) (by decide) rfl rfl (Nat.le_of_ble_eq_true rfl) rfl ?_ ?_
  · intro v w1 hh
    cases hh; rfl
  · intro X C hQ
    rw [f_X5_isIn] at h
    refine g_iload_n C 0 rfl rfl dX5_isIn_0 ?_
    refine g_iload_n C 1 rfl rfl dX5_isIn_1 ?_
    refine g_icmp_lt C (tgt := 14) dX5_isIn_2 (by decide) (fun cd1 => ?_) (fun cd1 => ?_)
    · replace h := (if_pos cd1).symm.trans h
      refine g_iconst C (v := 0) (by decide) dX5_isIn_14 ?_
      obtain rfl := Option.some.inj h
      exact g_zret C hQ rfl rfl ⟨by decide, by decide⟩ dX5_isIn_15
    · replace h := (if_neg cd1).symm.trans h
      refine g_iload_n C 0 rfl rfl dX5_isIn_5 ?_
      refine g_iload_n C 2 rfl rfl dX5_isIn_6 ?_
      refine g_icmp_gt C (tgt := 14) dX5_isIn_7 (by decide) (fun cd2 => ?_) (fun cd2 => ?_)
      · replace h := (if_pos cd2).symm.trans h
        refine g_iconst C (v := 0) (by decide) dX5_isIn_14 ?_
        obtain rfl := Option.some.inj h
        exact g_zret C hQ rfl rfl ⟨by decide, by decide⟩ dX5_isIn_15
      · replace h := (if_neg cd2).symm.trans h
        refine g_iconst C (v := 1) (by decide) dX5_isIn_10 ?_
        refine g_goto C (tgt := 15) dX5_isIn_11 (by decide) ?_
        obtain rfl := Option.some.inj h
        exact g_zret C hQ rfl rfl ⟨by decide, by decide⟩ dX5_isIn_15
abbrev r_X5_thrown : Room := { frames := 1, cells := 0, slots := 0, locals := 20 }
theorem m_X5_thrown_0 : Cond.fieldLink RX5 31 "BookinghouseModel" "thrown" "I" ∈ wsX5_thrown := by decide +kernel
theorem i_X5_thrown_X5 : ∀ w ∈ wsX50, w ∈ wsX5_thrown := by decide +kernel
set_option maxHeartbeats 4000000 in
set_option maxRecDepth 100000 in
theorem c_X5_thrown (E : gE) (b : Nat → Nat) (th : Int32) (ma : Int32) (st : Int32) (ti : Nat → Int32) (sp : Nat → Int32) (we : Nat → Int32) (ho : Nat → Int32) (sa : Nat → Int32) (ca : Nat → Int32) (cl : Nat → Int32) (su : Int64) (o : (Int32)) (h : f_X5_thrown th = some o) : Ct E yX5_thrown wsX5_thrown r_X5_thrown [.ref (b 0)] (wM E b th ma st ti sp we ho sa ca cl su) (gO (fun u9 => some (.int u9)) (fun u9 => (wM E b th ma st ti sp we ho sa ca cl su)) (.inr o)) := by
  refine Ct.of (cc := cX5_thrown) (nL := 1) (ret := ((some .int))) (own := RX5) (by decide) rfl rfl (Nat.le_of_ble_eq_true rfl) rfl ?_ ?_
  · intro v w1 hh
    cases hh; rfl
  · intro X C hQ
    rw [f_X5_thrown] at h
    refine g_aload_n C 0 rfl rfl dX5_thrown_0 ?_
    refine g_X5_thrown C i_X5_thrown_X5 m_X5_thrown_0 0 rfl dX5_thrown_1 ?_
    obtain rfl := Option.some.inj h
    exact g_iret C hQ rfl ⟨by decide, by decide⟩ dX5_thrown_4
abbrev r_X5_isThrown : Room := { frames := 1, cells := 0, slots := 0, locals := 20 }
theorem m_X5_isThrown_0 : Cond.fieldLink RX5 31 "BookinghouseModel" "thrown" "I" ∈ wsX5_isThrown := by decide +kernel
theorem i_X5_isThrown_X5 : ∀ w ∈ wsX50, w ∈ wsX5_isThrown := by decide +kernel
set_option maxHeartbeats 4000000 in
set_option maxRecDepth 100000 in
theorem c_X5_isThrown (E : gE) (b : Nat → Nat) (th : Int32) (ma : Int32) (st : Int32) (ti : Nat → Int32) (sp : Nat → Int32) (we : Nat → Int32) (ho : Nat → Int32) (sa : Nat → Int32) (ca : Nat → Int32) (cl : Nat → Int32) (su : Int64) (p1 : Bool) (p2 : Int32) (o : (Bool × Int32)) (h : f_X5_isThrown p1 p2 = some o) : Ct E yX5_isThrown wsX5_isThrown r_X5_isThrown [.ref (b 0), .int (bI p1), .int p2] (wM E b th ma st ti sp we ho sa ca cl su) (gO (fun u9 => some (.int (bI u9.1))) (fun u9 => (wM E b u9.2 ma st ti sp we ho sa ca cl su)) (.inr o)) := by
  refine Ct.of (cc := cX5_isThrown) (nL := 3) (ret := ((some .boolean))) (own := RX5) (by decide) rfl rfl (Nat.le_of_ble_eq_true rfl) rfl ?_ ?_
  · intro v w1 hh
    cases hh; rfl
  · intro X C hQ
    rw [f_X5_isThrown] at h
    refine g_aload_n C 0 rfl rfl dX5_isThrown_0 ?_
    refine g_iload_n C 1 rfl rfl dX5_isThrown_1 ?_
    refine g_if_eq C (tgt := 9) dX5_isThrown_2 (by decide) (fun cd1 => ?_) (fun cd1 => ?_)
    · replace h := (if_pos cd1).symm.trans h
      refine g_iconst C (v := 0) (by decide) dX5_isThrown_9 ?_
      refine g_X5_set_thrown C i_X5_isThrown_X5 m_X5_isThrown_0 0 rfl (ws2 := (wM E b 0 ma st ti sp we ho sa ca cl su)) rfl dX5_isThrown_10 ?_
      refine g_iload_n C 1 rfl rfl dX5_isThrown_13 ?_
      obtain rfl := Option.some.inj h
      exact g_zret C hQ rfl (bI_nar _) ⟨by decide, by decide⟩ dX5_isThrown_14
    · replace h := (if_neg cd1).symm.trans h
      refine g_iload_n C 2 rfl rfl dX5_isThrown_5 ?_
      refine g_goto C (tgt := 10) dX5_isThrown_6 (by decide) ?_
      refine g_X5_set_thrown C i_X5_isThrown_X5 m_X5_isThrown_0 0 rfl (ws2 := (wM E b p2 ma st ti sp we ho sa ca cl su)) rfl dX5_isThrown_10 ?_
      refine g_iload_n C 1 rfl rfl dX5_isThrown_13 ?_
      obtain rfl := Option.some.inj h
      exact g_zret C hQ rfl (bI_nar _) ⟨by decide, by decide⟩ dX5_isThrown_14
abbrev r_X5_many : Room := { frames := 1, cells := 0, slots := 0, locals := 20 }
theorem m_X5_many_0 : Cond.fieldLink RX5 35 "BookinghouseModel" "made" "I" ∈ wsX5_many := by decide +kernel
theorem i_X5_many_X5 : ∀ w ∈ wsX50, w ∈ wsX5_many := by decide +kernel
theorem m_X5_many_2 : Cond.fieldLink RX5 19 "BookinghouseModel" "home" "[I" ∈ wsX5_many := by decide +kernel
theorem m_X5_many_3 : Cond.fieldLink RX5 22 "BookinghouseModel" "state" "[I" ∈ wsX5_many := by decide +kernel
set_option maxHeartbeats 4000000 in
set_option maxRecDepth 100000 in
theorem w_X5_many_5 {E : gE} {X : gX} {b : Nat → Nat} {th : Int32} {ma : Int32} {st : Int32} {ti : Nat → Int32} {sp : Nat → Int32} {we : Nat → Int32} {ho : Nat → Int32} {sa : Nat → Int32} {ca : Nat → Int32} {cl : Nat → Int32} {su : Int64} {v1 : Int32} {v2 : Int32} {o : (Int32)} (C : Cx E X cX5_many 5 RX5 wsX5_many r_X5_many ((some .int)) []) (hQ : gQ E X (wM E b th ma st ti sp we ho sa ca cl su) r_X5_many (gO (fun u9 => some (.int u9)) (fun u9 => (wM E b th ma st ti sp we ho sa ca cl su)) (.inr o))) : ∀ (F : Nat) (v3 : Int32) (v4 : Int32), l_X5_many_5 ma ho sa v1 v2 F v3 v4 = some o → Gx E X (wM E b th ma st ti sp we ho sa ca cl su) 5 [(0, .ref (b 0)), (1, .int v1), (2, .int v2), (3, .int v3), (4, .int v4)] [] 5 0 0 := by
  intro F
  induction F with
  | zero => intro v3 v4 h; exact absurd h (by simp [l_X5_many_5])
  | succ F ih =>
    intro v3 v4 h
    rw [l_X5_many_5] at h
    refine g_iload C 4 rfl dX5_many_5 ?_
    refine g_aload_n C 0 rfl rfl dX5_many_7 ?_
    refine g_X5_made C i_X5_many_X5 m_X5_many_0 0 rfl dX5_many_8 ?_
    refine g_icmp_ge C (tgt := 50) dX5_many_11 (by decide) (fun cd1 => ?_) (fun cd1 => ?_)
    · replace h := (if_pos cd1).symm.trans h
      refine g_iload_n C 3 rfl rfl dX5_many_50 ?_
      obtain rfl := Option.some.inj h
      exact g_iret C hQ rfl ⟨by decide, by decide⟩ dX5_many_51
    · replace h := (if_neg cd1).symm.trans h
      refine g_iload_n C 3 rfl rfl dX5_many_14 ?_
      refine g_aload_n C 0 rfl rfl dX5_many_15 ?_
      refine g_X5_home C i_X5_many_X5 m_X5_many_2 0 rfl dX5_many_16 ?_
      refine g_iload C 4 rfl dX5_many_19 ?_
      obtain ⟨cd2, h⟩ := ifN h
      refine g_iald C 4 rfl (inB_in cd2) dX5_many_21 ?_
      refine g_iload_n C 1 rfl rfl dX5_many_22 ?_
      refine g_icmp_ne C (tgt := 41) dX5_many_23 (by decide) (fun cd3 => ?_) (fun cd3 => ?_)
      · replace h := (if_neg cd3).symm.trans h
        refine g_iconst C (v := 0) (by decide) dX5_many_41 ?_
        refine g_iadd C dX5_many_42 ?_
        refine g_istore_n C (lv2 := [(3, .int (v3 + 0)), (0, .ref (b 0)), (1, .int v1), (2, .int v2), (4, .int v4)]) rfl (by decide) rfl dX5_many_43 ?_
        refine g_iinc C (v := v4 + 1) 4 rfl rfl (lv2 := [(4, .int (v4 + 1)), (3, .int (v3 + 0)), (0, .ref (b 0)), (1, .int v1), (2, .int v2)]) rfl (by decide) dX5_many_44 ?_
        refine g_goto C (tgt := 5) dX5_many_47 (by decide) ?_
        refine g_lv [2, 3, 4, 1, 0] (lv2 := [(0, .ref (b 0)), (1, .int v1), (2, .int v2), (3, .int (v3 + 0)), (4, .int (v4 + 1))]) rfl ?_
        exact ih (v3 + 0) (v4 + 1) h
      · replace h := (if_pos cd3).symm.trans h
        refine g_aload_n C 0 rfl rfl dX5_many_26 ?_
        refine g_X5_state C i_X5_many_X5 m_X5_many_3 0 rfl dX5_many_27 ?_
        refine g_iload C 4 rfl dX5_many_30 ?_
        obtain ⟨cd4, h⟩ := ifN h
        refine g_iald C 5 rfl (inB_in cd4) dX5_many_32 ?_
        refine g_iload_n C 2 rfl rfl dX5_many_33 ?_
        refine g_icmp_ne C (tgt := 41) dX5_many_34 (by decide) (fun cd5 => ?_) (fun cd5 => ?_)
        · replace h := (if_neg cd5).symm.trans h
          refine g_iconst C (v := 0) (by decide) dX5_many_41 ?_
          refine g_iadd C dX5_many_42 ?_
          refine g_istore_n C (lv2 := [(3, .int (v3 + 0)), (0, .ref (b 0)), (1, .int v1), (2, .int v2), (4, .int v4)]) rfl (by decide) rfl dX5_many_43 ?_
          refine g_iinc C (v := v4 + 1) 4 rfl rfl (lv2 := [(4, .int (v4 + 1)), (3, .int (v3 + 0)), (0, .ref (b 0)), (1, .int v1), (2, .int v2)]) rfl (by decide) dX5_many_44 ?_
          refine g_goto C (tgt := 5) dX5_many_47 (by decide) ?_
          refine g_lv [2, 3, 4, 1, 0] (lv2 := [(0, .ref (b 0)), (1, .int v1), (2, .int v2), (3, .int (v3 + 0)), (4, .int (v4 + 1))]) rfl ?_
          exact ih (v3 + 0) (v4 + 1) h
        · replace h := (if_pos cd5).symm.trans h
          refine g_iconst C (v := 1) (by decide) dX5_many_37 ?_
          refine g_goto C (tgt := 42) dX5_many_38 (by decide) ?_
          refine g_iadd C dX5_many_42 ?_
          refine g_istore_n C (lv2 := [(3, .int (v3 + 1)), (0, .ref (b 0)), (1, .int v1), (2, .int v2), (4, .int v4)]) rfl (by decide) rfl dX5_many_43 ?_
          refine g_iinc C (v := v4 + 1) 4 rfl rfl (lv2 := [(4, .int (v4 + 1)), (3, .int (v3 + 1)), (0, .ref (b 0)), (1, .int v1), (2, .int v2)]) rfl (by decide) dX5_many_44 ?_
          refine g_goto C (tgt := 5) dX5_many_47 (by decide) ?_
          refine g_lv [2, 3, 4, 1, 0] (lv2 := [(0, .ref (b 0)), (1, .int v1), (2, .int v2), (3, .int (v3 + 1)), (4, .int (v4 + 1))]) rfl ?_
          exact ih (v3 + 1) (v4 + 1) h
set_option maxHeartbeats 4000000 in
set_option maxRecDepth 100000 in
theorem c_X5_many (E : gE) (b : Nat → Nat) (th : Int32) (ma : Int32) (st : Int32) (ti : Nat → Int32) (sp : Nat → Int32) (we : Nat → Int32) (ho : Nat → Int32) (sa : Nat → Int32) (ca : Nat → Int32) (cl : Nat → Int32) (su : Int64) (p1 : Int32) (p2 : Int32) (o : (Int32)) (h : f_X5_many ma ho sa p1 p2 = some o) : Ct E yX5_many wsX5_many r_X5_many [.ref (b 0), .int p1, .int p2] (wM E b th ma st ti sp we ho sa ca cl su) (gO (fun u9 => some (.int u9)) (fun u9 => (wM E b th ma st ti sp we ho sa ca cl su)) (.inr o)) := by
  refine Ct.of (cc := cX5_many) (nL := 5) (ret := ((some .int))) (own := RX5) (by decide) rfl rfl (Nat.le_of_ble_eq_true rfl) rfl ?_ ?_
  · intro v w1 hh
    cases hh; rfl
  · intro X C hQ
    rw [f_X5_many] at h
    refine g_iconst C (v := 0) (by decide) dX5_many_0 ?_
    refine g_istore_n C (lv2 := [(3, .int 0), (0, .ref (b 0)), (1, .int p1), (2, .int p2)]) rfl (by decide) rfl dX5_many_1 ?_
    refine g_iconst C (v := 0) (by decide) dX5_many_2 ?_
    refine g_istore C (lv2 := [(4, .int 0), (3, .int 0), (0, .ref (b 0)), (1, .int p1), (2, .int p2)]) rfl (by decide) dX5_many_3 ?_
    refine g_lv [2, 3, 4, 1, 0] (lv2 := [(0, .ref (b 0)), (1, .int p1), (2, .int p2), (3, .int 0), (4, .int 0)]) rfl ?_
    exact w_X5_many_5 (v1 := p1) (v2 := p2) C hQ FU 0 0 h
abbrev r_X5_isAhead : Room := { frames := 1, cells := 0, slots := 0, locals := 20 }
theorem m_X5_isAhead_0 : Cond.fieldLink RX5 7 "BookinghouseModel" "time" "[I" ∈ wsX5_isAhead := by decide +kernel
theorem i_X5_isAhead_X5 : ∀ w ∈ wsX50, w ∈ wsX5_isAhead := by decide +kernel
set_option maxHeartbeats 4000000 in
set_option maxRecDepth 100000 in
theorem c_X5_isAhead (E : gE) (b : Nat → Nat) (th : Int32) (ma : Int32) (st : Int32) (ti : Nat → Int32) (sp : Nat → Int32) (we : Nat → Int32) (ho : Nat → Int32) (sa : Nat → Int32) (ca : Nat → Int32) (cl : Nat → Int32) (su : Int64) (p1 : Int32) (p2 : Int32) (o : (Bool)) (h : f_X5_isAhead ti p1 p2 = some o) : Ct E yX5_isAhead wsX5_isAhead r_X5_isAhead [.ref (b 0), .int p1, .int p2] (wM E b th ma st ti sp we ho sa ca cl su) (gO (fun u9 => some (.int (bI u9))) (fun u9 => (wM E b th ma st ti sp we ho sa ca cl su)) (.inr o)) := by
  refine Ct.of (cc := cX5_isAhead) (nL := 3) (ret := ((some .boolean))) (own := RX5) (by decide) rfl rfl (Nat.le_of_ble_eq_true rfl) rfl ?_ ?_
  · intro v w1 hh
    cases hh; rfl
  · intro X C hQ
    rw [f_X5_isAhead] at h
    refine g_aload_n C 0 rfl rfl dX5_isAhead_0 ?_
    refine g_X5_time C i_X5_isAhead_X5 m_X5_isAhead_0 0 rfl dX5_isAhead_1 ?_
    refine g_iload_n C 1 rfl rfl dX5_isAhead_4 ?_
    obtain ⟨cd1, h⟩ := ifN h
    refine g_iald C 1 rfl (inB_in cd1) dX5_isAhead_5 ?_
    refine g_aload_n C 0 rfl rfl dX5_isAhead_6 ?_
    refine g_X5_time C i_X5_isAhead_X5 m_X5_isAhead_0 0 rfl dX5_isAhead_7 ?_
    refine g_iload_n C 2 rfl rfl dX5_isAhead_10 ?_
    obtain ⟨cd2, h⟩ := ifN h
    refine g_iald C 1 rfl (inB_in cd2) dX5_isAhead_11 ?_
    refine g_icmp_lt C (tgt := 35) dX5_isAhead_12 (by decide) (fun cd3 => ?_) (fun cd3 => ?_)
    · replace h := (if_pos cd3).symm.trans h
      refine g_iconst C (v := 1) (by decide) dX5_isAhead_35 ?_
      refine g_goto C (tgt := 40) dX5_isAhead_36 (by decide) ?_
      obtain rfl := Option.some.inj h
      exact g_zret C hQ rfl rfl ⟨by decide, by decide⟩ dX5_isAhead_40
    · replace h := (if_neg cd3).symm.trans h
      refine g_aload_n C 0 rfl rfl dX5_isAhead_15 ?_
      refine g_X5_time C i_X5_isAhead_X5 m_X5_isAhead_0 0 rfl dX5_isAhead_16 ?_
      refine g_iload_n C 1 rfl rfl dX5_isAhead_19 ?_
      obtain ⟨cd4, h⟩ := ifN h
      refine g_iald C 1 rfl (inB_in cd4) dX5_isAhead_20 ?_
      refine g_aload_n C 0 rfl rfl dX5_isAhead_21 ?_
      refine g_X5_time C i_X5_isAhead_X5 m_X5_isAhead_0 0 rfl dX5_isAhead_22 ?_
      refine g_iload_n C 2 rfl rfl dX5_isAhead_25 ?_
      obtain ⟨cd5, h⟩ := ifN h
      refine g_iald C 1 rfl (inB_in cd5) dX5_isAhead_26 ?_
      refine g_icmp_ne C (tgt := 39) dX5_isAhead_27 (by decide) (fun cd6 => ?_) (fun cd6 => ?_)
      · replace h := (if_neg cd6).symm.trans h
        refine g_iconst C (v := 0) (by decide) dX5_isAhead_39 ?_
        obtain rfl := Option.some.inj h
        exact g_zret C hQ rfl rfl ⟨by decide, by decide⟩ dX5_isAhead_40
      · replace h := (if_pos cd6).symm.trans h
        refine g_iload_n C 1 rfl rfl dX5_isAhead_30 ?_
        refine g_iload_n C 2 rfl rfl dX5_isAhead_31 ?_
        refine g_icmp_ge C (tgt := 39) dX5_isAhead_32 (by decide) (fun cd7 => ?_) (fun cd7 => ?_)
        · replace h := (if_pos cd7).symm.trans h
          refine g_iconst C (v := 0) (by decide) dX5_isAhead_39 ?_
          obtain rfl := Option.some.inj h
          exact g_zret C hQ rfl rfl ⟨by decide, by decide⟩ dX5_isAhead_40
        · replace h := (if_neg cd7).symm.trans h
          refine g_iconst C (v := 1) (by decide) dX5_isAhead_35 ?_
          refine g_goto C (tgt := 40) dX5_isAhead_36 (by decide) ?_
          obtain rfl := Option.some.inj h
          exact g_zret C hQ rfl rfl ⟨by decide, by decide⟩ dX5_isAhead_40
abbrev r_X5_behind : Room := { frames := 2, cells := 0, slots := 0, locals := 42 }
theorem m_X5_behind_0 : Cond.fieldLink RX5 35 "BookinghouseModel" "made" "I" ∈ wsX5_behind := by decide +kernel
theorem i_X5_behind_X5 : ∀ w ∈ wsX50, w ∈ wsX5_behind := by decide +kernel
theorem m_X5_behind_2 : Cond.fieldLink RX5 19 "BookinghouseModel" "home" "[I" ∈ wsX5_behind := by decide +kernel
theorem m_X5_behind_3 : Cond.fieldLink RX5 22 "BookinghouseModel" "state" "[I" ∈ wsX5_behind := by decide +kernel
set_option maxHeartbeats 4000000 in
set_option maxRecDepth 100000 in
theorem v_X5_behind_50 {E : gE} {X : gX} {b : Nat → Nat} {th : Int32} {ma : Int32} {st : Int32} {ti : Nat → Int32} {sp : Nat → Int32} {we : Nat → Int32} {ho : Nat → Int32} {sa : Nat → Int32} {ca : Nat → Int32} {cl : Nat → Int32} {su : Int64} {v1 : Int32} {v2 : Int32} {v3 : Int32} {v4 : Int32} {ko5 : Int32 → Int32 → Option (Int32)} {o : (Int32)} (C : Cx E X cX5_behind 5 RX5 wsX5_behind r_X5_behind ((some .int)) []) (hQ : gQ E X (wM E b th ma st ti sp we ho sa ca cl su) r_X5_behind (gO (fun u9 => some (.int u9)) (fun u9 => (wM E b th ma st ti sp we ho sa ca cl su)) (.inr o))) (Hko5 : ∀ (qv3 : Int32) (qv4 : Int32), ko5 qv3 qv4 = some o → Gx E X (wM E b th ma st ti sp we ho sa ca cl su) 5 [(0, .ref (b 0)), (1, .int v1), (2, .int v2), (3, .int qv3), (4, .int qv4)] [] 5 0 0) (h : b_X5_behind_50 ti ko5 v1 v2 v3 v4 = some o) : Gx E X (wM E b th ma st ti sp we ho sa ca cl su) 5 [(0, .ref (b 0)), (1, .int v1), (2, .int v2), (3, .int v3), (4, .int v4)] [] 50 0 0 := by
  rw [b_X5_behind_50] at h
  refine g_iload_n C 3 rfl rfl dX5_behind_50 ?_
  refine g_iconst C (v := (-1)) (by decide) dX5_behind_51 ?_
  refine g_icmp_eq C (tgt := 65) dX5_behind_52 (by decide) (fun cd1 => ?_) (fun cd1 => ?_)
  · replace h := (if_pos cd1).symm.trans h
    refine g_iload C 4 rfl dX5_behind_65 ?_
    refine g_istore_n C (lv2 := [(3, .int v4), (0, .ref (b 0)), (1, .int v1), (2, .int v2), (4, .int v4)]) rfl (by decide) rfl dX5_behind_67 ?_
    refine g_iinc C (v := v4 + 1) 4 rfl rfl (lv2 := [(4, .int (v4 + 1)), (3, .int v4), (0, .ref (b 0)), (1, .int v1), (2, .int v2)]) rfl (by decide) dX5_behind_68 ?_
    refine g_goto C (tgt := 5) dX5_behind_71 (by decide) ?_
    refine g_lv [2, 3, 4, 1, 0] (lv2 := [(0, .ref (b 0)), (1, .int v1), (2, .int v2), (3, .int v4), (4, .int (v4 + 1))]) rfl ?_
    exact Hko5 v4 (v4 + 1) h
  · replace h := (if_neg cd1).symm.trans h
    refine g_aload_n C 0 rfl rfl dX5_behind_55 ?_
    refine g_iload C 4 rfl dX5_behind_56 ?_
    refine g_iload_n C 3 rfl rfl dX5_behind_58 ?_
    obtain ⟨g2, eg2, h⟩ := Option.bind_eq_some_iff.mp h
    refine g_cVr (As := [.int v4, .int v3]) (n9 := 2) (st := []) (w2 := (wM E b th ma st ti sp we ho sa ca cl su)) C (c_X5_isAhead E b th ma st ti sp we ho sa ca cl su v4 v3 g2 eg2) gX5_behind_X5_isAhead rfl (by decide +kernel) rfl ⟨by decide, by decide, by decide, by decide, Nat.le_of_ble_eq_true rfl⟩ 0 rfl rfl (gSub.idx [0, 1, 2, 3, 4, 5, 6, 7] rfl rfl) rfl dX5_behind_59 ?_
    refine g_if_eq C (tgt := 68) dX5_behind_62 (by decide) (fun cd3 => ?_) (fun cd3 => ?_)
    · replace h := (if_pos cd3).symm.trans h
      refine g_iinc C (v := v4 + 1) 4 rfl rfl (lv2 := [(4, .int (v4 + 1)), (0, .ref (b 0)), (1, .int v1), (2, .int v2), (3, .int v3)]) rfl (by decide) dX5_behind_68 ?_
      refine g_goto C (tgt := 5) dX5_behind_71 (by decide) ?_
      refine g_lv [1, 2, 3, 4, 0] (lv2 := [(0, .ref (b 0)), (1, .int v1), (2, .int v2), (3, .int v3), (4, .int (v4 + 1))]) rfl ?_
      exact Hko5 v3 (v4 + 1) h
    · replace h := (if_neg cd3).symm.trans h
      refine g_iload C 4 rfl dX5_behind_65 ?_
      refine g_istore_n C (lv2 := [(3, .int v4), (0, .ref (b 0)), (1, .int v1), (2, .int v2), (4, .int v4)]) rfl (by decide) rfl dX5_behind_67 ?_
      refine g_iinc C (v := v4 + 1) 4 rfl rfl (lv2 := [(4, .int (v4 + 1)), (3, .int v4), (0, .ref (b 0)), (1, .int v1), (2, .int v2)]) rfl (by decide) dX5_behind_68 ?_
      refine g_goto C (tgt := 5) dX5_behind_71 (by decide) ?_
      refine g_lv [2, 3, 4, 1, 0] (lv2 := [(0, .ref (b 0)), (1, .int v1), (2, .int v2), (3, .int v4), (4, .int (v4 + 1))]) rfl ?_
      exact Hko5 v4 (v4 + 1) h
set_option maxHeartbeats 4000000 in
set_option maxRecDepth 100000 in
theorem w_X5_behind_5 {E : gE} {X : gX} {b : Nat → Nat} {th : Int32} {ma : Int32} {st : Int32} {ti : Nat → Int32} {sp : Nat → Int32} {we : Nat → Int32} {ho : Nat → Int32} {sa : Nat → Int32} {ca : Nat → Int32} {cl : Nat → Int32} {su : Int64} {v1 : Int32} {v2 : Int32} {o : (Int32)} (C : Cx E X cX5_behind 5 RX5 wsX5_behind r_X5_behind ((some .int)) []) (hQ : gQ E X (wM E b th ma st ti sp we ho sa ca cl su) r_X5_behind (gO (fun u9 => some (.int u9)) (fun u9 => (wM E b th ma st ti sp we ho sa ca cl su)) (.inr o))) : ∀ (F : Nat) (v3 : Int32) (v4 : Int32), l_X5_behind_5 ma ti ho sa v1 v2 F v3 v4 = some o → Gx E X (wM E b th ma st ti sp we ho sa ca cl su) 5 [(0, .ref (b 0)), (1, .int v1), (2, .int v2), (3, .int v3), (4, .int v4)] [] 5 0 0 := by
  intro F
  induction F with
  | zero => intro v3 v4 h; exact absurd h (by simp [l_X5_behind_5])
  | succ F ih =>
    intro v3 v4 h
    rw [l_X5_behind_5] at h
    refine g_iload C 4 rfl dX5_behind_5 ?_
    refine g_aload_n C 0 rfl rfl dX5_behind_7 ?_
    refine g_X5_made C i_X5_behind_X5 m_X5_behind_0 0 rfl dX5_behind_8 ?_
    refine g_icmp_ge C (tgt := 74) dX5_behind_11 (by decide) (fun cd1 => ?_) (fun cd1 => ?_)
    · replace h := (if_pos cd1).symm.trans h
      refine g_iload_n C 3 rfl rfl dX5_behind_74 ?_
      obtain rfl := Option.some.inj h
      exact g_iret C hQ rfl ⟨by decide, by decide⟩ dX5_behind_75
    · replace h := (if_neg cd1).symm.trans h
      refine g_aload_n C 0 rfl rfl dX5_behind_14 ?_
      refine g_X5_home C i_X5_behind_X5 m_X5_behind_2 0 rfl dX5_behind_15 ?_
      refine g_iload C 4 rfl dX5_behind_18 ?_
      obtain ⟨cd2, h⟩ := ifN h
      refine g_iald C 4 rfl (inB_in cd2) dX5_behind_20 ?_
      refine g_iload_n C 1 rfl rfl dX5_behind_21 ?_
      refine g_icmp_ne C (tgt := 68) dX5_behind_22 (by decide) (fun cd3 => ?_) (fun cd3 => ?_)
      · replace h := (if_neg cd3).symm.trans h
        refine g_iinc C (v := v4 + 1) 4 rfl rfl (lv2 := [(4, .int (v4 + 1)), (0, .ref (b 0)), (1, .int v1), (2, .int v2), (3, .int v3)]) rfl (by decide) dX5_behind_68 ?_
        refine g_goto C (tgt := 5) dX5_behind_71 (by decide) ?_
        refine g_lv [1, 2, 3, 4, 0] (lv2 := [(0, .ref (b 0)), (1, .int v1), (2, .int v2), (3, .int v3), (4, .int (v4 + 1))]) rfl ?_
        exact ih v3 (v4 + 1) h
      · replace h := (if_pos cd3).symm.trans h
        refine g_aload_n C 0 rfl rfl dX5_behind_25 ?_
        refine g_X5_state C i_X5_behind_X5 m_X5_behind_3 0 rfl dX5_behind_26 ?_
        refine g_iload C 4 rfl dX5_behind_29 ?_
        obtain ⟨cd4, h⟩ := ifN h
        refine g_iald C 5 rfl (inB_in cd4) dX5_behind_31 ?_
        refine g_if_ne C (tgt := 68) dX5_behind_32 (by decide) (fun cd5 => ?_) (fun cd5 => ?_)
        · replace h := (if_neg cd5).symm.trans h
          refine g_iinc C (v := v4 + 1) 4 rfl rfl (lv2 := [(4, .int (v4 + 1)), (0, .ref (b 0)), (1, .int v1), (2, .int v2), (3, .int v3)]) rfl (by decide) dX5_behind_68 ?_
          refine g_goto C (tgt := 5) dX5_behind_71 (by decide) ?_
          refine g_lv [1, 2, 3, 4, 0] (lv2 := [(0, .ref (b 0)), (1, .int v1), (2, .int v2), (3, .int v3), (4, .int (v4 + 1))]) rfl ?_
          exact ih v3 (v4 + 1) h
        · replace h := (if_pos cd5).symm.trans h
          refine g_iload_n C 2 rfl rfl dX5_behind_35 ?_
          refine g_iconst C (v := (-1)) (by decide) dX5_behind_36 ?_
          refine g_icmp_eq C (tgt := 50) dX5_behind_37 (by decide) (fun cd6 => ?_) (fun cd6 => ?_)
          · replace h := (if_pos cd6).symm.trans h
            exact v_X5_behind_50 (v1 := v1) (v2 := v2) (v3 := v3) (v4 := v4) C hQ (fun qv3 qv4 hh => ih qv3 qv4 hh) h
          · replace h := (if_neg cd6).symm.trans h
            refine g_aload_n C 0 rfl rfl dX5_behind_40 ?_
            refine g_iload_n C 2 rfl rfl dX5_behind_41 ?_
            refine g_iload C 4 rfl dX5_behind_42 ?_
            obtain ⟨g7, eg7, h⟩ := Option.bind_eq_some_iff.mp h
            refine g_cVr (As := [.int v2, .int v4]) (n9 := 2) (st := []) (w2 := (wM E b th ma st ti sp we ho sa ca cl su)) C (c_X5_isAhead E b th ma st ti sp we ho sa ca cl su v2 v4 g7 eg7) gX5_behind_X5_isAhead rfl (by decide +kernel) rfl ⟨by decide, by decide, by decide, by decide, Nat.le_of_ble_eq_true rfl⟩ 0 rfl rfl (gSub.idx [0, 1, 2, 3, 4, 5, 6, 7] rfl rfl) rfl dX5_behind_44 ?_
            refine g_if_eq C (tgt := 68) dX5_behind_47 (by decide) (fun cd8 => ?_) (fun cd8 => ?_)
            · replace h := (if_pos cd8).symm.trans h
              refine g_iinc C (v := v4 + 1) 4 rfl rfl (lv2 := [(4, .int (v4 + 1)), (0, .ref (b 0)), (1, .int v1), (2, .int v2), (3, .int v3)]) rfl (by decide) dX5_behind_68 ?_
              refine g_goto C (tgt := 5) dX5_behind_71 (by decide) ?_
              refine g_lv [1, 2, 3, 4, 0] (lv2 := [(0, .ref (b 0)), (1, .int v1), (2, .int v2), (3, .int v3), (4, .int (v4 + 1))]) rfl ?_
              exact ih v3 (v4 + 1) h
            · replace h := (if_neg cd8).symm.trans h
              exact v_X5_behind_50 (v1 := v1) (v2 := v2) (v3 := v3) (v4 := v4) C hQ (fun qv3 qv4 hh => ih qv3 qv4 hh) h
set_option maxHeartbeats 4000000 in
set_option maxRecDepth 100000 in
theorem c_X5_behind (E : gE) (b : Nat → Nat) (th : Int32) (ma : Int32) (st : Int32) (ti : Nat → Int32) (sp : Nat → Int32) (we : Nat → Int32) (ho : Nat → Int32) (sa : Nat → Int32) (ca : Nat → Int32) (cl : Nat → Int32) (su : Int64) (p1 : Int32) (p2 : Int32) (o : (Int32)) (h : f_X5_behind ma ti ho sa p1 p2 = some o) : Ct E yX5_behind wsX5_behind r_X5_behind [.ref (b 0), .int p1, .int p2] (wM E b th ma st ti sp we ho sa ca cl su) (gO (fun u9 => some (.int u9)) (fun u9 => (wM E b th ma st ti sp we ho sa ca cl su)) (.inr o)) := by
  refine Ct.of (cc := cX5_behind) (nL := 5) (ret := ((some .int))) (own := RX5) (by decide) rfl rfl (Nat.le_of_ble_eq_true rfl) rfl ?_ ?_
  · intro v w1 hh
    cases hh; rfl
  · intro X C hQ
    rw [f_X5_behind] at h
    refine g_iconst C (v := (-1)) (by decide) dX5_behind_0 ?_
    refine g_istore_n C (lv2 := [(3, .int (-1)), (0, .ref (b 0)), (1, .int p1), (2, .int p2)]) rfl (by decide) rfl dX5_behind_1 ?_
    refine g_iconst C (v := 0) (by decide) dX5_behind_2 ?_
    refine g_istore C (lv2 := [(4, .int 0), (3, .int (-1)), (0, .ref (b 0)), (1, .int p1), (2, .int p2)]) rfl (by decide) dX5_behind_3 ?_
    refine g_lv [2, 3, 4, 1, 0] (lv2 := [(0, .ref (b 0)), (1, .int p1), (2, .int p2), (3, .int (-1)), (4, .int 0)]) rfl ?_
    exact w_X5_behind_5 (v1 := p1) (v2 := p2) C hQ FU (-1) 0 h
abbrev r_X5_first : Room := { frames := 3, cells := 0, slots := 0, locals := 66 }
set_option maxHeartbeats 4000000 in
set_option maxRecDepth 100000 in
theorem c_X5_first (E : gE) (b : Nat → Nat) (th : Int32) (ma : Int32) (st : Int32) (ti : Nat → Int32) (sp : Nat → Int32) (we : Nat → Int32) (ho : Nat → Int32) (sa : Nat → Int32) (ca : Nat → Int32) (cl : Nat → Int32) (su : Int64) (p1 : Int32) (o : (Int32)) (h : f_X5_first ma ti ho sa p1 = some o) : Ct E yX5_first wsX5_first r_X5_first [.ref (b 0), .int p1] (wM E b th ma st ti sp we ho sa ca cl su) (gO (fun u9 => some (.int u9)) (fun u9 => (wM E b th ma st ti sp we ho sa ca cl su)) (.inr o)) := by
  refine Ct.of (cc := cX5_first) (nL := 2) (ret := ((some .int))) (own := RX5) (by decide) rfl rfl (Nat.le_of_ble_eq_true rfl) rfl ?_ ?_
  · intro v w1 hh
    cases hh; rfl
  · intro X C hQ
    rw [f_X5_first] at h
    refine g_aload_n C 0 rfl rfl dX5_first_0 ?_
    refine g_iload_n C 1 rfl rfl dX5_first_1 ?_
    refine g_iconst C (v := (-1)) (by decide) dX5_first_2 ?_
    obtain ⟨g1, eg1, h⟩ := Option.bind_eq_some_iff.mp h
    refine g_cVr (As := [.int p1, .int (-1)]) (n9 := 2) (st := []) (w2 := (wM E b th ma st ti sp we ho sa ca cl su)) C (c_X5_behind E b th ma st ti sp we ho sa ca cl su p1 (-1) g1 eg1) gX5_first_X5_behind rfl (by decide +kernel) rfl ⟨by decide, by decide, by decide, by decide, Nat.le_of_ble_eq_true rfl⟩ 0 rfl rfl (gSub.idx [0, 1, 2, 3, 4, 5, 6, 7] rfl rfl) rfl dX5_first_3 ?_
    obtain rfl := Option.some.inj h
    exact g_iret C hQ rfl ⟨by decide, by decide⟩ dX5_first_6
abbrev r_X5_isWaiting : Room := { frames := 1, cells := 0, slots := 0, locals := 20 }
theorem m_X5_isWaiting_0 : Cond.fieldLink RX5 35 "BookinghouseModel" "made" "I" ∈ wsX5_isWaiting := by decide +kernel
theorem i_X5_isWaiting_X5 : ∀ w ∈ wsX50, w ∈ wsX5_isWaiting := by decide +kernel
theorem m_X5_isWaiting_2 : Cond.fieldLink RX5 19 "BookinghouseModel" "home" "[I" ∈ wsX5_isWaiting := by decide +kernel
theorem m_X5_isWaiting_3 : Cond.fieldLink RX5 22 "BookinghouseModel" "state" "[I" ∈ wsX5_isWaiting := by decide +kernel
set_option maxHeartbeats 4000000 in
set_option maxRecDepth 100000 in
theorem c_X5_isWaiting (E : gE) (b : Nat → Nat) (th : Int32) (ma : Int32) (st : Int32) (ti : Nat → Int32) (sp : Nat → Int32) (we : Nat → Int32) (ho : Nat → Int32) (sa : Nat → Int32) (ca : Nat → Int32) (cl : Nat → Int32) (su : Int64) (p1 : Int32) (p2 : Int32) (o : (Bool)) (h : f_X5_isWaiting ma ho sa p1 p2 = some o) : Ct E yX5_isWaiting wsX5_isWaiting r_X5_isWaiting [.ref (b 0), .int p1, .int p2] (wM E b th ma st ti sp we ho sa ca cl su) (gO (fun u9 => some (.int (bI u9))) (fun u9 => (wM E b th ma st ti sp we ho sa ca cl su)) (.inr o)) := by
  refine Ct.of (cc := cX5_isWaiting) (nL := 3) (ret := ((some .boolean))) (own := RX5) (by decide) rfl rfl (Nat.le_of_ble_eq_true rfl) rfl ?_ ?_
  · intro v w1 hh
    cases hh; rfl
  · intro X C hQ
    rw [f_X5_isWaiting] at h
    refine g_iload_n C 2 rfl rfl dX5_isWaiting_0 ?_
    refine g_if_lt C (tgt := 35) dX5_isWaiting_1 (by decide) (fun cd1 => ?_) (fun cd1 => ?_)
    · replace h := (if_pos cd1).symm.trans h
      refine g_iconst C (v := 0) (by decide) dX5_isWaiting_35 ?_
      obtain rfl := Option.some.inj h
      exact g_zret C hQ rfl rfl ⟨by decide, by decide⟩ dX5_isWaiting_36
    · replace h := (if_neg cd1).symm.trans h
      refine g_iload_n C 2 rfl rfl dX5_isWaiting_4 ?_
      refine g_aload_n C 0 rfl rfl dX5_isWaiting_5 ?_
      refine g_X5_made C i_X5_isWaiting_X5 m_X5_isWaiting_0 0 rfl dX5_isWaiting_6 ?_
      refine g_icmp_ge C (tgt := 35) dX5_isWaiting_9 (by decide) (fun cd2 => ?_) (fun cd2 => ?_)
      · replace h := (if_pos cd2).symm.trans h
        refine g_iconst C (v := 0) (by decide) dX5_isWaiting_35 ?_
        obtain rfl := Option.some.inj h
        exact g_zret C hQ rfl rfl ⟨by decide, by decide⟩ dX5_isWaiting_36
      · replace h := (if_neg cd2).symm.trans h
        refine g_aload_n C 0 rfl rfl dX5_isWaiting_12 ?_
        refine g_X5_home C i_X5_isWaiting_X5 m_X5_isWaiting_2 0 rfl dX5_isWaiting_13 ?_
        refine g_iload_n C 2 rfl rfl dX5_isWaiting_16 ?_
        obtain ⟨cd3, h⟩ := ifN h
        refine g_iald C 4 rfl (inB_in cd3) dX5_isWaiting_17 ?_
        refine g_iload_n C 1 rfl rfl dX5_isWaiting_18 ?_
        refine g_icmp_ne C (tgt := 35) dX5_isWaiting_19 (by decide) (fun cd4 => ?_) (fun cd4 => ?_)
        · replace h := (if_neg cd4).symm.trans h
          refine g_iconst C (v := 0) (by decide) dX5_isWaiting_35 ?_
          obtain rfl := Option.some.inj h
          exact g_zret C hQ rfl rfl ⟨by decide, by decide⟩ dX5_isWaiting_36
        · replace h := (if_pos cd4).symm.trans h
          refine g_aload_n C 0 rfl rfl dX5_isWaiting_22 ?_
          refine g_X5_state C i_X5_isWaiting_X5 m_X5_isWaiting_3 0 rfl dX5_isWaiting_23 ?_
          refine g_iload_n C 2 rfl rfl dX5_isWaiting_26 ?_
          obtain ⟨cd5, h⟩ := ifN h
          refine g_iald C 5 rfl (inB_in cd5) dX5_isWaiting_27 ?_
          refine g_if_ne C (tgt := 35) dX5_isWaiting_28 (by decide) (fun cd6 => ?_) (fun cd6 => ?_)
          · replace h := (if_neg cd6).symm.trans h
            refine g_iconst C (v := 0) (by decide) dX5_isWaiting_35 ?_
            obtain rfl := Option.some.inj h
            exact g_zret C hQ rfl rfl ⟨by decide, by decide⟩ dX5_isWaiting_36
          · replace h := (if_pos cd6).symm.trans h
            refine g_iconst C (v := 1) (by decide) dX5_isWaiting_31 ?_
            refine g_goto C (tgt := 36) dX5_isWaiting_32 (by decide) ?_
            obtain rfl := Option.some.inj h
            exact g_zret C hQ rfl rfl ⟨by decide, by decide⟩ dX5_isWaiting_36
abbrev r_X5_makes : Room := { frames := 1, cells := 0, slots := 0, locals := 20 }
theorem m_X5_makes_0 : Cond.fieldLink RX5 7 "BookinghouseModel" "time" "[I" ∈ wsX5_makes := by decide +kernel
theorem i_X5_makes_X5 : ∀ w ∈ wsX50, w ∈ wsX5_makes := by decide +kernel
theorem m_X5_makes_2 : Cond.fieldLink RX5 35 "BookinghouseModel" "made" "I" ∈ wsX5_makes := by decide +kernel
theorem m_X5_makes_3 : Cond.fieldLink RX5 13 "BookinghouseModel" "span" "[I" ∈ wsX5_makes := by decide +kernel
theorem m_X5_makes_4 : Cond.fieldLink RX5 16 "BookinghouseModel" "weight" "[I" ∈ wsX5_makes := by decide +kernel
theorem m_X5_makes_5 : Cond.fieldLink RX5 19 "BookinghouseModel" "home" "[I" ∈ wsX5_makes := by decide +kernel
theorem m_X5_makes_6 : Cond.fieldLink RX5 22 "BookinghouseModel" "state" "[I" ∈ wsX5_makes := by decide +kernel
set_option maxHeartbeats 4000000 in
set_option maxRecDepth 100000 in
theorem c_X5_makes (E : gE) (b : Nat → Nat) (th : Int32) (ma : Int32) (st : Int32) (ti : Nat → Int32) (sp : Nat → Int32) (we : Nat → Int32) (ho : Nat → Int32) (sa : Nat → Int32) (ca : Nat → Int32) (cl : Nat → Int32) (su : Int64) (p1 : Int32) (p2 : Int32) (p3 : Int32) (p4 : Int32) (o : (Int32 × Int32 × (Nat → Int32) × (Nat → Int32) × (Nat → Int32) × (Nat → Int32) × (Nat → Int32))) (h : f_X5_makes ma ti sp we ho sa p1 p2 p3 p4 = some o) : Ct E yX5_makes wsX5_makes r_X5_makes [.ref (b 0), .int p1, .int p2, .int p3, .int p4] (wM E b th ma st ti sp we ho sa ca cl su) (gO (fun u9 => some (.int u9.1)) (fun u9 => (wM E b th u9.2.1 st u9.2.2.1 u9.2.2.2.1 u9.2.2.2.2.1 u9.2.2.2.2.2.1 u9.2.2.2.2.2.2 ca cl su)) (.inr o)) := by
  refine Ct.of (cc := cX5_makes) (nL := 5) (ret := ((some .int))) (own := RX5) (by decide) rfl rfl (Nat.le_of_ble_eq_true rfl) rfl ?_ ?_
  · intro v w1 hh
    cases hh; rfl
  · intro X C hQ
    rw [f_X5_makes] at h
    refine g_aload_n C 0 rfl rfl dX5_makes_0 ?_
    refine g_X5_time C i_X5_makes_X5 m_X5_makes_0 0 rfl dX5_makes_1 ?_
    refine g_aload_n C 0 rfl rfl dX5_makes_4 ?_
    refine g_X5_made C i_X5_makes_X5 m_X5_makes_2 0 rfl dX5_makes_5 ?_
    refine g_iload_n C 2 rfl rfl dX5_makes_8 ?_
    obtain ⟨cd1, h⟩ := ifN h
    refine g_iast C 1 rfl (ws2 := (wM E b th ma st (upd ti ma.toNatClampNeg p2) sp we ho sa ca cl su)) rfl (inB_in cd1) dX5_makes_9 ?_
    refine g_aload_n C 0 rfl rfl dX5_makes_10 ?_
    refine g_X5_span C i_X5_makes_X5 m_X5_makes_3 0 rfl dX5_makes_11 ?_
    refine g_aload_n C 0 rfl rfl dX5_makes_14 ?_
    refine g_X5_made C i_X5_makes_X5 m_X5_makes_2 0 rfl dX5_makes_15 ?_
    refine g_iload_n C 3 rfl rfl dX5_makes_18 ?_
    obtain ⟨cd2, h⟩ := ifN h
    refine g_iast C 2 rfl (ws2 := (wM E b th ma st (upd ti ma.toNatClampNeg p2) (upd sp ma.toNatClampNeg p3) we ho sa ca cl su)) rfl (inB_in cd2) dX5_makes_19 ?_
    refine g_aload_n C 0 rfl rfl dX5_makes_20 ?_
    refine g_X5_weight C i_X5_makes_X5 m_X5_makes_4 0 rfl dX5_makes_21 ?_
    refine g_aload_n C 0 rfl rfl dX5_makes_24 ?_
    refine g_X5_made C i_X5_makes_X5 m_X5_makes_2 0 rfl dX5_makes_25 ?_
    refine g_iload C 4 rfl dX5_makes_28 ?_
    obtain ⟨cd3, h⟩ := ifN h
    refine g_iast C 3 rfl (ws2 := (wM E b th ma st (upd ti ma.toNatClampNeg p2) (upd sp ma.toNatClampNeg p3) (upd we ma.toNatClampNeg p4) ho sa ca cl su)) rfl (inB_in cd3) dX5_makes_30 ?_
    refine g_aload_n C 0 rfl rfl dX5_makes_31 ?_
    refine g_X5_home C i_X5_makes_X5 m_X5_makes_5 0 rfl dX5_makes_32 ?_
    refine g_aload_n C 0 rfl rfl dX5_makes_35 ?_
    refine g_X5_made C i_X5_makes_X5 m_X5_makes_2 0 rfl dX5_makes_36 ?_
    refine g_iload_n C 1 rfl rfl dX5_makes_39 ?_
    obtain ⟨cd4, h⟩ := ifN h
    refine g_iast C 4 rfl (ws2 := (wM E b th ma st (upd ti ma.toNatClampNeg p2) (upd sp ma.toNatClampNeg p3) (upd we ma.toNatClampNeg p4) (upd ho ma.toNatClampNeg p1) sa ca cl su)) rfl (inB_in cd4) dX5_makes_40 ?_
    refine g_aload_n C 0 rfl rfl dX5_makes_41 ?_
    refine g_X5_state C i_X5_makes_X5 m_X5_makes_6 0 rfl dX5_makes_42 ?_
    refine g_aload_n C 0 rfl rfl dX5_makes_45 ?_
    refine g_X5_made C i_X5_makes_X5 m_X5_makes_2 0 rfl dX5_makes_46 ?_
    refine g_iconst C (v := 0) (by decide) dX5_makes_49 ?_
    obtain ⟨cd5, h⟩ := ifN h
    refine g_iast C 5 rfl (ws2 := (wM E b th ma st (upd ti ma.toNatClampNeg p2) (upd sp ma.toNatClampNeg p3) (upd we ma.toNatClampNeg p4) (upd ho ma.toNatClampNeg p1) (upd sa ma.toNatClampNeg 0) ca cl su)) rfl (inB_in cd5) dX5_makes_50 ?_
    refine g_aload_n C 0 rfl rfl dX5_makes_51 ?_
    refine g_dup C rfl dX5_makes_52 ?_
    refine g_X5_made C i_X5_makes_X5 m_X5_makes_2 0 rfl dX5_makes_53 ?_
    refine g_iconst C (v := 1) (by decide) dX5_makes_56 ?_
    refine g_iadd C dX5_makes_57 ?_
    refine g_X5_set_made C i_X5_makes_X5 m_X5_makes_2 0 rfl (ws2 := (wM E b th (ma + 1) st (upd ti ma.toNatClampNeg p2) (upd sp ma.toNatClampNeg p3) (upd we ma.toNatClampNeg p4) (upd ho ma.toNatClampNeg p1) (upd sa ma.toNatClampNeg 0) ca cl su)) rfl dX5_makes_58 ?_
    refine g_aload_n C 0 rfl rfl dX5_makes_61 ?_
    refine g_X5_made C i_X5_makes_X5 m_X5_makes_2 0 rfl dX5_makes_62 ?_
    refine g_iconst C (v := 1) (by decide) dX5_makes_65 ?_
    refine g_isub C dX5_makes_66 ?_
    obtain rfl := Option.some.inj h
    exact g_iret C hQ (by dsimp only [gO]) ⟨by decide, by decide⟩ dX5_makes_67
abbrev r_X5_book : Room := { frames := 2, cells := 0, slots := 0, locals := 44 }
theorem m_X5_book_0 : Cond.fieldLink RX5 28 "BookinghouseModel" "clock" "[I" ∈ wsX5_book := by decide +kernel
theorem i_X5_book_X5 : ∀ w ∈ wsX50, w ∈ wsX5_book := by decide +kernel
theorem m_X5_book_2 : Cond.fieldLink RX5 35 "BookinghouseModel" "made" "I" ∈ wsX5_book := by decide +kernel
set_option maxHeartbeats 4000000 in
set_option maxRecDepth 100000 in
theorem v_X5_book_104 {E : gE} {X : gX} {b : Nat → Nat} {th : Int32} {ma : Int32} {st : Int32} {ti : Nat → Int32} {sp : Nat → Int32} {we : Nat → Int32} {ho : Nat → Int32} {sa : Nat → Int32} {ca : Nat → Int32} {cl : Nat → Int32} {su : Int64} {v1 : Int32} {v2 : Int32} {v3 : Int32} {v4 : Int32} {s1 : Bool} {thc : Int32} {o : (Int32 × Int32 × Int32 × (Nat → Int32) × (Nat → Int32) × (Nat → Int32) × (Nat → Int32) × (Nat → Int32))} (C : Cx E X cX5_book 5 RX5 wsX5_book r_X5_book ((some .int)) []) (hQ : gQ E X (wM E b th ma st ti sp we ho sa ca cl su) r_X5_book (gO (fun u9 => some (.int u9.1)) (fun u9 => (wM E b u9.2.1 u9.2.2.1 st u9.2.2.2.1 u9.2.2.2.2.1 u9.2.2.2.2.2.1 u9.2.2.2.2.2.2.1 u9.2.2.2.2.2.2.2 ca cl su)) (.inr o))) (h : b_X5_book_104 ma ti sp we ho sa v1 v2 v3 v4 s1 thc = some o) : Gx E X (wM E b thc ma st ti sp we ho sa ca cl su) 5 [(0, .ref (b 0)), (1, .int v1), (2, .int v2), (3, .int v3), (4, .int v4)] [.int (bI s1), .ref (b 0)] 104 0 0 := by
  rw [b_X5_book_104] at h
  refine g_iconst C (v := 3) (by decide) dX5_book_104 ?_
  obtain ⟨g1, eg1, h⟩ := Option.bind_eq_some_iff.mp h
  refine g_cVr (As := [.int (bI s1), .int 3]) (n9 := 2) (st := []) (w2 := (wM E b g1.2 ma st ti sp we ho sa ca cl su)) C (c_X5_isThrown E b thc ma st ti sp we ho sa ca cl su s1 3 g1 eg1) gX5_book_X5_isThrown rfl (by decide +kernel) rfl ⟨by decide, by decide, by decide, by decide, Nat.le_of_ble_eq_true rfl⟩ 0 rfl rfl (gSub.idx [0, 1, 2, 3, 4, 5, 6, 7] rfl rfl) rfl dX5_book_105 ?_
  refine g_if_eq C (tgt := 113) dX5_book_108 (by decide) (fun cd2 => ?_) (fun cd2 => ?_)
  · replace h := (if_pos cd2).symm.trans h
    refine g_aload_n C 0 rfl rfl dX5_book_113 ?_
    refine g_iload_n C 1 rfl rfl dX5_book_114 ?_
    refine g_iload_n C 2 rfl rfl dX5_book_115 ?_
    refine g_iload_n C 3 rfl rfl dX5_book_116 ?_
    refine g_iload C 4 rfl dX5_book_117 ?_
    obtain ⟨g3, eg3, h⟩ := Option.bind_eq_some_iff.mp h
    refine g_cVr (As := [.int v1, .int v2, .int v3, .int v4]) (n9 := 4) (st := []) (w2 := (wM E b g1.2 g3.2.1 st g3.2.2.1 g3.2.2.2.1 g3.2.2.2.2.1 g3.2.2.2.2.2.1 g3.2.2.2.2.2.2 ca cl su)) C (c_X5_makes E b g1.2 ma st ti sp we ho sa ca cl su v1 v2 v3 v4 g3 eg3) gX5_book_X5_makes rfl (by decide +kernel) rfl ⟨by decide, by decide, by decide, by decide, Nat.le_of_ble_eq_true rfl⟩ 0 rfl rfl (gSub.idx [0, 1, 2, 3, 4, 5, 6, 7] rfl rfl) rfl dX5_book_119 ?_
    obtain rfl := Option.some.inj h
    exact g_iret C hQ (by dsimp only [gO]) ⟨by decide, by decide⟩ dX5_book_122
  · replace h := (if_neg cd2).symm.trans h
    refine g_iconst C (v := 0) (by decide) dX5_book_111 ?_
    obtain rfl := Option.some.inj h
    exact g_iret C hQ (by dsimp only [gO]) ⟨by decide, by decide⟩ dX5_book_112
set_option maxHeartbeats 4000000 in
set_option maxRecDepth 100000 in
theorem v_X5_book_59 {E : gE} {X : gX} {b : Nat → Nat} {th : Int32} {ma : Int32} {st : Int32} {ti : Nat → Int32} {sp : Nat → Int32} {we : Nat → Int32} {ho : Nat → Int32} {sa : Nat → Int32} {ca : Nat → Int32} {cl : Nat → Int32} {su : Int64} {v1 : Int32} {v2 : Int32} {v3 : Int32} {v4 : Int32} {s1 : Bool} {thc : Int32} {o : (Int32 × Int32 × Int32 × (Nat → Int32) × (Nat → Int32) × (Nat → Int32) × (Nat → Int32) × (Nat → Int32))} (C : Cx E X cX5_book 5 RX5 wsX5_book r_X5_book ((some .int)) []) (hQ : gQ E X (wM E b th ma st ti sp we ho sa ca cl su) r_X5_book (gO (fun u9 => some (.int u9.1)) (fun u9 => (wM E b u9.2.1 u9.2.2.1 st u9.2.2.2.1 u9.2.2.2.2.1 u9.2.2.2.2.2.1 u9.2.2.2.2.2.2.1 u9.2.2.2.2.2.2.2 ca cl su)) (.inr o))) (h : b_X5_book_59 ma ti sp we ho sa cl v1 v2 v3 v4 s1 thc = some o) : Gx E X (wM E b thc ma st ti sp we ho sa ca cl su) 5 [(0, .ref (b 0)), (1, .int v1), (2, .int v2), (3, .int v3), (4, .int v4)] [.int (bI s1), .ref (b 0)] 59 0 0 := by
  rw [b_X5_book_59] at h
  refine g_iconst C (v := 2) (by decide) dX5_book_59 ?_
  obtain ⟨g1, eg1, h⟩ := Option.bind_eq_some_iff.mp h
  refine g_cVr (As := [.int (bI s1), .int 2]) (n9 := 2) (st := []) (w2 := (wM E b g1.2 ma st ti sp we ho sa ca cl su)) C (c_X5_isThrown E b thc ma st ti sp we ho sa ca cl su s1 2 g1 eg1) gX5_book_X5_isThrown rfl (by decide +kernel) rfl ⟨by decide, by decide, by decide, by decide, Nat.le_of_ble_eq_true rfl⟩ 0 rfl rfl (gSub.idx [0, 1, 2, 3, 4, 5, 6, 7] rfl rfl) rfl dX5_book_60 ?_
  refine g_if_eq C (tgt := 68) dX5_book_63 (by decide) (fun cd2 => ?_) (fun cd2 => ?_)
  · replace h := (if_pos cd2).symm.trans h
    refine g_aload_n C 0 rfl rfl dX5_book_68 ?_
    refine g_iload_n C 2 rfl rfl dX5_book_69 ?_
    refine g_aload_n C 0 rfl rfl dX5_book_70 ?_
    refine g_X5_clock C i_X5_book_X5 m_X5_book_0 0 rfl dX5_book_71 ?_
    refine g_iload_n C 1 rfl rfl dX5_book_74 ?_
    obtain ⟨cd3, h⟩ := ifN h
    refine g_iald C 7 rfl (inB_in cd3) dX5_book_75 ?_
    refine g_icmp_lt C (tgt := 99) dX5_book_76 (by decide) (fun cd4 => ?_) (fun cd4 => ?_)
    · replace h := (if_pos cd4).symm.trans h
      refine g_iconst C (v := 1) (by decide) dX5_book_99 ?_
      refine g_goto C (tgt := 104) dX5_book_100 (by decide) ?_
      exact v_X5_book_104 (v1 := v1) (v2 := v2) (v3 := v3) (v4 := v4) (s1 := true) (thc := g1.2) C hQ h
    · replace h := (if_neg cd4).symm.trans h
      refine g_aload_n C 0 rfl rfl dX5_book_79 ?_
      refine g_iload_n C 1 rfl rfl dX5_book_80 ?_
      refine g_iconst C (v := 0) (by decide) dX5_book_81 ?_
      obtain ⟨g5, eg5, h⟩ := Option.bind_eq_some_iff.mp h
      refine g_cVr (As := [.int v1, .int 0]) (n9 := 2) (st := [.ref (b 0)]) (w2 := (wM E b g1.2 ma st ti sp we ho sa ca cl su)) C (c_X5_many E b g1.2 ma st ti sp we ho sa ca cl su v1 0 g5 eg5) gX5_book_X5_many rfl (by decide +kernel) rfl ⟨by decide, by decide, by decide, by decide, Nat.le_of_ble_eq_true rfl⟩ 0 rfl rfl (gSub.idx [0, 1, 2, 3, 4, 5, 6, 7] rfl rfl) rfl dX5_book_82 ?_
      refine g_bipush C (v := 48) (by decide) dX5_book_85 ?_
      refine g_icmp_eq C (tgt := 99) dX5_book_87 (by decide) (fun cd6 => ?_) (fun cd6 => ?_)
      · replace h := (if_pos cd6).symm.trans h
        refine g_iconst C (v := 1) (by decide) dX5_book_99 ?_
        refine g_goto C (tgt := 104) dX5_book_100 (by decide) ?_
        exact v_X5_book_104 (v1 := v1) (v2 := v2) (v3 := v3) (v4 := v4) (s1 := true) (thc := g1.2) C hQ h
      · replace h := (if_neg cd6).symm.trans h
        refine g_aload_n C 0 rfl rfl dX5_book_90 ?_
        refine g_X5_made C i_X5_book_X5 m_X5_book_2 0 rfl dX5_book_91 ?_
        refine g_bipush C (v := 120) (by decide) dX5_book_94 ?_
        refine g_icmp_ne C (tgt := 103) dX5_book_96 (by decide) (fun cd7 => ?_) (fun cd7 => ?_)
        · replace h := (if_neg cd7).symm.trans h
          refine g_iconst C (v := 0) (by decide) dX5_book_103 ?_
          exact v_X5_book_104 (v1 := v1) (v2 := v2) (v3 := v3) (v4 := v4) (s1 := false) (thc := g1.2) C hQ h
        · replace h := (if_pos cd7).symm.trans h
          refine g_iconst C (v := 1) (by decide) dX5_book_99 ?_
          refine g_goto C (tgt := 104) dX5_book_100 (by decide) ?_
          exact v_X5_book_104 (v1 := v1) (v2 := v2) (v3 := v3) (v4 := v4) (s1 := true) (thc := g1.2) C hQ h
  · replace h := (if_neg cd2).symm.trans h
    refine g_iconst C (v := 0) (by decide) dX5_book_66 ?_
    obtain rfl := Option.some.inj h
    exact g_iret C hQ (by dsimp only [gO]) ⟨by decide, by decide⟩ dX5_book_67
set_option maxHeartbeats 4000000 in
set_option maxRecDepth 100000 in
theorem v_X5_book_13 {E : gE} {X : gX} {b : Nat → Nat} {th : Int32} {ma : Int32} {st : Int32} {ti : Nat → Int32} {sp : Nat → Int32} {we : Nat → Int32} {ho : Nat → Int32} {sa : Nat → Int32} {ca : Nat → Int32} {cl : Nat → Int32} {su : Int64} {v1 : Int32} {v2 : Int32} {v3 : Int32} {v4 : Int32} {s1 : Bool} {o : (Int32 × Int32 × Int32 × (Nat → Int32) × (Nat → Int32) × (Nat → Int32) × (Nat → Int32) × (Nat → Int32))} (C : Cx E X cX5_book 5 RX5 wsX5_book r_X5_book ((some .int)) []) (hQ : gQ E X (wM E b th ma st ti sp we ho sa ca cl su) r_X5_book (gO (fun u9 => some (.int u9.1)) (fun u9 => (wM E b u9.2.1 u9.2.2.1 st u9.2.2.2.1 u9.2.2.2.2.1 u9.2.2.2.2.2.1 u9.2.2.2.2.2.2.1 u9.2.2.2.2.2.2.2 ca cl su)) (.inr o))) (h : b_X5_book_13 ma ti sp we ho sa cl v1 v2 v3 v4 s1 = some o) : Gx E X (wM E b th ma st ti sp we ho sa ca cl su) 5 [(0, .ref (b 0)), (1, .int v1), (2, .int v2), (3, .int v3), (4, .int v4)] [.int (bI s1), .ref (b 0)] 13 0 0 := by
  rw [b_X5_book_13] at h
  refine g_iconst C (v := 1) (by decide) dX5_book_13 ?_
  obtain ⟨g1, eg1, h⟩ := Option.bind_eq_some_iff.mp h
  refine g_cVr (As := [.int (bI s1), .int 1]) (n9 := 2) (st := []) (w2 := (wM E b g1.2 ma st ti sp we ho sa ca cl su)) C (c_X5_isThrown E b th ma st ti sp we ho sa ca cl su s1 1 g1 eg1) gX5_book_X5_isThrown rfl (by decide +kernel) rfl ⟨by decide, by decide, by decide, by decide, Nat.le_of_ble_eq_true rfl⟩ 0 rfl rfl (gSub.idx [0, 1, 2, 3, 4, 5, 6, 7] rfl rfl) rfl dX5_book_14 ?_
  refine g_if_ne C (tgt := 66) dX5_book_17 (by decide) (fun cd2 => ?_) (fun cd2 => ?_)
  · replace h := (if_neg cd2).symm.trans h
    refine g_iconst C (v := 0) (by decide) dX5_book_66 ?_
    obtain rfl := Option.some.inj h
    exact g_iret C hQ (by dsimp only [gO]) ⟨by decide, by decide⟩ dX5_book_67
  · replace h := (if_pos cd2).symm.trans h
    refine g_aload_n C 0 rfl rfl dX5_book_20 ?_
    refine g_iload_n C 2 rfl rfl dX5_book_21 ?_
    refine g_iconst C (v := 0) (by decide) dX5_book_22 ?_
    refine g_sipush C (v := 9999) (by decide) dX5_book_23 ?_
    obtain ⟨g3, eg3, h⟩ := Option.bind_eq_some_iff.mp h
    refine g_cSr (As := [.int v2, .int 0, .int 9999]) (n9 := 3) (st := [.ref (b 0)]) (w2 := (wM E b g1.2 ma st ti sp we ho sa ca cl su)) C (c_X5_isIn E v2 0 9999 g3 eg3) gX5_book_X5_isIn rfl (by decide +kernel) rfl ⟨by decide, by decide, by decide, by decide, Nat.le_of_ble_eq_true rfl⟩ (gSub.idx [] rfl rfl) rfl dX5_book_26 ?_
    refine g_if_eq C (tgt := 54) dX5_book_29 (by decide) (fun cd4 => ?_) (fun cd4 => ?_)
    · replace h := (if_pos cd4).symm.trans h
      refine g_iconst C (v := 1) (by decide) dX5_book_54 ?_
      refine g_goto C (tgt := 59) dX5_book_55 (by decide) ?_
      exact v_X5_book_59 (v1 := v1) (v2 := v2) (v3 := v3) (v4 := v4) (s1 := true) (thc := g1.2) C hQ h
    · replace h := (if_neg cd4).symm.trans h
      refine g_iload_n C 3 rfl rfl dX5_book_32 ?_
      refine g_iconst C (v := 0) (by decide) dX5_book_33 ?_
      refine g_sipush C (v := 500) (by decide) dX5_book_34 ?_
      obtain ⟨g5, eg5, h⟩ := Option.bind_eq_some_iff.mp h
      refine g_cSr (As := [.int v3, .int 0, .int 500]) (n9 := 3) (st := [.ref (b 0)]) (w2 := (wM E b g1.2 ma st ti sp we ho sa ca cl su)) C (c_X5_isIn E v3 0 500 g5 eg5) gX5_book_X5_isIn rfl (by decide +kernel) rfl ⟨by decide, by decide, by decide, by decide, Nat.le_of_ble_eq_true rfl⟩ (gSub.idx [] rfl rfl) rfl dX5_book_37 ?_
      refine g_if_eq C (tgt := 54) dX5_book_40 (by decide) (fun cd6 => ?_) (fun cd6 => ?_)
      · replace h := (if_pos cd6).symm.trans h
        refine g_iconst C (v := 1) (by decide) dX5_book_54 ?_
        refine g_goto C (tgt := 59) dX5_book_55 (by decide) ?_
        exact v_X5_book_59 (v1 := v1) (v2 := v2) (v3 := v3) (v4 := v4) (s1 := true) (thc := g1.2) C hQ h
      · replace h := (if_neg cd6).symm.trans h
        refine g_iload C 4 rfl dX5_book_43 ?_
        refine g_iconst C (v := 1) (by decide) dX5_book_45 ?_
        refine g_bipush C (v := 9) (by decide) dX5_book_46 ?_
        obtain ⟨g7, eg7, h⟩ := Option.bind_eq_some_iff.mp h
        refine g_cSr (As := [.int v4, .int 1, .int 9]) (n9 := 3) (st := [.ref (b 0)]) (w2 := (wM E b g1.2 ma st ti sp we ho sa ca cl su)) C (c_X5_isIn E v4 1 9 g7 eg7) gX5_book_X5_isIn rfl (by decide +kernel) rfl ⟨by decide, by decide, by decide, by decide, Nat.le_of_ble_eq_true rfl⟩ (gSub.idx [] rfl rfl) rfl dX5_book_48 ?_
        refine g_if_ne C (tgt := 58) dX5_book_51 (by decide) (fun cd8 => ?_) (fun cd8 => ?_)
        · replace h := (if_neg cd8).symm.trans h
          refine g_iconst C (v := 0) (by decide) dX5_book_58 ?_
          exact v_X5_book_59 (v1 := v1) (v2 := v2) (v3 := v3) (v4 := v4) (s1 := false) (thc := g1.2) C hQ h
        · replace h := (if_pos cd8).symm.trans h
          refine g_iconst C (v := 1) (by decide) dX5_book_54 ?_
          refine g_goto C (tgt := 59) dX5_book_55 (by decide) ?_
          exact v_X5_book_59 (v1 := v1) (v2 := v2) (v3 := v3) (v4 := v4) (s1 := true) (thc := g1.2) C hQ h
set_option maxHeartbeats 4000000 in
set_option maxRecDepth 100000 in
theorem c_X5_book (E : gE) (b : Nat → Nat) (th : Int32) (ma : Int32) (st : Int32) (ti : Nat → Int32) (sp : Nat → Int32) (we : Nat → Int32) (ho : Nat → Int32) (sa : Nat → Int32) (ca : Nat → Int32) (cl : Nat → Int32) (su : Int64) (p1 : Int32) (p2 : Int32) (p3 : Int32) (p4 : Int32) (o : (Int32 × Int32 × Int32 × (Nat → Int32) × (Nat → Int32) × (Nat → Int32) × (Nat → Int32) × (Nat → Int32))) (h : f_X5_book ma ti sp we ho sa cl p1 p2 p3 p4 = some o) : Ct E yX5_book wsX5_book r_X5_book [.ref (b 0), .int p1, .int p2, .int p3, .int p4] (wM E b th ma st ti sp we ho sa ca cl su) (gO (fun u9 => some (.int u9.1)) (fun u9 => (wM E b u9.2.1 u9.2.2.1 st u9.2.2.2.1 u9.2.2.2.2.1 u9.2.2.2.2.2.1 u9.2.2.2.2.2.2.1 u9.2.2.2.2.2.2.2 ca cl su)) (.inr o)) := by
  refine Ct.of (cc := cX5_book) (nL := 5) (ret := ((some .int))) (own := RX5) (by decide) rfl rfl (Nat.le_of_ble_eq_true rfl) rfl ?_ ?_
  · intro v w1 hh
    cases hh; rfl
  · intro X C hQ
    rw [f_X5_book] at h
    refine g_aload_n C 0 rfl rfl dX5_book_0 ?_
    refine g_iload_n C 1 rfl rfl dX5_book_1 ?_
    obtain ⟨g1, eg1, h⟩ := Option.bind_eq_some_iff.mp h
    refine g_cSr (As := [.int p1]) (n9 := 1) (st := [.ref (b 0)]) (w2 := (wM E b th ma st ti sp we ho sa ca cl su)) C (c_X5_isHouse E p1 g1 eg1) gX5_book_X5_isHouse rfl (by decide +kernel) rfl ⟨by decide, by decide, by decide, by decide, Nat.le_of_ble_eq_true rfl⟩ (gSub.idx [] rfl rfl) rfl dX5_book_2 ?_
    refine g_if_ne C (tgt := 12) dX5_book_5 (by decide) (fun cd2 => ?_) (fun cd2 => ?_)
    · replace h := (if_neg cd2).symm.trans h
      refine g_iconst C (v := 0) (by decide) dX5_book_12 ?_
      exact v_X5_book_13 (v1 := p1) (v2 := p2) (v3 := p3) (v4 := p4) (s1 := false) C hQ h
    · replace h := (if_pos cd2).symm.trans h
      refine g_iconst C (v := 1) (by decide) dX5_book_8 ?_
      refine g_goto C (tgt := 13) dX5_book_9 (by decide) ?_
      exact v_X5_book_13 (v1 := p1) (v2 := p2) (v3 := p3) (v4 := p4) (s1 := true) C hQ h
abbrev r_X5_series : Room := { frames := 2, cells := 0, slots := 0, locals := 44 }
theorem m_X5_series_0 : Cond.fieldLink RX5 28 "BookinghouseModel" "clock" "[I" ∈ wsX5_series := by decide +kernel
theorem i_X5_series_X5 : ∀ w ∈ wsX50, w ∈ wsX5_series := by decide +kernel
theorem m_X5_series_2 : Cond.fieldLink RX5 35 "BookinghouseModel" "made" "I" ∈ wsX5_series := by decide +kernel
set_option maxHeartbeats 4000000 in
set_option maxRecDepth 100000 in
theorem w_X5_series_182 {E : gE} {X : gX} {b : Nat → Nat} {th : Int32} {ma : Int32} {st : Int32} {ti : Nat → Int32} {sp : Nat → Int32} {we : Nat → Int32} {ho : Nat → Int32} {sa : Nat → Int32} {ca : Nat → Int32} {cl : Nat → Int32} {su : Int64} {v1 : Int32} {v2 : Int32} {v3 : Int32} {v4 : Int32} {v5 : Int32} {v6 : Int32} {v7 : Int32} {thc : Int32} {o : (Int32 × Int32 × Int32 × (Nat → Int32) × (Nat → Int32) × (Nat → Int32) × (Nat → Int32) × (Nat → Int32))} (C : Cx E X cX5_series 9 RX5 wsX5_series r_X5_series ((some .int)) []) (hQ : gQ E X (wM E b th ma st ti sp we ho sa ca cl su) r_X5_series (gO (fun u9 => some (.int u9.1)) (fun u9 => (wM E b u9.2.1 u9.2.2.1 st u9.2.2.2.1 u9.2.2.2.2.1 u9.2.2.2.2.2.1 u9.2.2.2.2.2.2.1 u9.2.2.2.2.2.2.2 ca cl su)) (.inr o))) : ∀ (F : Nat) (v8 : Int32) (mac : Int32) (tic : Nat → Int32) (spc : Nat → Int32) (wec : Nat → Int32) (hoc : Nat → Int32) (sac : Nat → Int32), l_X5_series_182 v1 v2 v3 v4 v5 v6 v7 thc F v8 mac tic spc wec hoc sac = some o → Gx E X (wM E b thc mac st tic spc wec hoc sac ca cl su) 9 [(0, .ref (b 0)), (1, .int v1), (2, .int v2), (3, .int v3), (4, .int v4), (5, .int v5), (6, .int v6), (7, .int v7), (8, .int v8)] [] 182 0 0 := by
  intro F
  induction F with
  | zero => intro v8 mac tic spc wec hoc sac h; exact absurd h (by simp [l_X5_series_182])
  | succ F ih =>
    intro v8 mac tic spc wec hoc sac h
    rw [l_X5_series_182] at h
    refine g_iload C 8 rfl dX5_series_182 ?_
    refine g_iload C 4 rfl dX5_series_184 ?_
    refine g_icmp_ge C (tgt := 211) dX5_series_186 (by decide) (fun cd1 => ?_) (fun cd1 => ?_)
    · replace h := (if_pos cd1).symm.trans h
      refine g_iload C 7 rfl dX5_series_211 ?_
      obtain rfl := Option.some.inj h
      exact g_iret C hQ (by dsimp only [gO]) ⟨by decide, by decide⟩ dX5_series_213
    · replace h := (if_neg cd1).symm.trans h
      refine g_aload_n C 0 rfl rfl dX5_series_189 ?_
      refine g_iload_n C 1 rfl rfl dX5_series_190 ?_
      refine g_iload_n C 2 rfl rfl dX5_series_191 ?_
      refine g_iload_n C 3 rfl rfl dX5_series_192 ?_
      refine g_iload C 8 rfl dX5_series_193 ?_
      refine g_imul C dX5_series_195 ?_
      refine g_iadd C dX5_series_196 ?_
      refine g_iload C 5 rfl dX5_series_197 ?_
      refine g_iload C 6 rfl dX5_series_199 ?_
      obtain ⟨g2, eg2, h⟩ := Option.bind_eq_some_iff.mp h
      refine g_cVr (As := [.int v1, .int (v2 + (v3 * v8)), .int v5, .int v6]) (n9 := 4) (st := []) (w2 := (wM E b thc g2.2.1 st g2.2.2.1 g2.2.2.2.1 g2.2.2.2.2.1 g2.2.2.2.2.2.1 g2.2.2.2.2.2.2 ca cl su)) C (c_X5_makes E b thc mac st tic spc wec hoc sac ca cl su v1 (v2 + (v3 * v8)) v5 v6 g2 eg2) gX5_series_X5_makes rfl (by decide +kernel) rfl ⟨by decide, by decide, by decide, by decide, Nat.le_of_ble_eq_true rfl⟩ 0 rfl rfl (gSub.idx [0, 1, 2, 3, 4, 5, 6, 7] rfl rfl) rfl dX5_series_201 ?_
      refine g_pop C rfl dX5_series_204 ?_
      refine g_iinc C (v := v8 + 1) 8 rfl rfl (lv2 := [(8, .int (v8 + 1)), (0, .ref (b 0)), (1, .int v1), (2, .int v2), (3, .int v3), (4, .int v4), (5, .int v5), (6, .int v6), (7, .int v7)]) rfl (by decide) dX5_series_205 ?_
      refine g_goto C (tgt := 182) dX5_series_208 (by decide) ?_
      refine g_lv [1, 2, 3, 4, 5, 6, 7, 8, 0] (lv2 := [(0, .ref (b 0)), (1, .int v1), (2, .int v2), (3, .int v3), (4, .int v4), (5, .int v5), (6, .int v6), (7, .int v7), (8, .int (v8 + 1))]) rfl ?_
      exact ih (v8 + 1) g2.2.1 g2.2.2.1 g2.2.2.2.1 g2.2.2.2.2.1 g2.2.2.2.2.2.1 g2.2.2.2.2.2.2 h
set_option maxHeartbeats 4000000 in
set_option maxRecDepth 100000 in
theorem v_X5_series_164 {E : gE} {X : gX} {b : Nat → Nat} {th : Int32} {ma : Int32} {st : Int32} {ti : Nat → Int32} {sp : Nat → Int32} {we : Nat → Int32} {ho : Nat → Int32} {sa : Nat → Int32} {ca : Nat → Int32} {cl : Nat → Int32} {su : Int64} {v1 : Int32} {v2 : Int32} {v3 : Int32} {v4 : Int32} {v5 : Int32} {v6 : Int32} {s1 : Bool} {thc : Int32} {o : (Int32 × Int32 × Int32 × (Nat → Int32) × (Nat → Int32) × (Nat → Int32) × (Nat → Int32) × (Nat → Int32))} (C : Cx E X cX5_series 9 RX5 wsX5_series r_X5_series ((some .int)) []) (hQ : gQ E X (wM E b th ma st ti sp we ho sa ca cl su) r_X5_series (gO (fun u9 => some (.int u9.1)) (fun u9 => (wM E b u9.2.1 u9.2.2.1 st u9.2.2.2.1 u9.2.2.2.2.1 u9.2.2.2.2.2.1 u9.2.2.2.2.2.2.1 u9.2.2.2.2.2.2.2 ca cl su)) (.inr o))) (h : b_X5_series_164 ma ti sp we ho sa v1 v2 v3 v4 v5 v6 s1 thc = some o) : Gx E X (wM E b thc ma st ti sp we ho sa ca cl su) 9 [(0, .ref (b 0)), (1, .int v1), (2, .int v2), (3, .int v3), (4, .int v4), (5, .int v5), (6, .int v6)] [.int (bI s1), .ref (b 0)] 164 0 0 := by
  rw [b_X5_series_164] at h
  refine g_iconst C (v := 3) (by decide) dX5_series_164 ?_
  obtain ⟨g1, eg1, h⟩ := Option.bind_eq_some_iff.mp h
  refine g_cVr (As := [.int (bI s1), .int 3]) (n9 := 2) (st := []) (w2 := (wM E b g1.2 ma st ti sp we ho sa ca cl su)) C (c_X5_isThrown E b thc ma st ti sp we ho sa ca cl su s1 3 g1 eg1) gX5_series_X5_isThrown rfl (by decide +kernel) rfl ⟨by decide, by decide, by decide, by decide, Nat.le_of_ble_eq_true rfl⟩ 0 rfl rfl (gSub.idx [0, 1, 2, 3, 4, 5, 6, 7] rfl rfl) rfl dX5_series_165 ?_
  refine g_if_eq C (tgt := 173) dX5_series_168 (by decide) (fun cd2 => ?_) (fun cd2 => ?_)
  · replace h := (if_pos cd2).symm.trans h
    refine g_aload_n C 0 rfl rfl dX5_series_173 ?_
    refine g_X5_made C i_X5_series_X5 m_X5_series_2 0 rfl dX5_series_174 ?_
    refine g_istore C (lv2 := [(7, .int ma), (0, .ref (b 0)), (1, .int v1), (2, .int v2), (3, .int v3), (4, .int v4), (5, .int v5), (6, .int v6)]) rfl (by decide) dX5_series_177 ?_
    refine g_iconst C (v := 0) (by decide) dX5_series_179 ?_
    refine g_istore C (lv2 := [(8, .int 0), (7, .int ma), (0, .ref (b 0)), (1, .int v1), (2, .int v2), (3, .int v3), (4, .int v4), (5, .int v5), (6, .int v6)]) rfl (by decide) dX5_series_180 ?_
    refine g_lv [2, 3, 4, 5, 6, 7, 8, 1, 0] (lv2 := [(0, .ref (b 0)), (1, .int v1), (2, .int v2), (3, .int v3), (4, .int v4), (5, .int v5), (6, .int v6), (7, .int ma), (8, .int 0)]) rfl ?_
    exact w_X5_series_182 (v1 := v1) (v2 := v2) (v3 := v3) (v4 := v4) (v5 := v5) (v6 := v6) (v7 := ma) (thc := g1.2) C hQ FU 0 ma ti sp we ho sa h
  · replace h := (if_neg cd2).symm.trans h
    refine g_iconst C (v := 0) (by decide) dX5_series_171 ?_
    obtain rfl := Option.some.inj h
    exact g_iret C hQ (by dsimp only [gO]) ⟨by decide, by decide⟩ dX5_series_172
set_option maxHeartbeats 4000000 in
set_option maxRecDepth 100000 in
theorem v_X5_series_113 {E : gE} {X : gX} {b : Nat → Nat} {th : Int32} {ma : Int32} {st : Int32} {ti : Nat → Int32} {sp : Nat → Int32} {we : Nat → Int32} {ho : Nat → Int32} {sa : Nat → Int32} {ca : Nat → Int32} {cl : Nat → Int32} {su : Int64} {v1 : Int32} {v2 : Int32} {v3 : Int32} {v4 : Int32} {v5 : Int32} {v6 : Int32} {s1 : Bool} {thc : Int32} {o : (Int32 × Int32 × Int32 × (Nat → Int32) × (Nat → Int32) × (Nat → Int32) × (Nat → Int32) × (Nat → Int32))} (C : Cx E X cX5_series 9 RX5 wsX5_series r_X5_series ((some .int)) []) (hQ : gQ E X (wM E b th ma st ti sp we ho sa ca cl su) r_X5_series (gO (fun u9 => some (.int u9.1)) (fun u9 => (wM E b u9.2.1 u9.2.2.1 st u9.2.2.2.1 u9.2.2.2.2.1 u9.2.2.2.2.2.1 u9.2.2.2.2.2.2.1 u9.2.2.2.2.2.2.2 ca cl su)) (.inr o))) (h : b_X5_series_113 ma ti sp we ho sa cl v1 v2 v3 v4 v5 v6 s1 thc = some o) : Gx E X (wM E b thc ma st ti sp we ho sa ca cl su) 9 [(0, .ref (b 0)), (1, .int v1), (2, .int v2), (3, .int v3), (4, .int v4), (5, .int v5), (6, .int v6)] [.int (bI s1), .ref (b 0)] 113 0 0 := by
  rw [b_X5_series_113] at h
  refine g_iconst C (v := 2) (by decide) dX5_series_113 ?_
  obtain ⟨g1, eg1, h⟩ := Option.bind_eq_some_iff.mp h
  refine g_cVr (As := [.int (bI s1), .int 2]) (n9 := 2) (st := []) (w2 := (wM E b g1.2 ma st ti sp we ho sa ca cl su)) C (c_X5_isThrown E b thc ma st ti sp we ho sa ca cl su s1 2 g1 eg1) gX5_series_X5_isThrown rfl (by decide +kernel) rfl ⟨by decide, by decide, by decide, by decide, Nat.le_of_ble_eq_true rfl⟩ 0 rfl rfl (gSub.idx [0, 1, 2, 3, 4, 5, 6, 7] rfl rfl) rfl dX5_series_114 ?_
  refine g_if_eq C (tgt := 122) dX5_series_117 (by decide) (fun cd2 => ?_) (fun cd2 => ?_)
  · replace h := (if_pos cd2).symm.trans h
    refine g_aload_n C 0 rfl rfl dX5_series_122 ?_
    refine g_iload_n C 2 rfl rfl dX5_series_123 ?_
    refine g_aload_n C 0 rfl rfl dX5_series_124 ?_
    refine g_X5_clock C i_X5_series_X5 m_X5_series_0 0 rfl dX5_series_125 ?_
    refine g_iload_n C 1 rfl rfl dX5_series_128 ?_
    obtain ⟨cd3, h⟩ := ifN h
    refine g_iald C 7 rfl (inB_in cd3) dX5_series_129 ?_
    refine g_icmp_lt C (tgt := 159) dX5_series_130 (by decide) (fun cd4 => ?_) (fun cd4 => ?_)
    · replace h := (if_pos cd4).symm.trans h
      refine g_iconst C (v := 1) (by decide) dX5_series_159 ?_
      refine g_goto C (tgt := 164) dX5_series_160 (by decide) ?_
      exact v_X5_series_164 (v1 := v1) (v2 := v2) (v3 := v3) (v4 := v4) (v5 := v5) (v6 := v6) (s1 := true) (thc := g1.2) C hQ h
    · replace h := (if_neg cd4).symm.trans h
      refine g_aload_n C 0 rfl rfl dX5_series_133 ?_
      refine g_iload_n C 1 rfl rfl dX5_series_134 ?_
      refine g_iconst C (v := 0) (by decide) dX5_series_135 ?_
      obtain ⟨g5, eg5, h⟩ := Option.bind_eq_some_iff.mp h
      refine g_cVr (As := [.int v1, .int 0]) (n9 := 2) (st := [.ref (b 0)]) (w2 := (wM E b g1.2 ma st ti sp we ho sa ca cl su)) C (c_X5_many E b g1.2 ma st ti sp we ho sa ca cl su v1 0 g5 eg5) gX5_series_X5_many rfl (by decide +kernel) rfl ⟨by decide, by decide, by decide, by decide, Nat.le_of_ble_eq_true rfl⟩ 0 rfl rfl (gSub.idx [0, 1, 2, 3, 4, 5, 6, 7] rfl rfl) rfl dX5_series_136 ?_
      refine g_iload C 4 rfl dX5_series_139 ?_
      refine g_iadd C dX5_series_141 ?_
      refine g_bipush C (v := 48) (by decide) dX5_series_142 ?_
      refine g_icmp_gt C (tgt := 159) dX5_series_144 (by decide) (fun cd6 => ?_) (fun cd6 => ?_)
      · replace h := (if_pos cd6).symm.trans h
        refine g_iconst C (v := 1) (by decide) dX5_series_159 ?_
        refine g_goto C (tgt := 164) dX5_series_160 (by decide) ?_
        exact v_X5_series_164 (v1 := v1) (v2 := v2) (v3 := v3) (v4 := v4) (v5 := v5) (v6 := v6) (s1 := true) (thc := g1.2) C hQ h
      · replace h := (if_neg cd6).symm.trans h
        refine g_aload_n C 0 rfl rfl dX5_series_147 ?_
        refine g_X5_made C i_X5_series_X5 m_X5_series_2 0 rfl dX5_series_148 ?_
        refine g_iload C 4 rfl dX5_series_151 ?_
        refine g_iadd C dX5_series_153 ?_
        refine g_bipush C (v := 120) (by decide) dX5_series_154 ?_
        refine g_icmp_le C (tgt := 163) dX5_series_156 (by decide) (fun cd7 => ?_) (fun cd7 => ?_)
        · replace h := (if_pos cd7).symm.trans h
          refine g_iconst C (v := 0) (by decide) dX5_series_163 ?_
          exact v_X5_series_164 (v1 := v1) (v2 := v2) (v3 := v3) (v4 := v4) (v5 := v5) (v6 := v6) (s1 := false) (thc := g1.2) C hQ h
        · replace h := (if_neg cd7).symm.trans h
          refine g_iconst C (v := 1) (by decide) dX5_series_159 ?_
          refine g_goto C (tgt := 164) dX5_series_160 (by decide) ?_
          exact v_X5_series_164 (v1 := v1) (v2 := v2) (v3 := v3) (v4 := v4) (v5 := v5) (v6 := v6) (s1 := true) (thc := g1.2) C hQ h
  · replace h := (if_neg cd2).symm.trans h
    refine g_iconst C (v := 0) (by decide) dX5_series_120 ?_
    obtain rfl := Option.some.inj h
    exact g_iret C hQ (by dsimp only [gO]) ⟨by decide, by decide⟩ dX5_series_121
set_option maxHeartbeats 4000000 in
set_option maxRecDepth 100000 in
theorem v_X5_series_84 {E : gE} {X : gX} {b : Nat → Nat} {th : Int32} {ma : Int32} {st : Int32} {ti : Nat → Int32} {sp : Nat → Int32} {we : Nat → Int32} {ho : Nat → Int32} {sa : Nat → Int32} {ca : Nat → Int32} {cl : Nat → Int32} {su : Int64} {v1 : Int32} {v2 : Int32} {v3 : Int32} {v4 : Int32} {v5 : Int32} {v6 : Int32} {s1 : Bool} {thc : Int32} {o : (Int32 × Int32 × Int32 × (Nat → Int32) × (Nat → Int32) × (Nat → Int32) × (Nat → Int32) × (Nat → Int32))} (C : Cx E X cX5_series 9 RX5 wsX5_series r_X5_series ((some .int)) []) (hQ : gQ E X (wM E b th ma st ti sp we ho sa ca cl su) r_X5_series (gO (fun u9 => some (.int u9.1)) (fun u9 => (wM E b u9.2.1 u9.2.2.1 st u9.2.2.2.1 u9.2.2.2.2.1 u9.2.2.2.2.2.1 u9.2.2.2.2.2.2.1 u9.2.2.2.2.2.2.2 ca cl su)) (.inr o))) (h : b_X5_series_84 ma ti sp we ho sa cl v1 v2 v3 v4 v5 v6 s1 thc = some o) : Gx E X (wM E b thc ma st ti sp we ho sa ca cl su) 9 [(0, .ref (b 0)), (1, .int v1), (2, .int v2), (3, .int v3), (4, .int v4), (5, .int v5), (6, .int v6)] [.int (bI s1), .ref (b 0)] 84 0 0 := by
  rw [b_X5_series_84] at h
  refine g_iconst C (v := 2) (by decide) dX5_series_84 ?_
  obtain ⟨g1, eg1, h⟩ := Option.bind_eq_some_iff.mp h
  refine g_cVr (As := [.int (bI s1), .int 2]) (n9 := 2) (st := []) (w2 := (wM E b g1.2 ma st ti sp we ho sa ca cl su)) C (c_X5_isThrown E b thc ma st ti sp we ho sa ca cl su s1 2 g1 eg1) gX5_series_X5_isThrown rfl (by decide +kernel) rfl ⟨by decide, by decide, by decide, by decide, Nat.le_of_ble_eq_true rfl⟩ 0 rfl rfl (gSub.idx [0, 1, 2, 3, 4, 5, 6, 7] rfl rfl) rfl dX5_series_85 ?_
  refine g_if_eq C (tgt := 93) dX5_series_88 (by decide) (fun cd2 => ?_) (fun cd2 => ?_)
  · replace h := (if_pos cd2).symm.trans h
    refine g_aload_n C 0 rfl rfl dX5_series_93 ?_
    refine g_iload_n C 2 rfl rfl dX5_series_94 ?_
    refine g_iload_n C 3 rfl rfl dX5_series_95 ?_
    refine g_iload C 4 rfl dX5_series_96 ?_
    refine g_iconst C (v := 1) (by decide) dX5_series_98 ?_
    refine g_isub C dX5_series_99 ?_
    refine g_imul C dX5_series_100 ?_
    refine g_iadd C dX5_series_101 ?_
    refine g_sipush C (v := 9999) (by decide) dX5_series_102 ?_
    refine g_icmp_le C (tgt := 112) dX5_series_105 (by decide) (fun cd3 => ?_) (fun cd3 => ?_)
    · replace h := (if_pos cd3).symm.trans h
      refine g_iconst C (v := 0) (by decide) dX5_series_112 ?_
      exact v_X5_series_113 (v1 := v1) (v2 := v2) (v3 := v3) (v4 := v4) (v5 := v5) (v6 := v6) (s1 := false) (thc := g1.2) C hQ h
    · replace h := (if_neg cd3).symm.trans h
      refine g_iconst C (v := 1) (by decide) dX5_series_108 ?_
      refine g_goto C (tgt := 113) dX5_series_109 (by decide) ?_
      exact v_X5_series_113 (v1 := v1) (v2 := v2) (v3 := v3) (v4 := v4) (v5 := v5) (v6 := v6) (s1 := true) (thc := g1.2) C hQ h
  · replace h := (if_neg cd2).symm.trans h
    refine g_iconst C (v := 0) (by decide) dX5_series_91 ?_
    obtain rfl := Option.some.inj h
    exact g_iret C hQ (by dsimp only [gO]) ⟨by decide, by decide⟩ dX5_series_92
set_option maxHeartbeats 4000000 in
set_option maxRecDepth 100000 in
theorem v_X5_series_13 {E : gE} {X : gX} {b : Nat → Nat} {th : Int32} {ma : Int32} {st : Int32} {ti : Nat → Int32} {sp : Nat → Int32} {we : Nat → Int32} {ho : Nat → Int32} {sa : Nat → Int32} {ca : Nat → Int32} {cl : Nat → Int32} {su : Int64} {v1 : Int32} {v2 : Int32} {v3 : Int32} {v4 : Int32} {v5 : Int32} {v6 : Int32} {s1 : Bool} {o : (Int32 × Int32 × Int32 × (Nat → Int32) × (Nat → Int32) × (Nat → Int32) × (Nat → Int32) × (Nat → Int32))} (C : Cx E X cX5_series 9 RX5 wsX5_series r_X5_series ((some .int)) []) (hQ : gQ E X (wM E b th ma st ti sp we ho sa ca cl su) r_X5_series (gO (fun u9 => some (.int u9.1)) (fun u9 => (wM E b u9.2.1 u9.2.2.1 st u9.2.2.2.1 u9.2.2.2.2.1 u9.2.2.2.2.2.1 u9.2.2.2.2.2.2.1 u9.2.2.2.2.2.2.2 ca cl su)) (.inr o))) (h : b_X5_series_13 ma ti sp we ho sa cl v1 v2 v3 v4 v5 v6 s1 = some o) : Gx E X (wM E b th ma st ti sp we ho sa ca cl su) 9 [(0, .ref (b 0)), (1, .int v1), (2, .int v2), (3, .int v3), (4, .int v4), (5, .int v5), (6, .int v6)] [.int (bI s1), .ref (b 0)] 13 0 0 := by
  rw [b_X5_series_13] at h
  refine g_iconst C (v := 1) (by decide) dX5_series_13 ?_
  obtain ⟨g1, eg1, h⟩ := Option.bind_eq_some_iff.mp h
  refine g_cVr (As := [.int (bI s1), .int 1]) (n9 := 2) (st := []) (w2 := (wM E b g1.2 ma st ti sp we ho sa ca cl su)) C (c_X5_isThrown E b th ma st ti sp we ho sa ca cl su s1 1 g1 eg1) gX5_series_X5_isThrown rfl (by decide +kernel) rfl ⟨by decide, by decide, by decide, by decide, Nat.le_of_ble_eq_true rfl⟩ 0 rfl rfl (gSub.idx [0, 1, 2, 3, 4, 5, 6, 7] rfl rfl) rfl dX5_series_14 ?_
  refine g_if_eq C (tgt := 22) dX5_series_17 (by decide) (fun cd2 => ?_) (fun cd2 => ?_)
  · replace h := (if_pos cd2).symm.trans h
    refine g_aload_n C 0 rfl rfl dX5_series_22 ?_
    refine g_iload_n C 3 rfl rfl dX5_series_23 ?_
    refine g_iconst C (v := 0) (by decide) dX5_series_24 ?_
    refine g_sipush C (v := 500) (by decide) dX5_series_25 ?_
    obtain ⟨g3, eg3, h⟩ := Option.bind_eq_some_iff.mp h
    refine g_cSr (As := [.int v3, .int 0, .int 500]) (n9 := 3) (st := [.ref (b 0)]) (w2 := (wM E b g1.2 ma st ti sp we ho sa ca cl su)) C (c_X5_isIn E v3 0 500 g3 eg3) gX5_series_X5_isIn rfl (by decide +kernel) rfl ⟨by decide, by decide, by decide, by decide, Nat.le_of_ble_eq_true rfl⟩ (gSub.idx [] rfl rfl) rfl dX5_series_28 ?_
    refine g_if_eq C (tgt := 79) dX5_series_31 (by decide) (fun cd4 => ?_) (fun cd4 => ?_)
    · replace h := (if_pos cd4).symm.trans h
      refine g_iconst C (v := 1) (by decide) dX5_series_79 ?_
      refine g_goto C (tgt := 84) dX5_series_80 (by decide) ?_
      exact v_X5_series_84 (v1 := v1) (v2 := v2) (v3 := v3) (v4 := v4) (v5 := v5) (v6 := v6) (s1 := true) (thc := g1.2) C hQ h
    · replace h := (if_neg cd4).symm.trans h
      refine g_iload C 4 rfl dX5_series_34 ?_
      refine g_iconst C (v := 1) (by decide) dX5_series_36 ?_
      refine g_bipush C (v := 12) (by decide) dX5_series_37 ?_
      obtain ⟨g5, eg5, h⟩ := Option.bind_eq_some_iff.mp h
      refine g_cSr (As := [.int v4, .int 1, .int 12]) (n9 := 3) (st := [.ref (b 0)]) (w2 := (wM E b g1.2 ma st ti sp we ho sa ca cl su)) C (c_X5_isIn E v4 1 12 g5 eg5) gX5_series_X5_isIn rfl (by decide +kernel) rfl ⟨by decide, by decide, by decide, by decide, Nat.le_of_ble_eq_true rfl⟩ (gSub.idx [] rfl rfl) rfl dX5_series_39 ?_
      refine g_if_eq C (tgt := 79) dX5_series_42 (by decide) (fun cd6 => ?_) (fun cd6 => ?_)
      · replace h := (if_pos cd6).symm.trans h
        refine g_iconst C (v := 1) (by decide) dX5_series_79 ?_
        refine g_goto C (tgt := 84) dX5_series_80 (by decide) ?_
        exact v_X5_series_84 (v1 := v1) (v2 := v2) (v3 := v3) (v4 := v4) (v5 := v5) (v6 := v6) (s1 := true) (thc := g1.2) C hQ h
      · replace h := (if_neg cd6).symm.trans h
        refine g_iload C 5 rfl dX5_series_45 ?_
        refine g_iconst C (v := 0) (by decide) dX5_series_47 ?_
        refine g_sipush C (v := 500) (by decide) dX5_series_48 ?_
        obtain ⟨g7, eg7, h⟩ := Option.bind_eq_some_iff.mp h
        refine g_cSr (As := [.int v5, .int 0, .int 500]) (n9 := 3) (st := [.ref (b 0)]) (w2 := (wM E b g1.2 ma st ti sp we ho sa ca cl su)) C (c_X5_isIn E v5 0 500 g7 eg7) gX5_series_X5_isIn rfl (by decide +kernel) rfl ⟨by decide, by decide, by decide, by decide, Nat.le_of_ble_eq_true rfl⟩ (gSub.idx [] rfl rfl) rfl dX5_series_51 ?_
        refine g_if_eq C (tgt := 79) dX5_series_54 (by decide) (fun cd8 => ?_) (fun cd8 => ?_)
        · replace h := (if_pos cd8).symm.trans h
          refine g_iconst C (v := 1) (by decide) dX5_series_79 ?_
          refine g_goto C (tgt := 84) dX5_series_80 (by decide) ?_
          exact v_X5_series_84 (v1 := v1) (v2 := v2) (v3 := v3) (v4 := v4) (v5 := v5) (v6 := v6) (s1 := true) (thc := g1.2) C hQ h
        · replace h := (if_neg cd8).symm.trans h
          refine g_iload C 6 rfl dX5_series_57 ?_
          refine g_iconst C (v := 1) (by decide) dX5_series_59 ?_
          refine g_bipush C (v := 9) (by decide) dX5_series_60 ?_
          obtain ⟨g9, eg9, h⟩ := Option.bind_eq_some_iff.mp h
          refine g_cSr (As := [.int v6, .int 1, .int 9]) (n9 := 3) (st := [.ref (b 0)]) (w2 := (wM E b g1.2 ma st ti sp we ho sa ca cl su)) C (c_X5_isIn E v6 1 9 g9 eg9) gX5_series_X5_isIn rfl (by decide +kernel) rfl ⟨by decide, by decide, by decide, by decide, Nat.le_of_ble_eq_true rfl⟩ (gSub.idx [] rfl rfl) rfl dX5_series_62 ?_
          refine g_if_eq C (tgt := 79) dX5_series_65 (by decide) (fun cd10 => ?_) (fun cd10 => ?_)
          · replace h := (if_pos cd10).symm.trans h
            refine g_iconst C (v := 1) (by decide) dX5_series_79 ?_
            refine g_goto C (tgt := 84) dX5_series_80 (by decide) ?_
            exact v_X5_series_84 (v1 := v1) (v2 := v2) (v3 := v3) (v4 := v4) (v5 := v5) (v6 := v6) (s1 := true) (thc := g1.2) C hQ h
          · replace h := (if_neg cd10).symm.trans h
            refine g_iload_n C 2 rfl rfl dX5_series_68 ?_
            refine g_iconst C (v := 0) (by decide) dX5_series_69 ?_
            refine g_sipush C (v := 9999) (by decide) dX5_series_70 ?_
            obtain ⟨g11, eg11, h⟩ := Option.bind_eq_some_iff.mp h
            refine g_cSr (As := [.int v2, .int 0, .int 9999]) (n9 := 3) (st := [.ref (b 0)]) (w2 := (wM E b g1.2 ma st ti sp we ho sa ca cl su)) C (c_X5_isIn E v2 0 9999 g11 eg11) gX5_series_X5_isIn rfl (by decide +kernel) rfl ⟨by decide, by decide, by decide, by decide, Nat.le_of_ble_eq_true rfl⟩ (gSub.idx [] rfl rfl) rfl dX5_series_73 ?_
            refine g_if_ne C (tgt := 83) dX5_series_76 (by decide) (fun cd12 => ?_) (fun cd12 => ?_)
            · replace h := (if_neg cd12).symm.trans h
              refine g_iconst C (v := 0) (by decide) dX5_series_83 ?_
              exact v_X5_series_84 (v1 := v1) (v2 := v2) (v3 := v3) (v4 := v4) (v5 := v5) (v6 := v6) (s1 := false) (thc := g1.2) C hQ h
            · replace h := (if_pos cd12).symm.trans h
              refine g_iconst C (v := 1) (by decide) dX5_series_79 ?_
              refine g_goto C (tgt := 84) dX5_series_80 (by decide) ?_
              exact v_X5_series_84 (v1 := v1) (v2 := v2) (v3 := v3) (v4 := v4) (v5 := v5) (v6 := v6) (s1 := true) (thc := g1.2) C hQ h
  · replace h := (if_neg cd2).symm.trans h
    refine g_iconst C (v := 0) (by decide) dX5_series_20 ?_
    obtain rfl := Option.some.inj h
    exact g_iret C hQ (by dsimp only [gO]) ⟨by decide, by decide⟩ dX5_series_21
set_option maxHeartbeats 4000000 in
set_option maxRecDepth 100000 in
theorem c_X5_series (E : gE) (b : Nat → Nat) (th : Int32) (ma : Int32) (st : Int32) (ti : Nat → Int32) (sp : Nat → Int32) (we : Nat → Int32) (ho : Nat → Int32) (sa : Nat → Int32) (ca : Nat → Int32) (cl : Nat → Int32) (su : Int64) (p1 : Int32) (p2 : Int32) (p3 : Int32) (p4 : Int32) (p5 : Int32) (p6 : Int32) (o : (Int32 × Int32 × Int32 × (Nat → Int32) × (Nat → Int32) × (Nat → Int32) × (Nat → Int32) × (Nat → Int32))) (h : f_X5_series ma ti sp we ho sa cl p1 p2 p3 p4 p5 p6 = some o) : Ct E yX5_series wsX5_series r_X5_series [.ref (b 0), .int p1, .int p2, .int p3, .int p4, .int p5, .int p6] (wM E b th ma st ti sp we ho sa ca cl su) (gO (fun u9 => some (.int u9.1)) (fun u9 => (wM E b u9.2.1 u9.2.2.1 st u9.2.2.2.1 u9.2.2.2.2.1 u9.2.2.2.2.2.1 u9.2.2.2.2.2.2.1 u9.2.2.2.2.2.2.2 ca cl su)) (.inr o)) := by
  refine Ct.of (cc := cX5_series) (nL := 9) (ret := ((some .int))) (own := RX5) (by decide) rfl rfl (Nat.le_of_ble_eq_true rfl) rfl ?_ ?_
  · intro v w1 hh
    cases hh; rfl
  · intro X C hQ
    rw [f_X5_series] at h
    refine g_aload_n C 0 rfl rfl dX5_series_0 ?_
    refine g_iload_n C 1 rfl rfl dX5_series_1 ?_
    obtain ⟨g1, eg1, h⟩ := Option.bind_eq_some_iff.mp h
    refine g_cSr (As := [.int p1]) (n9 := 1) (st := [.ref (b 0)]) (w2 := (wM E b th ma st ti sp we ho sa ca cl su)) C (c_X5_isHouse E p1 g1 eg1) gX5_series_X5_isHouse rfl (by decide +kernel) rfl ⟨by decide, by decide, by decide, by decide, Nat.le_of_ble_eq_true rfl⟩ (gSub.idx [] rfl rfl) rfl dX5_series_2 ?_
    refine g_if_ne C (tgt := 12) dX5_series_5 (by decide) (fun cd2 => ?_) (fun cd2 => ?_)
    · replace h := (if_neg cd2).symm.trans h
      refine g_iconst C (v := 0) (by decide) dX5_series_12 ?_
      exact v_X5_series_13 (v1 := p1) (v2 := p2) (v3 := p3) (v4 := p4) (v5 := p5) (v6 := p6) (s1 := false) C hQ h
    · replace h := (if_pos cd2).symm.trans h
      refine g_iconst C (v := 1) (by decide) dX5_series_8 ?_
      refine g_goto C (tgt := 13) dX5_series_9 (by decide) ?_
      exact v_X5_series_13 (v1 := p1) (v2 := p2) (v3 := p3) (v4 := p4) (v5 := p5) (v6 := p6) (s1 := true) C hQ h
abbrev r_X5_callOff : Room := { frames := 2, cells := 0, slots := 0, locals := 42 }
theorem m_X5_callOff_0 : Cond.fieldLink RX5 22 "BookinghouseModel" "state" "[I" ∈ wsX5_callOff := by decide +kernel
theorem i_X5_callOff_X5 : ∀ w ∈ wsX50, w ∈ wsX5_callOff := by decide +kernel
set_option maxHeartbeats 4000000 in
set_option maxRecDepth 100000 in
theorem v_X5_callOff_13 {E : gE} {X : gX} {b : Nat → Nat} {th : Int32} {ma : Int32} {st : Int32} {ti : Nat → Int32} {sp : Nat → Int32} {we : Nat → Int32} {ho : Nat → Int32} {sa : Nat → Int32} {ca : Nat → Int32} {cl : Nat → Int32} {su : Int64} {v1 : Int32} {v2 : Int32} {s1 : Bool} {o : (Bool × Int32 × (Nat → Int32))} (C : Cx E X cX5_callOff 3 RX5 wsX5_callOff r_X5_callOff ((some .boolean)) []) (hQ : gQ E X (wM E b th ma st ti sp we ho sa ca cl su) r_X5_callOff (gO (fun u9 => some (.int (bI u9.1))) (fun u9 => (wM E b u9.2.1 ma st ti sp we ho u9.2.2 ca cl su)) (.inr o))) (h : b_X5_callOff_13 ma ho sa v1 v2 s1 = some o) : Gx E X (wM E b th ma st ti sp we ho sa ca cl su) 3 [(0, .ref (b 0)), (1, .int v1), (2, .int v2)] [.int (bI s1), .ref (b 0)] 13 0 0 := by
  rw [b_X5_callOff_13] at h
  refine g_iconst C (v := 1) (by decide) dX5_callOff_13 ?_
  obtain ⟨g1, eg1, h⟩ := Option.bind_eq_some_iff.mp h
  refine g_cVr (As := [.int (bI s1), .int 1]) (n9 := 2) (st := []) (w2 := (wM E b g1.2 ma st ti sp we ho sa ca cl su)) C (c_X5_isThrown E b th ma st ti sp we ho sa ca cl su s1 1 g1 eg1) gX5_callOff_X5_isThrown rfl (by decide +kernel) rfl ⟨by decide, by decide, by decide, by decide, Nat.le_of_ble_eq_true rfl⟩ 0 rfl rfl (gSub.idx [0, 1, 2, 3, 4, 5, 6, 7] rfl rfl) rfl dX5_callOff_14 ?_
  refine g_if_ne C (tgt := 29) dX5_callOff_17 (by decide) (fun cd2 => ?_) (fun cd2 => ?_)
  · replace h := (if_neg cd2).symm.trans h
    refine g_iconst C (v := 0) (by decide) dX5_callOff_29 ?_
    obtain rfl := Option.some.inj h
    exact g_zret C hQ rfl rfl ⟨by decide, by decide⟩ dX5_callOff_30
  · replace h := (if_pos cd2).symm.trans h
    refine g_aload_n C 0 rfl rfl dX5_callOff_20 ?_
    refine g_iload_n C 1 rfl rfl dX5_callOff_21 ?_
    refine g_iload_n C 2 rfl rfl dX5_callOff_22 ?_
    obtain ⟨g3, eg3, h⟩ := Option.bind_eq_some_iff.mp h
    refine g_cVr (As := [.int v1, .int v2]) (n9 := 2) (st := []) (w2 := (wM E b g1.2 ma st ti sp we ho sa ca cl su)) C (c_X5_isWaiting E b g1.2 ma st ti sp we ho sa ca cl su v1 v2 g3 eg3) gX5_callOff_X5_isWaiting rfl (by decide +kernel) rfl ⟨by decide, by decide, by decide, by decide, Nat.le_of_ble_eq_true rfl⟩ 0 rfl rfl (gSub.idx [0, 1, 2, 3, 4, 5, 6, 7] rfl rfl) rfl dX5_callOff_23 ?_
    refine g_if_ne C (tgt := 31) dX5_callOff_26 (by decide) (fun cd4 => ?_) (fun cd4 => ?_)
    · replace h := (if_neg cd4).symm.trans h
      refine g_aload_n C 0 rfl rfl dX5_callOff_31 ?_
      refine g_X5_state C i_X5_callOff_X5 m_X5_callOff_0 0 rfl dX5_callOff_32 ?_
      refine g_iload_n C 2 rfl rfl dX5_callOff_35 ?_
      refine g_iconst C (v := 2) (by decide) dX5_callOff_36 ?_
      obtain ⟨cd5, h⟩ := ifN h
      refine g_iast C 5 rfl (ws2 := (wM E b g1.2 ma st ti sp we ho (upd sa v2.toNatClampNeg 2) ca cl su)) rfl (inB_in cd5) dX5_callOff_37 ?_
      refine g_iconst C (v := 1) (by decide) dX5_callOff_38 ?_
      obtain rfl := Option.some.inj h
      exact g_zret C hQ rfl rfl ⟨by decide, by decide⟩ dX5_callOff_39
    · replace h := (if_pos cd4).symm.trans h
      refine g_iconst C (v := 0) (by decide) dX5_callOff_29 ?_
      obtain rfl := Option.some.inj h
      exact g_zret C hQ rfl rfl ⟨by decide, by decide⟩ dX5_callOff_30
set_option maxHeartbeats 4000000 in
set_option maxRecDepth 100000 in
theorem c_X5_callOff (E : gE) (b : Nat → Nat) (th : Int32) (ma : Int32) (st : Int32) (ti : Nat → Int32) (sp : Nat → Int32) (we : Nat → Int32) (ho : Nat → Int32) (sa : Nat → Int32) (ca : Nat → Int32) (cl : Nat → Int32) (su : Int64) (p1 : Int32) (p2 : Int32) (o : (Bool × Int32 × (Nat → Int32))) (h : f_X5_callOff ma ho sa p1 p2 = some o) : Ct E yX5_callOff wsX5_callOff r_X5_callOff [.ref (b 0), .int p1, .int p2] (wM E b th ma st ti sp we ho sa ca cl su) (gO (fun u9 => some (.int (bI u9.1))) (fun u9 => (wM E b u9.2.1 ma st ti sp we ho u9.2.2 ca cl su)) (.inr o)) := by
  refine Ct.of (cc := cX5_callOff) (nL := 3) (ret := ((some .boolean))) (own := RX5) (by decide) rfl rfl (Nat.le_of_ble_eq_true rfl) rfl ?_ ?_
  · intro v w1 hh
    cases hh; rfl
  · intro X C hQ
    rw [f_X5_callOff] at h
    refine g_aload_n C 0 rfl rfl dX5_callOff_0 ?_
    refine g_iload_n C 1 rfl rfl dX5_callOff_1 ?_
    obtain ⟨g1, eg1, h⟩ := Option.bind_eq_some_iff.mp h
    refine g_cSr (As := [.int p1]) (n9 := 1) (st := [.ref (b 0)]) (w2 := (wM E b th ma st ti sp we ho sa ca cl su)) C (c_X5_isHouse E p1 g1 eg1) gX5_callOff_X5_isHouse rfl (by decide +kernel) rfl ⟨by decide, by decide, by decide, by decide, Nat.le_of_ble_eq_true rfl⟩ (gSub.idx [] rfl rfl) rfl dX5_callOff_2 ?_
    refine g_if_ne C (tgt := 12) dX5_callOff_5 (by decide) (fun cd2 => ?_) (fun cd2 => ?_)
    · replace h := (if_neg cd2).symm.trans h
      refine g_iconst C (v := 0) (by decide) dX5_callOff_12 ?_
      exact v_X5_callOff_13 (v1 := p1) (v2 := p2) (s1 := false) C hQ h
    · replace h := (if_pos cd2).symm.trans h
      refine g_iconst C (v := 1) (by decide) dX5_callOff_8 ?_
      refine g_goto C (tgt := 13) dX5_callOff_9 (by decide) ?_
      exact v_X5_callOff_13 (v1 := p1) (v2 := p2) (s1 := true) C hQ h
abbrev r_X5_callOffAll : Room := { frames := 2, cells := 0, slots := 0, locals := 42 }
theorem m_X5_callOffAll_0 : Cond.fieldLink RX5 35 "BookinghouseModel" "made" "I" ∈ wsX5_callOffAll := by decide +kernel
theorem i_X5_callOffAll_X5 : ∀ w ∈ wsX50, w ∈ wsX5_callOffAll := by decide +kernel
theorem m_X5_callOffAll_2 : Cond.fieldLink RX5 7 "BookinghouseModel" "time" "[I" ∈ wsX5_callOffAll := by decide +kernel
theorem m_X5_callOffAll_3 : Cond.fieldLink RX5 22 "BookinghouseModel" "state" "[I" ∈ wsX5_callOffAll := by decide +kernel
set_option maxHeartbeats 4000000 in
set_option maxRecDepth 100000 in
theorem w_X5_callOffAll_46 {E : gE} {X : gX} {b : Nat → Nat} {th : Int32} {ma : Int32} {st : Int32} {ti : Nat → Int32} {sp : Nat → Int32} {we : Nat → Int32} {ho : Nat → Int32} {sa : Nat → Int32} {ca : Nat → Int32} {cl : Nat → Int32} {su : Int64} {v1 : Int32} {v2 : Int32} {v3 : Int32} {thc : Int32} {o : (Int32 × Int32 × (Nat → Int32))} (C : Cx E X cX5_callOffAll 6 RX5 wsX5_callOffAll r_X5_callOffAll ((some .int)) []) (hQ : gQ E X (wM E b th ma st ti sp we ho sa ca cl su) r_X5_callOffAll (gO (fun u9 => some (.int u9.1)) (fun u9 => (wM E b u9.2.1 ma st ti sp we ho u9.2.2 ca cl su)) (.inr o))) : ∀ (F : Nat) (v4 : Int32) (v5 : Int32) (sac : Nat → Int32), l_X5_callOffAll_46 ma ti ho v1 v2 v3 thc F v4 v5 sac = some o → Gx E X (wM E b thc ma st ti sp we ho sac ca cl su) 6 [(0, .ref (b 0)), (1, .int v1), (2, .int v2), (3, .int v3), (4, .int v4), (5, .int v5)] [] 46 0 0 := by
  intro F
  induction F with
  | zero => intro v4 v5 sac h; exact absurd h (by simp [l_X5_callOffAll_46])
  | succ F ih =>
    intro v4 v5 sac h
    rw [l_X5_callOffAll_46] at h
    refine g_iload C 5 rfl dX5_callOffAll_46 ?_
    refine g_aload_n C 0 rfl rfl dX5_callOffAll_48 ?_
    refine g_X5_made C i_X5_callOffAll_X5 m_X5_callOffAll_0 0 rfl dX5_callOffAll_49 ?_
    refine g_icmp_ge C (tgt := 104) dX5_callOffAll_52 (by decide) (fun cd1 => ?_) (fun cd1 => ?_)
    · replace h := (if_pos cd1).symm.trans h
      refine g_iload C 4 rfl dX5_callOffAll_104 ?_
      obtain rfl := Option.some.inj h
      exact g_iret C hQ rfl ⟨by decide, by decide⟩ dX5_callOffAll_106
    · replace h := (if_neg cd1).symm.trans h
      refine g_aload_n C 0 rfl rfl dX5_callOffAll_55 ?_
      refine g_iload_n C 1 rfl rfl dX5_callOffAll_56 ?_
      refine g_iload C 5 rfl dX5_callOffAll_57 ?_
      obtain ⟨g2, eg2, h⟩ := Option.bind_eq_some_iff.mp h
      refine g_cVr (As := [.int v1, .int v5]) (n9 := 2) (st := []) (w2 := (wM E b thc ma st ti sp we ho sac ca cl su)) C (c_X5_isWaiting E b thc ma st ti sp we ho sac ca cl su v1 v5 g2 eg2) gX5_callOffAll_X5_isWaiting rfl (by decide +kernel) rfl ⟨by decide, by decide, by decide, by decide, Nat.le_of_ble_eq_true rfl⟩ 0 rfl rfl (gSub.idx [0, 1, 2, 3, 4, 5, 6, 7] rfl rfl) rfl dX5_callOffAll_59 ?_
      refine g_if_eq C (tgt := 98) dX5_callOffAll_62 (by decide) (fun cd3 => ?_) (fun cd3 => ?_)
      · replace h := (if_pos cd3).symm.trans h
        refine g_iinc C (v := v5 + 1) 5 rfl rfl (lv2 := [(5, .int (v5 + 1)), (0, .ref (b 0)), (1, .int v1), (2, .int v2), (3, .int v3), (4, .int v4)]) rfl (by decide) dX5_callOffAll_98 ?_
        refine g_goto C (tgt := 46) dX5_callOffAll_101 (by decide) ?_
        refine g_lv [1, 2, 3, 4, 5, 0] (lv2 := [(0, .ref (b 0)), (1, .int v1), (2, .int v2), (3, .int v3), (4, .int v4), (5, .int (v5 + 1))]) rfl ?_
        exact ih v4 (v5 + 1) sac h
      · replace h := (if_neg cd3).symm.trans h
        refine g_aload_n C 0 rfl rfl dX5_callOffAll_65 ?_
        refine g_X5_time C i_X5_callOffAll_X5 m_X5_callOffAll_2 0 rfl dX5_callOffAll_66 ?_
        refine g_iload C 5 rfl dX5_callOffAll_69 ?_
        obtain ⟨cd4, h⟩ := ifN h
        refine g_iald C 1 rfl (inB_in cd4) dX5_callOffAll_71 ?_
        refine g_iload_n C 2 rfl rfl dX5_callOffAll_72 ?_
        refine g_icmp_lt C (tgt := 98) dX5_callOffAll_73 (by decide) (fun cd5 => ?_) (fun cd5 => ?_)
        · replace h := (if_pos cd5).symm.trans h
          refine g_iinc C (v := v5 + 1) 5 rfl rfl (lv2 := [(5, .int (v5 + 1)), (0, .ref (b 0)), (1, .int v1), (2, .int v2), (3, .int v3), (4, .int v4)]) rfl (by decide) dX5_callOffAll_98 ?_
          refine g_goto C (tgt := 46) dX5_callOffAll_101 (by decide) ?_
          refine g_lv [1, 2, 3, 4, 5, 0] (lv2 := [(0, .ref (b 0)), (1, .int v1), (2, .int v2), (3, .int v3), (4, .int v4), (5, .int (v5 + 1))]) rfl ?_
          exact ih v4 (v5 + 1) sac h
        · replace h := (if_neg cd5).symm.trans h
          refine g_aload_n C 0 rfl rfl dX5_callOffAll_76 ?_
          refine g_X5_time C i_X5_callOffAll_X5 m_X5_callOffAll_2 0 rfl dX5_callOffAll_77 ?_
          refine g_iload C 5 rfl dX5_callOffAll_80 ?_
          obtain ⟨cd6, h⟩ := ifN h
          refine g_iald C 1 rfl (inB_in cd6) dX5_callOffAll_82 ?_
          refine g_iload_n C 3 rfl rfl dX5_callOffAll_83 ?_
          refine g_icmp_ge C (tgt := 98) dX5_callOffAll_84 (by decide) (fun cd7 => ?_) (fun cd7 => ?_)
          · replace h := (if_pos cd7).symm.trans h
            refine g_iinc C (v := v5 + 1) 5 rfl rfl (lv2 := [(5, .int (v5 + 1)), (0, .ref (b 0)), (1, .int v1), (2, .int v2), (3, .int v3), (4, .int v4)]) rfl (by decide) dX5_callOffAll_98 ?_
            refine g_goto C (tgt := 46) dX5_callOffAll_101 (by decide) ?_
            refine g_lv [1, 2, 3, 4, 5, 0] (lv2 := [(0, .ref (b 0)), (1, .int v1), (2, .int v2), (3, .int v3), (4, .int v4), (5, .int (v5 + 1))]) rfl ?_
            exact ih v4 (v5 + 1) sac h
          · replace h := (if_neg cd7).symm.trans h
            refine g_aload_n C 0 rfl rfl dX5_callOffAll_87 ?_
            refine g_X5_state C i_X5_callOffAll_X5 m_X5_callOffAll_3 0 rfl dX5_callOffAll_88 ?_
            refine g_iload C 5 rfl dX5_callOffAll_91 ?_
            refine g_iconst C (v := 2) (by decide) dX5_callOffAll_93 ?_
            obtain ⟨cd8, h⟩ := ifN h
            refine g_iast C 5 rfl (ws2 := (wM E b thc ma st ti sp we ho (upd sac v5.toNatClampNeg 2) ca cl su)) rfl (inB_in cd8) dX5_callOffAll_94 ?_
            refine g_iinc C (v := v4 + 1) 4 rfl rfl (lv2 := [(4, .int (v4 + 1)), (0, .ref (b 0)), (1, .int v1), (2, .int v2), (3, .int v3), (5, .int v5)]) rfl (by decide) dX5_callOffAll_95 ?_
            refine g_iinc C (v := v5 + 1) 5 rfl rfl (lv2 := [(5, .int (v5 + 1)), (4, .int (v4 + 1)), (0, .ref (b 0)), (1, .int v1), (2, .int v2), (3, .int v3)]) rfl (by decide) dX5_callOffAll_98 ?_
            refine g_goto C (tgt := 46) dX5_callOffAll_101 (by decide) ?_
            refine g_lv [2, 3, 4, 5, 1, 0] (lv2 := [(0, .ref (b 0)), (1, .int v1), (2, .int v2), (3, .int v3), (4, .int (v4 + 1)), (5, .int (v5 + 1))]) rfl ?_
            exact ih (v4 + 1) (v5 + 1) (upd sac v5.toNatClampNeg 2) h
set_option maxHeartbeats 4000000 in
set_option maxRecDepth 100000 in
theorem v_X5_callOffAll_31 {E : gE} {X : gX} {b : Nat → Nat} {th : Int32} {ma : Int32} {st : Int32} {ti : Nat → Int32} {sp : Nat → Int32} {we : Nat → Int32} {ho : Nat → Int32} {sa : Nat → Int32} {ca : Nat → Int32} {cl : Nat → Int32} {su : Int64} {v1 : Int32} {v2 : Int32} {v3 : Int32} {s1 : Bool} {thc : Int32} {o : (Int32 × Int32 × (Nat → Int32))} (C : Cx E X cX5_callOffAll 6 RX5 wsX5_callOffAll r_X5_callOffAll ((some .int)) []) (hQ : gQ E X (wM E b th ma st ti sp we ho sa ca cl su) r_X5_callOffAll (gO (fun u9 => some (.int u9.1)) (fun u9 => (wM E b u9.2.1 ma st ti sp we ho u9.2.2 ca cl su)) (.inr o))) (h : b_X5_callOffAll_31 ma ti ho sa v1 v2 v3 s1 thc = some o) : Gx E X (wM E b thc ma st ti sp we ho sa ca cl su) 6 [(0, .ref (b 0)), (1, .int v1), (2, .int v2), (3, .int v3)] [.int (bI s1), .ref (b 0)] 31 0 0 := by
  rw [b_X5_callOffAll_31] at h
  refine g_iconst C (v := 2) (by decide) dX5_callOffAll_31 ?_
  obtain ⟨g1, eg1, h⟩ := Option.bind_eq_some_iff.mp h
  refine g_cVr (As := [.int (bI s1), .int 2]) (n9 := 2) (st := []) (w2 := (wM E b g1.2 ma st ti sp we ho sa ca cl su)) C (c_X5_isThrown E b thc ma st ti sp we ho sa ca cl su s1 2 g1 eg1) gX5_callOffAll_X5_isThrown rfl (by decide +kernel) rfl ⟨by decide, by decide, by decide, by decide, Nat.le_of_ble_eq_true rfl⟩ 0 rfl rfl (gSub.idx [0, 1, 2, 3, 4, 5, 6, 7] rfl rfl) rfl dX5_callOffAll_32 ?_
  refine g_if_eq C (tgt := 40) dX5_callOffAll_35 (by decide) (fun cd2 => ?_) (fun cd2 => ?_)
  · replace h := (if_pos cd2).symm.trans h
    refine g_iconst C (v := 0) (by decide) dX5_callOffAll_40 ?_
    refine g_istore C (lv2 := [(4, .int 0), (0, .ref (b 0)), (1, .int v1), (2, .int v2), (3, .int v3)]) rfl (by decide) dX5_callOffAll_41 ?_
    refine g_iconst C (v := 0) (by decide) dX5_callOffAll_43 ?_
    refine g_istore C (lv2 := [(5, .int 0), (4, .int 0), (0, .ref (b 0)), (1, .int v1), (2, .int v2), (3, .int v3)]) rfl (by decide) dX5_callOffAll_44 ?_
    refine g_lv [2, 3, 4, 5, 1, 0] (lv2 := [(0, .ref (b 0)), (1, .int v1), (2, .int v2), (3, .int v3), (4, .int 0), (5, .int 0)]) rfl ?_
    exact w_X5_callOffAll_46 (v1 := v1) (v2 := v2) (v3 := v3) (thc := g1.2) C hQ FU 0 0 sa h
  · replace h := (if_neg cd2).symm.trans h
    refine g_iconst C (v := 0) (by decide) dX5_callOffAll_38 ?_
    obtain rfl := Option.some.inj h
    exact g_iret C hQ rfl ⟨by decide, by decide⟩ dX5_callOffAll_39
set_option maxHeartbeats 4000000 in
set_option maxRecDepth 100000 in
theorem v_X5_callOffAll_13 {E : gE} {X : gX} {b : Nat → Nat} {th : Int32} {ma : Int32} {st : Int32} {ti : Nat → Int32} {sp : Nat → Int32} {we : Nat → Int32} {ho : Nat → Int32} {sa : Nat → Int32} {ca : Nat → Int32} {cl : Nat → Int32} {su : Int64} {v1 : Int32} {v2 : Int32} {v3 : Int32} {s1 : Bool} {o : (Int32 × Int32 × (Nat → Int32))} (C : Cx E X cX5_callOffAll 6 RX5 wsX5_callOffAll r_X5_callOffAll ((some .int)) []) (hQ : gQ E X (wM E b th ma st ti sp we ho sa ca cl su) r_X5_callOffAll (gO (fun u9 => some (.int u9.1)) (fun u9 => (wM E b u9.2.1 ma st ti sp we ho u9.2.2 ca cl su)) (.inr o))) (h : b_X5_callOffAll_13 ma ti ho sa v1 v2 v3 s1 = some o) : Gx E X (wM E b th ma st ti sp we ho sa ca cl su) 6 [(0, .ref (b 0)), (1, .int v1), (2, .int v2), (3, .int v3)] [.int (bI s1), .ref (b 0)] 13 0 0 := by
  rw [b_X5_callOffAll_13] at h
  refine g_iconst C (v := 1) (by decide) dX5_callOffAll_13 ?_
  obtain ⟨g1, eg1, h⟩ := Option.bind_eq_some_iff.mp h
  refine g_cVr (As := [.int (bI s1), .int 1]) (n9 := 2) (st := []) (w2 := (wM E b g1.2 ma st ti sp we ho sa ca cl su)) C (c_X5_isThrown E b th ma st ti sp we ho sa ca cl su s1 1 g1 eg1) gX5_callOffAll_X5_isThrown rfl (by decide +kernel) rfl ⟨by decide, by decide, by decide, by decide, Nat.le_of_ble_eq_true rfl⟩ 0 rfl rfl (gSub.idx [0, 1, 2, 3, 4, 5, 6, 7] rfl rfl) rfl dX5_callOffAll_14 ?_
  refine g_if_ne C (tgt := 38) dX5_callOffAll_17 (by decide) (fun cd2 => ?_) (fun cd2 => ?_)
  · replace h := (if_neg cd2).symm.trans h
    refine g_iconst C (v := 0) (by decide) dX5_callOffAll_38 ?_
    obtain rfl := Option.some.inj h
    exact g_iret C hQ rfl ⟨by decide, by decide⟩ dX5_callOffAll_39
  · replace h := (if_pos cd2).symm.trans h
    refine g_aload_n C 0 rfl rfl dX5_callOffAll_20 ?_
    refine g_iload_n C 2 rfl rfl dX5_callOffAll_21 ?_
    refine g_iload_n C 3 rfl rfl dX5_callOffAll_22 ?_
    refine g_icmp_le C (tgt := 30) dX5_callOffAll_23 (by decide) (fun cd3 => ?_) (fun cd3 => ?_)
    · replace h := (if_pos cd3).symm.trans h
      refine g_iconst C (v := 0) (by decide) dX5_callOffAll_30 ?_
      exact v_X5_callOffAll_31 (v1 := v1) (v2 := v2) (v3 := v3) (s1 := false) (thc := g1.2) C hQ h
    · replace h := (if_neg cd3).symm.trans h
      refine g_iconst C (v := 1) (by decide) dX5_callOffAll_26 ?_
      refine g_goto C (tgt := 31) dX5_callOffAll_27 (by decide) ?_
      exact v_X5_callOffAll_31 (v1 := v1) (v2 := v2) (v3 := v3) (s1 := true) (thc := g1.2) C hQ h
set_option maxHeartbeats 4000000 in
set_option maxRecDepth 100000 in
theorem c_X5_callOffAll (E : gE) (b : Nat → Nat) (th : Int32) (ma : Int32) (st : Int32) (ti : Nat → Int32) (sp : Nat → Int32) (we : Nat → Int32) (ho : Nat → Int32) (sa : Nat → Int32) (ca : Nat → Int32) (cl : Nat → Int32) (su : Int64) (p1 : Int32) (p2 : Int32) (p3 : Int32) (o : (Int32 × Int32 × (Nat → Int32))) (h : f_X5_callOffAll ma ti ho sa p1 p2 p3 = some o) : Ct E yX5_callOffAll wsX5_callOffAll r_X5_callOffAll [.ref (b 0), .int p1, .int p2, .int p3] (wM E b th ma st ti sp we ho sa ca cl su) (gO (fun u9 => some (.int u9.1)) (fun u9 => (wM E b u9.2.1 ma st ti sp we ho u9.2.2 ca cl su)) (.inr o)) := by
  refine Ct.of (cc := cX5_callOffAll) (nL := 6) (ret := ((some .int))) (own := RX5) (by decide) rfl rfl (Nat.le_of_ble_eq_true rfl) rfl ?_ ?_
  · intro v w1 hh
    cases hh; rfl
  · intro X C hQ
    rw [f_X5_callOffAll] at h
    refine g_aload_n C 0 rfl rfl dX5_callOffAll_0 ?_
    refine g_iload_n C 1 rfl rfl dX5_callOffAll_1 ?_
    obtain ⟨g1, eg1, h⟩ := Option.bind_eq_some_iff.mp h
    refine g_cSr (As := [.int p1]) (n9 := 1) (st := [.ref (b 0)]) (w2 := (wM E b th ma st ti sp we ho sa ca cl su)) C (c_X5_isHouse E p1 g1 eg1) gX5_callOffAll_X5_isHouse rfl (by decide +kernel) rfl ⟨by decide, by decide, by decide, by decide, Nat.le_of_ble_eq_true rfl⟩ (gSub.idx [] rfl rfl) rfl dX5_callOffAll_2 ?_
    refine g_if_ne C (tgt := 12) dX5_callOffAll_5 (by decide) (fun cd2 => ?_) (fun cd2 => ?_)
    · replace h := (if_neg cd2).symm.trans h
      refine g_iconst C (v := 0) (by decide) dX5_callOffAll_12 ?_
      exact v_X5_callOffAll_13 (v1 := p1) (v2 := p2) (v3 := p3) (s1 := false) C hQ h
    · replace h := (if_pos cd2).symm.trans h
      refine g_iconst C (v := 1) (by decide) dX5_callOffAll_8 ?_
      refine g_goto C (tgt := 13) dX5_callOffAll_9 (by decide) ?_
      exact v_X5_callOffAll_13 (v1 := p1) (v2 := p2) (v3 := p3) (s1 := true) C hQ h
abbrev r_X5_put : Room := { frames := 2, cells := 0, slots := 0, locals := 42 }
theorem m_X5_put_0 : Cond.fieldLink RX5 28 "BookinghouseModel" "clock" "[I" ∈ wsX5_put := by decide +kernel
theorem i_X5_put_X5 : ∀ w ∈ wsX50, w ∈ wsX5_put := by decide +kernel
theorem m_X5_put_2 : Cond.fieldLink RX5 7 "BookinghouseModel" "time" "[I" ∈ wsX5_put := by decide +kernel
set_option maxHeartbeats 4000000 in
set_option maxRecDepth 100000 in
theorem v_X5_put_82 {E : gE} {X : gX} {b : Nat → Nat} {th : Int32} {ma : Int32} {st : Int32} {ti : Nat → Int32} {sp : Nat → Int32} {we : Nat → Int32} {ho : Nat → Int32} {sa : Nat → Int32} {ca : Nat → Int32} {cl : Nat → Int32} {su : Int64} {v2 : Int32} {v3 : Int32} {s1 : Bool} {thc : Int32} {o : (Int32 × Int32 × (Nat → Int32))} (C : Cx E X cX5_put 5 RX5 wsX5_put r_X5_put ((some .int)) []) (hQ : gQ E X (wM E b th ma st ti sp we ho sa ca cl su) r_X5_put (gO (fun u9 => some (.int u9.1)) (fun u9 => (wM E b u9.2.1 ma st u9.2.2 sp we ho sa ca cl su)) (.inr o))) (h : b_X5_put_82 ti v2 v3 s1 thc = some o) : Gx E X (wM E b thc ma st ti sp we ho sa ca cl su) 5 [(0, .ref (b 0)), (2, .int v2), (3, .int v3)] [.int (bI s1), .ref (b 0)] 82 0 0 := by
  rw [b_X5_put_82] at h
  refine g_iconst C (v := 4) (by decide) dX5_put_82 ?_
  obtain ⟨g1, eg1, h⟩ := Option.bind_eq_some_iff.mp h
  refine g_cVr (As := [.int (bI s1), .int 4]) (n9 := 2) (st := []) (w2 := (wM E b g1.2 ma st ti sp we ho sa ca cl su)) C (c_X5_isThrown E b thc ma st ti sp we ho sa ca cl su s1 4 g1 eg1) gX5_put_X5_isThrown rfl (by decide +kernel) rfl ⟨by decide, by decide, by decide, by decide, Nat.le_of_ble_eq_true rfl⟩ 0 rfl rfl (gSub.idx [0, 1, 2, 3, 4, 5, 6, 7] rfl rfl) rfl dX5_put_83 ?_
  refine g_if_eq C (tgt := 91) dX5_put_86 (by decide) (fun cd2 => ?_) (fun cd2 => ?_)
  · replace h := (if_pos cd2).symm.trans h
    refine g_aload_n C 0 rfl rfl dX5_put_91 ?_
    refine g_X5_time C i_X5_put_X5 m_X5_put_2 0 rfl dX5_put_92 ?_
    refine g_iload_n C 1 rfl rfl dX5_put_95 ?_
    obtain ⟨cd3, h⟩ := ifN h
    refine g_iald C 1 rfl (inB_in cd3) dX5_put_96 ?_
    refine g_istore C (lv2 := [(4, .int (ti v2.toNatClampNeg)), (0, .ref (b 0)), (2, .int v2), (3, .int v3)]) rfl (by decide) dX5_put_97 ?_
    refine g_aload_n C 1 rfl rfl dX5_put_99 ?_
    refine g_X5_time C i_X5_put_X5 m_X5_put_2 0 rfl dX5_put_100 ?_
    refine g_iload_n C 2 rfl rfl dX5_put_103 ?_
    refine g_iload_n C 3 rfl rfl dX5_put_104 ?_
    obtain ⟨cd4, h⟩ := ifN h
    refine g_iast C 1 rfl (ws2 := (wM E b g1.2 ma st (upd ti v2.toNatClampNeg v3) sp we ho sa ca cl su)) rfl (inB_in cd4) dX5_put_105 ?_
    refine g_iload C 0 rfl dX5_put_106 ?_
    obtain rfl := Option.some.inj h
    exact g_iret C hQ rfl ⟨by decide, by decide⟩ dX5_put_108
  · replace h := (if_neg cd2).symm.trans h
    refine g_iconst C (v := 0) (by decide) dX5_put_89 ?_
    obtain rfl := Option.some.inj h
    exact g_iret C hQ rfl ⟨by decide, by decide⟩ dX5_put_90
set_option maxHeartbeats 4000000 in
set_option maxRecDepth 100000 in
theorem v_X5_put_59 {E : gE} {X : gX} {b : Nat → Nat} {th : Int32} {ma : Int32} {st : Int32} {ti : Nat → Int32} {sp : Nat → Int32} {we : Nat → Int32} {ho : Nat → Int32} {sa : Nat → Int32} {ca : Nat → Int32} {cl : Nat → Int32} {su : Int64} {v1 : Int32} {v2 : Int32} {v3 : Int32} {s1 : Bool} {thc : Int32} {o : (Int32 × Int32 × (Nat → Int32))} (C : Cx E X cX5_put 5 RX5 wsX5_put r_X5_put ((some .int)) []) (hQ : gQ E X (wM E b th ma st ti sp we ho sa ca cl su) r_X5_put (gO (fun u9 => some (.int u9.1)) (fun u9 => (wM E b u9.2.1 ma st u9.2.2 sp we ho sa ca cl su)) (.inr o))) (h : b_X5_put_59 ti cl v1 v2 v3 s1 thc = some o) : Gx E X (wM E b thc ma st ti sp we ho sa ca cl su) 5 [(0, .ref (b 0)), (1, .int v1), (2, .int v2), (3, .int v3)] [.int (bI s1), .ref (b 0)] 59 0 0 := by
  rw [b_X5_put_59] at h
  refine g_iconst C (v := 3) (by decide) dX5_put_59 ?_
  obtain ⟨g1, eg1, h⟩ := Option.bind_eq_some_iff.mp h
  refine g_cVr (As := [.int (bI s1), .int 3]) (n9 := 2) (st := []) (w2 := (wM E b g1.2 ma st ti sp we ho sa ca cl su)) C (c_X5_isThrown E b thc ma st ti sp we ho sa ca cl su s1 3 g1 eg1) gX5_put_X5_isThrown rfl (by decide +kernel) rfl ⟨by decide, by decide, by decide, by decide, Nat.le_of_ble_eq_true rfl⟩ 0 rfl rfl (gSub.idx [0, 1, 2, 3, 4, 5, 6, 7] rfl rfl) rfl dX5_put_60 ?_
  refine g_if_ne C (tgt := 89) dX5_put_63 (by decide) (fun cd2 => ?_) (fun cd2 => ?_)
  · replace h := (if_neg cd2).symm.trans h
    refine g_iconst C (v := 0) (by decide) dX5_put_89 ?_
    obtain rfl := Option.some.inj h
    exact g_iret C hQ rfl ⟨by decide, by decide⟩ dX5_put_90
  · replace h := (if_pos cd2).symm.trans h
    refine g_aload_n C 0 rfl rfl dX5_put_66 ?_
    refine g_iload_n C 3 rfl rfl dX5_put_67 ?_
    refine g_aload_n C 0 rfl rfl dX5_put_68 ?_
    refine g_X5_clock C i_X5_put_X5 m_X5_put_0 0 rfl dX5_put_69 ?_
    refine g_iload_n C 1 rfl rfl dX5_put_72 ?_
    obtain ⟨cd3, h⟩ := ifN h
    refine g_iald C 7 rfl (inB_in cd3) dX5_put_73 ?_
    refine g_icmp_ge C (tgt := 81) dX5_put_74 (by decide) (fun cd4 => ?_) (fun cd4 => ?_)
    · replace h := (if_pos cd4).symm.trans h
      refine g_iconst C (v := 0) (by decide) dX5_put_81 ?_
      refine g_lv [0, 2, 3] (lv2 := [(0, .ref (b 0)), (2, .int v2), (3, .int v3)]) rfl ?_
      exact v_X5_put_82 (v2 := v2) (v3 := v3) (s1 := false) (thc := g1.2) C hQ h
    · replace h := (if_neg cd4).symm.trans h
      refine g_iconst C (v := 1) (by decide) dX5_put_77 ?_
      refine g_goto C (tgt := 82) dX5_put_78 (by decide) ?_
      refine g_lv [0, 2, 3] (lv2 := [(0, .ref (b 0)), (2, .int v2), (3, .int v3)]) rfl ?_
      exact v_X5_put_82 (v2 := v2) (v3 := v3) (s1 := true) (thc := g1.2) C hQ h
set_option maxHeartbeats 4000000 in
set_option maxRecDepth 100000 in
theorem v_X5_put_37 {E : gE} {X : gX} {b : Nat → Nat} {th : Int32} {ma : Int32} {st : Int32} {ti : Nat → Int32} {sp : Nat → Int32} {we : Nat → Int32} {ho : Nat → Int32} {sa : Nat → Int32} {ca : Nat → Int32} {cl : Nat → Int32} {su : Int64} {v1 : Int32} {v2 : Int32} {v3 : Int32} {s1 : Bool} {thc : Int32} {o : (Int32 × Int32 × (Nat → Int32))} (C : Cx E X cX5_put 5 RX5 wsX5_put r_X5_put ((some .int)) []) (hQ : gQ E X (wM E b th ma st ti sp we ho sa ca cl su) r_X5_put (gO (fun u9 => some (.int u9.1)) (fun u9 => (wM E b u9.2.1 ma st u9.2.2 sp we ho sa ca cl su)) (.inr o))) (h : b_X5_put_37 ma ti ho sa cl v1 v2 v3 s1 thc = some o) : Gx E X (wM E b thc ma st ti sp we ho sa ca cl su) 5 [(0, .ref (b 0)), (1, .int v1), (2, .int v2), (3, .int v3)] [.int (bI s1), .ref (b 0)] 37 0 0 := by
  rw [b_X5_put_37] at h
  refine g_iconst C (v := 2) (by decide) dX5_put_37 ?_
  obtain ⟨g1, eg1, h⟩ := Option.bind_eq_some_iff.mp h
  refine g_cVr (As := [.int (bI s1), .int 2]) (n9 := 2) (st := []) (w2 := (wM E b g1.2 ma st ti sp we ho sa ca cl su)) C (c_X5_isThrown E b thc ma st ti sp we ho sa ca cl su s1 2 g1 eg1) gX5_put_X5_isThrown rfl (by decide +kernel) rfl ⟨by decide, by decide, by decide, by decide, Nat.le_of_ble_eq_true rfl⟩ 0 rfl rfl (gSub.idx [0, 1, 2, 3, 4, 5, 6, 7] rfl rfl) rfl dX5_put_38 ?_
  refine g_if_ne C (tgt := 89) dX5_put_41 (by decide) (fun cd2 => ?_) (fun cd2 => ?_)
  · replace h := (if_neg cd2).symm.trans h
    refine g_iconst C (v := 0) (by decide) dX5_put_89 ?_
    obtain rfl := Option.some.inj h
    exact g_iret C hQ rfl ⟨by decide, by decide⟩ dX5_put_90
  · replace h := (if_pos cd2).symm.trans h
    refine g_aload_n C 0 rfl rfl dX5_put_44 ?_
    refine g_aload_n C 0 rfl rfl dX5_put_45 ?_
    refine g_iload_n C 1 rfl rfl dX5_put_46 ?_
    refine g_iload_n C 2 rfl rfl dX5_put_47 ?_
    obtain ⟨g3, eg3, h⟩ := Option.bind_eq_some_iff.mp h
    refine g_cVr (As := [.int v1, .int v2]) (n9 := 2) (st := [.ref (b 0)]) (w2 := (wM E b g1.2 ma st ti sp we ho sa ca cl su)) C (c_X5_isWaiting E b g1.2 ma st ti sp we ho sa ca cl su v1 v2 g3 eg3) gX5_put_X5_isWaiting rfl (by decide +kernel) rfl ⟨by decide, by decide, by decide, by decide, Nat.le_of_ble_eq_true rfl⟩ 0 rfl rfl (gSub.idx [0, 1, 2, 3, 4, 5, 6, 7] rfl rfl) rfl dX5_put_48 ?_
    refine g_if_ne C (tgt := 58) dX5_put_51 (by decide) (fun cd4 => ?_) (fun cd4 => ?_)
    · replace h := (if_neg cd4).symm.trans h
      refine g_iconst C (v := 0) (by decide) dX5_put_58 ?_
      exact v_X5_put_59 (v1 := v1) (v2 := v2) (v3 := v3) (s1 := false) (thc := g1.2) C hQ h
    · replace h := (if_pos cd4).symm.trans h
      refine g_iconst C (v := 1) (by decide) dX5_put_54 ?_
      refine g_goto C (tgt := 59) dX5_put_55 (by decide) ?_
      exact v_X5_put_59 (v1 := v1) (v2 := v2) (v3 := v3) (s1 := true) (thc := g1.2) C hQ h
set_option maxHeartbeats 4000000 in
set_option maxRecDepth 100000 in
theorem v_X5_put_13 {E : gE} {X : gX} {b : Nat → Nat} {th : Int32} {ma : Int32} {st : Int32} {ti : Nat → Int32} {sp : Nat → Int32} {we : Nat → Int32} {ho : Nat → Int32} {sa : Nat → Int32} {ca : Nat → Int32} {cl : Nat → Int32} {su : Int64} {v1 : Int32} {v2 : Int32} {v3 : Int32} {s1 : Bool} {o : (Int32 × Int32 × (Nat → Int32))} (C : Cx E X cX5_put 5 RX5 wsX5_put r_X5_put ((some .int)) []) (hQ : gQ E X (wM E b th ma st ti sp we ho sa ca cl su) r_X5_put (gO (fun u9 => some (.int u9.1)) (fun u9 => (wM E b u9.2.1 ma st u9.2.2 sp we ho sa ca cl su)) (.inr o))) (h : b_X5_put_13 ma ti ho sa cl v1 v2 v3 s1 = some o) : Gx E X (wM E b th ma st ti sp we ho sa ca cl su) 5 [(0, .ref (b 0)), (1, .int v1), (2, .int v2), (3, .int v3)] [.int (bI s1), .ref (b 0)] 13 0 0 := by
  rw [b_X5_put_13] at h
  refine g_iconst C (v := 1) (by decide) dX5_put_13 ?_
  obtain ⟨g1, eg1, h⟩ := Option.bind_eq_some_iff.mp h
  refine g_cVr (As := [.int (bI s1), .int 1]) (n9 := 2) (st := []) (w2 := (wM E b g1.2 ma st ti sp we ho sa ca cl su)) C (c_X5_isThrown E b th ma st ti sp we ho sa ca cl su s1 1 g1 eg1) gX5_put_X5_isThrown rfl (by decide +kernel) rfl ⟨by decide, by decide, by decide, by decide, Nat.le_of_ble_eq_true rfl⟩ 0 rfl rfl (gSub.idx [0, 1, 2, 3, 4, 5, 6, 7] rfl rfl) rfl dX5_put_14 ?_
  refine g_if_ne C (tgt := 89) dX5_put_17 (by decide) (fun cd2 => ?_) (fun cd2 => ?_)
  · replace h := (if_neg cd2).symm.trans h
    refine g_iconst C (v := 0) (by decide) dX5_put_89 ?_
    obtain rfl := Option.some.inj h
    exact g_iret C hQ rfl ⟨by decide, by decide⟩ dX5_put_90
  · replace h := (if_pos cd2).symm.trans h
    refine g_aload_n C 0 rfl rfl dX5_put_20 ?_
    refine g_iload_n C 3 rfl rfl dX5_put_21 ?_
    refine g_iconst C (v := 0) (by decide) dX5_put_22 ?_
    refine g_sipush C (v := 9999) (by decide) dX5_put_23 ?_
    obtain ⟨g3, eg3, h⟩ := Option.bind_eq_some_iff.mp h
    refine g_cSr (As := [.int v3, .int 0, .int 9999]) (n9 := 3) (st := [.ref (b 0)]) (w2 := (wM E b g1.2 ma st ti sp we ho sa ca cl su)) C (c_X5_isIn E v3 0 9999 g3 eg3) gX5_put_X5_isIn rfl (by decide +kernel) rfl ⟨by decide, by decide, by decide, by decide, Nat.le_of_ble_eq_true rfl⟩ (gSub.idx [] rfl rfl) rfl dX5_put_26 ?_
    refine g_if_ne C (tgt := 36) dX5_put_29 (by decide) (fun cd4 => ?_) (fun cd4 => ?_)
    · replace h := (if_neg cd4).symm.trans h
      refine g_iconst C (v := 0) (by decide) dX5_put_36 ?_
      exact v_X5_put_37 (v1 := v1) (v2 := v2) (v3 := v3) (s1 := false) (thc := g1.2) C hQ h
    · replace h := (if_pos cd4).symm.trans h
      refine g_iconst C (v := 1) (by decide) dX5_put_32 ?_
      refine g_goto C (tgt := 37) dX5_put_33 (by decide) ?_
      exact v_X5_put_37 (v1 := v1) (v2 := v2) (v3 := v3) (s1 := true) (thc := g1.2) C hQ h
set_option maxHeartbeats 4000000 in
set_option maxRecDepth 100000 in
theorem c_X5_put (E : gE) (b : Nat → Nat) (th : Int32) (ma : Int32) (st : Int32) (ti : Nat → Int32) (sp : Nat → Int32) (we : Nat → Int32) (ho : Nat → Int32) (sa : Nat → Int32) (ca : Nat → Int32) (cl : Nat → Int32) (su : Int64) (p1 : Int32) (p2 : Int32) (p3 : Int32) (o : (Int32 × Int32 × (Nat → Int32))) (h : f_X5_put ma ti ho sa cl p1 p2 p3 = some o) : Ct E yX5_put wsX5_put r_X5_put [.ref (b 0), .int p1, .int p2, .int p3] (wM E b th ma st ti sp we ho sa ca cl su) (gO (fun u9 => some (.int u9.1)) (fun u9 => (wM E b u9.2.1 ma st u9.2.2 sp we ho sa ca cl su)) (.inr o)) := by
  refine Ct.of (cc := cX5_put) (nL := 5) (ret := ((some .int))) (own := RX5) (by decide) rfl rfl (Nat.le_of_ble_eq_true rfl) rfl ?_ ?_
  · intro v w1 hh
    cases hh; rfl
  · intro X C hQ
    rw [f_X5_put] at h
    refine g_aload_n C 0 rfl rfl dX5_put_0 ?_
    refine g_iload_n C 1 rfl rfl dX5_put_1 ?_
    obtain ⟨g1, eg1, h⟩ := Option.bind_eq_some_iff.mp h
    refine g_cSr (As := [.int p1]) (n9 := 1) (st := [.ref (b 0)]) (w2 := (wM E b th ma st ti sp we ho sa ca cl su)) C (c_X5_isHouse E p1 g1 eg1) gX5_put_X5_isHouse rfl (by decide +kernel) rfl ⟨by decide, by decide, by decide, by decide, Nat.le_of_ble_eq_true rfl⟩ (gSub.idx [] rfl rfl) rfl dX5_put_2 ?_
    refine g_if_ne C (tgt := 12) dX5_put_5 (by decide) (fun cd2 => ?_) (fun cd2 => ?_)
    · replace h := (if_neg cd2).symm.trans h
      refine g_iconst C (v := 0) (by decide) dX5_put_12 ?_
      exact v_X5_put_13 (v1 := p1) (v2 := p2) (v3 := p3) (s1 := false) C hQ h
    · replace h := (if_pos cd2).symm.trans h
      refine g_iconst C (v := 1) (by decide) dX5_put_8 ?_
      refine g_goto C (tgt := 13) dX5_put_9 (by decide) ?_
      exact v_X5_put_13 (v1 := p1) (v2 := p2) (v3 := p3) (s1 := true) C hQ h
abbrev r_X5_moved : Room := { frames := 2, cells := 0, slots := 0, locals := 42 }
theorem m_X5_moved_0 : Cond.fieldLink RX5 35 "BookinghouseModel" "made" "I" ∈ wsX5_moved := by decide +kernel
theorem i_X5_moved_X5 : ∀ w ∈ wsX50, w ∈ wsX5_moved := by decide +kernel
theorem m_X5_moved_2 : Cond.fieldLink RX5 7 "BookinghouseModel" "time" "[I" ∈ wsX5_moved := by decide +kernel
theorem m_X5_moved_3 : Cond.fieldLink RX5 19 "BookinghouseModel" "home" "[I" ∈ wsX5_moved := by decide +kernel
set_option maxHeartbeats 4000000 in
set_option maxRecDepth 100000 in
theorem w_X5_moved_6 {E : gE} {X : gX} {b : Nat → Nat} {th : Int32} {ma : Int32} {st : Int32} {ti : Nat → Int32} {sp : Nat → Int32} {we : Nat → Int32} {ho : Nat → Int32} {sa : Nat → Int32} {ca : Nat → Int32} {cl : Nat → Int32} {su : Int64} {v1 : Int32} {v2 : Int32} {v3 : Int32} {v4 : Int32} {v5 : Bool} {o : (Int32 × (Nat → Int32))} (C : Cx E X cX5_moved 8 RX5 wsX5_moved r_X5_moved ((some .int)) []) (hQ : gQ E X (wM E b th ma st ti sp we ho sa ca cl su) r_X5_moved (gO (fun u9 => some (.int u9.1)) (fun u9 => (wM E b th ma st ti sp we u9.2 sa ca cl su)) (.inr o))) : ∀ (F : Nat) (v6 : Int32) (v7 : Int32) (hoc : Nat → Int32), l_X5_moved_6 ma ti sa v1 v2 v3 v4 v5 F v6 v7 hoc = some o → Gx E X (wM E b th ma st ti sp we hoc sa ca cl su) 8 [(0, .ref (b 0)), (1, .int v1), (2, .int v2), (3, .int v3), (4, .int v4), (5, .int (bI v5)), (6, .int v6), (7, .int v7)] [] 6 0 0 := by
  intro F
  induction F with
  | zero => intro v6 v7 hoc h; exact absurd h (by simp [l_X5_moved_6])
  | succ F ih =>
    intro v6 v7 hoc h
    rw [l_X5_moved_6] at h
    refine g_iload C 7 rfl dX5_moved_6 ?_
    refine g_aload_n C 0 rfl rfl dX5_moved_8 ?_
    refine g_X5_made C i_X5_moved_X5 m_X5_moved_0 0 rfl dX5_moved_9 ?_
    refine g_icmp_ge C (tgt := 74) dX5_moved_12 (by decide) (fun cd1 => ?_) (fun cd1 => ?_)
    · replace h := (if_pos cd1).symm.trans h
      refine g_iload C 6 rfl dX5_moved_74 ?_
      obtain rfl := Option.some.inj h
      exact g_iret C hQ rfl ⟨by decide, by decide⟩ dX5_moved_76
    · replace h := (if_neg cd1).symm.trans h
      refine g_aload_n C 0 rfl rfl dX5_moved_15 ?_
      refine g_iload_n C 1 rfl rfl dX5_moved_16 ?_
      refine g_iload C 7 rfl dX5_moved_17 ?_
      obtain ⟨g2, eg2, h⟩ := Option.bind_eq_some_iff.mp h
      refine g_cVr (As := [.int v1, .int v7]) (n9 := 2) (st := []) (w2 := (wM E b th ma st ti sp we hoc sa ca cl su)) C (c_X5_isWaiting E b th ma st ti sp we hoc sa ca cl su v1 v7 g2 eg2) gX5_moved_X5_isWaiting rfl (by decide +kernel) rfl ⟨by decide, by decide, by decide, by decide, Nat.le_of_ble_eq_true rfl⟩ 0 rfl rfl (gSub.idx [0, 1, 2, 3, 4, 5, 6, 7] rfl rfl) rfl dX5_moved_19 ?_
      refine g_if_eq C (tgt := 68) dX5_moved_22 (by decide) (fun cd3 => ?_) (fun cd3 => ?_)
      · replace h := (if_pos cd3).symm.trans h
        refine g_iinc C (v := v7 + 1) 7 rfl rfl (lv2 := [(7, .int (v7 + 1)), (0, .ref (b 0)), (1, .int v1), (2, .int v2), (3, .int v3), (4, .int v4), (5, .int (bI v5)), (6, .int v6)]) rfl (by decide) dX5_moved_68 ?_
        refine g_goto C (tgt := 6) dX5_moved_71 (by decide) ?_
        refine g_lv [1, 2, 3, 4, 5, 6, 7, 0] (lv2 := [(0, .ref (b 0)), (1, .int v1), (2, .int v2), (3, .int v3), (4, .int v4), (5, .int (bI v5)), (6, .int v6), (7, .int (v7 + 1))]) rfl ?_
        exact ih v6 (v7 + 1) hoc h
      · replace h := (if_neg cd3).symm.trans h
        refine g_aload_n C 0 rfl rfl dX5_moved_25 ?_
        refine g_X5_time C i_X5_moved_X5 m_X5_moved_2 0 rfl dX5_moved_26 ?_
        refine g_iload C 7 rfl dX5_moved_29 ?_
        obtain ⟨cd4, h⟩ := ifN h
        refine g_iald C 1 rfl (inB_in cd4) dX5_moved_31 ?_
        refine g_iload_n C 3 rfl rfl dX5_moved_32 ?_
        refine g_icmp_lt C (tgt := 68) dX5_moved_33 (by decide) (fun cd5 => ?_) (fun cd5 => ?_)
        · replace h := (if_pos cd5).symm.trans h
          refine g_iinc C (v := v7 + 1) 7 rfl rfl (lv2 := [(7, .int (v7 + 1)), (0, .ref (b 0)), (1, .int v1), (2, .int v2), (3, .int v3), (4, .int v4), (5, .int (bI v5)), (6, .int v6)]) rfl (by decide) dX5_moved_68 ?_
          refine g_goto C (tgt := 6) dX5_moved_71 (by decide) ?_
          refine g_lv [1, 2, 3, 4, 5, 6, 7, 0] (lv2 := [(0, .ref (b 0)), (1, .int v1), (2, .int v2), (3, .int v3), (4, .int v4), (5, .int (bI v5)), (6, .int v6), (7, .int (v7 + 1))]) rfl ?_
          exact ih v6 (v7 + 1) hoc h
        · replace h := (if_neg cd5).symm.trans h
          refine g_aload_n C 0 rfl rfl dX5_moved_36 ?_
          refine g_X5_time C i_X5_moved_X5 m_X5_moved_2 0 rfl dX5_moved_37 ?_
          refine g_iload C 7 rfl dX5_moved_40 ?_
          obtain ⟨cd6, h⟩ := ifN h
          refine g_iald C 1 rfl (inB_in cd6) dX5_moved_42 ?_
          refine g_iload C 4 rfl dX5_moved_43 ?_
          refine g_icmp_ge C (tgt := 68) dX5_moved_45 (by decide) (fun cd7 => ?_) (fun cd7 => ?_)
          · replace h := (if_pos cd7).symm.trans h
            refine g_iinc C (v := v7 + 1) 7 rfl rfl (lv2 := [(7, .int (v7 + 1)), (0, .ref (b 0)), (1, .int v1), (2, .int v2), (3, .int v3), (4, .int v4), (5, .int (bI v5)), (6, .int v6)]) rfl (by decide) dX5_moved_68 ?_
            refine g_goto C (tgt := 6) dX5_moved_71 (by decide) ?_
            refine g_lv [1, 2, 3, 4, 5, 6, 7, 0] (lv2 := [(0, .ref (b 0)), (1, .int v1), (2, .int v2), (3, .int v3), (4, .int v4), (5, .int (bI v5)), (6, .int v6), (7, .int (v7 + 1))]) rfl ?_
            exact ih v6 (v7 + 1) hoc h
          · replace h := (if_neg cd7).symm.trans h
            refine g_iinc C (v := v6 + 1) 6 rfl rfl (lv2 := [(6, .int (v6 + 1)), (0, .ref (b 0)), (1, .int v1), (2, .int v2), (3, .int v3), (4, .int v4), (5, .int (bI v5)), (7, .int v7)]) rfl (by decide) dX5_moved_48 ?_
            refine g_aload_n C 1 rfl rfl dX5_moved_51 ?_
            refine g_X5_home C i_X5_moved_X5 m_X5_moved_3 0 rfl dX5_moved_52 ?_
            refine g_iload C 7 rfl dX5_moved_55 ?_
            refine g_iload C 6 rfl dX5_moved_57 ?_
            refine g_if_eq C (tgt := 66) dX5_moved_59 (by decide) (fun cd8 => ?_) (fun cd8 => ?_)
            · replace h := (if_pos cd8).symm.trans h
              refine g_iload_n C 2 rfl rfl dX5_moved_66 ?_
              obtain ⟨cd9, h⟩ := ifN h
              refine g_iast C 4 rfl (ws2 := (wM E b th ma st ti sp we (upd hoc v7.toNatClampNeg v1) sa ca cl su)) rfl (inB_in cd9) dX5_moved_67 ?_
              refine g_iinc C (v := v7 + 1) 7 rfl rfl (lv2 := [(7, .int (v7 + 1)), (6, .int (v6 + 1)), (0, .ref (b 0)), (1, .int v1), (2, .int v2), (3, .int v3), (4, .int v4), (5, .int (bI v5))]) rfl (by decide) dX5_moved_68 ?_
              refine g_goto C (tgt := 6) dX5_moved_71 (by decide) ?_
              refine g_lv [2, 3, 4, 5, 6, 7, 1, 0] (lv2 := [(0, .ref (b 0)), (1, .int v1), (2, .int v2), (3, .int v3), (4, .int v4), (5, .int (bI v5)), (6, .int (v6 + 1)), (7, .int (v7 + 1))]) rfl ?_
              exact ih (v6 + 1) (v7 + 1) (upd hoc v7.toNatClampNeg v1) h
            · replace h := (if_neg cd8).symm.trans h
              refine g_iload_n C 3 rfl rfl dX5_moved_62 ?_
              refine g_goto C (tgt := 67) dX5_moved_63 (by decide) ?_
              obtain ⟨cd10, h⟩ := ifN h
              refine g_iast C 4 rfl (ws2 := (wM E b th ma st ti sp we (upd hoc v7.toNatClampNeg v2) sa ca cl su)) rfl (inB_in cd10) dX5_moved_67 ?_
              refine g_iinc C (v := v7 + 1) 7 rfl rfl (lv2 := [(7, .int (v7 + 1)), (6, .int (v6 + 1)), (0, .ref (b 0)), (1, .int v1), (2, .int v2), (3, .int v3), (4, .int v4), (5, .int (bI v5))]) rfl (by decide) dX5_moved_68 ?_
              refine g_goto C (tgt := 6) dX5_moved_71 (by decide) ?_
              refine g_lv [2, 3, 4, 5, 6, 7, 1, 0] (lv2 := [(0, .ref (b 0)), (1, .int v1), (2, .int v2), (3, .int v3), (4, .int v4), (5, .int (bI v5)), (6, .int (v6 + 1)), (7, .int (v7 + 1))]) rfl ?_
              exact ih (v6 + 1) (v7 + 1) (upd hoc v7.toNatClampNeg v2) h
set_option maxHeartbeats 4000000 in
set_option maxRecDepth 100000 in
theorem c_X5_moved (E : gE) (b : Nat → Nat) (th : Int32) (ma : Int32) (st : Int32) (ti : Nat → Int32) (sp : Nat → Int32) (we : Nat → Int32) (ho : Nat → Int32) (sa : Nat → Int32) (ca : Nat → Int32) (cl : Nat → Int32) (su : Int64) (p1 : Int32) (p2 : Int32) (p3 : Int32) (p4 : Int32) (p5 : Bool) (o : (Int32 × (Nat → Int32))) (h : f_X5_moved ma ti ho sa p1 p2 p3 p4 p5 = some o) : Ct E yX5_moved wsX5_moved r_X5_moved [.ref (b 0), .int p1, .int p2, .int p3, .int p4, .int (bI p5)] (wM E b th ma st ti sp we ho sa ca cl su) (gO (fun u9 => some (.int u9.1)) (fun u9 => (wM E b th ma st ti sp we u9.2 sa ca cl su)) (.inr o)) := by
  refine Ct.of (cc := cX5_moved) (nL := 8) (ret := ((some .int))) (own := RX5) (by decide) rfl rfl (Nat.le_of_ble_eq_true rfl) rfl ?_ ?_
  · intro v w1 hh
    cases hh; rfl
  · intro X C hQ
    rw [f_X5_moved] at h
    refine g_iconst C (v := 0) (by decide) dX5_moved_0 ?_
    refine g_istore C (lv2 := [(6, .int 0), (0, .ref (b 0)), (1, .int p1), (2, .int p2), (3, .int p3), (4, .int p4), (5, .int (bI p5))]) rfl (by decide) dX5_moved_1 ?_
    refine g_iconst C (v := 0) (by decide) dX5_moved_3 ?_
    refine g_istore C (lv2 := [(7, .int 0), (6, .int 0), (0, .ref (b 0)), (1, .int p1), (2, .int p2), (3, .int p3), (4, .int p4), (5, .int (bI p5))]) rfl (by decide) dX5_moved_4 ?_
    refine g_lv [2, 3, 4, 5, 6, 7, 1, 0] (lv2 := [(0, .ref (b 0)), (1, .int p1), (2, .int p2), (3, .int p3), (4, .int p4), (5, .int (bI p5)), (6, .int 0), (7, .int 0)]) rfl ?_
    exact w_X5_moved_6 (v1 := p1) (v2 := p2) (v3 := p3) (v4 := p4) (v5 := p5) C hQ FU 0 0 ho h
abbrev r_X5_goes : Room := { frames := 3, cells := 0, slots := 0, locals := 69 }
theorem m_X5_goes_0 : Cond.fieldLink RX5 28 "BookinghouseModel" "clock" "[I" ∈ wsX5_goes := by decide +kernel
theorem i_X5_goes_X5 : ∀ w ∈ wsX50, w ∈ wsX5_goes := by decide +kernel
theorem m_X5_goes_2 : Cond.constant RX5 72 100000 ∈ wsX5_goes := by decide +kernel
set_option maxHeartbeats 4000000 in
set_option maxRecDepth 100000 in
theorem v_X5_goes_49 {E : gE} {X : gX} {b : Nat → Nat} {th : Int32} {ma : Int32} {st : Int32} {ti : Nat → Int32} {sp : Nat → Int32} {we : Nat → Int32} {ho : Nat → Int32} {sa : Nat → Int32} {ca : Nat → Int32} {cl : Nat → Int32} {su : Int64} {v1 : Int32} {v2 : Int32} {v3 : Int32} {s0 : Bool} {hoc : Nat → Int32} {o : (Int32 × Int32 × (Nat → Int32))} (C : Cx E X cX5_goes 5 RX5 wsX5_goes r_X5_goes ((some .int)) []) (hQ : gQ E X (wM E b th ma st ti sp we ho sa ca cl su) r_X5_goes (gO (fun u9 => some (.int u9.1)) (fun u9 => (wM E b u9.2.1 ma st ti sp we u9.2.2 sa ca cl su)) (.inr o))) (h : b_X5_goes_49 ma ti sa v1 v2 v3 s0 hoc = some o) : Gx E X (wM E b th ma st ti sp we hoc sa ca cl su) 5 [(0, .ref (b 0)), (1, .int v1), (2, .int v2), (3, .int v3)] [.int (bI s0)] 49 0 0 := by
  rw [b_X5_goes_49] at h
  refine g_istore C (lv2 := [(4, .int (bI s0)), (0, .ref (b 0)), (1, .int v1), (2, .int v2), (3, .int v3)]) rfl (by decide) dX5_goes_49 ?_
  refine g_aload_n C 1 rfl rfl dX5_goes_51 ?_
  refine g_iload C 0 rfl dX5_goes_52 ?_
  refine g_iconst C (v := 2) (by decide) dX5_goes_54 ?_
  obtain ⟨g1, eg1, h⟩ := Option.bind_eq_some_iff.mp h
  refine g_cVr (As := [.int (bI s0), .int 2]) (n9 := 2) (st := []) (w2 := (wM E b g1.2 ma st ti sp we hoc sa ca cl su)) C (c_X5_isThrown E b th ma st ti sp we hoc sa ca cl su s0 2 g1 eg1) gX5_goes_X5_isThrown rfl (by decide +kernel) rfl ⟨by decide, by decide, by decide, by decide, Nat.le_of_ble_eq_true rfl⟩ 0 rfl rfl (gSub.idx [0, 1, 2, 3, 4, 5, 6, 7] rfl rfl) rfl dX5_goes_55 ?_
  refine g_if_eq C (tgt := 65) dX5_goes_58 (by decide) (fun cd2 => ?_) (fun cd2 => ?_)
  · replace h := (if_pos cd2).symm.trans h
    refine g_aload_n C 1 rfl rfl dX5_goes_65 ?_
    refine g_iload_n C 2 rfl rfl dX5_goes_66 ?_
    refine g_iload_n C 3 rfl rfl dX5_goes_67 ?_
    refine g_iload_n C 4 rfl rfl dX5_goes_68 ?_
    refine g_ldc C (v := 100000) m_X5_goes_2 dX5_goes_69 ?_
    refine g_iconst C (v := 1) (by decide) dX5_goes_71 ?_
    obtain ⟨g3, eg3, h⟩ := Option.bind_eq_some_iff.mp h
    refine g_cVr (As := [.int v1, .int v2, .int v3, .int 100000, .int 1]) (n9 := 5) (st := []) (w2 := (wM E b g1.2 ma st ti sp we g3.2 sa ca cl su)) C (c_X5_moved E b g1.2 ma st ti sp we hoc sa ca cl su v1 v2 v3 100000 true g3 eg3) gX5_goes_X5_moved rfl (by decide +kernel) rfl ⟨by decide, by decide, by decide, by decide, Nat.le_of_ble_eq_true rfl⟩ 0 rfl rfl (gSub.idx [0, 1, 2, 3, 4, 5, 6, 7] rfl rfl) rfl dX5_goes_72 ?_
    obtain rfl := Option.some.inj h
    exact g_iret C hQ rfl ⟨by decide, by decide⟩ dX5_goes_75
  · replace h := (if_neg cd2).symm.trans h
    refine g_iconst C (v := 0) (by decide) dX5_goes_61 ?_
    refine g_goto C (tgt := 75) dX5_goes_62 (by decide) ?_
    obtain rfl := Option.some.inj h
    exact g_iret C hQ rfl ⟨by decide, by decide⟩ dX5_goes_75
set_option maxHeartbeats 4000000 in
set_option maxRecDepth 100000 in
theorem c_X5_goes (E : gE) (b : Nat → Nat) (th : Int32) (ma : Int32) (st : Int32) (ti : Nat → Int32) (sp : Nat → Int32) (we : Nat → Int32) (ho : Nat → Int32) (sa : Nat → Int32) (ca : Nat → Int32) (cl : Nat → Int32) (su : Int64) (p1 : Int32) (p2 : Int32) (p3 : Int32) (o : (Int32 × Int32 × (Nat → Int32))) (h : f_X5_goes ma ti ho sa cl p1 p2 p3 = some o) : Ct E yX5_goes wsX5_goes r_X5_goes [.ref (b 0), .int p1, .int p2, .int p3] (wM E b th ma st ti sp we ho sa ca cl su) (gO (fun u9 => some (.int u9.1)) (fun u9 => (wM E b u9.2.1 ma st ti sp we u9.2.2 sa ca cl su)) (.inr o)) := by
  refine Ct.of (cc := cX5_goes) (nL := 5) (ret := ((some .int))) (own := RX5) (by decide) rfl rfl (Nat.le_of_ble_eq_true rfl) rfl ?_ ?_
  · intro v w1 hh
    cases hh; rfl
  · intro X C hQ
    rw [f_X5_goes] at h
    refine g_iload_n C 1 rfl rfl dX5_goes_0 ?_
    refine g_iload_n C 2 rfl rfl dX5_goes_1 ?_
    refine g_icmp_eq C (tgt := 44) dX5_goes_2 (by decide) (fun cd1 => ?_) (fun cd1 => ?_)
    · replace h := (if_pos cd1).symm.trans h
      refine g_iconst C (v := 1) (by decide) dX5_goes_44 ?_
      refine g_goto C (tgt := 49) dX5_goes_45 (by decide) ?_
      exact v_X5_goes_49 (v1 := p1) (v2 := p2) (v3 := p3) (s0 := true) (hoc := ho) C hQ h
    · replace h := (if_neg cd1).symm.trans h
      refine g_aload_n C 0 rfl rfl dX5_goes_5 ?_
      refine g_iload_n C 1 rfl rfl dX5_goes_6 ?_
      refine g_iload_n C 2 rfl rfl dX5_goes_7 ?_
      refine g_iload_n C 3 rfl rfl dX5_goes_8 ?_
      refine g_aload_n C 0 rfl rfl dX5_goes_9 ?_
      refine g_X5_clock C i_X5_goes_X5 m_X5_goes_0 0 rfl dX5_goes_10 ?_
      refine g_iload_n C 2 rfl rfl dX5_goes_13 ?_
      obtain ⟨cd2, h⟩ := ifN h
      refine g_iald C 7 rfl (inB_in cd2) dX5_goes_14 ?_
      refine g_iconst C (v := 0) (by decide) dX5_goes_15 ?_
      obtain ⟨g3, eg3, h⟩ := Option.bind_eq_some_iff.mp h
      refine g_cVr (As := [.int p1, .int p2, .int p3, .int (cl p2.toNatClampNeg), .int 0]) (n9 := 5) (st := []) (w2 := (wM E b th ma st ti sp we g3.2 sa ca cl su)) C (c_X5_moved E b th ma st ti sp we ho sa ca cl su p1 p2 p3 (cl p2.toNatClampNeg) false g3 eg3) gX5_goes_X5_moved rfl (by decide +kernel) rfl ⟨by decide, by decide, by decide, by decide, Nat.le_of_ble_eq_true rfl⟩ 0 rfl rfl (gSub.idx [0, 1, 2, 3, 4, 5, 6, 7] rfl rfl) rfl dX5_goes_16 ?_
      refine g_if_gt C (tgt := 44) dX5_goes_19 (by decide) (fun cd4 => ?_) (fun cd4 => ?_)
      · replace h := (if_pos cd4).symm.trans h
        refine g_iconst C (v := 1) (by decide) dX5_goes_44 ?_
        refine g_goto C (tgt := 49) dX5_goes_45 (by decide) ?_
        exact v_X5_goes_49 (v1 := p1) (v2 := p2) (v3 := p3) (s0 := true) (hoc := g3.2) C hQ h
      · replace h := (if_neg cd4).symm.trans h
        refine g_aload_n C 0 rfl rfl dX5_goes_22 ?_
        refine g_iload_n C 2 rfl rfl dX5_goes_23 ?_
        refine g_iconst C (v := 0) (by decide) dX5_goes_24 ?_
        obtain ⟨g5, eg5, h⟩ := Option.bind_eq_some_iff.mp h
        refine g_cVr (As := [.int p2, .int 0]) (n9 := 2) (st := []) (w2 := (wM E b th ma st ti sp we g3.2 sa ca cl su)) C (c_X5_many E b th ma st ti sp we g3.2 sa ca cl su p2 0 g5 eg5) gX5_goes_X5_many rfl (by decide +kernel) rfl ⟨by decide, by decide, by decide, by decide, Nat.le_of_ble_eq_true rfl⟩ 0 rfl rfl (gSub.idx [0, 1, 2, 3, 4, 5, 6, 7] rfl rfl) rfl dX5_goes_25 ?_
        refine g_aload_n C 0 rfl rfl dX5_goes_28 ?_
        refine g_iload_n C 1 rfl rfl dX5_goes_29 ?_
        refine g_iload_n C 2 rfl rfl dX5_goes_30 ?_
        refine g_iload_n C 3 rfl rfl dX5_goes_31 ?_
        refine g_ldc C (v := 100000) m_X5_goes_2 dX5_goes_32 ?_
        refine g_iconst C (v := 0) (by decide) dX5_goes_34 ?_
        obtain ⟨g6, eg6, h⟩ := Option.bind_eq_some_iff.mp h
        refine g_cVr (As := [.int p1, .int p2, .int p3, .int 100000, .int 0]) (n9 := 5) (st := [.int g5]) (w2 := (wM E b th ma st ti sp we g6.2 sa ca cl su)) C (c_X5_moved E b th ma st ti sp we g3.2 sa ca cl su p1 p2 p3 100000 false g6 eg6) gX5_goes_X5_moved rfl (by decide +kernel) rfl ⟨by decide, by decide, by decide, by decide, Nat.le_of_ble_eq_true rfl⟩ 0 rfl rfl (gSub.idx [0, 1, 2, 3, 4, 5, 6, 7] rfl rfl) rfl dX5_goes_35 ?_
        refine g_iadd C dX5_goes_38 ?_
        refine g_bipush C (v := 48) (by decide) dX5_goes_39 ?_
        refine g_icmp_le C (tgt := 48) dX5_goes_41 (by decide) (fun cd7 => ?_) (fun cd7 => ?_)
        · replace h := (if_pos cd7).symm.trans h
          refine g_iconst C (v := 0) (by decide) dX5_goes_48 ?_
          exact v_X5_goes_49 (v1 := p1) (v2 := p2) (v3 := p3) (s0 := false) (hoc := g6.2) C hQ h
        · replace h := (if_neg cd7).symm.trans h
          refine g_iconst C (v := 1) (by decide) dX5_goes_44 ?_
          refine g_goto C (tgt := 49) dX5_goes_45 (by decide) ?_
          exact v_X5_goes_49 (v1 := p1) (v2 := p2) (v3 := p3) (s0 := true) (hoc := g6.2) C hQ h
abbrev r_X5_join : Room := { frames := 4, cells := 0, slots := 0, locals := 93 }
set_option maxHeartbeats 4000000 in
set_option maxRecDepth 100000 in
theorem v_X5_join_20 {E : gE} {X : gX} {b : Nat → Nat} {th : Int32} {ma : Int32} {st : Int32} {ti : Nat → Int32} {sp : Nat → Int32} {we : Nat → Int32} {ho : Nat → Int32} {sa : Nat → Int32} {ca : Nat → Int32} {cl : Nat → Int32} {su : Int64} {v1 : Int32} {v2 : Int32} {s1 : Bool} {o : (Int32 × Int32 × (Nat → Int32))} (C : Cx E X cX5_join 3 RX5 wsX5_join r_X5_join ((some .int)) []) (hQ : gQ E X (wM E b th ma st ti sp we ho sa ca cl su) r_X5_join (gO (fun u9 => some (.int u9.1)) (fun u9 => (wM E b u9.2.1 ma st ti sp we u9.2.2 sa ca cl su)) (.inr o))) (h : b_X5_join_20 ma ti ho sa cl v1 v2 s1 = some o) : Gx E X (wM E b th ma st ti sp we ho sa ca cl su) 3 [(0, .ref (b 0)), (1, .int v1), (2, .int v2)] [.int (bI s1), .ref (b 0)] 20 0 0 := by
  rw [b_X5_join_20] at h
  refine g_iconst C (v := 1) (by decide) dX5_join_20 ?_
  obtain ⟨g1, eg1, h⟩ := Option.bind_eq_some_iff.mp h
  refine g_cVr (As := [.int (bI s1), .int 1]) (n9 := 2) (st := []) (w2 := (wM E b g1.2 ma st ti sp we ho sa ca cl su)) C (c_X5_isThrown E b th ma st ti sp we ho sa ca cl su s1 1 g1 eg1) gX5_join_X5_isThrown rfl (by decide +kernel) rfl ⟨by decide, by decide, by decide, by decide, Nat.le_of_ble_eq_true rfl⟩ 0 rfl rfl (gSub.idx [0, 1, 2, 3, 4, 5, 6, 7] rfl rfl) rfl dX5_join_21 ?_
  refine g_if_eq C (tgt := 31) dX5_join_24 (by decide) (fun cd2 => ?_) (fun cd2 => ?_)
  · replace h := (if_pos cd2).symm.trans h
    refine g_aload_n C 0 rfl rfl dX5_join_31 ?_
    refine g_iload_n C 2 rfl rfl dX5_join_32 ?_
    refine g_iload_n C 1 rfl rfl dX5_join_33 ?_
    refine g_iconst C (v := 0) (by decide) dX5_join_34 ?_
    obtain ⟨g3, eg3, h⟩ := Option.bind_eq_some_iff.mp h
    refine g_cVr (As := [.int v2, .int v1, .int 0]) (n9 := 3) (st := []) (w2 := (wM E b g3.2.1 ma st ti sp we g3.2.2 sa ca cl su)) C (c_X5_goes E b g1.2 ma st ti sp we ho sa ca cl su v2 v1 0 g3 eg3) gX5_join_X5_goes rfl (by decide +kernel) rfl ⟨by decide, by decide, by decide, by decide, Nat.le_of_ble_eq_true rfl⟩ 0 rfl rfl (gSub.idx [0, 1, 2, 3, 4, 5, 6, 7] rfl rfl) rfl dX5_join_35 ?_
    obtain rfl := Option.some.inj h
    exact g_iret C hQ rfl ⟨by decide, by decide⟩ dX5_join_38
  · replace h := (if_neg cd2).symm.trans h
    refine g_iconst C (v := 0) (by decide) dX5_join_27 ?_
    refine g_goto C (tgt := 38) dX5_join_28 (by decide) ?_
    obtain rfl := Option.some.inj h
    exact g_iret C hQ rfl ⟨by decide, by decide⟩ dX5_join_38
set_option maxHeartbeats 4000000 in
set_option maxRecDepth 100000 in
theorem c_X5_join (E : gE) (b : Nat → Nat) (th : Int32) (ma : Int32) (st : Int32) (ti : Nat → Int32) (sp : Nat → Int32) (we : Nat → Int32) (ho : Nat → Int32) (sa : Nat → Int32) (ca : Nat → Int32) (cl : Nat → Int32) (su : Int64) (p1 : Int32) (p2 : Int32) (o : (Int32 × Int32 × (Nat → Int32))) (h : f_X5_join ma ti ho sa cl p1 p2 = some o) : Ct E yX5_join wsX5_join r_X5_join [.ref (b 0), .int p1, .int p2] (wM E b th ma st ti sp we ho sa ca cl su) (gO (fun u9 => some (.int u9.1)) (fun u9 => (wM E b u9.2.1 ma st ti sp we u9.2.2 sa ca cl su)) (.inr o)) := by
  refine Ct.of (cc := cX5_join) (nL := 3) (ret := ((some .int))) (own := RX5) (by decide) rfl rfl (Nat.le_of_ble_eq_true rfl) rfl ?_ ?_
  · intro v w1 hh
    cases hh; rfl
  · intro X C hQ
    rw [f_X5_join] at h
    refine g_aload_n C 0 rfl rfl dX5_join_0 ?_
    refine g_iload_n C 1 rfl rfl dX5_join_1 ?_
    obtain ⟨g1, eg1, h⟩ := Option.bind_eq_some_iff.mp h
    refine g_cSr (As := [.int p1]) (n9 := 1) (st := [.ref (b 0)]) (w2 := (wM E b th ma st ti sp we ho sa ca cl su)) C (c_X5_isHouse E p1 g1 eg1) gX5_join_X5_isHouse rfl (by decide +kernel) rfl ⟨by decide, by decide, by decide, by decide, Nat.le_of_ble_eq_true rfl⟩ (gSub.idx [] rfl rfl) rfl dX5_join_2 ?_
    refine g_if_eq C (tgt := 15) dX5_join_5 (by decide) (fun cd2 => ?_) (fun cd2 => ?_)
    · replace h := (if_pos cd2).symm.trans h
      refine g_iconst C (v := 1) (by decide) dX5_join_15 ?_
      refine g_goto C (tgt := 20) dX5_join_16 (by decide) ?_
      exact v_X5_join_20 (v1 := p1) (v2 := p2) (s1 := true) C hQ h
    · replace h := (if_neg cd2).symm.trans h
      refine g_iload_n C 2 rfl rfl dX5_join_8 ?_
      obtain ⟨g3, eg3, h⟩ := Option.bind_eq_some_iff.mp h
      refine g_cSr (As := [.int p2]) (n9 := 1) (st := [.ref (b 0)]) (w2 := (wM E b th ma st ti sp we ho sa ca cl su)) C (c_X5_isHouse E p2 g3 eg3) gX5_join_X5_isHouse rfl (by decide +kernel) rfl ⟨by decide, by decide, by decide, by decide, Nat.le_of_ble_eq_true rfl⟩ (gSub.idx [] rfl rfl) rfl dX5_join_9 ?_
      refine g_if_ne C (tgt := 19) dX5_join_12 (by decide) (fun cd4 => ?_) (fun cd4 => ?_)
      · replace h := (if_neg cd4).symm.trans h
        refine g_iconst C (v := 0) (by decide) dX5_join_19 ?_
        exact v_X5_join_20 (v1 := p1) (v2 := p2) (s1 := false) C hQ h
      · replace h := (if_pos cd4).symm.trans h
        refine g_iconst C (v := 1) (by decide) dX5_join_15 ?_
        refine g_goto C (tgt := 20) dX5_join_16 (by decide) ?_
        exact v_X5_join_20 (v1 := p1) (v2 := p2) (s1 := true) C hQ h
abbrev r_X5_part : Room := { frames := 4, cells := 0, slots := 0, locals := 93 }
set_option maxHeartbeats 4000000 in
set_option maxRecDepth 100000 in
theorem v_X5_part_20 {E : gE} {X : gX} {b : Nat → Nat} {th : Int32} {ma : Int32} {st : Int32} {ti : Nat → Int32} {sp : Nat → Int32} {we : Nat → Int32} {ho : Nat → Int32} {sa : Nat → Int32} {ca : Nat → Int32} {cl : Nat → Int32} {su : Int64} {v1 : Int32} {v2 : Int32} {v3 : Int32} {s1 : Bool} {o : (Int32 × Int32 × (Nat → Int32))} (C : Cx E X cX5_part 4 RX5 wsX5_part r_X5_part ((some .int)) []) (hQ : gQ E X (wM E b th ma st ti sp we ho sa ca cl su) r_X5_part (gO (fun u9 => some (.int u9.1)) (fun u9 => (wM E b u9.2.1 ma st ti sp we u9.2.2 sa ca cl su)) (.inr o))) (h : b_X5_part_20 ma ti ho sa cl v1 v2 v3 s1 = some o) : Gx E X (wM E b th ma st ti sp we ho sa ca cl su) 4 [(0, .ref (b 0)), (1, .int v1), (2, .int v2), (3, .int v3)] [.int (bI s1), .ref (b 0)] 20 0 0 := by
  rw [b_X5_part_20] at h
  refine g_iconst C (v := 1) (by decide) dX5_part_20 ?_
  obtain ⟨g1, eg1, h⟩ := Option.bind_eq_some_iff.mp h
  refine g_cVr (As := [.int (bI s1), .int 1]) (n9 := 2) (st := []) (w2 := (wM E b g1.2 ma st ti sp we ho sa ca cl su)) C (c_X5_isThrown E b th ma st ti sp we ho sa ca cl su s1 1 g1 eg1) gX5_part_X5_isThrown rfl (by decide +kernel) rfl ⟨by decide, by decide, by decide, by decide, Nat.le_of_ble_eq_true rfl⟩ 0 rfl rfl (gSub.idx [0, 1, 2, 3, 4, 5, 6, 7] rfl rfl) rfl dX5_part_21 ?_
  refine g_if_eq C (tgt := 31) dX5_part_24 (by decide) (fun cd2 => ?_) (fun cd2 => ?_)
  · replace h := (if_pos cd2).symm.trans h
    refine g_aload_n C 0 rfl rfl dX5_part_31 ?_
    refine g_iload_n C 1 rfl rfl dX5_part_32 ?_
    refine g_iload_n C 2 rfl rfl dX5_part_33 ?_
    refine g_iload_n C 3 rfl rfl dX5_part_34 ?_
    obtain ⟨g3, eg3, h⟩ := Option.bind_eq_some_iff.mp h
    refine g_cVr (As := [.int v1, .int v2, .int v3]) (n9 := 3) (st := []) (w2 := (wM E b g3.2.1 ma st ti sp we g3.2.2 sa ca cl su)) C (c_X5_goes E b g1.2 ma st ti sp we ho sa ca cl su v1 v2 v3 g3 eg3) gX5_part_X5_goes rfl (by decide +kernel) rfl ⟨by decide, by decide, by decide, by decide, Nat.le_of_ble_eq_true rfl⟩ 0 rfl rfl (gSub.idx [0, 1, 2, 3, 4, 5, 6, 7] rfl rfl) rfl dX5_part_35 ?_
    obtain rfl := Option.some.inj h
    exact g_iret C hQ rfl ⟨by decide, by decide⟩ dX5_part_38
  · replace h := (if_neg cd2).symm.trans h
    refine g_iconst C (v := 0) (by decide) dX5_part_27 ?_
    refine g_goto C (tgt := 38) dX5_part_28 (by decide) ?_
    obtain rfl := Option.some.inj h
    exact g_iret C hQ rfl ⟨by decide, by decide⟩ dX5_part_38
set_option maxHeartbeats 4000000 in
set_option maxRecDepth 100000 in
theorem c_X5_part (E : gE) (b : Nat → Nat) (th : Int32) (ma : Int32) (st : Int32) (ti : Nat → Int32) (sp : Nat → Int32) (we : Nat → Int32) (ho : Nat → Int32) (sa : Nat → Int32) (ca : Nat → Int32) (cl : Nat → Int32) (su : Int64) (p1 : Int32) (p2 : Int32) (p3 : Int32) (o : (Int32 × Int32 × (Nat → Int32))) (h : f_X5_part ma ti ho sa cl p1 p2 p3 = some o) : Ct E yX5_part wsX5_part r_X5_part [.ref (b 0), .int p1, .int p2, .int p3] (wM E b th ma st ti sp we ho sa ca cl su) (gO (fun u9 => some (.int u9.1)) (fun u9 => (wM E b u9.2.1 ma st ti sp we u9.2.2 sa ca cl su)) (.inr o)) := by
  refine Ct.of (cc := cX5_part) (nL := 4) (ret := ((some .int))) (own := RX5) (by decide) rfl rfl (Nat.le_of_ble_eq_true rfl) rfl ?_ ?_
  · intro v w1 hh
    cases hh; rfl
  · intro X C hQ
    rw [f_X5_part] at h
    refine g_aload_n C 0 rfl rfl dX5_part_0 ?_
    refine g_iload_n C 1 rfl rfl dX5_part_1 ?_
    obtain ⟨g1, eg1, h⟩ := Option.bind_eq_some_iff.mp h
    refine g_cSr (As := [.int p1]) (n9 := 1) (st := [.ref (b 0)]) (w2 := (wM E b th ma st ti sp we ho sa ca cl su)) C (c_X5_isHouse E p1 g1 eg1) gX5_part_X5_isHouse rfl (by decide +kernel) rfl ⟨by decide, by decide, by decide, by decide, Nat.le_of_ble_eq_true rfl⟩ (gSub.idx [] rfl rfl) rfl dX5_part_2 ?_
    refine g_if_eq C (tgt := 15) dX5_part_5 (by decide) (fun cd2 => ?_) (fun cd2 => ?_)
    · replace h := (if_pos cd2).symm.trans h
      refine g_iconst C (v := 1) (by decide) dX5_part_15 ?_
      refine g_goto C (tgt := 20) dX5_part_16 (by decide) ?_
      exact v_X5_part_20 (v1 := p1) (v2 := p2) (v3 := p3) (s1 := true) C hQ h
    · replace h := (if_neg cd2).symm.trans h
      refine g_iload_n C 2 rfl rfl dX5_part_8 ?_
      obtain ⟨g3, eg3, h⟩ := Option.bind_eq_some_iff.mp h
      refine g_cSr (As := [.int p2]) (n9 := 1) (st := [.ref (b 0)]) (w2 := (wM E b th ma st ti sp we ho sa ca cl su)) C (c_X5_isHouse E p2 g3 eg3) gX5_part_X5_isHouse rfl (by decide +kernel) rfl ⟨by decide, by decide, by decide, by decide, Nat.le_of_ble_eq_true rfl⟩ (gSub.idx [] rfl rfl) rfl dX5_part_9 ?_
      refine g_if_ne C (tgt := 19) dX5_part_12 (by decide) (fun cd4 => ?_) (fun cd4 => ?_)
      · replace h := (if_neg cd4).symm.trans h
        refine g_iconst C (v := 0) (by decide) dX5_part_19 ?_
        exact v_X5_part_20 (v1 := p1) (v2 := p2) (v3 := p3) (s1 := false) C hQ h
      · replace h := (if_pos cd4).symm.trans h
        refine g_iconst C (v := 1) (by decide) dX5_part_15 ?_
        refine g_goto C (tgt := 20) dX5_part_16 (by decide) ?_
        exact v_X5_part_20 (v1 := p1) (v2 := p2) (v3 := p3) (s1 := true) C hQ h
abbrev r_X5_comes : Room := { frames := 1, cells := 0, slots := 0, locals := 20 }
theorem m_X5_comes_0 : Cond.fieldLink RX5 22 "BookinghouseModel" "state" "[I" ∈ wsX5_comes := by decide +kernel
theorem i_X5_comes_X5 : ∀ w ∈ wsX50, w ∈ wsX5_comes := by decide +kernel
theorem m_X5_comes_2 : Cond.fieldLink RX5 25 "BookinghouseModel" "came" "[I" ∈ wsX5_comes := by decide +kernel
theorem m_X5_comes_3 : Cond.fieldLink RX5 77 "BookinghouseModel" "stamp" "I" ∈ wsX5_comes := by decide +kernel
theorem m_X5_comes_4 : Cond.fieldLink RX5 28 "BookinghouseModel" "clock" "[I" ∈ wsX5_comes := by decide +kernel
theorem m_X5_comes_5 : Cond.fieldLink RX5 19 "BookinghouseModel" "home" "[I" ∈ wsX5_comes := by decide +kernel
theorem m_X5_comes_6 : Cond.fieldLink RX5 7 "BookinghouseModel" "time" "[I" ∈ wsX5_comes := by decide +kernel
set_option maxHeartbeats 4000000 in
set_option maxRecDepth 100000 in
theorem c_X5_comes (E : gE) (b : Nat → Nat) (th : Int32) (ma : Int32) (st : Int32) (ti : Nat → Int32) (sp : Nat → Int32) (we : Nat → Int32) (ho : Nat → Int32) (sa : Nat → Int32) (ca : Nat → Int32) (cl : Nat → Int32) (su : Int64) (p1 : Int32) (o : (Int32 × (Nat → Int32) × (Nat → Int32) × (Nat → Int32))) (h : f_X5_comes st ti ho sa ca cl p1 = some o) : Ct E yX5_comes wsX5_comes r_X5_comes [.ref (b 0), .int p1] (wM E b th ma st ti sp we ho sa ca cl su) (gO (fun u9 => none) (fun u9 => (wM E b th ma u9.1 ti sp we ho u9.2.1 u9.2.2.1 u9.2.2.2 su)) (.inr o)) := by
  refine Ct.of (cc := cX5_comes) (nL := 2) (ret := (none)) (own := RX5) (by decide) rfl rfl (Nat.le_of_ble_eq_true rfl) rfl ?_ ?_
  · intro v w1 hh
    cases hh; rfl
  · intro X C hQ
    rw [f_X5_comes] at h
    refine g_aload_n C 0 rfl rfl dX5_comes_0 ?_
    refine g_X5_state C i_X5_comes_X5 m_X5_comes_0 0 rfl dX5_comes_1 ?_
    refine g_iload_n C 1 rfl rfl dX5_comes_4 ?_
    refine g_iconst C (v := 1) (by decide) dX5_comes_5 ?_
    obtain ⟨cd1, h⟩ := ifN h
    refine g_iast C 5 rfl (ws2 := (wM E b th ma st ti sp we ho (upd sa p1.toNatClampNeg 1) ca cl su)) rfl (inB_in cd1) dX5_comes_6 ?_
    refine g_aload_n C 0 rfl rfl dX5_comes_7 ?_
    refine g_X5_came C i_X5_comes_X5 m_X5_comes_2 0 rfl dX5_comes_8 ?_
    refine g_iload_n C 1 rfl rfl dX5_comes_11 ?_
    refine g_aload_n C 0 rfl rfl dX5_comes_12 ?_
    refine g_X5_stamp C i_X5_comes_X5 m_X5_comes_3 0 rfl dX5_comes_13 ?_
    obtain ⟨cd2, h⟩ := ifN h
    refine g_iast C 6 rfl (ws2 := (wM E b th ma st ti sp we ho (upd sa p1.toNatClampNeg 1) (upd ca p1.toNatClampNeg st) cl su)) rfl (inB_in cd2) dX5_comes_16 ?_
    refine g_aload_n C 0 rfl rfl dX5_comes_17 ?_
    refine g_dup C rfl dX5_comes_18 ?_
    refine g_X5_stamp C i_X5_comes_X5 m_X5_comes_3 0 rfl dX5_comes_19 ?_
    refine g_iconst C (v := 1) (by decide) dX5_comes_22 ?_
    refine g_iadd C dX5_comes_23 ?_
    refine g_X5_set_stamp C i_X5_comes_X5 m_X5_comes_3 0 rfl (ws2 := (wM E b th ma (st + 1) ti sp we ho (upd sa p1.toNatClampNeg 1) (upd ca p1.toNatClampNeg st) cl su)) rfl dX5_comes_24 ?_
    refine g_aload_n C 0 rfl rfl dX5_comes_27 ?_
    refine g_X5_clock C i_X5_comes_X5 m_X5_comes_4 0 rfl dX5_comes_28 ?_
    refine g_aload_n C 0 rfl rfl dX5_comes_31 ?_
    refine g_X5_home C i_X5_comes_X5 m_X5_comes_5 0 rfl dX5_comes_32 ?_
    refine g_iload_n C 1 rfl rfl dX5_comes_35 ?_
    obtain ⟨cd3, h⟩ := ifN h
    refine g_iald C 4 rfl (inB_in cd3) dX5_comes_36 ?_
    refine g_aload_n C 0 rfl rfl dX5_comes_37 ?_
    refine g_X5_time C i_X5_comes_X5 m_X5_comes_6 0 rfl dX5_comes_38 ?_
    refine g_iload_n C 1 rfl rfl dX5_comes_41 ?_
    obtain ⟨cd4, h⟩ := ifN h
    refine g_iald C 1 rfl (inB_in cd4) dX5_comes_42 ?_
    obtain ⟨cd5, h⟩ := ifN h
    refine g_iast C 7 rfl (ws2 := (wM E b th ma (st + 1) ti sp we ho (upd sa p1.toNatClampNeg 1) (upd ca p1.toNatClampNeg st) (upd cl (ho p1.toNatClampNeg).toNatClampNeg (ti p1.toNatClampNeg)) su)) rfl (inB_in cd5) dX5_comes_43 ?_
    obtain rfl := Option.some.inj h
    exact g_vret C hQ (by dsimp only [gO]) ⟨by decide, by decide⟩ dX5_comes_44
abbrev r_X5_next : Room := { frames := 4, cells := 0, slots := 0, locals := 87 }
set_option maxHeartbeats 4000000 in
set_option maxRecDepth 100000 in
theorem v_X5_next_39 {E : gE} {X : gX} {b : Nat → Nat} {th : Int32} {ma : Int32} {st : Int32} {ti : Nat → Int32} {sp : Nat → Int32} {we : Nat → Int32} {ho : Nat → Int32} {sa : Nat → Int32} {ca : Nat → Int32} {cl : Nat → Int32} {su : Int64} {v2 : Int32} {s1 : Bool} {thc : Int32} {o : (Int32 × Int32 × Int32 × (Nat → Int32) × (Nat → Int32) × (Nat → Int32))} (C : Cx E X cX5_next 3 RX5 wsX5_next r_X5_next ((some .int)) []) (hQ : gQ E X (wM E b th ma st ti sp we ho sa ca cl su) r_X5_next (gO (fun u9 => some (.int u9.1)) (fun u9 => (wM E b u9.2.1 ma u9.2.2.1 ti sp we ho u9.2.2.2.1 u9.2.2.2.2.1 u9.2.2.2.2.2 su)) (.inr o))) (h : b_X5_next_39 st ti ho sa ca cl v2 s1 thc = some o) : Gx E X (wM E b thc ma st ti sp we ho sa ca cl su) 3 [(0, .ref (b 0)), (2, .int v2)] [.int (bI s1), .ref (b 0)] 39 0 0 := by
  rw [b_X5_next_39] at h
  refine g_iconst C (v := 2) (by decide) dX5_next_39 ?_
  obtain ⟨g1, eg1, h⟩ := Option.bind_eq_some_iff.mp h
  refine g_cVr (As := [.int (bI s1), .int 2]) (n9 := 2) (st := []) (w2 := (wM E b g1.2 ma st ti sp we ho sa ca cl su)) C (c_X5_isThrown E b thc ma st ti sp we ho sa ca cl su s1 2 g1 eg1) gX5_next_X5_isThrown rfl (by decide +kernel) rfl ⟨by decide, by decide, by decide, by decide, Nat.le_of_ble_eq_true rfl⟩ 0 rfl rfl (gSub.idx [0, 1, 2, 3, 4, 5, 6, 7] rfl rfl) rfl dX5_next_40 ?_
  refine g_if_eq C (tgt := 48) dX5_next_43 (by decide) (fun cd2 => ?_) (fun cd2 => ?_)
  · replace h := (if_pos cd2).symm.trans h
    refine g_aload_n C 0 rfl rfl dX5_next_48 ?_
    refine g_iload_n C 1 rfl rfl dX5_next_49 ?_
    obtain ⟨g3, eg3, h⟩ := Option.bind_eq_some_iff.mp h
    refine g_cVv (As := [.int v2]) (n9 := 1) (st := []) (w2 := (wM E b g1.2 ma g3.1 ti sp we ho g3.2.1 g3.2.2.1 g3.2.2.2 su)) C (c_X5_comes E b g1.2 ma st ti sp we ho sa ca cl su v2 g3 eg3) gX5_next_X5_comes rfl (by decide +kernel) rfl ⟨by decide, by decide, by decide, by decide, Nat.le_of_ble_eq_true rfl⟩ 0 rfl rfl (gSub.idx [0, 1, 2, 3, 4, 5, 6, 7] rfl rfl) rfl dX5_next_50 ?_
    refine g_iload_n C 1 rfl rfl dX5_next_53 ?_
    obtain rfl := Option.some.inj h
    exact g_iret C hQ (by dsimp only [gO]) ⟨by decide, by decide⟩ dX5_next_54
  · replace h := (if_neg cd2).symm.trans h
    refine g_iconst C (v := 0) (by decide) dX5_next_46 ?_
    obtain rfl := Option.some.inj h
    exact g_iret C hQ (by dsimp only [gO]) ⟨by decide, by decide⟩ dX5_next_47
set_option maxHeartbeats 4000000 in
set_option maxRecDepth 100000 in
theorem v_X5_next_13 {E : gE} {X : gX} {b : Nat → Nat} {th : Int32} {ma : Int32} {st : Int32} {ti : Nat → Int32} {sp : Nat → Int32} {we : Nat → Int32} {ho : Nat → Int32} {sa : Nat → Int32} {ca : Nat → Int32} {cl : Nat → Int32} {su : Int64} {v1 : Int32} {s1 : Bool} {o : (Int32 × Int32 × Int32 × (Nat → Int32) × (Nat → Int32) × (Nat → Int32))} (C : Cx E X cX5_next 3 RX5 wsX5_next r_X5_next ((some .int)) []) (hQ : gQ E X (wM E b th ma st ti sp we ho sa ca cl su) r_X5_next (gO (fun u9 => some (.int u9.1)) (fun u9 => (wM E b u9.2.1 ma u9.2.2.1 ti sp we ho u9.2.2.2.1 u9.2.2.2.2.1 u9.2.2.2.2.2 su)) (.inr o))) (h : b_X5_next_13 ma st ti ho sa ca cl v1 s1 = some o) : Gx E X (wM E b th ma st ti sp we ho sa ca cl su) 3 [(0, .ref (b 0)), (1, .int v1)] [.int (bI s1), .ref (b 0)] 13 0 0 := by
  rw [b_X5_next_13] at h
  refine g_iconst C (v := 1) (by decide) dX5_next_13 ?_
  obtain ⟨g1, eg1, h⟩ := Option.bind_eq_some_iff.mp h
  refine g_cVr (As := [.int (bI s1), .int 1]) (n9 := 2) (st := []) (w2 := (wM E b g1.2 ma st ti sp we ho sa ca cl su)) C (c_X5_isThrown E b th ma st ti sp we ho sa ca cl su s1 1 g1 eg1) gX5_next_X5_isThrown rfl (by decide +kernel) rfl ⟨by decide, by decide, by decide, by decide, Nat.le_of_ble_eq_true rfl⟩ 0 rfl rfl (gSub.idx [0, 1, 2, 3, 4, 5, 6, 7] rfl rfl) rfl dX5_next_14 ?_
  refine g_if_eq C (tgt := 22) dX5_next_17 (by decide) (fun cd2 => ?_) (fun cd2 => ?_)
  · replace h := (if_pos cd2).symm.trans h
    refine g_aload_n C 0 rfl rfl dX5_next_22 ?_
    refine g_iload_n C 1 rfl rfl dX5_next_23 ?_
    obtain ⟨g3, eg3, h⟩ := Option.bind_eq_some_iff.mp h
    refine g_cVr (As := [.int v1]) (n9 := 1) (st := []) (w2 := (wM E b g1.2 ma st ti sp we ho sa ca cl su)) C (c_X5_first E b g1.2 ma st ti sp we ho sa ca cl su v1 g3 eg3) gX5_next_X5_first rfl (by decide +kernel) rfl ⟨by decide, by decide, by decide, by decide, Nat.le_of_ble_eq_true rfl⟩ 0 rfl rfl (gSub.idx [0, 1, 2, 3, 4, 5, 6, 7] rfl rfl) rfl dX5_next_24 ?_
    refine g_istore_n C (lv2 := [(2, .int g3), (0, .ref (b 0)), (1, .int v1)]) rfl (by decide) rfl dX5_next_27 ?_
    refine g_aload_n C 1 rfl rfl dX5_next_28 ?_
    refine g_iload_n C 0 rfl rfl dX5_next_29 ?_
    refine g_iconst C (v := (-1)) (by decide) dX5_next_30 ?_
    refine g_icmp_ne C (tgt := 38) dX5_next_31 (by decide) (fun cd4 => ?_) (fun cd4 => ?_)
    · replace h := (if_neg cd4).symm.trans h
      refine g_iconst C (v := 0) (by decide) dX5_next_38 ?_
      refine g_lv [1, 0] (lv2 := [(0, .ref (b 0)), (2, .int g3)]) rfl ?_
      exact v_X5_next_39 (v2 := g3) (s1 := false) (thc := g1.2) C hQ h
    · replace h := (if_pos cd4).symm.trans h
      refine g_iconst C (v := 1) (by decide) dX5_next_34 ?_
      refine g_goto C (tgt := 39) dX5_next_35 (by decide) ?_
      refine g_lv [1, 0] (lv2 := [(0, .ref (b 0)), (2, .int g3)]) rfl ?_
      exact v_X5_next_39 (v2 := g3) (s1 := true) (thc := g1.2) C hQ h
  · replace h := (if_neg cd2).symm.trans h
    refine g_iconst C (v := 0) (by decide) dX5_next_20 ?_
    obtain rfl := Option.some.inj h
    exact g_iret C hQ (by dsimp only [gO]) ⟨by decide, by decide⟩ dX5_next_21
set_option maxHeartbeats 4000000 in
set_option maxRecDepth 100000 in
theorem c_X5_next (E : gE) (b : Nat → Nat) (th : Int32) (ma : Int32) (st : Int32) (ti : Nat → Int32) (sp : Nat → Int32) (we : Nat → Int32) (ho : Nat → Int32) (sa : Nat → Int32) (ca : Nat → Int32) (cl : Nat → Int32) (su : Int64) (p1 : Int32) (o : (Int32 × Int32 × Int32 × (Nat → Int32) × (Nat → Int32) × (Nat → Int32))) (h : f_X5_next ma st ti ho sa ca cl p1 = some o) : Ct E yX5_next wsX5_next r_X5_next [.ref (b 0), .int p1] (wM E b th ma st ti sp we ho sa ca cl su) (gO (fun u9 => some (.int u9.1)) (fun u9 => (wM E b u9.2.1 ma u9.2.2.1 ti sp we ho u9.2.2.2.1 u9.2.2.2.2.1 u9.2.2.2.2.2 su)) (.inr o)) := by
  refine Ct.of (cc := cX5_next) (nL := 3) (ret := ((some .int))) (own := RX5) (by decide) rfl rfl (Nat.le_of_ble_eq_true rfl) rfl ?_ ?_
  · intro v w1 hh
    cases hh; rfl
  · intro X C hQ
    rw [f_X5_next] at h
    refine g_aload_n C 0 rfl rfl dX5_next_0 ?_
    refine g_iload_n C 1 rfl rfl dX5_next_1 ?_
    obtain ⟨g1, eg1, h⟩ := Option.bind_eq_some_iff.mp h
    refine g_cSr (As := [.int p1]) (n9 := 1) (st := [.ref (b 0)]) (w2 := (wM E b th ma st ti sp we ho sa ca cl su)) C (c_X5_isHouse E p1 g1 eg1) gX5_next_X5_isHouse rfl (by decide +kernel) rfl ⟨by decide, by decide, by decide, by decide, Nat.le_of_ble_eq_true rfl⟩ (gSub.idx [] rfl rfl) rfl dX5_next_2 ?_
    refine g_if_ne C (tgt := 12) dX5_next_5 (by decide) (fun cd2 => ?_) (fun cd2 => ?_)
    · replace h := (if_neg cd2).symm.trans h
      refine g_iconst C (v := 0) (by decide) dX5_next_12 ?_
      exact v_X5_next_13 (v1 := p1) (s1 := false) C hQ h
    · replace h := (if_pos cd2).symm.trans h
      refine g_iconst C (v := 1) (by decide) dX5_next_8 ?_
      refine g_goto C (tgt := 13) dX5_next_9 (by decide) ?_
      exact v_X5_next_13 (v1 := p1) (s1 := true) C hQ h
abbrev r_X5_run : Room := { frames := 4, cells := 0, slots := 0, locals := 87 }
theorem m_X5_run_0 : Cond.fieldLink RX5 28 "BookinghouseModel" "clock" "[I" ∈ wsX5_run := by decide +kernel
theorem i_X5_run_X5 : ∀ w ∈ wsX50, w ∈ wsX5_run := by decide +kernel
theorem m_X5_run_2 : Cond.fieldLink RX5 7 "BookinghouseModel" "time" "[I" ∈ wsX5_run := by decide +kernel
set_option maxHeartbeats 4000000 in
set_option maxRecDepth 100000 in
theorem w_X5_run_78 {E : gE} {X : gX} {b : Nat → Nat} {th : Int32} {ma : Int32} {st : Int32} {ti : Nat → Int32} {sp : Nat → Int32} {we : Nat → Int32} {ho : Nat → Int32} {sa : Nat → Int32} {ca : Nat → Int32} {cl : Nat → Int32} {su : Int64} {v1 : Int32} {v2 : Int32} {thc : Int32} {o : (Int32 × Int32 × Int32 × (Nat → Int32) × (Nat → Int32) × (Nat → Int32))} (C : Cx E X cX5_run 5 RX5 wsX5_run r_X5_run ((some .int)) []) (hQ : gQ E X (wM E b th ma st ti sp we ho sa ca cl su) r_X5_run (gO (fun u9 => some (.int u9.1)) (fun u9 => (wM E b u9.2.1 ma u9.2.2.1 ti sp we ho u9.2.2.2.1 u9.2.2.2.2.1 u9.2.2.2.2.2 su)) (.inr o))) : ∀ (F : Nat) (v3 : Int32) (v4 : Int32) (stc : Int32) (sac : Nat → Int32) (cac : Nat → Int32) (clc : Nat → Int32), l_X5_run_78 ma ti ho v1 v2 thc F v3 v4 stc sac cac clc = some o → Gx E X (wM E b thc ma stc ti sp we ho sac cac clc su) 5 [(0, .ref (b 0)), (1, .int v1), (2, .int v2), (3, .int v3), (4, .int v4)] [] 78 0 0 := by
  intro F
  induction F with
  | zero => intro v3 v4 stc sac cac clc h; exact absurd h (by simp [l_X5_run_78])
  | succ F ih =>
    intro v3 v4 stc sac cac clc h
    rw [l_X5_run_78] at h
    refine g_iload C 4 rfl dX5_run_78 ?_
    refine g_iconst C (v := (-1)) (by decide) dX5_run_80 ?_
    refine g_icmp_eq C (tgt := 114) dX5_run_81 (by decide) (fun cd1 => ?_) (fun cd1 => ?_)
    · replace h := (if_pos cd1).symm.trans h
      refine g_aload_n C 0 rfl rfl dX5_run_114 ?_
      refine g_X5_clock C i_X5_run_X5 m_X5_run_0 0 rfl dX5_run_115 ?_
      refine g_iload_n C 1 rfl rfl dX5_run_118 ?_
      refine g_iload_n C 2 rfl rfl dX5_run_119 ?_
      obtain ⟨cd2, h⟩ := ifN h
      refine g_iast C 7 rfl (ws2 := (wM E b thc ma stc ti sp we ho sac cac (upd clc v1.toNatClampNeg v2) su)) rfl (inB_in cd2) dX5_run_120 ?_
      refine g_iload_n C 3 rfl rfl dX5_run_121 ?_
      obtain rfl := Option.some.inj h
      exact g_iret C hQ (by dsimp only [gO]) ⟨by decide, by decide⟩ dX5_run_122
    · replace h := (if_neg cd1).symm.trans h
      refine g_aload_n C 0 rfl rfl dX5_run_84 ?_
      refine g_X5_time C i_X5_run_X5 m_X5_run_2 0 rfl dX5_run_85 ?_
      refine g_iload C 4 rfl dX5_run_88 ?_
      obtain ⟨cd3, h⟩ := ifN h
      refine g_iald C 1 rfl (inB_in cd3) dX5_run_90 ?_
      refine g_iload_n C 2 rfl rfl dX5_run_91 ?_
      refine g_icmp_gt C (tgt := 114) dX5_run_92 (by decide) (fun cd4 => ?_) (fun cd4 => ?_)
      · replace h := (if_pos cd4).symm.trans h
        refine g_aload_n C 0 rfl rfl dX5_run_114 ?_
        refine g_X5_clock C i_X5_run_X5 m_X5_run_0 0 rfl dX5_run_115 ?_
        refine g_iload_n C 1 rfl rfl dX5_run_118 ?_
        refine g_iload_n C 2 rfl rfl dX5_run_119 ?_
        obtain ⟨cd5, h⟩ := ifN h
        refine g_iast C 7 rfl (ws2 := (wM E b thc ma stc ti sp we ho sac cac (upd clc v1.toNatClampNeg v2) su)) rfl (inB_in cd5) dX5_run_120 ?_
        refine g_iload_n C 3 rfl rfl dX5_run_121 ?_
        obtain rfl := Option.some.inj h
        exact g_iret C hQ (by dsimp only [gO]) ⟨by decide, by decide⟩ dX5_run_122
      · replace h := (if_neg cd4).symm.trans h
        refine g_aload_n C 0 rfl rfl dX5_run_95 ?_
        refine g_iload C 4 rfl dX5_run_96 ?_
        obtain ⟨g6, eg6, h⟩ := Option.bind_eq_some_iff.mp h
        refine g_cVv (As := [.int v4]) (n9 := 1) (st := []) (w2 := (wM E b thc ma g6.1 ti sp we ho g6.2.1 g6.2.2.1 g6.2.2.2 su)) C (c_X5_comes E b thc ma stc ti sp we ho sac cac clc su v4 g6 eg6) gX5_run_X5_comes rfl (by decide +kernel) rfl ⟨by decide, by decide, by decide, by decide, Nat.le_of_ble_eq_true rfl⟩ 0 rfl rfl (gSub.idx [0, 1, 2, 3, 4, 5, 6, 7] rfl rfl) rfl dX5_run_98 ?_
        refine g_iinc C (v := v3 + 1) 3 rfl rfl (lv2 := [(3, .int (v3 + 1)), (0, .ref (b 0)), (1, .int v1), (2, .int v2), (4, .int v4)]) rfl (by decide) dX5_run_101 ?_
        refine g_aload_n C 1 rfl rfl dX5_run_104 ?_
        refine g_iload_n C 2 rfl rfl dX5_run_105 ?_
        obtain ⟨g7, eg7, h⟩ := Option.bind_eq_some_iff.mp h
        refine g_cVr (As := [.int v1]) (n9 := 1) (st := []) (w2 := (wM E b thc ma g6.1 ti sp we ho g6.2.1 g6.2.2.1 g6.2.2.2 su)) C (c_X5_first E b thc ma g6.1 ti sp we ho g6.2.1 g6.2.2.1 g6.2.2.2 su v1 g7 eg7) gX5_run_X5_first rfl (by decide +kernel) rfl ⟨by decide, by decide, by decide, by decide, Nat.le_of_ble_eq_true rfl⟩ 0 rfl rfl (gSub.idx [0, 1, 2, 3, 4, 5, 6, 7] rfl rfl) rfl dX5_run_106 ?_
        refine g_istore C (lv2 := [(4, .int g7), (3, .int (v3 + 1)), (0, .ref (b 0)), (1, .int v1), (2, .int v2)]) rfl (by decide) dX5_run_109 ?_
        refine g_goto C (tgt := 78) dX5_run_111 (by decide) ?_
        refine g_lv [2, 3, 4, 1, 0] (lv2 := [(0, .ref (b 0)), (1, .int v1), (2, .int v2), (3, .int (v3 + 1)), (4, .int g7)]) rfl ?_
        exact ih (v3 + 1) g7 g6.1 g6.2.1 g6.2.2.1 g6.2.2.2 h
set_option maxHeartbeats 4000000 in
set_option maxRecDepth 100000 in
theorem v_X5_run_60 {E : gE} {X : gX} {b : Nat → Nat} {th : Int32} {ma : Int32} {st : Int32} {ti : Nat → Int32} {sp : Nat → Int32} {we : Nat → Int32} {ho : Nat → Int32} {sa : Nat → Int32} {ca : Nat → Int32} {cl : Nat → Int32} {su : Int64} {v1 : Int32} {v2 : Int32} {s1 : Bool} {thc : Int32} {o : (Int32 × Int32 × Int32 × (Nat → Int32) × (Nat → Int32) × (Nat → Int32))} (C : Cx E X cX5_run 5 RX5 wsX5_run r_X5_run ((some .int)) []) (hQ : gQ E X (wM E b th ma st ti sp we ho sa ca cl su) r_X5_run (gO (fun u9 => some (.int u9.1)) (fun u9 => (wM E b u9.2.1 ma u9.2.2.1 ti sp we ho u9.2.2.2.1 u9.2.2.2.2.1 u9.2.2.2.2.2 su)) (.inr o))) (h : b_X5_run_60 ma st ti ho sa ca cl v1 v2 s1 thc = some o) : Gx E X (wM E b thc ma st ti sp we ho sa ca cl su) 5 [(0, .ref (b 0)), (1, .int v1), (2, .int v2)] [.int (bI s1), .ref (b 0)] 60 0 0 := by
  rw [b_X5_run_60] at h
  refine g_iconst C (v := 3) (by decide) dX5_run_60 ?_
  obtain ⟨g1, eg1, h⟩ := Option.bind_eq_some_iff.mp h
  refine g_cVr (As := [.int (bI s1), .int 3]) (n9 := 2) (st := []) (w2 := (wM E b g1.2 ma st ti sp we ho sa ca cl su)) C (c_X5_isThrown E b thc ma st ti sp we ho sa ca cl su s1 3 g1 eg1) gX5_run_X5_isThrown rfl (by decide +kernel) rfl ⟨by decide, by decide, by decide, by decide, Nat.le_of_ble_eq_true rfl⟩ 0 rfl rfl (gSub.idx [0, 1, 2, 3, 4, 5, 6, 7] rfl rfl) rfl dX5_run_61 ?_
  refine g_if_eq C (tgt := 69) dX5_run_64 (by decide) (fun cd2 => ?_) (fun cd2 => ?_)
  · replace h := (if_pos cd2).symm.trans h
    refine g_iconst C (v := 0) (by decide) dX5_run_69 ?_
    refine g_istore_n C (lv2 := [(3, .int 0), (0, .ref (b 0)), (1, .int v1), (2, .int v2)]) rfl (by decide) rfl dX5_run_70 ?_
    refine g_aload_n C 1 rfl rfl dX5_run_71 ?_
    refine g_iload_n C 2 rfl rfl dX5_run_72 ?_
    obtain ⟨g3, eg3, h⟩ := Option.bind_eq_some_iff.mp h
    refine g_cVr (As := [.int v1]) (n9 := 1) (st := []) (w2 := (wM E b g1.2 ma st ti sp we ho sa ca cl su)) C (c_X5_first E b g1.2 ma st ti sp we ho sa ca cl su v1 g3 eg3) gX5_run_X5_first rfl (by decide +kernel) rfl ⟨by decide, by decide, by decide, by decide, Nat.le_of_ble_eq_true rfl⟩ 0 rfl rfl (gSub.idx [0, 1, 2, 3, 4, 5, 6, 7] rfl rfl) rfl dX5_run_73 ?_
    refine g_istore C (lv2 := [(4, .int g3), (3, .int 0), (0, .ref (b 0)), (1, .int v1), (2, .int v2)]) rfl (by decide) dX5_run_76 ?_
    refine g_lv [2, 3, 4, 1, 0] (lv2 := [(0, .ref (b 0)), (1, .int v1), (2, .int v2), (3, .int 0), (4, .int g3)]) rfl ?_
    exact w_X5_run_78 (v1 := v1) (v2 := v2) (thc := g1.2) C hQ FU 0 g3 st sa ca cl h
  · replace h := (if_neg cd2).symm.trans h
    refine g_iconst C (v := 0) (by decide) dX5_run_67 ?_
    obtain rfl := Option.some.inj h
    exact g_iret C hQ (by dsimp only [gO]) ⟨by decide, by decide⟩ dX5_run_68
set_option maxHeartbeats 4000000 in
set_option maxRecDepth 100000 in
theorem v_X5_run_37 {E : gE} {X : gX} {b : Nat → Nat} {th : Int32} {ma : Int32} {st : Int32} {ti : Nat → Int32} {sp : Nat → Int32} {we : Nat → Int32} {ho : Nat → Int32} {sa : Nat → Int32} {ca : Nat → Int32} {cl : Nat → Int32} {su : Int64} {v1 : Int32} {v2 : Int32} {s1 : Bool} {thc : Int32} {o : (Int32 × Int32 × Int32 × (Nat → Int32) × (Nat → Int32) × (Nat → Int32))} (C : Cx E X cX5_run 5 RX5 wsX5_run r_X5_run ((some .int)) []) (hQ : gQ E X (wM E b th ma st ti sp we ho sa ca cl su) r_X5_run (gO (fun u9 => some (.int u9.1)) (fun u9 => (wM E b u9.2.1 ma u9.2.2.1 ti sp we ho u9.2.2.2.1 u9.2.2.2.2.1 u9.2.2.2.2.2 su)) (.inr o))) (h : b_X5_run_37 ma st ti ho sa ca cl v1 v2 s1 thc = some o) : Gx E X (wM E b thc ma st ti sp we ho sa ca cl su) 5 [(0, .ref (b 0)), (1, .int v1), (2, .int v2)] [.int (bI s1), .ref (b 0)] 37 0 0 := by
  rw [b_X5_run_37] at h
  refine g_iconst C (v := 2) (by decide) dX5_run_37 ?_
  obtain ⟨g1, eg1, h⟩ := Option.bind_eq_some_iff.mp h
  refine g_cVr (As := [.int (bI s1), .int 2]) (n9 := 2) (st := []) (w2 := (wM E b g1.2 ma st ti sp we ho sa ca cl su)) C (c_X5_isThrown E b thc ma st ti sp we ho sa ca cl su s1 2 g1 eg1) gX5_run_X5_isThrown rfl (by decide +kernel) rfl ⟨by decide, by decide, by decide, by decide, Nat.le_of_ble_eq_true rfl⟩ 0 rfl rfl (gSub.idx [0, 1, 2, 3, 4, 5, 6, 7] rfl rfl) rfl dX5_run_38 ?_
  refine g_if_ne C (tgt := 67) dX5_run_41 (by decide) (fun cd2 => ?_) (fun cd2 => ?_)
  · replace h := (if_neg cd2).symm.trans h
    refine g_iconst C (v := 0) (by decide) dX5_run_67 ?_
    obtain rfl := Option.some.inj h
    exact g_iret C hQ (by dsimp only [gO]) ⟨by decide, by decide⟩ dX5_run_68
  · replace h := (if_pos cd2).symm.trans h
    refine g_aload_n C 0 rfl rfl dX5_run_44 ?_
    refine g_iload_n C 2 rfl rfl dX5_run_45 ?_
    refine g_aload_n C 0 rfl rfl dX5_run_46 ?_
    refine g_X5_clock C i_X5_run_X5 m_X5_run_0 0 rfl dX5_run_47 ?_
    refine g_iload_n C 1 rfl rfl dX5_run_50 ?_
    obtain ⟨cd3, h⟩ := ifN h
    refine g_iald C 7 rfl (inB_in cd3) dX5_run_51 ?_
    refine g_icmp_ge C (tgt := 59) dX5_run_52 (by decide) (fun cd4 => ?_) (fun cd4 => ?_)
    · replace h := (if_pos cd4).symm.trans h
      refine g_iconst C (v := 0) (by decide) dX5_run_59 ?_
      exact v_X5_run_60 (v1 := v1) (v2 := v2) (s1 := false) (thc := g1.2) C hQ h
    · replace h := (if_neg cd4).symm.trans h
      refine g_iconst C (v := 1) (by decide) dX5_run_55 ?_
      refine g_goto C (tgt := 60) dX5_run_56 (by decide) ?_
      exact v_X5_run_60 (v1 := v1) (v2 := v2) (s1 := true) (thc := g1.2) C hQ h
set_option maxHeartbeats 4000000 in
set_option maxRecDepth 100000 in
theorem v_X5_run_13 {E : gE} {X : gX} {b : Nat → Nat} {th : Int32} {ma : Int32} {st : Int32} {ti : Nat → Int32} {sp : Nat → Int32} {we : Nat → Int32} {ho : Nat → Int32} {sa : Nat → Int32} {ca : Nat → Int32} {cl : Nat → Int32} {su : Int64} {v1 : Int32} {v2 : Int32} {s1 : Bool} {o : (Int32 × Int32 × Int32 × (Nat → Int32) × (Nat → Int32) × (Nat → Int32))} (C : Cx E X cX5_run 5 RX5 wsX5_run r_X5_run ((some .int)) []) (hQ : gQ E X (wM E b th ma st ti sp we ho sa ca cl su) r_X5_run (gO (fun u9 => some (.int u9.1)) (fun u9 => (wM E b u9.2.1 ma u9.2.2.1 ti sp we ho u9.2.2.2.1 u9.2.2.2.2.1 u9.2.2.2.2.2 su)) (.inr o))) (h : b_X5_run_13 ma st ti ho sa ca cl v1 v2 s1 = some o) : Gx E X (wM E b th ma st ti sp we ho sa ca cl su) 5 [(0, .ref (b 0)), (1, .int v1), (2, .int v2)] [.int (bI s1), .ref (b 0)] 13 0 0 := by
  rw [b_X5_run_13] at h
  refine g_iconst C (v := 1) (by decide) dX5_run_13 ?_
  obtain ⟨g1, eg1, h⟩ := Option.bind_eq_some_iff.mp h
  refine g_cVr (As := [.int (bI s1), .int 1]) (n9 := 2) (st := []) (w2 := (wM E b g1.2 ma st ti sp we ho sa ca cl su)) C (c_X5_isThrown E b th ma st ti sp we ho sa ca cl su s1 1 g1 eg1) gX5_run_X5_isThrown rfl (by decide +kernel) rfl ⟨by decide, by decide, by decide, by decide, Nat.le_of_ble_eq_true rfl⟩ 0 rfl rfl (gSub.idx [0, 1, 2, 3, 4, 5, 6, 7] rfl rfl) rfl dX5_run_14 ?_
  refine g_if_ne C (tgt := 67) dX5_run_17 (by decide) (fun cd2 => ?_) (fun cd2 => ?_)
  · replace h := (if_neg cd2).symm.trans h
    refine g_iconst C (v := 0) (by decide) dX5_run_67 ?_
    obtain rfl := Option.some.inj h
    exact g_iret C hQ (by dsimp only [gO]) ⟨by decide, by decide⟩ dX5_run_68
  · replace h := (if_pos cd2).symm.trans h
    refine g_aload_n C 0 rfl rfl dX5_run_20 ?_
    refine g_iload_n C 2 rfl rfl dX5_run_21 ?_
    refine g_iconst C (v := 0) (by decide) dX5_run_22 ?_
    refine g_sipush C (v := 9999) (by decide) dX5_run_23 ?_
    obtain ⟨g3, eg3, h⟩ := Option.bind_eq_some_iff.mp h
    refine g_cSr (As := [.int v2, .int 0, .int 9999]) (n9 := 3) (st := [.ref (b 0)]) (w2 := (wM E b g1.2 ma st ti sp we ho sa ca cl su)) C (c_X5_isIn E v2 0 9999 g3 eg3) gX5_run_X5_isIn rfl (by decide +kernel) rfl ⟨by decide, by decide, by decide, by decide, Nat.le_of_ble_eq_true rfl⟩ (gSub.idx [] rfl rfl) rfl dX5_run_26 ?_
    refine g_if_ne C (tgt := 36) dX5_run_29 (by decide) (fun cd4 => ?_) (fun cd4 => ?_)
    · replace h := (if_neg cd4).symm.trans h
      refine g_iconst C (v := 0) (by decide) dX5_run_36 ?_
      exact v_X5_run_37 (v1 := v1) (v2 := v2) (s1 := false) (thc := g1.2) C hQ h
    · replace h := (if_pos cd4).symm.trans h
      refine g_iconst C (v := 1) (by decide) dX5_run_32 ?_
      refine g_goto C (tgt := 37) dX5_run_33 (by decide) ?_
      exact v_X5_run_37 (v1 := v1) (v2 := v2) (s1 := true) (thc := g1.2) C hQ h
set_option maxHeartbeats 4000000 in
set_option maxRecDepth 100000 in
theorem c_X5_run (E : gE) (b : Nat → Nat) (th : Int32) (ma : Int32) (st : Int32) (ti : Nat → Int32) (sp : Nat → Int32) (we : Nat → Int32) (ho : Nat → Int32) (sa : Nat → Int32) (ca : Nat → Int32) (cl : Nat → Int32) (su : Int64) (p1 : Int32) (p2 : Int32) (o : (Int32 × Int32 × Int32 × (Nat → Int32) × (Nat → Int32) × (Nat → Int32))) (h : f_X5_run ma st ti ho sa ca cl p1 p2 = some o) : Ct E yX5_run wsX5_run r_X5_run [.ref (b 0), .int p1, .int p2] (wM E b th ma st ti sp we ho sa ca cl su) (gO (fun u9 => some (.int u9.1)) (fun u9 => (wM E b u9.2.1 ma u9.2.2.1 ti sp we ho u9.2.2.2.1 u9.2.2.2.2.1 u9.2.2.2.2.2 su)) (.inr o)) := by
  refine Ct.of (cc := cX5_run) (nL := 5) (ret := ((some .int))) (own := RX5) (by decide) rfl rfl (Nat.le_of_ble_eq_true rfl) rfl ?_ ?_
  · intro v w1 hh
    cases hh; rfl
  · intro X C hQ
    rw [f_X5_run] at h
    refine g_aload_n C 0 rfl rfl dX5_run_0 ?_
    refine g_iload_n C 1 rfl rfl dX5_run_1 ?_
    obtain ⟨g1, eg1, h⟩ := Option.bind_eq_some_iff.mp h
    refine g_cSr (As := [.int p1]) (n9 := 1) (st := [.ref (b 0)]) (w2 := (wM E b th ma st ti sp we ho sa ca cl su)) C (c_X5_isHouse E p1 g1 eg1) gX5_run_X5_isHouse rfl (by decide +kernel) rfl ⟨by decide, by decide, by decide, by decide, Nat.le_of_ble_eq_true rfl⟩ (gSub.idx [] rfl rfl) rfl dX5_run_2 ?_
    refine g_if_ne C (tgt := 12) dX5_run_5 (by decide) (fun cd2 => ?_) (fun cd2 => ?_)
    · replace h := (if_neg cd2).symm.trans h
      refine g_iconst C (v := 0) (by decide) dX5_run_12 ?_
      exact v_X5_run_13 (v1 := p1) (v2 := p2) (s1 := false) C hQ h
    · replace h := (if_pos cd2).symm.trans h
      refine g_iconst C (v := 1) (by decide) dX5_run_8 ?_
      refine g_goto C (tgt := 13) dX5_run_9 (by decide) ?_
      exact v_X5_run_13 (v1 := p1) (v2 := p2) (s1 := true) C hQ h
abbrev r_X5_back : Room := { frames := 2, cells := 0, slots := 0, locals := 44 }
theorem m_X5_back_0 : Cond.fieldLink RX5 35 "BookinghouseModel" "made" "I" ∈ wsX5_back := by decide +kernel
theorem i_X5_back_X5 : ∀ w ∈ wsX50, w ∈ wsX5_back := by decide +kernel
theorem m_X5_back_2 : Cond.fieldLink RX5 28 "BookinghouseModel" "clock" "[I" ∈ wsX5_back := by decide +kernel
theorem m_X5_back_3 : Cond.fieldLink RX5 19 "BookinghouseModel" "home" "[I" ∈ wsX5_back := by decide +kernel
theorem m_X5_back_4 : Cond.fieldLink RX5 22 "BookinghouseModel" "state" "[I" ∈ wsX5_back := by decide +kernel
theorem m_X5_back_5 : Cond.fieldLink RX5 7 "BookinghouseModel" "time" "[I" ∈ wsX5_back := by decide +kernel
set_option maxHeartbeats 4000000 in
set_option maxRecDepth 100000 in
theorem w_X5_back_148 {E : gE} {X : gX} {b : Nat → Nat} {th : Int32} {ma : Int32} {st : Int32} {ti : Nat → Int32} {sp : Nat → Int32} {we : Nat → Int32} {ho : Nat → Int32} {sa : Nat → Int32} {ca : Nat → Int32} {cl : Nat → Int32} {su : Int64} {v1 : Int32} {v2 : Int32} {v3 : Int32} {thc : Int32} {o : (Int32 × Int32 × (Nat → Int32) × (Nat → Int32))} (C : Cx E X cX5_back 5 RX5 wsX5_back r_X5_back ((some .int)) []) (hQ : gQ E X (wM E b th ma st ti sp we ho sa ca cl su) r_X5_back (gO (fun u9 => some (.int u9.1)) (fun u9 => (wM E b u9.2.1 ma st ti sp we ho u9.2.2.1 ca u9.2.2.2 su)) (.inr o))) : ∀ (F : Nat) (v4 : Int32) (sac : Nat → Int32), l_X5_back_148 ma ti ho cl v1 v2 v3 thc F v4 sac = some o → Gx E X (wM E b thc ma st ti sp we ho sac ca cl su) 5 [(0, .ref (b 0)), (1, .int v1), (2, .int v2), (3, .int v3), (4, .int v4)] [] 148 0 0 := by
  intro F
  induction F with
  | zero => intro v4 sac h; exact absurd h (by simp [l_X5_back_148])
  | succ F ih =>
    intro v4 sac h
    rw [l_X5_back_148] at h
    refine g_iload C 4 rfl dX5_back_148 ?_
    refine g_aload_n C 0 rfl rfl dX5_back_150 ?_
    refine g_X5_made C i_X5_back_X5 m_X5_back_0 0 rfl dX5_back_151 ?_
    refine g_icmp_ge C (tgt := 204) dX5_back_154 (by decide) (fun cd1 => ?_) (fun cd1 => ?_)
    · replace h := (if_pos cd1).symm.trans h
      refine g_aload_n C 0 rfl rfl dX5_back_204 ?_
      refine g_X5_clock C i_X5_back_X5 m_X5_back_2 0 rfl dX5_back_205 ?_
      refine g_iload_n C 1 rfl rfl dX5_back_208 ?_
      refine g_iload_n C 2 rfl rfl dX5_back_209 ?_
      obtain ⟨cd2, h⟩ := ifN h
      refine g_iast C 7 rfl (ws2 := (wM E b thc ma st ti sp we ho sac ca (upd cl v1.toNatClampNeg v2) su)) rfl (inB_in cd2) dX5_back_210 ?_
      refine g_iload_n C 3 rfl rfl dX5_back_211 ?_
      obtain rfl := Option.some.inj h
      exact g_iret C hQ (by dsimp only [gO]) ⟨by decide, by decide⟩ dX5_back_212
    · replace h := (if_neg cd1).symm.trans h
      refine g_aload_n C 0 rfl rfl dX5_back_157 ?_
      refine g_X5_home C i_X5_back_X5 m_X5_back_3 0 rfl dX5_back_158 ?_
      refine g_iload C 4 rfl dX5_back_161 ?_
      obtain ⟨cd3, h⟩ := ifN h
      refine g_iald C 4 rfl (inB_in cd3) dX5_back_163 ?_
      refine g_iload_n C 1 rfl rfl dX5_back_164 ?_
      refine g_icmp_ne C (tgt := 198) dX5_back_165 (by decide) (fun cd4 => ?_) (fun cd4 => ?_)
      · replace h := (if_neg cd4).symm.trans h
        refine g_iinc C (v := v4 + 1) 4 rfl rfl (lv2 := [(4, .int (v4 + 1)), (0, .ref (b 0)), (1, .int v1), (2, .int v2), (3, .int v3)]) rfl (by decide) dX5_back_198 ?_
        refine g_goto C (tgt := 148) dX5_back_201 (by decide) ?_
        refine g_lv [1, 2, 3, 4, 0] (lv2 := [(0, .ref (b 0)), (1, .int v1), (2, .int v2), (3, .int v3), (4, .int (v4 + 1))]) rfl ?_
        exact ih (v4 + 1) sac h
      · replace h := (if_pos cd4).symm.trans h
        refine g_aload_n C 0 rfl rfl dX5_back_168 ?_
        refine g_X5_state C i_X5_back_X5 m_X5_back_4 0 rfl dX5_back_169 ?_
        refine g_iload C 4 rfl dX5_back_172 ?_
        obtain ⟨cd5, h⟩ := ifN h
        refine g_iald C 5 rfl (inB_in cd5) dX5_back_174 ?_
        refine g_iconst C (v := 1) (by decide) dX5_back_175 ?_
        refine g_icmp_ne C (tgt := 198) dX5_back_176 (by decide) (fun cd6 => ?_) (fun cd6 => ?_)
        · replace h := (if_neg cd6).symm.trans h
          refine g_iinc C (v := v4 + 1) 4 rfl rfl (lv2 := [(4, .int (v4 + 1)), (0, .ref (b 0)), (1, .int v1), (2, .int v2), (3, .int v3)]) rfl (by decide) dX5_back_198 ?_
          refine g_goto C (tgt := 148) dX5_back_201 (by decide) ?_
          refine g_lv [1, 2, 3, 4, 0] (lv2 := [(0, .ref (b 0)), (1, .int v1), (2, .int v2), (3, .int v3), (4, .int (v4 + 1))]) rfl ?_
          exact ih (v4 + 1) sac h
        · replace h := (if_pos cd6).symm.trans h
          refine g_aload_n C 0 rfl rfl dX5_back_179 ?_
          refine g_X5_time C i_X5_back_X5 m_X5_back_5 0 rfl dX5_back_180 ?_
          refine g_iload C 4 rfl dX5_back_183 ?_
          obtain ⟨cd7, h⟩ := ifN h
          refine g_iald C 1 rfl (inB_in cd7) dX5_back_185 ?_
          refine g_iload_n C 2 rfl rfl dX5_back_186 ?_
          refine g_icmp_le C (tgt := 198) dX5_back_187 (by decide) (fun cd8 => ?_) (fun cd8 => ?_)
          · replace h := (if_pos cd8).symm.trans h
            refine g_iinc C (v := v4 + 1) 4 rfl rfl (lv2 := [(4, .int (v4 + 1)), (0, .ref (b 0)), (1, .int v1), (2, .int v2), (3, .int v3)]) rfl (by decide) dX5_back_198 ?_
            refine g_goto C (tgt := 148) dX5_back_201 (by decide) ?_
            refine g_lv [1, 2, 3, 4, 0] (lv2 := [(0, .ref (b 0)), (1, .int v1), (2, .int v2), (3, .int v3), (4, .int (v4 + 1))]) rfl ?_
            exact ih (v4 + 1) sac h
          · replace h := (if_neg cd8).symm.trans h
            refine g_aload_n C 0 rfl rfl dX5_back_190 ?_
            refine g_X5_state C i_X5_back_X5 m_X5_back_4 0 rfl dX5_back_191 ?_
            refine g_iload C 4 rfl dX5_back_194 ?_
            refine g_iconst C (v := 0) (by decide) dX5_back_196 ?_
            obtain ⟨cd9, h⟩ := ifN h
            refine g_iast C 5 rfl (ws2 := (wM E b thc ma st ti sp we ho (upd sac v4.toNatClampNeg 0) ca cl su)) rfl (inB_in cd9) dX5_back_197 ?_
            refine g_iinc C (v := v4 + 1) 4 rfl rfl (lv2 := [(4, .int (v4 + 1)), (0, .ref (b 0)), (1, .int v1), (2, .int v2), (3, .int v3)]) rfl (by decide) dX5_back_198 ?_
            refine g_goto C (tgt := 148) dX5_back_201 (by decide) ?_
            refine g_lv [1, 2, 3, 4, 0] (lv2 := [(0, .ref (b 0)), (1, .int v1), (2, .int v2), (3, .int v3), (4, .int (v4 + 1))]) rfl ?_
            exact ih (v4 + 1) (upd sac v4.toNatClampNeg 0) h
set_option maxHeartbeats 4000000 in
set_option maxRecDepth 100000 in
theorem v_X5_back_136 {E : gE} {X : gX} {b : Nat → Nat} {th : Int32} {ma : Int32} {st : Int32} {ti : Nat → Int32} {sp : Nat → Int32} {we : Nat → Int32} {ho : Nat → Int32} {sa : Nat → Int32} {ca : Nat → Int32} {cl : Nat → Int32} {su : Int64} {v1 : Int32} {v2 : Int32} {v3 : Int32} {s1 : Bool} {thc : Int32} {o : (Int32 × Int32 × (Nat → Int32) × (Nat → Int32))} (C : Cx E X cX5_back 5 RX5 wsX5_back r_X5_back ((some .int)) []) (hQ : gQ E X (wM E b th ma st ti sp we ho sa ca cl su) r_X5_back (gO (fun u9 => some (.int u9.1)) (fun u9 => (wM E b u9.2.1 ma st ti sp we ho u9.2.2.1 ca u9.2.2.2 su)) (.inr o))) (h : b_X5_back_136 ma ti ho sa cl v1 v2 v3 s1 thc = some o) : Gx E X (wM E b thc ma st ti sp we ho sa ca cl su) 5 [(0, .ref (b 0)), (1, .int v1), (2, .int v2), (3, .int v3)] [.int (bI s1), .ref (b 0)] 136 0 0 := by
  rw [b_X5_back_136] at h
  refine g_iconst C (v := 3) (by decide) dX5_back_136 ?_
  obtain ⟨g1, eg1, h⟩ := Option.bind_eq_some_iff.mp h
  refine g_cVr (As := [.int (bI s1), .int 3]) (n9 := 2) (st := []) (w2 := (wM E b g1.2 ma st ti sp we ho sa ca cl su)) C (c_X5_isThrown E b thc ma st ti sp we ho sa ca cl su s1 3 g1 eg1) gX5_back_X5_isThrown rfl (by decide +kernel) rfl ⟨by decide, by decide, by decide, by decide, Nat.le_of_ble_eq_true rfl⟩ 0 rfl rfl (gSub.idx [0, 1, 2, 3, 4, 5, 6, 7] rfl rfl) rfl dX5_back_137 ?_
  refine g_if_eq C (tgt := 145) dX5_back_140 (by decide) (fun cd2 => ?_) (fun cd2 => ?_)
  · replace h := (if_pos cd2).symm.trans h
    refine g_iconst C (v := 0) (by decide) dX5_back_145 ?_
    refine g_istore C (lv2 := [(4, .int 0), (0, .ref (b 0)), (1, .int v1), (2, .int v2), (3, .int v3)]) rfl (by decide) dX5_back_146 ?_
    refine g_lv [1, 2, 3, 4, 0] (lv2 := [(0, .ref (b 0)), (1, .int v1), (2, .int v2), (3, .int v3), (4, .int 0)]) rfl ?_
    exact w_X5_back_148 (v1 := v1) (v2 := v2) (v3 := v3) (thc := g1.2) C hQ FU 0 sa h
  · replace h := (if_neg cd2).symm.trans h
    refine g_iconst C (v := 0) (by decide) dX5_back_143 ?_
    obtain rfl := Option.some.inj h
    exact g_iret C hQ (by dsimp only [gO]) ⟨by decide, by decide⟩ dX5_back_144
set_option maxHeartbeats 4000000 in
set_option maxRecDepth 100000 in
theorem w_X5_back_51 {E : gE} {X : gX} {b : Nat → Nat} {th : Int32} {ma : Int32} {st : Int32} {ti : Nat → Int32} {sp : Nat → Int32} {we : Nat → Int32} {ho : Nat → Int32} {sa : Nat → Int32} {ca : Nat → Int32} {cl : Nat → Int32} {su : Int64} {v1 : Int32} {v2 : Int32} {thc : Int32} {o : (Int32 × Int32 × (Nat → Int32) × (Nat → Int32))} (C : Cx E X cX5_back 5 RX5 wsX5_back r_X5_back ((some .int)) []) (hQ : gQ E X (wM E b th ma st ti sp we ho sa ca cl su) r_X5_back (gO (fun u9 => some (.int u9.1)) (fun u9 => (wM E b u9.2.1 ma st ti sp we ho u9.2.2.1 ca u9.2.2.2 su)) (.inr o))) : ∀ (F : Nat) (v3 : Int32) (v4 : Int32), l_X5_back_51 ma ti ho sa cl v1 v2 thc F v3 v4 = some o → Gx E X (wM E b thc ma st ti sp we ho sa ca cl su) 5 [(0, .ref (b 0)), (1, .int v1), (2, .int v2), (3, .int v3), (4, .int v4)] [] 51 0 0 := by
  intro F
  induction F with
  | zero => intro v3 v4 h; exact absurd h (by simp [l_X5_back_51])
  | succ F ih =>
    intro v3 v4 h
    rw [l_X5_back_51] at h
    refine g_iload C 4 rfl dX5_back_51 ?_
    refine g_aload_n C 0 rfl rfl dX5_back_53 ?_
    refine g_X5_made C i_X5_back_X5 m_X5_back_0 0 rfl dX5_back_54 ?_
    refine g_icmp_ge C (tgt := 107) dX5_back_57 (by decide) (fun cd1 => ?_) (fun cd1 => ?_)
    · replace h := (if_pos cd1).symm.trans h
      refine g_aload_n C 0 rfl rfl dX5_back_107 ?_
      refine g_iload_n C 2 rfl rfl dX5_back_108 ?_
      refine g_aload_n C 0 rfl rfl dX5_back_109 ?_
      refine g_X5_clock C i_X5_back_X5 m_X5_back_2 0 rfl dX5_back_110 ?_
      refine g_iload_n C 1 rfl rfl dX5_back_113 ?_
      obtain ⟨cd2, h⟩ := ifN h
      refine g_iald C 7 rfl (inB_in cd2) dX5_back_114 ?_
      refine g_icmp_gt C (tgt := 131) dX5_back_115 (by decide) (fun cd3 => ?_) (fun cd3 => ?_)
      · replace h := (if_pos cd3).symm.trans h
        refine g_iconst C (v := 1) (by decide) dX5_back_131 ?_
        refine g_goto C (tgt := 136) dX5_back_132 (by decide) ?_
        refine g_lv [0, 1, 2, 3] (lv2 := [(0, .ref (b 0)), (1, .int v1), (2, .int v2), (3, .int v3)]) rfl ?_
        exact v_X5_back_136 (v1 := v1) (v2 := v2) (v3 := v3) (s1 := true) (thc := thc) C hQ h
      · replace h := (if_neg cd3).symm.trans h
        refine g_aload_n C 0 rfl rfl dX5_back_118 ?_
        refine g_iload_n C 1 rfl rfl dX5_back_119 ?_
        refine g_iconst C (v := 0) (by decide) dX5_back_120 ?_
        obtain ⟨g4, eg4, h⟩ := Option.bind_eq_some_iff.mp h
        refine g_cVr (As := [.int v1, .int 0]) (n9 := 2) (st := [.ref (b 0)]) (w2 := (wM E b thc ma st ti sp we ho sa ca cl su)) C (c_X5_many E b thc ma st ti sp we ho sa ca cl su v1 0 g4 eg4) gX5_back_X5_many rfl (by decide +kernel) rfl ⟨by decide, by decide, by decide, by decide, Nat.le_of_ble_eq_true rfl⟩ 0 rfl rfl (gSub.idx [0, 1, 2, 3, 4, 5, 6, 7] rfl rfl) rfl dX5_back_121 ?_
        refine g_iload_n C 3 rfl rfl dX5_back_124 ?_
        refine g_iadd C dX5_back_125 ?_
        refine g_bipush C (v := 48) (by decide) dX5_back_126 ?_
        refine g_icmp_le C (tgt := 135) dX5_back_128 (by decide) (fun cd5 => ?_) (fun cd5 => ?_)
        · replace h := (if_pos cd5).symm.trans h
          refine g_iconst C (v := 0) (by decide) dX5_back_135 ?_
          refine g_lv [0, 1, 2, 3] (lv2 := [(0, .ref (b 0)), (1, .int v1), (2, .int v2), (3, .int v3)]) rfl ?_
          exact v_X5_back_136 (v1 := v1) (v2 := v2) (v3 := v3) (s1 := false) (thc := thc) C hQ h
        · replace h := (if_neg cd5).symm.trans h
          refine g_iconst C (v := 1) (by decide) dX5_back_131 ?_
          refine g_goto C (tgt := 136) dX5_back_132 (by decide) ?_
          refine g_lv [0, 1, 2, 3] (lv2 := [(0, .ref (b 0)), (1, .int v1), (2, .int v2), (3, .int v3)]) rfl ?_
          exact v_X5_back_136 (v1 := v1) (v2 := v2) (v3 := v3) (s1 := true) (thc := thc) C hQ h
    · replace h := (if_neg cd1).symm.trans h
      refine g_iload_n C 3 rfl rfl dX5_back_60 ?_
      refine g_aload_n C 0 rfl rfl dX5_back_61 ?_
      refine g_X5_home C i_X5_back_X5 m_X5_back_3 0 rfl dX5_back_62 ?_
      refine g_iload C 4 rfl dX5_back_65 ?_
      obtain ⟨cd6, h⟩ := ifN h
      refine g_iald C 4 rfl (inB_in cd6) dX5_back_67 ?_
      refine g_iload_n C 1 rfl rfl dX5_back_68 ?_
      refine g_icmp_ne C (tgt := 98) dX5_back_69 (by decide) (fun cd7 => ?_) (fun cd7 => ?_)
      · replace h := (if_neg cd7).symm.trans h
        refine g_iconst C (v := 0) (by decide) dX5_back_98 ?_
        refine g_iadd C dX5_back_99 ?_
        refine g_istore_n C (lv2 := [(3, .int (v3 + 0)), (0, .ref (b 0)), (1, .int v1), (2, .int v2), (4, .int v4)]) rfl (by decide) rfl dX5_back_100 ?_
        refine g_iinc C (v := v4 + 1) 4 rfl rfl (lv2 := [(4, .int (v4 + 1)), (3, .int (v3 + 0)), (0, .ref (b 0)), (1, .int v1), (2, .int v2)]) rfl (by decide) dX5_back_101 ?_
        refine g_goto C (tgt := 51) dX5_back_104 (by decide) ?_
        refine g_lv [2, 3, 4, 1, 0] (lv2 := [(0, .ref (b 0)), (1, .int v1), (2, .int v2), (3, .int (v3 + 0)), (4, .int (v4 + 1))]) rfl ?_
        exact ih (v3 + 0) (v4 + 1) h
      · replace h := (if_pos cd7).symm.trans h
        refine g_aload_n C 0 rfl rfl dX5_back_72 ?_
        refine g_X5_state C i_X5_back_X5 m_X5_back_4 0 rfl dX5_back_73 ?_
        refine g_iload C 4 rfl dX5_back_76 ?_
        obtain ⟨cd8, h⟩ := ifN h
        refine g_iald C 5 rfl (inB_in cd8) dX5_back_78 ?_
        refine g_iconst C (v := 1) (by decide) dX5_back_79 ?_
        refine g_icmp_ne C (tgt := 98) dX5_back_80 (by decide) (fun cd9 => ?_) (fun cd9 => ?_)
        · replace h := (if_neg cd9).symm.trans h
          refine g_iconst C (v := 0) (by decide) dX5_back_98 ?_
          refine g_iadd C dX5_back_99 ?_
          refine g_istore_n C (lv2 := [(3, .int (v3 + 0)), (0, .ref (b 0)), (1, .int v1), (2, .int v2), (4, .int v4)]) rfl (by decide) rfl dX5_back_100 ?_
          refine g_iinc C (v := v4 + 1) 4 rfl rfl (lv2 := [(4, .int (v4 + 1)), (3, .int (v3 + 0)), (0, .ref (b 0)), (1, .int v1), (2, .int v2)]) rfl (by decide) dX5_back_101 ?_
          refine g_goto C (tgt := 51) dX5_back_104 (by decide) ?_
          refine g_lv [2, 3, 4, 1, 0] (lv2 := [(0, .ref (b 0)), (1, .int v1), (2, .int v2), (3, .int (v3 + 0)), (4, .int (v4 + 1))]) rfl ?_
          exact ih (v3 + 0) (v4 + 1) h
        · replace h := (if_pos cd9).symm.trans h
          refine g_aload_n C 0 rfl rfl dX5_back_83 ?_
          refine g_X5_time C i_X5_back_X5 m_X5_back_5 0 rfl dX5_back_84 ?_
          refine g_iload C 4 rfl dX5_back_87 ?_
          obtain ⟨cd10, h⟩ := ifN h
          refine g_iald C 1 rfl (inB_in cd10) dX5_back_89 ?_
          refine g_iload_n C 2 rfl rfl dX5_back_90 ?_
          refine g_icmp_le C (tgt := 98) dX5_back_91 (by decide) (fun cd11 => ?_) (fun cd11 => ?_)
          · replace h := (if_pos cd11).symm.trans h
            refine g_iconst C (v := 0) (by decide) dX5_back_98 ?_
            refine g_iadd C dX5_back_99 ?_
            refine g_istore_n C (lv2 := [(3, .int (v3 + 0)), (0, .ref (b 0)), (1, .int v1), (2, .int v2), (4, .int v4)]) rfl (by decide) rfl dX5_back_100 ?_
            refine g_iinc C (v := v4 + 1) 4 rfl rfl (lv2 := [(4, .int (v4 + 1)), (3, .int (v3 + 0)), (0, .ref (b 0)), (1, .int v1), (2, .int v2)]) rfl (by decide) dX5_back_101 ?_
            refine g_goto C (tgt := 51) dX5_back_104 (by decide) ?_
            refine g_lv [2, 3, 4, 1, 0] (lv2 := [(0, .ref (b 0)), (1, .int v1), (2, .int v2), (3, .int (v3 + 0)), (4, .int (v4 + 1))]) rfl ?_
            exact ih (v3 + 0) (v4 + 1) h
          · replace h := (if_neg cd11).symm.trans h
            refine g_iconst C (v := 1) (by decide) dX5_back_94 ?_
            refine g_goto C (tgt := 99) dX5_back_95 (by decide) ?_
            refine g_iadd C dX5_back_99 ?_
            refine g_istore_n C (lv2 := [(3, .int (v3 + 1)), (0, .ref (b 0)), (1, .int v1), (2, .int v2), (4, .int v4)]) rfl (by decide) rfl dX5_back_100 ?_
            refine g_iinc C (v := v4 + 1) 4 rfl rfl (lv2 := [(4, .int (v4 + 1)), (3, .int (v3 + 1)), (0, .ref (b 0)), (1, .int v1), (2, .int v2)]) rfl (by decide) dX5_back_101 ?_
            refine g_goto C (tgt := 51) dX5_back_104 (by decide) ?_
            refine g_lv [2, 3, 4, 1, 0] (lv2 := [(0, .ref (b 0)), (1, .int v1), (2, .int v2), (3, .int (v3 + 1)), (4, .int (v4 + 1))]) rfl ?_
            exact ih (v3 + 1) (v4 + 1) h
set_option maxHeartbeats 4000000 in
set_option maxRecDepth 100000 in
theorem v_X5_back_37 {E : gE} {X : gX} {b : Nat → Nat} {th : Int32} {ma : Int32} {st : Int32} {ti : Nat → Int32} {sp : Nat → Int32} {we : Nat → Int32} {ho : Nat → Int32} {sa : Nat → Int32} {ca : Nat → Int32} {cl : Nat → Int32} {su : Int64} {v1 : Int32} {v2 : Int32} {s1 : Bool} {thc : Int32} {o : (Int32 × Int32 × (Nat → Int32) × (Nat → Int32))} (C : Cx E X cX5_back 5 RX5 wsX5_back r_X5_back ((some .int)) []) (hQ : gQ E X (wM E b th ma st ti sp we ho sa ca cl su) r_X5_back (gO (fun u9 => some (.int u9.1)) (fun u9 => (wM E b u9.2.1 ma st ti sp we ho u9.2.2.1 ca u9.2.2.2 su)) (.inr o))) (h : b_X5_back_37 ma ti ho sa cl v1 v2 s1 thc = some o) : Gx E X (wM E b thc ma st ti sp we ho sa ca cl su) 5 [(0, .ref (b 0)), (1, .int v1), (2, .int v2)] [.int (bI s1), .ref (b 0)] 37 0 0 := by
  rw [b_X5_back_37] at h
  refine g_iconst C (v := 2) (by decide) dX5_back_37 ?_
  obtain ⟨g1, eg1, h⟩ := Option.bind_eq_some_iff.mp h
  refine g_cVr (As := [.int (bI s1), .int 2]) (n9 := 2) (st := []) (w2 := (wM E b g1.2 ma st ti sp we ho sa ca cl su)) C (c_X5_isThrown E b thc ma st ti sp we ho sa ca cl su s1 2 g1 eg1) gX5_back_X5_isThrown rfl (by decide +kernel) rfl ⟨by decide, by decide, by decide, by decide, Nat.le_of_ble_eq_true rfl⟩ 0 rfl rfl (gSub.idx [0, 1, 2, 3, 4, 5, 6, 7] rfl rfl) rfl dX5_back_38 ?_
  refine g_if_eq C (tgt := 46) dX5_back_41 (by decide) (fun cd2 => ?_) (fun cd2 => ?_)
  · replace h := (if_pos cd2).symm.trans h
    refine g_iconst C (v := 0) (by decide) dX5_back_46 ?_
    refine g_istore_n C (lv2 := [(3, .int 0), (0, .ref (b 0)), (1, .int v1), (2, .int v2)]) rfl (by decide) rfl dX5_back_47 ?_
    refine g_iconst C (v := 0) (by decide) dX5_back_48 ?_
    refine g_istore C (lv2 := [(4, .int 0), (3, .int 0), (0, .ref (b 0)), (1, .int v1), (2, .int v2)]) rfl (by decide) dX5_back_49 ?_
    refine g_lv [2, 3, 4, 1, 0] (lv2 := [(0, .ref (b 0)), (1, .int v1), (2, .int v2), (3, .int 0), (4, .int 0)]) rfl ?_
    exact w_X5_back_51 (v1 := v1) (v2 := v2) (thc := g1.2) C hQ FU 0 0 h
  · replace h := (if_neg cd2).symm.trans h
    refine g_iconst C (v := 0) (by decide) dX5_back_44 ?_
    obtain rfl := Option.some.inj h
    exact g_iret C hQ (by dsimp only [gO]) ⟨by decide, by decide⟩ dX5_back_45
set_option maxHeartbeats 4000000 in
set_option maxRecDepth 100000 in
theorem v_X5_back_13 {E : gE} {X : gX} {b : Nat → Nat} {th : Int32} {ma : Int32} {st : Int32} {ti : Nat → Int32} {sp : Nat → Int32} {we : Nat → Int32} {ho : Nat → Int32} {sa : Nat → Int32} {ca : Nat → Int32} {cl : Nat → Int32} {su : Int64} {v1 : Int32} {v2 : Int32} {s1 : Bool} {o : (Int32 × Int32 × (Nat → Int32) × (Nat → Int32))} (C : Cx E X cX5_back 5 RX5 wsX5_back r_X5_back ((some .int)) []) (hQ : gQ E X (wM E b th ma st ti sp we ho sa ca cl su) r_X5_back (gO (fun u9 => some (.int u9.1)) (fun u9 => (wM E b u9.2.1 ma st ti sp we ho u9.2.2.1 ca u9.2.2.2 su)) (.inr o))) (h : b_X5_back_13 ma ti ho sa cl v1 v2 s1 = some o) : Gx E X (wM E b th ma st ti sp we ho sa ca cl su) 5 [(0, .ref (b 0)), (1, .int v1), (2, .int v2)] [.int (bI s1), .ref (b 0)] 13 0 0 := by
  rw [b_X5_back_13] at h
  refine g_iconst C (v := 1) (by decide) dX5_back_13 ?_
  obtain ⟨g1, eg1, h⟩ := Option.bind_eq_some_iff.mp h
  refine g_cVr (As := [.int (bI s1), .int 1]) (n9 := 2) (st := []) (w2 := (wM E b g1.2 ma st ti sp we ho sa ca cl su)) C (c_X5_isThrown E b th ma st ti sp we ho sa ca cl su s1 1 g1 eg1) gX5_back_X5_isThrown rfl (by decide +kernel) rfl ⟨by decide, by decide, by decide, by decide, Nat.le_of_ble_eq_true rfl⟩ 0 rfl rfl (gSub.idx [0, 1, 2, 3, 4, 5, 6, 7] rfl rfl) rfl dX5_back_14 ?_
  refine g_if_ne C (tgt := 44) dX5_back_17 (by decide) (fun cd2 => ?_) (fun cd2 => ?_)
  · replace h := (if_neg cd2).symm.trans h
    refine g_iconst C (v := 0) (by decide) dX5_back_44 ?_
    obtain rfl := Option.some.inj h
    exact g_iret C hQ (by dsimp only [gO]) ⟨by decide, by decide⟩ dX5_back_45
  · replace h := (if_pos cd2).symm.trans h
    refine g_aload_n C 0 rfl rfl dX5_back_20 ?_
    refine g_iload_n C 2 rfl rfl dX5_back_21 ?_
    refine g_iconst C (v := 0) (by decide) dX5_back_22 ?_
    refine g_sipush C (v := 9999) (by decide) dX5_back_23 ?_
    obtain ⟨g3, eg3, h⟩ := Option.bind_eq_some_iff.mp h
    refine g_cSr (As := [.int v2, .int 0, .int 9999]) (n9 := 3) (st := [.ref (b 0)]) (w2 := (wM E b g1.2 ma st ti sp we ho sa ca cl su)) C (c_X5_isIn E v2 0 9999 g3 eg3) gX5_back_X5_isIn rfl (by decide +kernel) rfl ⟨by decide, by decide, by decide, by decide, Nat.le_of_ble_eq_true rfl⟩ (gSub.idx [] rfl rfl) rfl dX5_back_26 ?_
    refine g_if_ne C (tgt := 36) dX5_back_29 (by decide) (fun cd4 => ?_) (fun cd4 => ?_)
    · replace h := (if_neg cd4).symm.trans h
      refine g_iconst C (v := 0) (by decide) dX5_back_36 ?_
      exact v_X5_back_37 (v1 := v1) (v2 := v2) (s1 := false) (thc := g1.2) C hQ h
    · replace h := (if_pos cd4).symm.trans h
      refine g_iconst C (v := 1) (by decide) dX5_back_32 ?_
      refine g_goto C (tgt := 37) dX5_back_33 (by decide) ?_
      exact v_X5_back_37 (v1 := v1) (v2 := v2) (s1 := true) (thc := g1.2) C hQ h
set_option maxHeartbeats 4000000 in
set_option maxRecDepth 100000 in
theorem c_X5_back (E : gE) (b : Nat → Nat) (th : Int32) (ma : Int32) (st : Int32) (ti : Nat → Int32) (sp : Nat → Int32) (we : Nat → Int32) (ho : Nat → Int32) (sa : Nat → Int32) (ca : Nat → Int32) (cl : Nat → Int32) (su : Int64) (p1 : Int32) (p2 : Int32) (o : (Int32 × Int32 × (Nat → Int32) × (Nat → Int32))) (h : f_X5_back ma ti ho sa cl p1 p2 = some o) : Ct E yX5_back wsX5_back r_X5_back [.ref (b 0), .int p1, .int p2] (wM E b th ma st ti sp we ho sa ca cl su) (gO (fun u9 => some (.int u9.1)) (fun u9 => (wM E b u9.2.1 ma st ti sp we ho u9.2.2.1 ca u9.2.2.2 su)) (.inr o)) := by
  refine Ct.of (cc := cX5_back) (nL := 5) (ret := ((some .int))) (own := RX5) (by decide) rfl rfl (Nat.le_of_ble_eq_true rfl) rfl ?_ ?_
  · intro v w1 hh
    cases hh; rfl
  · intro X C hQ
    rw [f_X5_back] at h
    refine g_aload_n C 0 rfl rfl dX5_back_0 ?_
    refine g_iload_n C 1 rfl rfl dX5_back_1 ?_
    obtain ⟨g1, eg1, h⟩ := Option.bind_eq_some_iff.mp h
    refine g_cSr (As := [.int p1]) (n9 := 1) (st := [.ref (b 0)]) (w2 := (wM E b th ma st ti sp we ho sa ca cl su)) C (c_X5_isHouse E p1 g1 eg1) gX5_back_X5_isHouse rfl (by decide +kernel) rfl ⟨by decide, by decide, by decide, by decide, Nat.le_of_ble_eq_true rfl⟩ (gSub.idx [] rfl rfl) rfl dX5_back_2 ?_
    refine g_if_ne C (tgt := 12) dX5_back_5 (by decide) (fun cd2 => ?_) (fun cd2 => ?_)
    · replace h := (if_neg cd2).symm.trans h
      refine g_iconst C (v := 0) (by decide) dX5_back_12 ?_
      exact v_X5_back_13 (v1 := p1) (v2 := p2) (s1 := false) C hQ h
    · replace h := (if_pos cd2).symm.trans h
      refine g_iconst C (v := 1) (by decide) dX5_back_8 ?_
      refine g_goto C (tgt := 13) dX5_back_9 (by decide) ?_
      exact v_X5_back_13 (v1 := p1) (v2 := p2) (s1 := true) C hQ h
abbrev r_X5_clock : Room := { frames := 2, cells := 0, slots := 0, locals := 42 }
theorem m_X5_clock_0 : Cond.fieldLink RX5 28 "BookinghouseModel" "clock" "[I" ∈ wsX5_clock := by decide +kernel
theorem i_X5_clock_X5 : ∀ w ∈ wsX50, w ∈ wsX5_clock := by decide +kernel
set_option maxHeartbeats 4000000 in
set_option maxRecDepth 100000 in
theorem v_X5_clock_13 {E : gE} {X : gX} {b : Nat → Nat} {th : Int32} {ma : Int32} {st : Int32} {ti : Nat → Int32} {sp : Nat → Int32} {we : Nat → Int32} {ho : Nat → Int32} {sa : Nat → Int32} {ca : Nat → Int32} {cl : Nat → Int32} {su : Int64} {v1 : Int32} {s1 : Bool} {o : (Int32 × Int32)} (C : Cx E X cX5_clock 2 RX5 wsX5_clock r_X5_clock ((some .int)) []) (hQ : gQ E X (wM E b th ma st ti sp we ho sa ca cl su) r_X5_clock (gO (fun u9 => some (.int u9.1)) (fun u9 => (wM E b u9.2 ma st ti sp we ho sa ca cl su)) (.inr o))) (h : b_X5_clock_13 cl v1 s1 = some o) : Gx E X (wM E b th ma st ti sp we ho sa ca cl su) 2 [(0, .ref (b 0)), (1, .int v1)] [.int (bI s1), .ref (b 0)] 13 0 0 := by
  rw [b_X5_clock_13] at h
  refine g_iconst C (v := 1) (by decide) dX5_clock_13 ?_
  obtain ⟨g1, eg1, h⟩ := Option.bind_eq_some_iff.mp h
  refine g_cVr (As := [.int (bI s1), .int 1]) (n9 := 2) (st := []) (w2 := (wM E b g1.2 ma st ti sp we ho sa ca cl su)) C (c_X5_isThrown E b th ma st ti sp we ho sa ca cl su s1 1 g1 eg1) gX5_clock_X5_isThrown rfl (by decide +kernel) rfl ⟨by decide, by decide, by decide, by decide, Nat.le_of_ble_eq_true rfl⟩ 0 rfl rfl (gSub.idx [0, 1, 2, 3, 4, 5, 6, 7] rfl rfl) rfl dX5_clock_14 ?_
  refine g_if_eq C (tgt := 24) dX5_clock_17 (by decide) (fun cd2 => ?_) (fun cd2 => ?_)
  · replace h := (if_pos cd2).symm.trans h
    refine g_aload_n C 0 rfl rfl dX5_clock_24 ?_
    refine g_X5_clock C i_X5_clock_X5 m_X5_clock_0 0 rfl dX5_clock_25 ?_
    refine g_iload_n C 1 rfl rfl dX5_clock_28 ?_
    obtain ⟨cd3, h⟩ := ifN h
    refine g_iald C 7 rfl (inB_in cd3) dX5_clock_29 ?_
    obtain rfl := Option.some.inj h
    exact g_iret C hQ rfl ⟨by decide, by decide⟩ dX5_clock_30
  · replace h := (if_neg cd2).symm.trans h
    refine g_iconst C (v := 0) (by decide) dX5_clock_20 ?_
    refine g_goto C (tgt := 30) dX5_clock_21 (by decide) ?_
    obtain rfl := Option.some.inj h
    exact g_iret C hQ rfl ⟨by decide, by decide⟩ dX5_clock_30
set_option maxHeartbeats 4000000 in
set_option maxRecDepth 100000 in
theorem c_X5_clock (E : gE) (b : Nat → Nat) (th : Int32) (ma : Int32) (st : Int32) (ti : Nat → Int32) (sp : Nat → Int32) (we : Nat → Int32) (ho : Nat → Int32) (sa : Nat → Int32) (ca : Nat → Int32) (cl : Nat → Int32) (su : Int64) (p1 : Int32) (o : (Int32 × Int32)) (h : f_X5_clock cl p1 = some o) : Ct E yX5_clock wsX5_clock r_X5_clock [.ref (b 0), .int p1] (wM E b th ma st ti sp we ho sa ca cl su) (gO (fun u9 => some (.int u9.1)) (fun u9 => (wM E b u9.2 ma st ti sp we ho sa ca cl su)) (.inr o)) := by
  refine Ct.of (cc := cX5_clock) (nL := 2) (ret := ((some .int))) (own := RX5) (by decide) rfl rfl (Nat.le_of_ble_eq_true rfl) rfl ?_ ?_
  · intro v w1 hh
    cases hh; rfl
  · intro X C hQ
    rw [f_X5_clock] at h
    refine g_aload_n C 0 rfl rfl dX5_clock_0 ?_
    refine g_iload_n C 1 rfl rfl dX5_clock_1 ?_
    obtain ⟨g1, eg1, h⟩ := Option.bind_eq_some_iff.mp h
    refine g_cSr (As := [.int p1]) (n9 := 1) (st := [.ref (b 0)]) (w2 := (wM E b th ma st ti sp we ho sa ca cl su)) C (c_X5_isHouse E p1 g1 eg1) gX5_clock_X5_isHouse rfl (by decide +kernel) rfl ⟨by decide, by decide, by decide, by decide, Nat.le_of_ble_eq_true rfl⟩ (gSub.idx [] rfl rfl) rfl dX5_clock_2 ?_
    refine g_if_ne C (tgt := 12) dX5_clock_5 (by decide) (fun cd2 => ?_) (fun cd2 => ?_)
    · replace h := (if_neg cd2).symm.trans h
      refine g_iconst C (v := 0) (by decide) dX5_clock_12 ?_
      exact v_X5_clock_13 (v1 := p1) (s1 := false) C hQ h
    · replace h := (if_pos cd2).symm.trans h
      refine g_iconst C (v := 1) (by decide) dX5_clock_8 ?_
      refine g_goto C (tgt := 13) dX5_clock_9 (by decide) ?_
      exact v_X5_clock_13 (v1 := p1) (s1 := true) C hQ h
abbrev r_X5_waiting : Room := { frames := 2, cells := 0, slots := 0, locals := 44 }
set_option maxHeartbeats 4000000 in
set_option maxRecDepth 100000 in
theorem v_X5_waiting_13 {E : gE} {X : gX} {b : Nat → Nat} {th : Int32} {ma : Int32} {st : Int32} {ti : Nat → Int32} {sp : Nat → Int32} {we : Nat → Int32} {ho : Nat → Int32} {sa : Nat → Int32} {ca : Nat → Int32} {cl : Nat → Int32} {su : Int64} {v1 : Int32} {s1 : Bool} {o : (Int32 × Int32)} (C : Cx E X cX5_waiting 2 RX5 wsX5_waiting r_X5_waiting ((some .int)) []) (hQ : gQ E X (wM E b th ma st ti sp we ho sa ca cl su) r_X5_waiting (gO (fun u9 => some (.int u9.1)) (fun u9 => (wM E b u9.2 ma st ti sp we ho sa ca cl su)) (.inr o))) (h : b_X5_waiting_13 ma ho sa v1 s1 = some o) : Gx E X (wM E b th ma st ti sp we ho sa ca cl su) 2 [(0, .ref (b 0)), (1, .int v1)] [.int (bI s1), .ref (b 0)] 13 0 0 := by
  rw [b_X5_waiting_13] at h
  refine g_iconst C (v := 1) (by decide) dX5_waiting_13 ?_
  obtain ⟨g1, eg1, h⟩ := Option.bind_eq_some_iff.mp h
  refine g_cVr (As := [.int (bI s1), .int 1]) (n9 := 2) (st := []) (w2 := (wM E b g1.2 ma st ti sp we ho sa ca cl su)) C (c_X5_isThrown E b th ma st ti sp we ho sa ca cl su s1 1 g1 eg1) gX5_waiting_X5_isThrown rfl (by decide +kernel) rfl ⟨by decide, by decide, by decide, by decide, Nat.le_of_ble_eq_true rfl⟩ 0 rfl rfl (gSub.idx [0, 1, 2, 3, 4, 5, 6, 7] rfl rfl) rfl dX5_waiting_14 ?_
  refine g_if_eq C (tgt := 24) dX5_waiting_17 (by decide) (fun cd2 => ?_) (fun cd2 => ?_)
  · replace h := (if_pos cd2).symm.trans h
    refine g_aload_n C 0 rfl rfl dX5_waiting_24 ?_
    refine g_iload_n C 1 rfl rfl dX5_waiting_25 ?_
    refine g_iconst C (v := 0) (by decide) dX5_waiting_26 ?_
    obtain ⟨g3, eg3, h⟩ := Option.bind_eq_some_iff.mp h
    refine g_cVr (As := [.int v1, .int 0]) (n9 := 2) (st := []) (w2 := (wM E b g1.2 ma st ti sp we ho sa ca cl su)) C (c_X5_many E b g1.2 ma st ti sp we ho sa ca cl su v1 0 g3 eg3) gX5_waiting_X5_many rfl (by decide +kernel) rfl ⟨by decide, by decide, by decide, by decide, Nat.le_of_ble_eq_true rfl⟩ 0 rfl rfl (gSub.idx [0, 1, 2, 3, 4, 5, 6, 7] rfl rfl) rfl dX5_waiting_27 ?_
    obtain rfl := Option.some.inj h
    exact g_iret C hQ rfl ⟨by decide, by decide⟩ dX5_waiting_30
  · replace h := (if_neg cd2).symm.trans h
    refine g_iconst C (v := 0) (by decide) dX5_waiting_20 ?_
    refine g_goto C (tgt := 30) dX5_waiting_21 (by decide) ?_
    obtain rfl := Option.some.inj h
    exact g_iret C hQ rfl ⟨by decide, by decide⟩ dX5_waiting_30
set_option maxHeartbeats 4000000 in
set_option maxRecDepth 100000 in
theorem c_X5_waiting (E : gE) (b : Nat → Nat) (th : Int32) (ma : Int32) (st : Int32) (ti : Nat → Int32) (sp : Nat → Int32) (we : Nat → Int32) (ho : Nat → Int32) (sa : Nat → Int32) (ca : Nat → Int32) (cl : Nat → Int32) (su : Int64) (p1 : Int32) (o : (Int32 × Int32)) (h : f_X5_waiting ma ho sa p1 = some o) : Ct E yX5_waiting wsX5_waiting r_X5_waiting [.ref (b 0), .int p1] (wM E b th ma st ti sp we ho sa ca cl su) (gO (fun u9 => some (.int u9.1)) (fun u9 => (wM E b u9.2 ma st ti sp we ho sa ca cl su)) (.inr o)) := by
  refine Ct.of (cc := cX5_waiting) (nL := 2) (ret := ((some .int))) (own := RX5) (by decide) rfl rfl (Nat.le_of_ble_eq_true rfl) rfl ?_ ?_
  · intro v w1 hh
    cases hh; rfl
  · intro X C hQ
    rw [f_X5_waiting] at h
    refine g_aload_n C 0 rfl rfl dX5_waiting_0 ?_
    refine g_iload_n C 1 rfl rfl dX5_waiting_1 ?_
    obtain ⟨g1, eg1, h⟩ := Option.bind_eq_some_iff.mp h
    refine g_cSr (As := [.int p1]) (n9 := 1) (st := [.ref (b 0)]) (w2 := (wM E b th ma st ti sp we ho sa ca cl su)) C (c_X5_isHouse E p1 g1 eg1) gX5_waiting_X5_isHouse rfl (by decide +kernel) rfl ⟨by decide, by decide, by decide, by decide, Nat.le_of_ble_eq_true rfl⟩ (gSub.idx [] rfl rfl) rfl dX5_waiting_2 ?_
    refine g_if_ne C (tgt := 12) dX5_waiting_5 (by decide) (fun cd2 => ?_) (fun cd2 => ?_)
    · replace h := (if_neg cd2).symm.trans h
      refine g_iconst C (v := 0) (by decide) dX5_waiting_12 ?_
      exact v_X5_waiting_13 (v1 := p1) (s1 := false) C hQ h
    · replace h := (if_pos cd2).symm.trans h
      refine g_iconst C (v := 1) (by decide) dX5_waiting_8 ?_
      refine g_goto C (tgt := 13) dX5_waiting_9 (by decide) ?_
      exact v_X5_waiting_13 (v1 := p1) (s1 := true) C hQ h
abbrev r_X5_came : Room := { frames := 2, cells := 0, slots := 0, locals := 44 }
set_option maxHeartbeats 4000000 in
set_option maxRecDepth 100000 in
theorem v_X5_came_13 {E : gE} {X : gX} {b : Nat → Nat} {th : Int32} {ma : Int32} {st : Int32} {ti : Nat → Int32} {sp : Nat → Int32} {we : Nat → Int32} {ho : Nat → Int32} {sa : Nat → Int32} {ca : Nat → Int32} {cl : Nat → Int32} {su : Int64} {v1 : Int32} {s1 : Bool} {o : (Int32 × Int32)} (C : Cx E X cX5_came 2 RX5 wsX5_came r_X5_came ((some .int)) []) (hQ : gQ E X (wM E b th ma st ti sp we ho sa ca cl su) r_X5_came (gO (fun u9 => some (.int u9.1)) (fun u9 => (wM E b u9.2 ma st ti sp we ho sa ca cl su)) (.inr o))) (h : b_X5_came_13 ma ho sa v1 s1 = some o) : Gx E X (wM E b th ma st ti sp we ho sa ca cl su) 2 [(0, .ref (b 0)), (1, .int v1)] [.int (bI s1), .ref (b 0)] 13 0 0 := by
  rw [b_X5_came_13] at h
  refine g_iconst C (v := 1) (by decide) dX5_came_13 ?_
  obtain ⟨g1, eg1, h⟩ := Option.bind_eq_some_iff.mp h
  refine g_cVr (As := [.int (bI s1), .int 1]) (n9 := 2) (st := []) (w2 := (wM E b g1.2 ma st ti sp we ho sa ca cl su)) C (c_X5_isThrown E b th ma st ti sp we ho sa ca cl su s1 1 g1 eg1) gX5_came_X5_isThrown rfl (by decide +kernel) rfl ⟨by decide, by decide, by decide, by decide, Nat.le_of_ble_eq_true rfl⟩ 0 rfl rfl (gSub.idx [0, 1, 2, 3, 4, 5, 6, 7] rfl rfl) rfl dX5_came_14 ?_
  refine g_if_eq C (tgt := 24) dX5_came_17 (by decide) (fun cd2 => ?_) (fun cd2 => ?_)
  · replace h := (if_pos cd2).symm.trans h
    refine g_aload_n C 0 rfl rfl dX5_came_24 ?_
    refine g_iload_n C 1 rfl rfl dX5_came_25 ?_
    refine g_iconst C (v := 1) (by decide) dX5_came_26 ?_
    obtain ⟨g3, eg3, h⟩ := Option.bind_eq_some_iff.mp h
    refine g_cVr (As := [.int v1, .int 1]) (n9 := 2) (st := []) (w2 := (wM E b g1.2 ma st ti sp we ho sa ca cl su)) C (c_X5_many E b g1.2 ma st ti sp we ho sa ca cl su v1 1 g3 eg3) gX5_came_X5_many rfl (by decide +kernel) rfl ⟨by decide, by decide, by decide, by decide, Nat.le_of_ble_eq_true rfl⟩ 0 rfl rfl (gSub.idx [0, 1, 2, 3, 4, 5, 6, 7] rfl rfl) rfl dX5_came_27 ?_
    obtain rfl := Option.some.inj h
    exact g_iret C hQ rfl ⟨by decide, by decide⟩ dX5_came_30
  · replace h := (if_neg cd2).symm.trans h
    refine g_iconst C (v := 0) (by decide) dX5_came_20 ?_
    refine g_goto C (tgt := 30) dX5_came_21 (by decide) ?_
    obtain rfl := Option.some.inj h
    exact g_iret C hQ rfl ⟨by decide, by decide⟩ dX5_came_30
set_option maxHeartbeats 4000000 in
set_option maxRecDepth 100000 in
theorem c_X5_came (E : gE) (b : Nat → Nat) (th : Int32) (ma : Int32) (st : Int32) (ti : Nat → Int32) (sp : Nat → Int32) (we : Nat → Int32) (ho : Nat → Int32) (sa : Nat → Int32) (ca : Nat → Int32) (cl : Nat → Int32) (su : Int64) (p1 : Int32) (o : (Int32 × Int32)) (h : f_X5_came ma ho sa p1 = some o) : Ct E yX5_came wsX5_came r_X5_came [.ref (b 0), .int p1] (wM E b th ma st ti sp we ho sa ca cl su) (gO (fun u9 => some (.int u9.1)) (fun u9 => (wM E b u9.2 ma st ti sp we ho sa ca cl su)) (.inr o)) := by
  refine Ct.of (cc := cX5_came) (nL := 2) (ret := ((some .int))) (own := RX5) (by decide) rfl rfl (Nat.le_of_ble_eq_true rfl) rfl ?_ ?_
  · intro v w1 hh
    cases hh; rfl
  · intro X C hQ
    rw [f_X5_came] at h
    refine g_aload_n C 0 rfl rfl dX5_came_0 ?_
    refine g_iload_n C 1 rfl rfl dX5_came_1 ?_
    obtain ⟨g1, eg1, h⟩ := Option.bind_eq_some_iff.mp h
    refine g_cSr (As := [.int p1]) (n9 := 1) (st := [.ref (b 0)]) (w2 := (wM E b th ma st ti sp we ho sa ca cl su)) C (c_X5_isHouse E p1 g1 eg1) gX5_came_X5_isHouse rfl (by decide +kernel) rfl ⟨by decide, by decide, by decide, by decide, Nat.le_of_ble_eq_true rfl⟩ (gSub.idx [] rfl rfl) rfl dX5_came_2 ?_
    refine g_if_ne C (tgt := 12) dX5_came_5 (by decide) (fun cd2 => ?_) (fun cd2 => ?_)
    · replace h := (if_neg cd2).symm.trans h
      refine g_iconst C (v := 0) (by decide) dX5_came_12 ?_
      exact v_X5_came_13 (v1 := p1) (s1 := false) C hQ h
    · replace h := (if_pos cd2).symm.trans h
      refine g_iconst C (v := 1) (by decide) dX5_came_8 ?_
      refine g_goto C (tgt := 13) dX5_came_9 (by decide) ?_
      exact v_X5_came_13 (v1 := p1) (s1 := true) C hQ h
abbrev r_X5_cameBehind : Room := { frames := 1, cells := 0, slots := 0, locals := 20 }
theorem m_X5_cameBehind_0 : Cond.fieldLink RX5 35 "BookinghouseModel" "made" "I" ∈ wsX5_cameBehind := by decide +kernel
theorem i_X5_cameBehind_X5 : ∀ w ∈ wsX50, w ∈ wsX5_cameBehind := by decide +kernel
theorem m_X5_cameBehind_2 : Cond.fieldLink RX5 19 "BookinghouseModel" "home" "[I" ∈ wsX5_cameBehind := by decide +kernel
theorem m_X5_cameBehind_3 : Cond.fieldLink RX5 22 "BookinghouseModel" "state" "[I" ∈ wsX5_cameBehind := by decide +kernel
theorem m_X5_cameBehind_4 : Cond.fieldLink RX5 25 "BookinghouseModel" "came" "[I" ∈ wsX5_cameBehind := by decide +kernel
set_option maxHeartbeats 4000000 in
set_option maxRecDepth 100000 in
theorem v_X5_cameBehind_57 {E : gE} {X : gX} {b : Nat → Nat} {th : Int32} {ma : Int32} {st : Int32} {ti : Nat → Int32} {sp : Nat → Int32} {we : Nat → Int32} {ho : Nat → Int32} {sa : Nat → Int32} {ca : Nat → Int32} {cl : Nat → Int32} {su : Int64} {v1 : Int32} {v2 : Int32} {v3 : Int32} {v4 : Int32} {ko5 : Int32 → Int32 → Option (Int32)} {o : (Int32)} (C : Cx E X cX5_cameBehind 5 RX5 wsX5_cameBehind r_X5_cameBehind ((some .int)) []) (hQ : gQ E X (wM E b th ma st ti sp we ho sa ca cl su) r_X5_cameBehind (gO (fun u9 => some (.int u9)) (fun u9 => (wM E b th ma st ti sp we ho sa ca cl su)) (.inr o))) (Hko5 : ∀ (qv3 : Int32) (qv4 : Int32), ko5 qv3 qv4 = some o → Gx E X (wM E b th ma st ti sp we ho sa ca cl su) 5 [(0, .ref (b 0)), (1, .int v1), (2, .int v2), (3, .int qv3), (4, .int qv4)] [] 5 0 0) (h : b_X5_cameBehind_57 ca ko5 v1 v2 v3 v4 = some o) : Gx E X (wM E b th ma st ti sp we ho sa ca cl su) 5 [(0, .ref (b 0)), (1, .int v1), (2, .int v2), (3, .int v3), (4, .int v4)] [] 57 0 0 := by
  rw [b_X5_cameBehind_57] at h
  refine g_iload_n C 3 rfl rfl dX5_cameBehind_57 ?_
  refine g_iconst C (v := (-1)) (by decide) dX5_cameBehind_58 ?_
  refine g_icmp_eq C (tgt := 78) dX5_cameBehind_59 (by decide) (fun cd1 => ?_) (fun cd1 => ?_)
  · replace h := (if_pos cd1).symm.trans h
    refine g_iload C 4 rfl dX5_cameBehind_78 ?_
    refine g_istore_n C (lv2 := [(3, .int v4), (0, .ref (b 0)), (1, .int v1), (2, .int v2), (4, .int v4)]) rfl (by decide) rfl dX5_cameBehind_80 ?_
    refine g_iinc C (v := v4 + 1) 4 rfl rfl (lv2 := [(4, .int (v4 + 1)), (3, .int v4), (0, .ref (b 0)), (1, .int v1), (2, .int v2)]) rfl (by decide) dX5_cameBehind_81 ?_
    refine g_goto C (tgt := 5) dX5_cameBehind_84 (by decide) ?_
    refine g_lv [2, 3, 4, 1, 0] (lv2 := [(0, .ref (b 0)), (1, .int v1), (2, .int v2), (3, .int v4), (4, .int (v4 + 1))]) rfl ?_
    exact Hko5 v4 (v4 + 1) h
  · replace h := (if_neg cd1).symm.trans h
    refine g_aload_n C 0 rfl rfl dX5_cameBehind_62 ?_
    refine g_X5_came C i_X5_cameBehind_X5 m_X5_cameBehind_4 0 rfl dX5_cameBehind_63 ?_
    refine g_iload C 4 rfl dX5_cameBehind_66 ?_
    obtain ⟨cd2, h⟩ := ifN h
    refine g_iald C 6 rfl (inB_in cd2) dX5_cameBehind_68 ?_
    refine g_aload_n C 0 rfl rfl dX5_cameBehind_69 ?_
    refine g_X5_came C i_X5_cameBehind_X5 m_X5_cameBehind_4 0 rfl dX5_cameBehind_70 ?_
    refine g_iload_n C 3 rfl rfl dX5_cameBehind_73 ?_
    obtain ⟨cd3, h⟩ := ifN h
    refine g_iald C 6 rfl (inB_in cd3) dX5_cameBehind_74 ?_
    refine g_icmp_ge C (tgt := 81) dX5_cameBehind_75 (by decide) (fun cd4 => ?_) (fun cd4 => ?_)
    · replace h := (if_pos cd4).symm.trans h
      refine g_iinc C (v := v4 + 1) 4 rfl rfl (lv2 := [(4, .int (v4 + 1)), (0, .ref (b 0)), (1, .int v1), (2, .int v2), (3, .int v3)]) rfl (by decide) dX5_cameBehind_81 ?_
      refine g_goto C (tgt := 5) dX5_cameBehind_84 (by decide) ?_
      refine g_lv [1, 2, 3, 4, 0] (lv2 := [(0, .ref (b 0)), (1, .int v1), (2, .int v2), (3, .int v3), (4, .int (v4 + 1))]) rfl ?_
      exact Hko5 v3 (v4 + 1) h
    · replace h := (if_neg cd4).symm.trans h
      refine g_iload C 4 rfl dX5_cameBehind_78 ?_
      refine g_istore_n C (lv2 := [(3, .int v4), (0, .ref (b 0)), (1, .int v1), (2, .int v2), (4, .int v4)]) rfl (by decide) rfl dX5_cameBehind_80 ?_
      refine g_iinc C (v := v4 + 1) 4 rfl rfl (lv2 := [(4, .int (v4 + 1)), (3, .int v4), (0, .ref (b 0)), (1, .int v1), (2, .int v2)]) rfl (by decide) dX5_cameBehind_81 ?_
      refine g_goto C (tgt := 5) dX5_cameBehind_84 (by decide) ?_
      refine g_lv [2, 3, 4, 1, 0] (lv2 := [(0, .ref (b 0)), (1, .int v1), (2, .int v2), (3, .int v4), (4, .int (v4 + 1))]) rfl ?_
      exact Hko5 v4 (v4 + 1) h
set_option maxHeartbeats 4000000 in
set_option maxRecDepth 100000 in
theorem w_X5_cameBehind_5 {E : gE} {X : gX} {b : Nat → Nat} {th : Int32} {ma : Int32} {st : Int32} {ti : Nat → Int32} {sp : Nat → Int32} {we : Nat → Int32} {ho : Nat → Int32} {sa : Nat → Int32} {ca : Nat → Int32} {cl : Nat → Int32} {su : Int64} {v1 : Int32} {v2 : Int32} {o : (Int32)} (C : Cx E X cX5_cameBehind 5 RX5 wsX5_cameBehind r_X5_cameBehind ((some .int)) []) (hQ : gQ E X (wM E b th ma st ti sp we ho sa ca cl su) r_X5_cameBehind (gO (fun u9 => some (.int u9)) (fun u9 => (wM E b th ma st ti sp we ho sa ca cl su)) (.inr o))) : ∀ (F : Nat) (v3 : Int32) (v4 : Int32), l_X5_cameBehind_5 ma ho sa ca v1 v2 F v3 v4 = some o → Gx E X (wM E b th ma st ti sp we ho sa ca cl su) 5 [(0, .ref (b 0)), (1, .int v1), (2, .int v2), (3, .int v3), (4, .int v4)] [] 5 0 0 := by
  intro F
  induction F with
  | zero => intro v3 v4 h; exact absurd h (by simp [l_X5_cameBehind_5])
  | succ F ih =>
    intro v3 v4 h
    rw [l_X5_cameBehind_5] at h
    refine g_iload C 4 rfl dX5_cameBehind_5 ?_
    refine g_aload_n C 0 rfl rfl dX5_cameBehind_7 ?_
    refine g_X5_made C i_X5_cameBehind_X5 m_X5_cameBehind_0 0 rfl dX5_cameBehind_8 ?_
    refine g_icmp_ge C (tgt := 87) dX5_cameBehind_11 (by decide) (fun cd1 => ?_) (fun cd1 => ?_)
    · replace h := (if_pos cd1).symm.trans h
      refine g_iload_n C 3 rfl rfl dX5_cameBehind_87 ?_
      obtain rfl := Option.some.inj h
      exact g_iret C hQ rfl ⟨by decide, by decide⟩ dX5_cameBehind_88
    · replace h := (if_neg cd1).symm.trans h
      refine g_aload_n C 0 rfl rfl dX5_cameBehind_14 ?_
      refine g_X5_home C i_X5_cameBehind_X5 m_X5_cameBehind_2 0 rfl dX5_cameBehind_15 ?_
      refine g_iload C 4 rfl dX5_cameBehind_18 ?_
      obtain ⟨cd2, h⟩ := ifN h
      refine g_iald C 4 rfl (inB_in cd2) dX5_cameBehind_20 ?_
      refine g_iload_n C 1 rfl rfl dX5_cameBehind_21 ?_
      refine g_icmp_ne C (tgt := 81) dX5_cameBehind_22 (by decide) (fun cd3 => ?_) (fun cd3 => ?_)
      · replace h := (if_neg cd3).symm.trans h
        refine g_iinc C (v := v4 + 1) 4 rfl rfl (lv2 := [(4, .int (v4 + 1)), (0, .ref (b 0)), (1, .int v1), (2, .int v2), (3, .int v3)]) rfl (by decide) dX5_cameBehind_81 ?_
        refine g_goto C (tgt := 5) dX5_cameBehind_84 (by decide) ?_
        refine g_lv [1, 2, 3, 4, 0] (lv2 := [(0, .ref (b 0)), (1, .int v1), (2, .int v2), (3, .int v3), (4, .int (v4 + 1))]) rfl ?_
        exact ih v3 (v4 + 1) h
      · replace h := (if_pos cd3).symm.trans h
        refine g_aload_n C 0 rfl rfl dX5_cameBehind_25 ?_
        refine g_X5_state C i_X5_cameBehind_X5 m_X5_cameBehind_3 0 rfl dX5_cameBehind_26 ?_
        refine g_iload C 4 rfl dX5_cameBehind_29 ?_
        obtain ⟨cd4, h⟩ := ifN h
        refine g_iald C 5 rfl (inB_in cd4) dX5_cameBehind_31 ?_
        refine g_iconst C (v := 1) (by decide) dX5_cameBehind_32 ?_
        refine g_icmp_ne C (tgt := 81) dX5_cameBehind_33 (by decide) (fun cd5 => ?_) (fun cd5 => ?_)
        · replace h := (if_neg cd5).symm.trans h
          refine g_iinc C (v := v4 + 1) 4 rfl rfl (lv2 := [(4, .int (v4 + 1)), (0, .ref (b 0)), (1, .int v1), (2, .int v2), (3, .int v3)]) rfl (by decide) dX5_cameBehind_81 ?_
          refine g_goto C (tgt := 5) dX5_cameBehind_84 (by decide) ?_
          refine g_lv [1, 2, 3, 4, 0] (lv2 := [(0, .ref (b 0)), (1, .int v1), (2, .int v2), (3, .int v3), (4, .int (v4 + 1))]) rfl ?_
          exact ih v3 (v4 + 1) h
        · replace h := (if_pos cd5).symm.trans h
          refine g_iload_n C 2 rfl rfl dX5_cameBehind_36 ?_
          refine g_iconst C (v := (-1)) (by decide) dX5_cameBehind_37 ?_
          refine g_icmp_eq C (tgt := 57) dX5_cameBehind_38 (by decide) (fun cd6 => ?_) (fun cd6 => ?_)
          · replace h := (if_pos cd6).symm.trans h
            exact v_X5_cameBehind_57 (v1 := v1) (v2 := v2) (v3 := v3) (v4 := v4) C hQ (fun qv3 qv4 hh => ih qv3 qv4 hh) h
          · replace h := (if_neg cd6).symm.trans h
            refine g_aload_n C 0 rfl rfl dX5_cameBehind_41 ?_
            refine g_X5_came C i_X5_cameBehind_X5 m_X5_cameBehind_4 0 rfl dX5_cameBehind_42 ?_
            refine g_iload C 4 rfl dX5_cameBehind_45 ?_
            obtain ⟨cd7, h⟩ := ifN h
            refine g_iald C 6 rfl (inB_in cd7) dX5_cameBehind_47 ?_
            refine g_aload_n C 0 rfl rfl dX5_cameBehind_48 ?_
            refine g_X5_came C i_X5_cameBehind_X5 m_X5_cameBehind_4 0 rfl dX5_cameBehind_49 ?_
            refine g_iload_n C 2 rfl rfl dX5_cameBehind_52 ?_
            obtain ⟨cd8, h⟩ := ifN h
            refine g_iald C 6 rfl (inB_in cd8) dX5_cameBehind_53 ?_
            refine g_icmp_le C (tgt := 81) dX5_cameBehind_54 (by decide) (fun cd9 => ?_) (fun cd9 => ?_)
            · replace h := (if_pos cd9).symm.trans h
              refine g_iinc C (v := v4 + 1) 4 rfl rfl (lv2 := [(4, .int (v4 + 1)), (0, .ref (b 0)), (1, .int v1), (2, .int v2), (3, .int v3)]) rfl (by decide) dX5_cameBehind_81 ?_
              refine g_goto C (tgt := 5) dX5_cameBehind_84 (by decide) ?_
              refine g_lv [1, 2, 3, 4, 0] (lv2 := [(0, .ref (b 0)), (1, .int v1), (2, .int v2), (3, .int v3), (4, .int (v4 + 1))]) rfl ?_
              exact ih v3 (v4 + 1) h
            · replace h := (if_neg cd9).symm.trans h
              exact v_X5_cameBehind_57 (v1 := v1) (v2 := v2) (v3 := v3) (v4 := v4) C hQ (fun qv3 qv4 hh => ih qv3 qv4 hh) h
set_option maxHeartbeats 4000000 in
set_option maxRecDepth 100000 in
theorem c_X5_cameBehind (E : gE) (b : Nat → Nat) (th : Int32) (ma : Int32) (st : Int32) (ti : Nat → Int32) (sp : Nat → Int32) (we : Nat → Int32) (ho : Nat → Int32) (sa : Nat → Int32) (ca : Nat → Int32) (cl : Nat → Int32) (su : Int64) (p1 : Int32) (p2 : Int32) (o : (Int32)) (h : f_X5_cameBehind ma ho sa ca p1 p2 = some o) : Ct E yX5_cameBehind wsX5_cameBehind r_X5_cameBehind [.ref (b 0), .int p1, .int p2] (wM E b th ma st ti sp we ho sa ca cl su) (gO (fun u9 => some (.int u9)) (fun u9 => (wM E b th ma st ti sp we ho sa ca cl su)) (.inr o)) := by
  refine Ct.of (cc := cX5_cameBehind) (nL := 5) (ret := ((some .int))) (own := RX5) (by decide) rfl rfl (Nat.le_of_ble_eq_true rfl) rfl ?_ ?_
  · intro v w1 hh
    cases hh; rfl
  · intro X C hQ
    rw [f_X5_cameBehind] at h
    refine g_iconst C (v := (-1)) (by decide) dX5_cameBehind_0 ?_
    refine g_istore_n C (lv2 := [(3, .int (-1)), (0, .ref (b 0)), (1, .int p1), (2, .int p2)]) rfl (by decide) rfl dX5_cameBehind_1 ?_
    refine g_iconst C (v := 0) (by decide) dX5_cameBehind_2 ?_
    refine g_istore C (lv2 := [(4, .int 0), (3, .int (-1)), (0, .ref (b 0)), (1, .int p1), (2, .int p2)]) rfl (by decide) dX5_cameBehind_3 ?_
    refine g_lv [2, 3, 4, 1, 0] (lv2 := [(0, .ref (b 0)), (1, .int p1), (2, .int p2), (3, .int (-1)), (4, .int 0)]) rfl ?_
    exact w_X5_cameBehind_5 (v1 := p1) (v2 := p2) C hQ FU (-1) 0 h
abbrev r_X5_waits : Room := { frames := 4, cells := 0, slots := 0, locals := 87 }
set_option maxHeartbeats 4000000 in
set_option maxRecDepth 100000 in
theorem v_X5_waits_70 {E : gE} {X : gX} {b : Nat → Nat} {th : Int32} {ma : Int32} {st : Int32} {ti : Nat → Int32} {sp : Nat → Int32} {we : Nat → Int32} {ho : Nat → Int32} {sa : Nat → Int32} {ca : Nat → Int32} {cl : Nat → Int32} {su : Int64} {v3 : Int32} {s1 : Bool} {thc : Int32} {o : (Int32 × Int32)} (C : Cx E X cX5_waits 5 RX5 wsX5_waits r_X5_waits ((some .int)) []) (hQ : gQ E X (wM E b th ma st ti sp we ho sa ca cl su) r_X5_waits (gO (fun u9 => some (.int u9.1)) (fun u9 => (wM E b u9.2 ma st ti sp we ho sa ca cl su)) (.inr o))) (h : b_X5_waits_70 v3 s1 thc = some o) : Gx E X (wM E b thc ma st ti sp we ho sa ca cl su) 5 [(3, .int v3)] [.int (bI s1), .ref (b 0)] 70 0 0 := by
  rw [b_X5_waits_70] at h
  refine g_iconst C (v := 2) (by decide) dX5_waits_70 ?_
  obtain ⟨g1, eg1, h⟩ := Option.bind_eq_some_iff.mp h
  refine g_cVr (As := [.int (bI s1), .int 2]) (n9 := 2) (st := []) (w2 := (wM E b g1.2 ma st ti sp we ho sa ca cl su)) C (c_X5_isThrown E b thc ma st ti sp we ho sa ca cl su s1 2 g1 eg1) gX5_waits_X5_isThrown rfl (by decide +kernel) rfl ⟨by decide, by decide, by decide, by decide, Nat.le_of_ble_eq_true rfl⟩ 0 rfl rfl (gSub.idx [0, 1, 2, 3, 4, 5, 6, 7] rfl rfl) rfl dX5_waits_71 ?_
  refine g_if_eq C (tgt := 81) dX5_waits_74 (by decide) (fun cd2 => ?_) (fun cd2 => ?_)
  · replace h := (if_pos cd2).symm.trans h
    refine g_iload_n C 0 rfl rfl dX5_waits_81 ?_
    obtain rfl := Option.some.inj h
    exact g_iret C hQ rfl ⟨by decide, by decide⟩ dX5_waits_82
  · replace h := (if_neg cd2).symm.trans h
    refine g_iconst C (v := 0) (by decide) dX5_waits_77 ?_
    refine g_goto C (tgt := 82) dX5_waits_78 (by decide) ?_
    obtain rfl := Option.some.inj h
    exact g_iret C hQ rfl ⟨by decide, by decide⟩ dX5_waits_82
set_option maxHeartbeats 4000000 in
set_option maxRecDepth 100000 in
theorem v_X5_waits_55 {E : gE} {X : gX} {b : Nat → Nat} {th : Int32} {ma : Int32} {st : Int32} {ti : Nat → Int32} {sp : Nat → Int32} {we : Nat → Int32} {ho : Nat → Int32} {sa : Nat → Int32} {ca : Nat → Int32} {cl : Nat → Int32} {su : Int64} {v2 : Int32} {v3 : Int32} {thc : Int32} {o : (Int32 × Int32)} (C : Cx E X cX5_waits 5 RX5 wsX5_waits r_X5_waits ((some .int)) []) (hQ : gQ E X (wM E b th ma st ti sp we ho sa ca cl su) r_X5_waits (gO (fun u9 => some (.int u9.1)) (fun u9 => (wM E b u9.2 ma st ti sp we ho sa ca cl su)) (.inr o))) (h : b_X5_waits_55 v2 v3 thc = some o) : Gx E X (wM E b thc ma st ti sp we ho sa ca cl su) 5 [(0, .ref (b 0)), (2, .int v2), (3, .int v3)] [] 55 0 0 := by
  rw [b_X5_waits_55] at h
  refine g_aload_n C 0 rfl rfl dX5_waits_55 ?_
  refine g_iload_n C 1 rfl rfl dX5_waits_56 ?_
  refine g_if_lt C (tgt := 65) dX5_waits_57 (by decide) (fun cd1 => ?_) (fun cd1 => ?_)
  · replace h := (if_pos cd1).symm.trans h
    refine g_iconst C (v := 1) (by decide) dX5_waits_65 ?_
    refine g_goto C (tgt := 70) dX5_waits_66 (by decide) ?_
    refine g_lv [2] (lv2 := [(3, .int v3)]) rfl ?_
    exact v_X5_waits_70 (v3 := v3) (s1 := true) (thc := thc) C hQ h
  · replace h := (if_neg cd1).symm.trans h
    refine g_iload_n C 2 rfl rfl dX5_waits_60 ?_
    refine g_iconst C (v := (-1)) (by decide) dX5_waits_61 ?_
    refine g_icmp_ne C (tgt := 69) dX5_waits_62 (by decide) (fun cd2 => ?_) (fun cd2 => ?_)
    · replace h := (if_neg cd2).symm.trans h
      refine g_iconst C (v := 0) (by decide) dX5_waits_69 ?_
      refine g_lv [2] (lv2 := [(3, .int v3)]) rfl ?_
      exact v_X5_waits_70 (v3 := v3) (s1 := false) (thc := thc) C hQ h
    · replace h := (if_pos cd2).symm.trans h
      refine g_iconst C (v := 1) (by decide) dX5_waits_65 ?_
      refine g_goto C (tgt := 70) dX5_waits_66 (by decide) ?_
      refine g_lv [2] (lv2 := [(3, .int v3)]) rfl ?_
      exact v_X5_waits_70 (v3 := v3) (s1 := true) (thc := thc) C hQ h
set_option maxHeartbeats 4000000 in
set_option maxRecDepth 100000 in
theorem w_X5_waits_31 {E : gE} {X : gX} {b : Nat → Nat} {th : Int32} {ma : Int32} {st : Int32} {ti : Nat → Int32} {sp : Nat → Int32} {we : Nat → Int32} {ho : Nat → Int32} {sa : Nat → Int32} {ca : Nat → Int32} {cl : Nat → Int32} {su : Int64} {v1 : Int32} {v2 : Int32} {thc : Int32} {o : (Int32 × Int32)} (C : Cx E X cX5_waits 5 RX5 wsX5_waits r_X5_waits ((some .int)) []) (hQ : gQ E X (wM E b th ma st ti sp we ho sa ca cl su) r_X5_waits (gO (fun u9 => some (.int u9.1)) (fun u9 => (wM E b u9.2 ma st ti sp we ho sa ca cl su)) (.inr o))) : ∀ (F : Nat) (v3 : Int32) (v4 : Int32), l_X5_waits_31 ma ti ho sa v1 v2 thc F v3 v4 = some o → Gx E X (wM E b thc ma st ti sp we ho sa ca cl su) 5 [(0, .ref (b 0)), (1, .int v1), (2, .int v2), (3, .int v3), (4, .int v4)] [] 31 0 0 := by
  intro F
  induction F with
  | zero => intro v3 v4 h; exact absurd h (by simp [l_X5_waits_31])
  | succ F ih =>
    intro v3 v4 h
    rw [l_X5_waits_31] at h
    refine g_iload C 4 rfl dX5_waits_31 ?_
    refine g_iload_n C 2 rfl rfl dX5_waits_33 ?_
    refine g_icmp_ge C (tgt := 55) dX5_waits_34 (by decide) (fun cd1 => ?_) (fun cd1 => ?_)
    · replace h := (if_pos cd1).symm.trans h
      refine g_lv [0, 2, 3] (lv2 := [(0, .ref (b 0)), (2, .int v2), (3, .int v3)]) rfl ?_
      exact v_X5_waits_55 (v2 := v2) (v3 := v3) (thc := thc) C hQ h
    · replace h := (if_neg cd1).symm.trans h
      refine g_iload_n C 3 rfl rfl dX5_waits_37 ?_
      refine g_iconst C (v := (-1)) (by decide) dX5_waits_38 ?_
      refine g_icmp_eq C (tgt := 55) dX5_waits_39 (by decide) (fun cd2 => ?_) (fun cd2 => ?_)
      · replace h := (if_pos cd2).symm.trans h
        refine g_lv [0, 2, 3] (lv2 := [(0, .ref (b 0)), (2, .int v2), (3, .int v3)]) rfl ?_
        exact v_X5_waits_55 (v2 := v2) (v3 := v3) (thc := thc) C hQ h
      · replace h := (if_neg cd2).symm.trans h
        refine g_aload_n C 0 rfl rfl dX5_waits_42 ?_
        refine g_iload_n C 1 rfl rfl dX5_waits_43 ?_
        refine g_iload_n C 3 rfl rfl dX5_waits_44 ?_
        obtain ⟨g3, eg3, h⟩ := Option.bind_eq_some_iff.mp h
        refine g_cVr (As := [.int v1, .int v3]) (n9 := 2) (st := []) (w2 := (wM E b thc ma st ti sp we ho sa ca cl su)) C (c_X5_behind E b thc ma st ti sp we ho sa ca cl su v1 v3 g3 eg3) gX5_waits_X5_behind rfl (by decide +kernel) rfl ⟨by decide, by decide, by decide, by decide, Nat.le_of_ble_eq_true rfl⟩ 0 rfl rfl (gSub.idx [0, 1, 2, 3, 4, 5, 6, 7] rfl rfl) rfl dX5_waits_45 ?_
        refine g_istore_n C (lv2 := [(3, .int g3), (0, .ref (b 0)), (1, .int v1), (2, .int v2), (4, .int v4)]) rfl (by decide) rfl dX5_waits_48 ?_
        refine g_iinc C (v := v4 + 1) 4 rfl rfl (lv2 := [(4, .int (v4 + 1)), (3, .int g3), (0, .ref (b 0)), (1, .int v1), (2, .int v2)]) rfl (by decide) dX5_waits_49 ?_
        refine g_goto C (tgt := 31) dX5_waits_52 (by decide) ?_
        refine g_lv [2, 3, 4, 1, 0] (lv2 := [(0, .ref (b 0)), (1, .int v1), (2, .int v2), (3, .int g3), (4, .int (v4 + 1))]) rfl ?_
        exact ih g3 (v4 + 1) h
set_option maxHeartbeats 4000000 in
set_option maxRecDepth 100000 in
theorem v_X5_waits_13 {E : gE} {X : gX} {b : Nat → Nat} {th : Int32} {ma : Int32} {st : Int32} {ti : Nat → Int32} {sp : Nat → Int32} {we : Nat → Int32} {ho : Nat → Int32} {sa : Nat → Int32} {ca : Nat → Int32} {cl : Nat → Int32} {su : Int64} {v1 : Int32} {v2 : Int32} {s1 : Bool} {o : (Int32 × Int32)} (C : Cx E X cX5_waits 5 RX5 wsX5_waits r_X5_waits ((some .int)) []) (hQ : gQ E X (wM E b th ma st ti sp we ho sa ca cl su) r_X5_waits (gO (fun u9 => some (.int u9.1)) (fun u9 => (wM E b u9.2 ma st ti sp we ho sa ca cl su)) (.inr o))) (h : b_X5_waits_13 ma ti ho sa v1 v2 s1 = some o) : Gx E X (wM E b th ma st ti sp we ho sa ca cl su) 5 [(0, .ref (b 0)), (1, .int v1), (2, .int v2)] [.int (bI s1), .ref (b 0)] 13 0 0 := by
  rw [b_X5_waits_13] at h
  refine g_iconst C (v := 1) (by decide) dX5_waits_13 ?_
  obtain ⟨g1, eg1, h⟩ := Option.bind_eq_some_iff.mp h
  refine g_cVr (As := [.int (bI s1), .int 1]) (n9 := 2) (st := []) (w2 := (wM E b g1.2 ma st ti sp we ho sa ca cl su)) C (c_X5_isThrown E b th ma st ti sp we ho sa ca cl su s1 1 g1 eg1) gX5_waits_X5_isThrown rfl (by decide +kernel) rfl ⟨by decide, by decide, by decide, by decide, Nat.le_of_ble_eq_true rfl⟩ 0 rfl rfl (gSub.idx [0, 1, 2, 3, 4, 5, 6, 7] rfl rfl) rfl dX5_waits_14 ?_
  refine g_if_eq C (tgt := 22) dX5_waits_17 (by decide) (fun cd2 => ?_) (fun cd2 => ?_)
  · replace h := (if_pos cd2).symm.trans h
    refine g_aload_n C 0 rfl rfl dX5_waits_22 ?_
    refine g_iload_n C 1 rfl rfl dX5_waits_23 ?_
    obtain ⟨g3, eg3, h⟩ := Option.bind_eq_some_iff.mp h
    refine g_cVr (As := [.int v1]) (n9 := 1) (st := []) (w2 := (wM E b g1.2 ma st ti sp we ho sa ca cl su)) C (c_X5_first E b g1.2 ma st ti sp we ho sa ca cl su v1 g3 eg3) gX5_waits_X5_first rfl (by decide +kernel) rfl ⟨by decide, by decide, by decide, by decide, Nat.le_of_ble_eq_true rfl⟩ 0 rfl rfl (gSub.idx [0, 1, 2, 3, 4, 5, 6, 7] rfl rfl) rfl dX5_waits_24 ?_
    refine g_istore_n C (lv2 := [(3, .int g3), (0, .ref (b 0)), (1, .int v1), (2, .int v2)]) rfl (by decide) rfl dX5_waits_27 ?_
    refine g_iconst C (v := 0) (by decide) dX5_waits_28 ?_
    refine g_istore C (lv2 := [(4, .int 0), (3, .int g3), (0, .ref (b 0)), (1, .int v1), (2, .int v2)]) rfl (by decide) dX5_waits_29 ?_
    refine g_lv [2, 3, 4, 1, 0] (lv2 := [(0, .ref (b 0)), (1, .int v1), (2, .int v2), (3, .int g3), (4, .int 0)]) rfl ?_
    exact w_X5_waits_31 (v1 := v1) (v2 := v2) (thc := g1.2) C hQ FU g3 0 h
  · replace h := (if_neg cd2).symm.trans h
    refine g_iconst C (v := 0) (by decide) dX5_waits_20 ?_
    obtain rfl := Option.some.inj h
    exact g_iret C hQ rfl ⟨by decide, by decide⟩ dX5_waits_21
set_option maxHeartbeats 4000000 in
set_option maxRecDepth 100000 in
theorem c_X5_waits (E : gE) (b : Nat → Nat) (th : Int32) (ma : Int32) (st : Int32) (ti : Nat → Int32) (sp : Nat → Int32) (we : Nat → Int32) (ho : Nat → Int32) (sa : Nat → Int32) (ca : Nat → Int32) (cl : Nat → Int32) (su : Int64) (p1 : Int32) (p2 : Int32) (o : (Int32 × Int32)) (h : f_X5_waits ma ti ho sa p1 p2 = some o) : Ct E yX5_waits wsX5_waits r_X5_waits [.ref (b 0), .int p1, .int p2] (wM E b th ma st ti sp we ho sa ca cl su) (gO (fun u9 => some (.int u9.1)) (fun u9 => (wM E b u9.2 ma st ti sp we ho sa ca cl su)) (.inr o)) := by
  refine Ct.of (cc := cX5_waits) (nL := 5) (ret := ((some .int))) (own := RX5) (by decide) rfl rfl (Nat.le_of_ble_eq_true rfl) rfl ?_ ?_
  · intro v w1 hh
    cases hh; rfl
  · intro X C hQ
    rw [f_X5_waits] at h
    refine g_aload_n C 0 rfl rfl dX5_waits_0 ?_
    refine g_iload_n C 1 rfl rfl dX5_waits_1 ?_
    obtain ⟨g1, eg1, h⟩ := Option.bind_eq_some_iff.mp h
    refine g_cSr (As := [.int p1]) (n9 := 1) (st := [.ref (b 0)]) (w2 := (wM E b th ma st ti sp we ho sa ca cl su)) C (c_X5_isHouse E p1 g1 eg1) gX5_waits_X5_isHouse rfl (by decide +kernel) rfl ⟨by decide, by decide, by decide, by decide, Nat.le_of_ble_eq_true rfl⟩ (gSub.idx [] rfl rfl) rfl dX5_waits_2 ?_
    refine g_if_ne C (tgt := 12) dX5_waits_5 (by decide) (fun cd2 => ?_) (fun cd2 => ?_)
    · replace h := (if_neg cd2).symm.trans h
      refine g_iconst C (v := 0) (by decide) dX5_waits_12 ?_
      exact v_X5_waits_13 (v1 := p1) (v2 := p2) (s1 := false) C hQ h
    · replace h := (if_pos cd2).symm.trans h
      refine g_iconst C (v := 1) (by decide) dX5_waits_8 ?_
      refine g_goto C (tgt := 13) dX5_waits_9 (by decide) ?_
      exact v_X5_waits_13 (v1 := p1) (v2 := p2) (s1 := true) C hQ h
abbrev r_X5_cameAt : Room := { frames := 2, cells := 0, slots := 0, locals := 44 }
set_option maxHeartbeats 4000000 in
set_option maxRecDepth 100000 in
theorem v_X5_cameAt_71 {E : gE} {X : gX} {b : Nat → Nat} {th : Int32} {ma : Int32} {st : Int32} {ti : Nat → Int32} {sp : Nat → Int32} {we : Nat → Int32} {ho : Nat → Int32} {sa : Nat → Int32} {ca : Nat → Int32} {cl : Nat → Int32} {su : Int64} {v3 : Int32} {s1 : Bool} {thc : Int32} {o : (Int32 × Int32)} (C : Cx E X cX5_cameAt 5 RX5 wsX5_cameAt r_X5_cameAt ((some .int)) []) (hQ : gQ E X (wM E b th ma st ti sp we ho sa ca cl su) r_X5_cameAt (gO (fun u9 => some (.int u9.1)) (fun u9 => (wM E b u9.2 ma st ti sp we ho sa ca cl su)) (.inr o))) (h : b_X5_cameAt_71 v3 s1 thc = some o) : Gx E X (wM E b thc ma st ti sp we ho sa ca cl su) 5 [(3, .int v3)] [.int (bI s1), .ref (b 0)] 71 0 0 := by
  rw [b_X5_cameAt_71] at h
  refine g_iconst C (v := 2) (by decide) dX5_cameAt_71 ?_
  obtain ⟨g1, eg1, h⟩ := Option.bind_eq_some_iff.mp h
  refine g_cVr (As := [.int (bI s1), .int 2]) (n9 := 2) (st := []) (w2 := (wM E b g1.2 ma st ti sp we ho sa ca cl su)) C (c_X5_isThrown E b thc ma st ti sp we ho sa ca cl su s1 2 g1 eg1) gX5_cameAt_X5_isThrown rfl (by decide +kernel) rfl ⟨by decide, by decide, by decide, by decide, Nat.le_of_ble_eq_true rfl⟩ 0 rfl rfl (gSub.idx [0, 1, 2, 3, 4, 5, 6, 7] rfl rfl) rfl dX5_cameAt_72 ?_
  refine g_if_eq C (tgt := 82) dX5_cameAt_75 (by decide) (fun cd2 => ?_) (fun cd2 => ?_)
  · replace h := (if_pos cd2).symm.trans h
    refine g_iload_n C 0 rfl rfl dX5_cameAt_82 ?_
    obtain rfl := Option.some.inj h
    exact g_iret C hQ rfl ⟨by decide, by decide⟩ dX5_cameAt_83
  · replace h := (if_neg cd2).symm.trans h
    refine g_iconst C (v := 0) (by decide) dX5_cameAt_78 ?_
    refine g_goto C (tgt := 83) dX5_cameAt_79 (by decide) ?_
    obtain rfl := Option.some.inj h
    exact g_iret C hQ rfl ⟨by decide, by decide⟩ dX5_cameAt_83
set_option maxHeartbeats 4000000 in
set_option maxRecDepth 100000 in
theorem v_X5_cameAt_56 {E : gE} {X : gX} {b : Nat → Nat} {th : Int32} {ma : Int32} {st : Int32} {ti : Nat → Int32} {sp : Nat → Int32} {we : Nat → Int32} {ho : Nat → Int32} {sa : Nat → Int32} {ca : Nat → Int32} {cl : Nat → Int32} {su : Int64} {v2 : Int32} {v3 : Int32} {thc : Int32} {o : (Int32 × Int32)} (C : Cx E X cX5_cameAt 5 RX5 wsX5_cameAt r_X5_cameAt ((some .int)) []) (hQ : gQ E X (wM E b th ma st ti sp we ho sa ca cl su) r_X5_cameAt (gO (fun u9 => some (.int u9.1)) (fun u9 => (wM E b u9.2 ma st ti sp we ho sa ca cl su)) (.inr o))) (h : b_X5_cameAt_56 v2 v3 thc = some o) : Gx E X (wM E b thc ma st ti sp we ho sa ca cl su) 5 [(0, .ref (b 0)), (2, .int v2), (3, .int v3)] [] 56 0 0 := by
  rw [b_X5_cameAt_56] at h
  refine g_aload_n C 0 rfl rfl dX5_cameAt_56 ?_
  refine g_iload_n C 1 rfl rfl dX5_cameAt_57 ?_
  refine g_if_lt C (tgt := 66) dX5_cameAt_58 (by decide) (fun cd1 => ?_) (fun cd1 => ?_)
  · replace h := (if_pos cd1).symm.trans h
    refine g_iconst C (v := 1) (by decide) dX5_cameAt_66 ?_
    refine g_goto C (tgt := 71) dX5_cameAt_67 (by decide) ?_
    refine g_lv [2] (lv2 := [(3, .int v3)]) rfl ?_
    exact v_X5_cameAt_71 (v3 := v3) (s1 := true) (thc := thc) C hQ h
  · replace h := (if_neg cd1).symm.trans h
    refine g_iload_n C 2 rfl rfl dX5_cameAt_61 ?_
    refine g_iconst C (v := (-1)) (by decide) dX5_cameAt_62 ?_
    refine g_icmp_ne C (tgt := 70) dX5_cameAt_63 (by decide) (fun cd2 => ?_) (fun cd2 => ?_)
    · replace h := (if_neg cd2).symm.trans h
      refine g_iconst C (v := 0) (by decide) dX5_cameAt_70 ?_
      refine g_lv [2] (lv2 := [(3, .int v3)]) rfl ?_
      exact v_X5_cameAt_71 (v3 := v3) (s1 := false) (thc := thc) C hQ h
    · replace h := (if_pos cd2).symm.trans h
      refine g_iconst C (v := 1) (by decide) dX5_cameAt_66 ?_
      refine g_goto C (tgt := 71) dX5_cameAt_67 (by decide) ?_
      refine g_lv [2] (lv2 := [(3, .int v3)]) rfl ?_
      exact v_X5_cameAt_71 (v3 := v3) (s1 := true) (thc := thc) C hQ h
set_option maxHeartbeats 4000000 in
set_option maxRecDepth 100000 in
theorem w_X5_cameAt_32 {E : gE} {X : gX} {b : Nat → Nat} {th : Int32} {ma : Int32} {st : Int32} {ti : Nat → Int32} {sp : Nat → Int32} {we : Nat → Int32} {ho : Nat → Int32} {sa : Nat → Int32} {ca : Nat → Int32} {cl : Nat → Int32} {su : Int64} {v1 : Int32} {v2 : Int32} {thc : Int32} {o : (Int32 × Int32)} (C : Cx E X cX5_cameAt 5 RX5 wsX5_cameAt r_X5_cameAt ((some .int)) []) (hQ : gQ E X (wM E b th ma st ti sp we ho sa ca cl su) r_X5_cameAt (gO (fun u9 => some (.int u9.1)) (fun u9 => (wM E b u9.2 ma st ti sp we ho sa ca cl su)) (.inr o))) : ∀ (F : Nat) (v3 : Int32) (v4 : Int32), l_X5_cameAt_32 ma ho sa ca v1 v2 thc F v3 v4 = some o → Gx E X (wM E b thc ma st ti sp we ho sa ca cl su) 5 [(0, .ref (b 0)), (1, .int v1), (2, .int v2), (3, .int v3), (4, .int v4)] [] 32 0 0 := by
  intro F
  induction F with
  | zero => intro v3 v4 h; exact absurd h (by simp [l_X5_cameAt_32])
  | succ F ih =>
    intro v3 v4 h
    rw [l_X5_cameAt_32] at h
    refine g_iload C 4 rfl dX5_cameAt_32 ?_
    refine g_iload_n C 2 rfl rfl dX5_cameAt_34 ?_
    refine g_icmp_ge C (tgt := 56) dX5_cameAt_35 (by decide) (fun cd1 => ?_) (fun cd1 => ?_)
    · replace h := (if_pos cd1).symm.trans h
      refine g_lv [0, 2, 3] (lv2 := [(0, .ref (b 0)), (2, .int v2), (3, .int v3)]) rfl ?_
      exact v_X5_cameAt_56 (v2 := v2) (v3 := v3) (thc := thc) C hQ h
    · replace h := (if_neg cd1).symm.trans h
      refine g_iload_n C 3 rfl rfl dX5_cameAt_38 ?_
      refine g_iconst C (v := (-1)) (by decide) dX5_cameAt_39 ?_
      refine g_icmp_eq C (tgt := 56) dX5_cameAt_40 (by decide) (fun cd2 => ?_) (fun cd2 => ?_)
      · replace h := (if_pos cd2).symm.trans h
        refine g_lv [0, 2, 3] (lv2 := [(0, .ref (b 0)), (2, .int v2), (3, .int v3)]) rfl ?_
        exact v_X5_cameAt_56 (v2 := v2) (v3 := v3) (thc := thc) C hQ h
      · replace h := (if_neg cd2).symm.trans h
        refine g_aload_n C 0 rfl rfl dX5_cameAt_43 ?_
        refine g_iload_n C 1 rfl rfl dX5_cameAt_44 ?_
        refine g_iload_n C 3 rfl rfl dX5_cameAt_45 ?_
        obtain ⟨g3, eg3, h⟩ := Option.bind_eq_some_iff.mp h
        refine g_cVr (As := [.int v1, .int v3]) (n9 := 2) (st := []) (w2 := (wM E b thc ma st ti sp we ho sa ca cl su)) C (c_X5_cameBehind E b thc ma st ti sp we ho sa ca cl su v1 v3 g3 eg3) gX5_cameAt_X5_cameBehind rfl (by decide +kernel) rfl ⟨by decide, by decide, by decide, by decide, Nat.le_of_ble_eq_true rfl⟩ 0 rfl rfl (gSub.idx [0, 1, 2, 3, 4, 5, 6, 7] rfl rfl) rfl dX5_cameAt_46 ?_
        refine g_istore_n C (lv2 := [(3, .int g3), (0, .ref (b 0)), (1, .int v1), (2, .int v2), (4, .int v4)]) rfl (by decide) rfl dX5_cameAt_49 ?_
        refine g_iinc C (v := v4 + 1) 4 rfl rfl (lv2 := [(4, .int (v4 + 1)), (3, .int g3), (0, .ref (b 0)), (1, .int v1), (2, .int v2)]) rfl (by decide) dX5_cameAt_50 ?_
        refine g_goto C (tgt := 32) dX5_cameAt_53 (by decide) ?_
        refine g_lv [2, 3, 4, 1, 0] (lv2 := [(0, .ref (b 0)), (1, .int v1), (2, .int v2), (3, .int g3), (4, .int (v4 + 1))]) rfl ?_
        exact ih g3 (v4 + 1) h
set_option maxHeartbeats 4000000 in
set_option maxRecDepth 100000 in
theorem v_X5_cameAt_13 {E : gE} {X : gX} {b : Nat → Nat} {th : Int32} {ma : Int32} {st : Int32} {ti : Nat → Int32} {sp : Nat → Int32} {we : Nat → Int32} {ho : Nat → Int32} {sa : Nat → Int32} {ca : Nat → Int32} {cl : Nat → Int32} {su : Int64} {v1 : Int32} {v2 : Int32} {s1 : Bool} {o : (Int32 × Int32)} (C : Cx E X cX5_cameAt 5 RX5 wsX5_cameAt r_X5_cameAt ((some .int)) []) (hQ : gQ E X (wM E b th ma st ti sp we ho sa ca cl su) r_X5_cameAt (gO (fun u9 => some (.int u9.1)) (fun u9 => (wM E b u9.2 ma st ti sp we ho sa ca cl su)) (.inr o))) (h : b_X5_cameAt_13 ma ho sa ca v1 v2 s1 = some o) : Gx E X (wM E b th ma st ti sp we ho sa ca cl su) 5 [(0, .ref (b 0)), (1, .int v1), (2, .int v2)] [.int (bI s1), .ref (b 0)] 13 0 0 := by
  rw [b_X5_cameAt_13] at h
  refine g_iconst C (v := 1) (by decide) dX5_cameAt_13 ?_
  obtain ⟨g1, eg1, h⟩ := Option.bind_eq_some_iff.mp h
  refine g_cVr (As := [.int (bI s1), .int 1]) (n9 := 2) (st := []) (w2 := (wM E b g1.2 ma st ti sp we ho sa ca cl su)) C (c_X5_isThrown E b th ma st ti sp we ho sa ca cl su s1 1 g1 eg1) gX5_cameAt_X5_isThrown rfl (by decide +kernel) rfl ⟨by decide, by decide, by decide, by decide, Nat.le_of_ble_eq_true rfl⟩ 0 rfl rfl (gSub.idx [0, 1, 2, 3, 4, 5, 6, 7] rfl rfl) rfl dX5_cameAt_14 ?_
  refine g_if_eq C (tgt := 22) dX5_cameAt_17 (by decide) (fun cd2 => ?_) (fun cd2 => ?_)
  · replace h := (if_pos cd2).symm.trans h
    refine g_aload_n C 0 rfl rfl dX5_cameAt_22 ?_
    refine g_iload_n C 1 rfl rfl dX5_cameAt_23 ?_
    refine g_iconst C (v := (-1)) (by decide) dX5_cameAt_24 ?_
    obtain ⟨g3, eg3, h⟩ := Option.bind_eq_some_iff.mp h
    refine g_cVr (As := [.int v1, .int (-1)]) (n9 := 2) (st := []) (w2 := (wM E b g1.2 ma st ti sp we ho sa ca cl su)) C (c_X5_cameBehind E b g1.2 ma st ti sp we ho sa ca cl su v1 (-1) g3 eg3) gX5_cameAt_X5_cameBehind rfl (by decide +kernel) rfl ⟨by decide, by decide, by decide, by decide, Nat.le_of_ble_eq_true rfl⟩ 0 rfl rfl (gSub.idx [0, 1, 2, 3, 4, 5, 6, 7] rfl rfl) rfl dX5_cameAt_25 ?_
    refine g_istore_n C (lv2 := [(3, .int g3), (0, .ref (b 0)), (1, .int v1), (2, .int v2)]) rfl (by decide) rfl dX5_cameAt_28 ?_
    refine g_iconst C (v := 0) (by decide) dX5_cameAt_29 ?_
    refine g_istore C (lv2 := [(4, .int 0), (3, .int g3), (0, .ref (b 0)), (1, .int v1), (2, .int v2)]) rfl (by decide) dX5_cameAt_30 ?_
    refine g_lv [2, 3, 4, 1, 0] (lv2 := [(0, .ref (b 0)), (1, .int v1), (2, .int v2), (3, .int g3), (4, .int 0)]) rfl ?_
    exact w_X5_cameAt_32 (v1 := v1) (v2 := v2) (thc := g1.2) C hQ FU g3 0 h
  · replace h := (if_neg cd2).symm.trans h
    refine g_iconst C (v := 0) (by decide) dX5_cameAt_20 ?_
    obtain rfl := Option.some.inj h
    exact g_iret C hQ rfl ⟨by decide, by decide⟩ dX5_cameAt_21
set_option maxHeartbeats 4000000 in
set_option maxRecDepth 100000 in
theorem c_X5_cameAt (E : gE) (b : Nat → Nat) (th : Int32) (ma : Int32) (st : Int32) (ti : Nat → Int32) (sp : Nat → Int32) (we : Nat → Int32) (ho : Nat → Int32) (sa : Nat → Int32) (ca : Nat → Int32) (cl : Nat → Int32) (su : Int64) (p1 : Int32) (p2 : Int32) (o : (Int32 × Int32)) (h : f_X5_cameAt ma ho sa ca p1 p2 = some o) : Ct E yX5_cameAt wsX5_cameAt r_X5_cameAt [.ref (b 0), .int p1, .int p2] (wM E b th ma st ti sp we ho sa ca cl su) (gO (fun u9 => some (.int u9.1)) (fun u9 => (wM E b u9.2 ma st ti sp we ho sa ca cl su)) (.inr o)) := by
  refine Ct.of (cc := cX5_cameAt) (nL := 5) (ret := ((some .int))) (own := RX5) (by decide) rfl rfl (Nat.le_of_ble_eq_true rfl) rfl ?_ ?_
  · intro v w1 hh
    cases hh; rfl
  · intro X C hQ
    rw [f_X5_cameAt] at h
    refine g_aload_n C 0 rfl rfl dX5_cameAt_0 ?_
    refine g_iload_n C 1 rfl rfl dX5_cameAt_1 ?_
    obtain ⟨g1, eg1, h⟩ := Option.bind_eq_some_iff.mp h
    refine g_cSr (As := [.int p1]) (n9 := 1) (st := [.ref (b 0)]) (w2 := (wM E b th ma st ti sp we ho sa ca cl su)) C (c_X5_isHouse E p1 g1 eg1) gX5_cameAt_X5_isHouse rfl (by decide +kernel) rfl ⟨by decide, by decide, by decide, by decide, Nat.le_of_ble_eq_true rfl⟩ (gSub.idx [] rfl rfl) rfl dX5_cameAt_2 ?_
    refine g_if_ne C (tgt := 12) dX5_cameAt_5 (by decide) (fun cd2 => ?_) (fun cd2 => ?_)
    · replace h := (if_neg cd2).symm.trans h
      refine g_iconst C (v := 0) (by decide) dX5_cameAt_12 ?_
      exact v_X5_cameAt_13 (v1 := p1) (v2 := p2) (s1 := false) C hQ h
    · replace h := (if_pos cd2).symm.trans h
      refine g_iconst C (v := 1) (by decide) dX5_cameAt_8 ?_
      refine g_goto C (tgt := 13) dX5_cameAt_9 (by decide) ?_
      exact v_X5_cameAt_13 (v1 := p1) (v2 := p2) (s1 := true) C hQ h
abbrev r_X5_nextTime : Room := { frames := 2, cells := 0, slots := 0, locals := 42 }
theorem m_X5_nextTime_0 : Cond.constant RX5 72 100000 ∈ wsX5_nextTime := by decide +kernel
theorem m_X5_nextTime_1 : Cond.fieldLink RX5 35 "BookinghouseModel" "made" "I" ∈ wsX5_nextTime := by decide +kernel
theorem i_X5_nextTime_X5 : ∀ w ∈ wsX50, w ∈ wsX5_nextTime := by decide +kernel
theorem m_X5_nextTime_3 : Cond.fieldLink RX5 7 "BookinghouseModel" "time" "[I" ∈ wsX5_nextTime := by decide +kernel
set_option maxHeartbeats 4000000 in
set_option maxRecDepth 100000 in
theorem v_X5_nextTime_99 {E : gE} {X : gX} {b : Nat → Nat} {th : Int32} {ma : Int32} {st : Int32} {ti : Nat → Int32} {sp : Nat → Int32} {we : Nat → Int32} {ho : Nat → Int32} {sa : Nat → Int32} {ca : Nat → Int32} {cl : Nat → Int32} {su : Int64} {v3 : Int32} {s1 : Bool} {thc : Int32} {o : (Int32 × Int32)} (C : Cx E X cX5_nextTime 5 RX5 wsX5_nextTime r_X5_nextTime ((some .int)) []) (hQ : gQ E X (wM E b th ma st ti sp we ho sa ca cl su) r_X5_nextTime (gO (fun u9 => some (.int u9.1)) (fun u9 => (wM E b u9.2 ma st ti sp we ho sa ca cl su)) (.inr o))) (h : b_X5_nextTime_99 v3 s1 thc = some o) : Gx E X (wM E b thc ma st ti sp we ho sa ca cl su) 5 [(3, .int v3)] [.int (bI s1), .ref (b 0)] 99 0 0 := by
  rw [b_X5_nextTime_99] at h
  refine g_iconst C (v := 2) (by decide) dX5_nextTime_99 ?_
  obtain ⟨g1, eg1, h⟩ := Option.bind_eq_some_iff.mp h
  refine g_cVr (As := [.int (bI s1), .int 2]) (n9 := 2) (st := []) (w2 := (wM E b g1.2 ma st ti sp we ho sa ca cl su)) C (c_X5_isThrown E b thc ma st ti sp we ho sa ca cl su s1 2 g1 eg1) gX5_nextTime_X5_isThrown rfl (by decide +kernel) rfl ⟨by decide, by decide, by decide, by decide, Nat.le_of_ble_eq_true rfl⟩ 0 rfl rfl (gSub.idx [0, 1, 2, 3, 4, 5, 6, 7] rfl rfl) rfl dX5_nextTime_100 ?_
  refine g_if_eq C (tgt := 110) dX5_nextTime_103 (by decide) (fun cd2 => ?_) (fun cd2 => ?_)
  · replace h := (if_pos cd2).symm.trans h
    refine g_iload_n C 0 rfl rfl dX5_nextTime_110 ?_
    obtain rfl := Option.some.inj h
    exact g_iret C hQ rfl ⟨by decide, by decide⟩ dX5_nextTime_111
  · replace h := (if_neg cd2).symm.trans h
    refine g_iconst C (v := 0) (by decide) dX5_nextTime_106 ?_
    refine g_goto C (tgt := 111) dX5_nextTime_107 (by decide) ?_
    obtain rfl := Option.some.inj h
    exact g_iret C hQ rfl ⟨by decide, by decide⟩ dX5_nextTime_111
set_option maxHeartbeats 4000000 in
set_option maxRecDepth 100000 in
theorem w_X5_nextTime_28 {E : gE} {X : gX} {b : Nat → Nat} {th : Int32} {ma : Int32} {st : Int32} {ti : Nat → Int32} {sp : Nat → Int32} {we : Nat → Int32} {ho : Nat → Int32} {sa : Nat → Int32} {ca : Nat → Int32} {cl : Nat → Int32} {su : Int64} {v1 : Int32} {v2 : Int32} {thc : Int32} {o : (Int32 × Int32)} (C : Cx E X cX5_nextTime 5 RX5 wsX5_nextTime r_X5_nextTime ((some .int)) []) (hQ : gQ E X (wM E b th ma st ti sp we ho sa ca cl su) r_X5_nextTime (gO (fun u9 => some (.int u9.1)) (fun u9 => (wM E b u9.2 ma st ti sp we ho sa ca cl su)) (.inr o))) : ∀ (F : Nat) (v3 : Int32) (v4 : Int32), l_X5_nextTime_28 ma ti ho sa v1 v2 thc F v3 v4 = some o → Gx E X (wM E b thc ma st ti sp we ho sa ca cl su) 5 [(0, .ref (b 0)), (1, .int v1), (2, .int v2), (3, .int v3), (4, .int v4)] [] 28 0 0 := by
  intro F
  induction F with
  | zero => intro v3 v4 h; exact absurd h (by simp [l_X5_nextTime_28])
  | succ F ih =>
    intro v3 v4 h
    rw [l_X5_nextTime_28] at h
    refine g_iload C 4 rfl dX5_nextTime_28 ?_
    refine g_aload_n C 0 rfl rfl dX5_nextTime_30 ?_
    refine g_X5_made C i_X5_nextTime_X5 m_X5_nextTime_1 0 rfl dX5_nextTime_31 ?_
    refine g_icmp_ge C (tgt := 87) dX5_nextTime_34 (by decide) (fun cd1 => ?_) (fun cd1 => ?_)
    · replace h := (if_pos cd1).symm.trans h
      refine g_aload_n C 0 rfl rfl dX5_nextTime_87 ?_
      refine g_iload_n C 3 rfl rfl dX5_nextTime_88 ?_
      refine g_ldc C (v := 100000) m_X5_nextTime_0 dX5_nextTime_89 ?_
      refine g_icmp_ne C (tgt := 98) dX5_nextTime_91 (by decide) (fun cd2 => ?_) (fun cd2 => ?_)
      · replace h := (if_neg cd2).symm.trans h
        refine g_iconst C (v := 0) (by decide) dX5_nextTime_98 ?_
        refine g_lv [3] (lv2 := [(3, .int v3)]) rfl ?_
        exact v_X5_nextTime_99 (v3 := v3) (s1 := false) (thc := thc) C hQ h
      · replace h := (if_pos cd2).symm.trans h
        refine g_iconst C (v := 1) (by decide) dX5_nextTime_94 ?_
        refine g_goto C (tgt := 99) dX5_nextTime_95 (by decide) ?_
        refine g_lv [3] (lv2 := [(3, .int v3)]) rfl ?_
        exact v_X5_nextTime_99 (v3 := v3) (s1 := true) (thc := thc) C hQ h
    · replace h := (if_neg cd1).symm.trans h
      refine g_aload_n C 0 rfl rfl dX5_nextTime_37 ?_
      refine g_iload_n C 1 rfl rfl dX5_nextTime_38 ?_
      refine g_iload C 4 rfl dX5_nextTime_39 ?_
      obtain ⟨g3, eg3, h⟩ := Option.bind_eq_some_iff.mp h
      refine g_cVr (As := [.int v1, .int v4]) (n9 := 2) (st := []) (w2 := (wM E b thc ma st ti sp we ho sa ca cl su)) C (c_X5_isWaiting E b thc ma st ti sp we ho sa ca cl su v1 v4 g3 eg3) gX5_nextTime_X5_isWaiting rfl (by decide +kernel) rfl ⟨by decide, by decide, by decide, by decide, Nat.le_of_ble_eq_true rfl⟩ 0 rfl rfl (gSub.idx [0, 1, 2, 3, 4, 5, 6, 7] rfl rfl) rfl dX5_nextTime_41 ?_
      refine g_if_eq C (tgt := 79) dX5_nextTime_44 (by decide) (fun cd4 => ?_) (fun cd4 => ?_)
      · replace h := (if_pos cd4).symm.trans h
        refine g_iload_n C 3 rfl rfl dX5_nextTime_79 ?_
        refine g_istore_n C (lv2 := [(3, .int v3), (0, .ref (b 0)), (1, .int v1), (2, .int v2), (4, .int v4)]) rfl (by decide) rfl dX5_nextTime_80 ?_
        refine g_iinc C (v := v4 + 1) 4 rfl rfl (lv2 := [(4, .int (v4 + 1)), (3, .int v3), (0, .ref (b 0)), (1, .int v1), (2, .int v2)]) rfl (by decide) dX5_nextTime_81 ?_
        refine g_goto C (tgt := 28) dX5_nextTime_84 (by decide) ?_
        refine g_lv [2, 3, 4, 1, 0] (lv2 := [(0, .ref (b 0)), (1, .int v1), (2, .int v2), (3, .int v3), (4, .int (v4 + 1))]) rfl ?_
        exact ih v3 (v4 + 1) h
      · replace h := (if_neg cd4).symm.trans h
        refine g_aload_n C 0 rfl rfl dX5_nextTime_47 ?_
        refine g_X5_time C i_X5_nextTime_X5 m_X5_nextTime_3 0 rfl dX5_nextTime_48 ?_
        refine g_iload C 4 rfl dX5_nextTime_51 ?_
        obtain ⟨cd5, h⟩ := ifN h
        refine g_iald C 1 rfl (inB_in cd5) dX5_nextTime_53 ?_
        refine g_iload_n C 2 rfl rfl dX5_nextTime_54 ?_
        refine g_icmp_lt C (tgt := 79) dX5_nextTime_55 (by decide) (fun cd6 => ?_) (fun cd6 => ?_)
        · replace h := (if_pos cd6).symm.trans h
          refine g_iload_n C 3 rfl rfl dX5_nextTime_79 ?_
          refine g_istore_n C (lv2 := [(3, .int v3), (0, .ref (b 0)), (1, .int v1), (2, .int v2), (4, .int v4)]) rfl (by decide) rfl dX5_nextTime_80 ?_
          refine g_iinc C (v := v4 + 1) 4 rfl rfl (lv2 := [(4, .int (v4 + 1)), (3, .int v3), (0, .ref (b 0)), (1, .int v1), (2, .int v2)]) rfl (by decide) dX5_nextTime_81 ?_
          refine g_goto C (tgt := 28) dX5_nextTime_84 (by decide) ?_
          refine g_lv [2, 3, 4, 1, 0] (lv2 := [(0, .ref (b 0)), (1, .int v1), (2, .int v2), (3, .int v3), (4, .int (v4 + 1))]) rfl ?_
          exact ih v3 (v4 + 1) h
        · replace h := (if_neg cd6).symm.trans h
          refine g_aload_n C 0 rfl rfl dX5_nextTime_58 ?_
          refine g_X5_time C i_X5_nextTime_X5 m_X5_nextTime_3 0 rfl dX5_nextTime_59 ?_
          refine g_iload C 4 rfl dX5_nextTime_62 ?_
          obtain ⟨cd7, h⟩ := ifN h
          refine g_iald C 1 rfl (inB_in cd7) dX5_nextTime_64 ?_
          refine g_iload_n C 3 rfl rfl dX5_nextTime_65 ?_
          refine g_icmp_ge C (tgt := 79) dX5_nextTime_66 (by decide) (fun cd8 => ?_) (fun cd8 => ?_)
          · replace h := (if_pos cd8).symm.trans h
            refine g_iload_n C 3 rfl rfl dX5_nextTime_79 ?_
            refine g_istore_n C (lv2 := [(3, .int v3), (0, .ref (b 0)), (1, .int v1), (2, .int v2), (4, .int v4)]) rfl (by decide) rfl dX5_nextTime_80 ?_
            refine g_iinc C (v := v4 + 1) 4 rfl rfl (lv2 := [(4, .int (v4 + 1)), (3, .int v3), (0, .ref (b 0)), (1, .int v1), (2, .int v2)]) rfl (by decide) dX5_nextTime_81 ?_
            refine g_goto C (tgt := 28) dX5_nextTime_84 (by decide) ?_
            refine g_lv [2, 3, 4, 1, 0] (lv2 := [(0, .ref (b 0)), (1, .int v1), (2, .int v2), (3, .int v3), (4, .int (v4 + 1))]) rfl ?_
            exact ih v3 (v4 + 1) h
          · replace h := (if_neg cd8).symm.trans h
            refine g_aload_n C 0 rfl rfl dX5_nextTime_69 ?_
            refine g_X5_time C i_X5_nextTime_X5 m_X5_nextTime_3 0 rfl dX5_nextTime_70 ?_
            refine g_iload C 4 rfl dX5_nextTime_73 ?_
            obtain ⟨cd9, h⟩ := ifN h
            refine g_iald C 1 rfl (inB_in cd9) dX5_nextTime_75 ?_
            refine g_goto C (tgt := 80) dX5_nextTime_76 (by decide) ?_
            refine g_istore_n C (lv2 := [(3, .int (ti v4.toNatClampNeg)), (0, .ref (b 0)), (1, .int v1), (2, .int v2), (4, .int v4)]) rfl (by decide) rfl dX5_nextTime_80 ?_
            refine g_iinc C (v := v4 + 1) 4 rfl rfl (lv2 := [(4, .int (v4 + 1)), (3, .int (ti v4.toNatClampNeg)), (0, .ref (b 0)), (1, .int v1), (2, .int v2)]) rfl (by decide) dX5_nextTime_81 ?_
            refine g_goto C (tgt := 28) dX5_nextTime_84 (by decide) ?_
            refine g_lv [2, 3, 4, 1, 0] (lv2 := [(0, .ref (b 0)), (1, .int v1), (2, .int v2), (3, .int (ti v4.toNatClampNeg)), (4, .int (v4 + 1))]) rfl ?_
            exact ih (ti v4.toNatClampNeg) (v4 + 1) h
set_option maxHeartbeats 4000000 in
set_option maxRecDepth 100000 in
theorem v_X5_nextTime_13 {E : gE} {X : gX} {b : Nat → Nat} {th : Int32} {ma : Int32} {st : Int32} {ti : Nat → Int32} {sp : Nat → Int32} {we : Nat → Int32} {ho : Nat → Int32} {sa : Nat → Int32} {ca : Nat → Int32} {cl : Nat → Int32} {su : Int64} {v1 : Int32} {v2 : Int32} {s1 : Bool} {o : (Int32 × Int32)} (C : Cx E X cX5_nextTime 5 RX5 wsX5_nextTime r_X5_nextTime ((some .int)) []) (hQ : gQ E X (wM E b th ma st ti sp we ho sa ca cl su) r_X5_nextTime (gO (fun u9 => some (.int u9.1)) (fun u9 => (wM E b u9.2 ma st ti sp we ho sa ca cl su)) (.inr o))) (h : b_X5_nextTime_13 ma ti ho sa v1 v2 s1 = some o) : Gx E X (wM E b th ma st ti sp we ho sa ca cl su) 5 [(0, .ref (b 0)), (1, .int v1), (2, .int v2)] [.int (bI s1), .ref (b 0)] 13 0 0 := by
  rw [b_X5_nextTime_13] at h
  refine g_iconst C (v := 1) (by decide) dX5_nextTime_13 ?_
  obtain ⟨g1, eg1, h⟩ := Option.bind_eq_some_iff.mp h
  refine g_cVr (As := [.int (bI s1), .int 1]) (n9 := 2) (st := []) (w2 := (wM E b g1.2 ma st ti sp we ho sa ca cl su)) C (c_X5_isThrown E b th ma st ti sp we ho sa ca cl su s1 1 g1 eg1) gX5_nextTime_X5_isThrown rfl (by decide +kernel) rfl ⟨by decide, by decide, by decide, by decide, Nat.le_of_ble_eq_true rfl⟩ 0 rfl rfl (gSub.idx [0, 1, 2, 3, 4, 5, 6, 7] rfl rfl) rfl dX5_nextTime_14 ?_
  refine g_if_eq C (tgt := 22) dX5_nextTime_17 (by decide) (fun cd2 => ?_) (fun cd2 => ?_)
  · replace h := (if_pos cd2).symm.trans h
    refine g_ldc C (v := 100000) m_X5_nextTime_0 dX5_nextTime_22 ?_
    refine g_istore_n C (lv2 := [(3, .int 100000), (0, .ref (b 0)), (1, .int v1), (2, .int v2)]) rfl (by decide) rfl dX5_nextTime_24 ?_
    refine g_iconst C (v := 0) (by decide) dX5_nextTime_25 ?_
    refine g_istore C (lv2 := [(4, .int 0), (3, .int 100000), (0, .ref (b 0)), (1, .int v1), (2, .int v2)]) rfl (by decide) dX5_nextTime_26 ?_
    refine g_lv [2, 3, 4, 1, 0] (lv2 := [(0, .ref (b 0)), (1, .int v1), (2, .int v2), (3, .int 100000), (4, .int 0)]) rfl ?_
    exact w_X5_nextTime_28 (v1 := v1) (v2 := v2) (thc := g1.2) C hQ FU 100000 0 h
  · replace h := (if_neg cd2).symm.trans h
    refine g_iconst C (v := 0) (by decide) dX5_nextTime_20 ?_
    obtain rfl := Option.some.inj h
    exact g_iret C hQ rfl ⟨by decide, by decide⟩ dX5_nextTime_21
set_option maxHeartbeats 4000000 in
set_option maxRecDepth 100000 in
theorem c_X5_nextTime (E : gE) (b : Nat → Nat) (th : Int32) (ma : Int32) (st : Int32) (ti : Nat → Int32) (sp : Nat → Int32) (we : Nat → Int32) (ho : Nat → Int32) (sa : Nat → Int32) (ca : Nat → Int32) (cl : Nat → Int32) (su : Int64) (p1 : Int32) (p2 : Int32) (o : (Int32 × Int32)) (h : f_X5_nextTime ma ti ho sa p1 p2 = some o) : Ct E yX5_nextTime wsX5_nextTime r_X5_nextTime [.ref (b 0), .int p1, .int p2] (wM E b th ma st ti sp we ho sa ca cl su) (gO (fun u9 => some (.int u9.1)) (fun u9 => (wM E b u9.2 ma st ti sp we ho sa ca cl su)) (.inr o)) := by
  refine Ct.of (cc := cX5_nextTime) (nL := 5) (ret := ((some .int))) (own := RX5) (by decide) rfl rfl (Nat.le_of_ble_eq_true rfl) rfl ?_ ?_
  · intro v w1 hh
    cases hh; rfl
  · intro X C hQ
    rw [f_X5_nextTime] at h
    refine g_aload_n C 0 rfl rfl dX5_nextTime_0 ?_
    refine g_iload_n C 1 rfl rfl dX5_nextTime_1 ?_
    obtain ⟨g1, eg1, h⟩ := Option.bind_eq_some_iff.mp h
    refine g_cSr (As := [.int p1]) (n9 := 1) (st := [.ref (b 0)]) (w2 := (wM E b th ma st ti sp we ho sa ca cl su)) C (c_X5_isHouse E p1 g1 eg1) gX5_nextTime_X5_isHouse rfl (by decide +kernel) rfl ⟨by decide, by decide, by decide, by decide, Nat.le_of_ble_eq_true rfl⟩ (gSub.idx [] rfl rfl) rfl dX5_nextTime_2 ?_
    refine g_if_ne C (tgt := 12) dX5_nextTime_5 (by decide) (fun cd2 => ?_) (fun cd2 => ?_)
    · replace h := (if_neg cd2).symm.trans h
      refine g_iconst C (v := 0) (by decide) dX5_nextTime_12 ?_
      exact v_X5_nextTime_13 (v1 := p1) (v2 := p2) (s1 := false) C hQ h
    · replace h := (if_pos cd2).symm.trans h
      refine g_iconst C (v := 1) (by decide) dX5_nextTime_8 ?_
      refine g_goto C (tgt := 13) dX5_nextTime_9 (by decide) ?_
      exact v_X5_nextTime_13 (v1 := p1) (v2 := p2) (s1 := true) C hQ h
abbrev r_X5_about : Room := { frames := 2, cells := 0, slots := 0, locals := 42 }
theorem m_X5_about_0 : Cond.fieldLink RX5 35 "BookinghouseModel" "made" "I" ∈ wsX5_about := by decide +kernel
theorem i_X5_about_X5 : ∀ w ∈ wsX50, w ∈ wsX5_about := by decide +kernel
theorem m_X5_about_2 : Cond.fieldLink RX5 22 "BookinghouseModel" "state" "[I" ∈ wsX5_about := by decide +kernel
theorem m_X5_about_3 : Cond.fieldLink RX5 19 "BookinghouseModel" "home" "[I" ∈ wsX5_about := by decide +kernel
theorem m_X5_about_4 : Cond.fieldLink RX5 16 "BookinghouseModel" "weight" "[I" ∈ wsX5_about := by decide +kernel
theorem m_X5_about_5 : Cond.fieldLink RX5 13 "BookinghouseModel" "span" "[I" ∈ wsX5_about := by decide +kernel
theorem m_X5_about_6 : Cond.fieldLink RX5 7 "BookinghouseModel" "time" "[I" ∈ wsX5_about := by decide +kernel
set_option maxHeartbeats 4000000 in
set_option maxRecDepth 100000 in
theorem v_X5_about_61 {E : gE} {X : gX} {b : Nat → Nat} {th : Int32} {ma : Int32} {st : Int32} {ti : Nat → Int32} {sp : Nat → Int32} {we : Nat → Int32} {ho : Nat → Int32} {sa : Nat → Int32} {ca : Nat → Int32} {cl : Nat → Int32} {su : Int64} {v1 : Int32} {v2 : Int32} {s1 : Bool} {thc : Int32} {o : (Int64 × Int32)} (C : Cx E X cX5_about 3 RX5 wsX5_about r_X5_about ((some .long)) []) (hQ : gQ E X (wM E b th ma st ti sp we ho sa ca cl su) r_X5_about (gO (fun u9 => some (.long u9.1)) (fun u9 => (wM E b u9.2 ma st ti sp we ho sa ca cl su)) (.inr o))) (h : b_X5_about_61 ti sp we ho sa v1 v2 s1 thc = some o) : Gx E X (wM E b thc ma st ti sp we ho sa ca cl su) 3 [(0, .ref (b 0)), (1, .int v1), (2, .int v2)] [.int (bI s1), .ref (b 0)] 61 0 0 := by
  rw [b_X5_about_61] at h
  refine g_iconst C (v := 2) (by decide) dX5_about_61 ?_
  obtain ⟨g1, eg1, h⟩ := Option.bind_eq_some_iff.mp h
  refine g_cVr (As := [.int (bI s1), .int 2]) (n9 := 2) (st := []) (w2 := (wM E b g1.2 ma st ti sp we ho sa ca cl su)) C (c_X5_isThrown E b thc ma st ti sp we ho sa ca cl su s1 2 g1 eg1) gX5_about_X5_isThrown rfl (by decide +kernel) rfl ⟨by decide, by decide, by decide, by decide, Nat.le_of_ble_eq_true rfl⟩ 0 rfl rfl (gSub.idx [0, 1, 2, 3, 4, 5, 6, 7] rfl rfl) rfl dX5_about_62 ?_
  refine g_if_eq C (tgt := 70) dX5_about_65 (by decide) (fun cd2 => ?_) (fun cd2 => ?_)
  · replace h := (if_pos cd2).symm.trans h
    refine g_iload_n C 2 rfl rfl dX5_about_70 ?_
    refine g_bipush C (v := 116) (by decide) dX5_about_71 ?_
    refine g_icmp_ne C (tgt := 86) dX5_about_73 (by decide) (fun cd3 => ?_) (fun cd3 => ?_)
    · replace h := (if_neg cd3).symm.trans h
      refine g_iload_n C 2 rfl rfl dX5_about_86 ?_
      refine g_bipush C (v := 115) (by decide) dX5_about_87 ?_
      refine g_icmp_ne C (tgt := 102) dX5_about_89 (by decide) (fun cd4 => ?_) (fun cd4 => ?_)
      · replace h := (if_neg cd4).symm.trans h
        refine g_iload_n C 2 rfl rfl dX5_about_102 ?_
        refine g_bipush C (v := 119) (by decide) dX5_about_103 ?_
        refine g_icmp_ne C (tgt := 118) dX5_about_105 (by decide) (fun cd5 => ?_) (fun cd5 => ?_)
        · replace h := (if_neg cd5).symm.trans h
          refine g_iload_n C 2 rfl rfl dX5_about_118 ?_
          refine g_bipush C (v := 104) (by decide) dX5_about_119 ?_
          refine g_icmp_ne C (tgt := 134) dX5_about_121 (by decide) (fun cd6 => ?_) (fun cd6 => ?_)
          · replace h := (if_neg cd6).symm.trans h
            refine g_aload_n C 0 rfl rfl dX5_about_134 ?_
            refine g_X5_state C i_X5_about_X5 m_X5_about_2 0 rfl dX5_about_135 ?_
            refine g_iload_n C 1 rfl rfl dX5_about_138 ?_
            obtain ⟨cd7, h⟩ := ifN h
            refine g_iald C 5 rfl (inB_in cd7) dX5_about_139 ?_
            refine g_i2l C dX5_about_140 ?_
            obtain rfl := Option.some.inj h
            exact g_lret C hQ rfl ⟨by decide, by decide⟩ dX5_about_141
          · replace h := (if_pos cd6).symm.trans h
            refine g_aload_n C 0 rfl rfl dX5_about_124 ?_
            refine g_X5_home C i_X5_about_X5 m_X5_about_3 0 rfl dX5_about_125 ?_
            refine g_iload_n C 1 rfl rfl dX5_about_128 ?_
            obtain ⟨cd8, h⟩ := ifN h
            refine g_iald C 4 rfl (inB_in cd8) dX5_about_129 ?_
            refine g_i2l C dX5_about_130 ?_
            refine g_goto C (tgt := 141) dX5_about_131 (by decide) ?_
            obtain rfl := Option.some.inj h
            exact g_lret C hQ rfl ⟨by decide, by decide⟩ dX5_about_141
        · replace h := (if_pos cd5).symm.trans h
          refine g_aload_n C 0 rfl rfl dX5_about_108 ?_
          refine g_X5_weight C i_X5_about_X5 m_X5_about_4 0 rfl dX5_about_109 ?_
          refine g_iload_n C 1 rfl rfl dX5_about_112 ?_
          obtain ⟨cd9, h⟩ := ifN h
          refine g_iald C 3 rfl (inB_in cd9) dX5_about_113 ?_
          refine g_i2l C dX5_about_114 ?_
          refine g_goto C (tgt := 141) dX5_about_115 (by decide) ?_
          obtain rfl := Option.some.inj h
          exact g_lret C hQ rfl ⟨by decide, by decide⟩ dX5_about_141
      · replace h := (if_pos cd4).symm.trans h
        refine g_aload_n C 0 rfl rfl dX5_about_92 ?_
        refine g_X5_span C i_X5_about_X5 m_X5_about_5 0 rfl dX5_about_93 ?_
        refine g_iload_n C 1 rfl rfl dX5_about_96 ?_
        obtain ⟨cd10, h⟩ := ifN h
        refine g_iald C 2 rfl (inB_in cd10) dX5_about_97 ?_
        refine g_i2l C dX5_about_98 ?_
        refine g_goto C (tgt := 141) dX5_about_99 (by decide) ?_
        obtain rfl := Option.some.inj h
        exact g_lret C hQ rfl ⟨by decide, by decide⟩ dX5_about_141
    · replace h := (if_pos cd3).symm.trans h
      refine g_aload_n C 0 rfl rfl dX5_about_76 ?_
      refine g_X5_time C i_X5_about_X5 m_X5_about_6 0 rfl dX5_about_77 ?_
      refine g_iload_n C 1 rfl rfl dX5_about_80 ?_
      obtain ⟨cd11, h⟩ := ifN h
      refine g_iald C 1 rfl (inB_in cd11) dX5_about_81 ?_
      refine g_i2l C dX5_about_82 ?_
      refine g_goto C (tgt := 141) dX5_about_83 (by decide) ?_
      obtain rfl := Option.some.inj h
      exact g_lret C hQ rfl ⟨by decide, by decide⟩ dX5_about_141
  · replace h := (if_neg cd2).symm.trans h
    refine g_lconst C (v := 0) (by decide) dX5_about_68 ?_
    obtain rfl := Option.some.inj h
    exact g_lret C hQ rfl ⟨by decide, by decide⟩ dX5_about_69
set_option maxHeartbeats 4000000 in
set_option maxRecDepth 100000 in
theorem v_X5_about_18 {E : gE} {X : gX} {b : Nat → Nat} {th : Int32} {ma : Int32} {st : Int32} {ti : Nat → Int32} {sp : Nat → Int32} {we : Nat → Int32} {ho : Nat → Int32} {sa : Nat → Int32} {ca : Nat → Int32} {cl : Nat → Int32} {su : Int64} {v1 : Int32} {v2 : Int32} {s1 : Bool} {o : (Int64 × Int32)} (C : Cx E X cX5_about 3 RX5 wsX5_about r_X5_about ((some .long)) []) (hQ : gQ E X (wM E b th ma st ti sp we ho sa ca cl su) r_X5_about (gO (fun u9 => some (.long u9.1)) (fun u9 => (wM E b u9.2 ma st ti sp we ho sa ca cl su)) (.inr o))) (h : b_X5_about_18 ti sp we ho sa v1 v2 s1 = some o) : Gx E X (wM E b th ma st ti sp we ho sa ca cl su) 3 [(0, .ref (b 0)), (1, .int v1), (2, .int v2)] [.int (bI s1), .ref (b 0)] 18 0 0 := by
  rw [b_X5_about_18] at h
  refine g_iconst C (v := 1) (by decide) dX5_about_18 ?_
  obtain ⟨g1, eg1, h⟩ := Option.bind_eq_some_iff.mp h
  refine g_cVr (As := [.int (bI s1), .int 1]) (n9 := 2) (st := []) (w2 := (wM E b g1.2 ma st ti sp we ho sa ca cl su)) C (c_X5_isThrown E b th ma st ti sp we ho sa ca cl su s1 1 g1 eg1) gX5_about_X5_isThrown rfl (by decide +kernel) rfl ⟨by decide, by decide, by decide, by decide, Nat.le_of_ble_eq_true rfl⟩ 0 rfl rfl (gSub.idx [0, 1, 2, 3, 4, 5, 6, 7] rfl rfl) rfl dX5_about_19 ?_
  refine g_if_ne C (tgt := 68) dX5_about_22 (by decide) (fun cd2 => ?_) (fun cd2 => ?_)
  · replace h := (if_neg cd2).symm.trans h
    refine g_lconst C (v := 0) (by decide) dX5_about_68 ?_
    obtain rfl := Option.some.inj h
    exact g_lret C hQ rfl ⟨by decide, by decide⟩ dX5_about_69
  · replace h := (if_pos cd2).symm.trans h
    refine g_aload_n C 0 rfl rfl dX5_about_25 ?_
    refine g_iload_n C 2 rfl rfl dX5_about_26 ?_
    refine g_bipush C (v := 116) (by decide) dX5_about_27 ?_
    refine g_icmp_eq C (tgt := 60) dX5_about_29 (by decide) (fun cd3 => ?_) (fun cd3 => ?_)
    · replace h := (if_pos cd3).symm.trans h
      refine g_iconst C (v := 0) (by decide) dX5_about_60 ?_
      exact v_X5_about_61 (v1 := v1) (v2 := v2) (s1 := false) (thc := g1.2) C hQ h
    · replace h := (if_neg cd3).symm.trans h
      refine g_iload_n C 2 rfl rfl dX5_about_32 ?_
      refine g_bipush C (v := 115) (by decide) dX5_about_33 ?_
      refine g_icmp_eq C (tgt := 60) dX5_about_35 (by decide) (fun cd4 => ?_) (fun cd4 => ?_)
      · replace h := (if_pos cd4).symm.trans h
        refine g_iconst C (v := 0) (by decide) dX5_about_60 ?_
        exact v_X5_about_61 (v1 := v1) (v2 := v2) (s1 := false) (thc := g1.2) C hQ h
      · replace h := (if_neg cd4).symm.trans h
        refine g_iload_n C 2 rfl rfl dX5_about_38 ?_
        refine g_bipush C (v := 119) (by decide) dX5_about_39 ?_
        refine g_icmp_eq C (tgt := 60) dX5_about_41 (by decide) (fun cd5 => ?_) (fun cd5 => ?_)
        · replace h := (if_pos cd5).symm.trans h
          refine g_iconst C (v := 0) (by decide) dX5_about_60 ?_
          exact v_X5_about_61 (v1 := v1) (v2 := v2) (s1 := false) (thc := g1.2) C hQ h
        · replace h := (if_neg cd5).symm.trans h
          refine g_iload_n C 2 rfl rfl dX5_about_44 ?_
          refine g_bipush C (v := 104) (by decide) dX5_about_45 ?_
          refine g_icmp_eq C (tgt := 60) dX5_about_47 (by decide) (fun cd6 => ?_) (fun cd6 => ?_)
          · replace h := (if_pos cd6).symm.trans h
            refine g_iconst C (v := 0) (by decide) dX5_about_60 ?_
            exact v_X5_about_61 (v1 := v1) (v2 := v2) (s1 := false) (thc := g1.2) C hQ h
          · replace h := (if_neg cd6).symm.trans h
            refine g_iload_n C 2 rfl rfl dX5_about_50 ?_
            refine g_bipush C (v := 120) (by decide) dX5_about_51 ?_
            refine g_icmp_eq C (tgt := 60) dX5_about_53 (by decide) (fun cd7 => ?_) (fun cd7 => ?_)
            · replace h := (if_pos cd7).symm.trans h
              refine g_iconst C (v := 0) (by decide) dX5_about_60 ?_
              exact v_X5_about_61 (v1 := v1) (v2 := v2) (s1 := false) (thc := g1.2) C hQ h
            · replace h := (if_neg cd7).symm.trans h
              refine g_iconst C (v := 1) (by decide) dX5_about_56 ?_
              refine g_goto C (tgt := 61) dX5_about_57 (by decide) ?_
              exact v_X5_about_61 (v1 := v1) (v2 := v2) (s1 := true) (thc := g1.2) C hQ h
set_option maxHeartbeats 4000000 in
set_option maxRecDepth 100000 in
theorem c_X5_about (E : gE) (b : Nat → Nat) (th : Int32) (ma : Int32) (st : Int32) (ti : Nat → Int32) (sp : Nat → Int32) (we : Nat → Int32) (ho : Nat → Int32) (sa : Nat → Int32) (ca : Nat → Int32) (cl : Nat → Int32) (su : Int64) (p1 : Int32) (p2 : Int32) (o : (Int64 × Int32)) (h : f_X5_about ma ti sp we ho sa p1 p2 = some o) : Ct E yX5_about wsX5_about r_X5_about [.ref (b 0), .int p1, .int p2] (wM E b th ma st ti sp we ho sa ca cl su) (gO (fun u9 => some (.long u9.1)) (fun u9 => (wM E b u9.2 ma st ti sp we ho sa ca cl su)) (.inr o)) := by
  refine Ct.of (cc := cX5_about) (nL := 3) (ret := ((some .long))) (own := RX5) (by decide) rfl rfl (Nat.le_of_ble_eq_true rfl) rfl ?_ ?_
  · intro v w1 hh
    cases hh; rfl
  · intro X C hQ
    rw [f_X5_about] at h
    refine g_aload_n C 0 rfl rfl dX5_about_0 ?_
    refine g_iload_n C 1 rfl rfl dX5_about_1 ?_
    refine g_if_lt C (tgt := 13) dX5_about_2 (by decide) (fun cd1 => ?_) (fun cd1 => ?_)
    · replace h := (if_pos cd1).symm.trans h
      refine g_iconst C (v := 1) (by decide) dX5_about_13 ?_
      refine g_goto C (tgt := 18) dX5_about_14 (by decide) ?_
      exact v_X5_about_18 (v1 := p1) (v2 := p2) (s1 := true) C hQ h
    · replace h := (if_neg cd1).symm.trans h
      refine g_iload_n C 1 rfl rfl dX5_about_5 ?_
      refine g_aload_n C 0 rfl rfl dX5_about_6 ?_
      refine g_X5_made C i_X5_about_X5 m_X5_about_0 0 rfl dX5_about_7 ?_
      refine g_icmp_lt C (tgt := 17) dX5_about_10 (by decide) (fun cd2 => ?_) (fun cd2 => ?_)
      · replace h := (if_pos cd2).symm.trans h
        refine g_iconst C (v := 0) (by decide) dX5_about_17 ?_
        exact v_X5_about_18 (v1 := p1) (v2 := p2) (s1 := false) C hQ h
      · replace h := (if_neg cd2).symm.trans h
        refine g_iconst C (v := 1) (by decide) dX5_about_13 ?_
        refine g_goto C (tgt := 18) dX5_about_14 (by decide) ?_
        exact v_X5_about_18 (v1 := p1) (v2 := p2) (s1 := true) C hQ h
abbrev r_X5_isOf : Room := { frames := 1, cells := 0, slots := 0, locals := 20 }
theorem m_X5_isOf_0 : Cond.fieldLink RX5 19 "BookinghouseModel" "home" "[I" ∈ wsX5_isOf := by decide +kernel
theorem i_X5_isOf_X5 : ∀ w ∈ wsX50, w ∈ wsX5_isOf := by decide +kernel
theorem m_X5_isOf_2 : Cond.fieldLink RX5 22 "BookinghouseModel" "state" "[I" ∈ wsX5_isOf := by decide +kernel
theorem m_X5_isOf_3 : Cond.fieldLink RX5 13 "BookinghouseModel" "span" "[I" ∈ wsX5_isOf := by decide +kernel
set_option maxHeartbeats 4000000 in
set_option maxRecDepth 100000 in
theorem c_X5_isOf (E : gE) (b : Nat → Nat) (th : Int32) (ma : Int32) (st : Int32) (ti : Nat → Int32) (sp : Nat → Int32) (we : Nat → Int32) (ho : Nat → Int32) (sa : Nat → Int32) (ca : Nat → Int32) (cl : Nat → Int32) (su : Int64) (p1 : Int32) (p2 : Int32) (o : (Bool)) (h : f_X5_isOf sp ho sa p1 p2 = some o) : Ct E yX5_isOf wsX5_isOf r_X5_isOf [.ref (b 0), .int p1, .int p2] (wM E b th ma st ti sp we ho sa ca cl su) (gO (fun u9 => some (.int (bI u9))) (fun u9 => (wM E b th ma st ti sp we ho sa ca cl su)) (.inr o)) := by
  refine Ct.of (cc := cX5_isOf) (nL := 3) (ret := ((some .boolean))) (own := RX5) (by decide) rfl rfl (Nat.le_of_ble_eq_true rfl) rfl ?_ ?_
  · intro v w1 hh
    cases hh; rfl
  · intro X C hQ
    rw [f_X5_isOf] at h
    refine g_aload_n C 0 rfl rfl dX5_isOf_0 ?_
    refine g_X5_home C i_X5_isOf_X5 m_X5_isOf_0 0 rfl dX5_isOf_1 ?_
    refine g_iload_n C 2 rfl rfl dX5_isOf_4 ?_
    obtain ⟨cd1, h⟩ := ifN h
    refine g_iald C 4 rfl (inB_in cd1) dX5_isOf_5 ?_
    refine g_iload_n C 1 rfl rfl dX5_isOf_6 ?_
    refine g_icmp_ne C (tgt := 33) dX5_isOf_7 (by decide) (fun cd2 => ?_) (fun cd2 => ?_)
    · replace h := (if_neg cd2).symm.trans h
      refine g_iconst C (v := 0) (by decide) dX5_isOf_33 ?_
      obtain rfl := Option.some.inj h
      exact g_zret C hQ rfl rfl ⟨by decide, by decide⟩ dX5_isOf_34
    · replace h := (if_pos cd2).symm.trans h
      refine g_aload_n C 0 rfl rfl dX5_isOf_10 ?_
      refine g_X5_state C i_X5_isOf_X5 m_X5_isOf_2 0 rfl dX5_isOf_11 ?_
      refine g_iload_n C 2 rfl rfl dX5_isOf_14 ?_
      obtain ⟨cd3, h⟩ := ifN h
      refine g_iald C 5 rfl (inB_in cd3) dX5_isOf_15 ?_
      refine g_iconst C (v := 1) (by decide) dX5_isOf_16 ?_
      refine g_icmp_ne C (tgt := 33) dX5_isOf_17 (by decide) (fun cd4 => ?_) (fun cd4 => ?_)
      · replace h := (if_neg cd4).symm.trans h
        refine g_iconst C (v := 0) (by decide) dX5_isOf_33 ?_
        obtain rfl := Option.some.inj h
        exact g_zret C hQ rfl rfl ⟨by decide, by decide⟩ dX5_isOf_34
      · replace h := (if_pos cd4).symm.trans h
        refine g_aload_n C 0 rfl rfl dX5_isOf_20 ?_
        refine g_X5_span C i_X5_isOf_X5 m_X5_isOf_3 0 rfl dX5_isOf_21 ?_
        refine g_iload_n C 2 rfl rfl dX5_isOf_24 ?_
        obtain ⟨cd5, h⟩ := ifN h
        refine g_iald C 2 rfl (inB_in cd5) dX5_isOf_25 ?_
        refine g_if_le C (tgt := 33) dX5_isOf_26 (by decide) (fun cd6 => ?_) (fun cd6 => ?_)
        · replace h := (if_pos cd6).symm.trans h
          refine g_iconst C (v := 0) (by decide) dX5_isOf_33 ?_
          obtain rfl := Option.some.inj h
          exact g_zret C hQ rfl rfl ⟨by decide, by decide⟩ dX5_isOf_34
        · replace h := (if_neg cd6).symm.trans h
          refine g_iconst C (v := 1) (by decide) dX5_isOf_29 ?_
          refine g_goto C (tgt := 34) dX5_isOf_30 (by decide) ?_
          obtain rfl := Option.some.inj h
          exact g_zret C hQ rfl rfl ⟨by decide, by decide⟩ dX5_isOf_34
abbrev r_X5_crowdAt : Room := { frames := 2, cells := 0, slots := 0, locals := 42 }
theorem m_X5_crowdAt_0 : Cond.fieldLink RX5 35 "BookinghouseModel" "made" "I" ∈ wsX5_crowdAt := by decide +kernel
theorem i_X5_crowdAt_X5 : ∀ w ∈ wsX50, w ∈ wsX5_crowdAt := by decide +kernel
theorem m_X5_crowdAt_2 : Cond.fieldLink RX5 7 "BookinghouseModel" "time" "[I" ∈ wsX5_crowdAt := by decide +kernel
theorem m_X5_crowdAt_3 : Cond.fieldLink RX5 13 "BookinghouseModel" "span" "[I" ∈ wsX5_crowdAt := by decide +kernel
theorem m_X5_crowdAt_4 : Cond.fieldLink RX5 16 "BookinghouseModel" "weight" "[I" ∈ wsX5_crowdAt := by decide +kernel
set_option maxHeartbeats 4000000 in
set_option maxRecDepth 100000 in
theorem w_X5_crowdAt_5 {E : gE} {X : gX} {b : Nat → Nat} {th : Int32} {ma : Int32} {st : Int32} {ti : Nat → Int32} {sp : Nat → Int32} {we : Nat → Int32} {ho : Nat → Int32} {sa : Nat → Int32} {ca : Nat → Int32} {cl : Nat → Int32} {su : Int64} {v1 : Int32} {v2 : Int32} {o : (Int32)} (C : Cx E X cX5_crowdAt 5 RX5 wsX5_crowdAt r_X5_crowdAt ((some .int)) []) (hQ : gQ E X (wM E b th ma st ti sp we ho sa ca cl su) r_X5_crowdAt (gO (fun u9 => some (.int u9)) (fun u9 => (wM E b th ma st ti sp we ho sa ca cl su)) (.inr o))) : ∀ (F : Nat) (v3 : Int32) (v4 : Int32), l_X5_crowdAt_5 ma ti sp we ho sa v1 v2 F v3 v4 = some o → Gx E X (wM E b th ma st ti sp we ho sa ca cl su) 5 [(0, .ref (b 0)), (1, .int v1), (2, .int v2), (3, .int v3), (4, .int v4)] [] 5 0 0 := by
  intro F
  induction F with
  | zero => intro v3 v4 h; exact absurd h (by simp [l_X5_crowdAt_5])
  | succ F ih =>
    intro v3 v4 h
    rw [l_X5_crowdAt_5] at h
    refine g_iload C 4 rfl dX5_crowdAt_5 ?_
    refine g_aload_n C 0 rfl rfl dX5_crowdAt_7 ?_
    refine g_X5_made C i_X5_crowdAt_X5 m_X5_crowdAt_0 0 rfl dX5_crowdAt_8 ?_
    refine g_icmp_ge C (tgt := 74) dX5_crowdAt_11 (by decide) (fun cd1 => ?_) (fun cd1 => ?_)
    · replace h := (if_pos cd1).symm.trans h
      refine g_iload_n C 3 rfl rfl dX5_crowdAt_74 ?_
      obtain rfl := Option.some.inj h
      exact g_iret C hQ rfl ⟨by decide, by decide⟩ dX5_crowdAt_75
    · replace h := (if_neg cd1).symm.trans h
      refine g_iload_n C 3 rfl rfl dX5_crowdAt_14 ?_
      refine g_aload_n C 0 rfl rfl dX5_crowdAt_15 ?_
      refine g_iload_n C 1 rfl rfl dX5_crowdAt_16 ?_
      refine g_iload C 4 rfl dX5_crowdAt_17 ?_
      obtain ⟨g2, eg2, h⟩ := Option.bind_eq_some_iff.mp h
      refine g_cVr (As := [.int v1, .int v4]) (n9 := 2) (st := [.int v3]) (w2 := (wM E b th ma st ti sp we ho sa ca cl su)) C (c_X5_isOf E b th ma st ti sp we ho sa ca cl su v1 v4 g2 eg2) gX5_crowdAt_X5_isOf rfl (by decide +kernel) rfl ⟨by decide, by decide, by decide, by decide, Nat.le_of_ble_eq_true rfl⟩ 0 rfl rfl (gSub.idx [0, 1, 2, 3, 4, 5, 6, 7] rfl rfl) rfl dX5_crowdAt_19 ?_
      refine g_if_eq C (tgt := 65) dX5_crowdAt_22 (by decide) (fun cd3 => ?_) (fun cd3 => ?_)
      · replace h := (if_pos cd3).symm.trans h
        refine g_iconst C (v := 0) (by decide) dX5_crowdAt_65 ?_
        refine g_iadd C dX5_crowdAt_66 ?_
        refine g_istore_n C (lv2 := [(3, .int (v3 + 0)), (0, .ref (b 0)), (1, .int v1), (2, .int v2), (4, .int v4)]) rfl (by decide) rfl dX5_crowdAt_67 ?_
        refine g_iinc C (v := v4 + 1) 4 rfl rfl (lv2 := [(4, .int (v4 + 1)), (3, .int (v3 + 0)), (0, .ref (b 0)), (1, .int v1), (2, .int v2)]) rfl (by decide) dX5_crowdAt_68 ?_
        refine g_goto C (tgt := 5) dX5_crowdAt_71 (by decide) ?_
        refine g_lv [2, 3, 4, 1, 0] (lv2 := [(0, .ref (b 0)), (1, .int v1), (2, .int v2), (3, .int (v3 + 0)), (4, .int (v4 + 1))]) rfl ?_
        exact ih (v3 + 0) (v4 + 1) h
      · replace h := (if_neg cd3).symm.trans h
        refine g_aload_n C 0 rfl rfl dX5_crowdAt_25 ?_
        refine g_X5_time C i_X5_crowdAt_X5 m_X5_crowdAt_2 0 rfl dX5_crowdAt_26 ?_
        refine g_iload C 4 rfl dX5_crowdAt_29 ?_
        obtain ⟨cd4, h⟩ := ifN h
        refine g_iald C 1 rfl (inB_in cd4) dX5_crowdAt_31 ?_
        refine g_iload_n C 2 rfl rfl dX5_crowdAt_32 ?_
        refine g_icmp_gt C (tgt := 65) dX5_crowdAt_33 (by decide) (fun cd5 => ?_) (fun cd5 => ?_)
        · replace h := (if_pos cd5).symm.trans h
          refine g_iconst C (v := 0) (by decide) dX5_crowdAt_65 ?_
          refine g_iadd C dX5_crowdAt_66 ?_
          refine g_istore_n C (lv2 := [(3, .int (v3 + 0)), (0, .ref (b 0)), (1, .int v1), (2, .int v2), (4, .int v4)]) rfl (by decide) rfl dX5_crowdAt_67 ?_
          refine g_iinc C (v := v4 + 1) 4 rfl rfl (lv2 := [(4, .int (v4 + 1)), (3, .int (v3 + 0)), (0, .ref (b 0)), (1, .int v1), (2, .int v2)]) rfl (by decide) dX5_crowdAt_68 ?_
          refine g_goto C (tgt := 5) dX5_crowdAt_71 (by decide) ?_
          refine g_lv [2, 3, 4, 1, 0] (lv2 := [(0, .ref (b 0)), (1, .int v1), (2, .int v2), (3, .int (v3 + 0)), (4, .int (v4 + 1))]) rfl ?_
          exact ih (v3 + 0) (v4 + 1) h
        · replace h := (if_neg cd5).symm.trans h
          refine g_iload_n C 2 rfl rfl dX5_crowdAt_36 ?_
          refine g_aload_n C 0 rfl rfl dX5_crowdAt_37 ?_
          refine g_X5_time C i_X5_crowdAt_X5 m_X5_crowdAt_2 0 rfl dX5_crowdAt_38 ?_
          refine g_iload C 4 rfl dX5_crowdAt_41 ?_
          obtain ⟨cd6, h⟩ := ifN h
          refine g_iald C 1 rfl (inB_in cd6) dX5_crowdAt_43 ?_
          refine g_aload_n C 0 rfl rfl dX5_crowdAt_44 ?_
          refine g_X5_span C i_X5_crowdAt_X5 m_X5_crowdAt_3 0 rfl dX5_crowdAt_45 ?_
          refine g_iload C 4 rfl dX5_crowdAt_48 ?_
          obtain ⟨cd7, h⟩ := ifN h
          refine g_iald C 2 rfl (inB_in cd7) dX5_crowdAt_50 ?_
          refine g_iadd C dX5_crowdAt_51 ?_
          refine g_icmp_ge C (tgt := 65) dX5_crowdAt_52 (by decide) (fun cd8 => ?_) (fun cd8 => ?_)
          · replace h := (if_pos cd8).symm.trans h
            refine g_iconst C (v := 0) (by decide) dX5_crowdAt_65 ?_
            refine g_iadd C dX5_crowdAt_66 ?_
            refine g_istore_n C (lv2 := [(3, .int (v3 + 0)), (0, .ref (b 0)), (1, .int v1), (2, .int v2), (4, .int v4)]) rfl (by decide) rfl dX5_crowdAt_67 ?_
            refine g_iinc C (v := v4 + 1) 4 rfl rfl (lv2 := [(4, .int (v4 + 1)), (3, .int (v3 + 0)), (0, .ref (b 0)), (1, .int v1), (2, .int v2)]) rfl (by decide) dX5_crowdAt_68 ?_
            refine g_goto C (tgt := 5) dX5_crowdAt_71 (by decide) ?_
            refine g_lv [2, 3, 4, 1, 0] (lv2 := [(0, .ref (b 0)), (1, .int v1), (2, .int v2), (3, .int (v3 + 0)), (4, .int (v4 + 1))]) rfl ?_
            exact ih (v3 + 0) (v4 + 1) h
          · replace h := (if_neg cd8).symm.trans h
            refine g_aload_n C 0 rfl rfl dX5_crowdAt_55 ?_
            refine g_X5_weight C i_X5_crowdAt_X5 m_X5_crowdAt_4 0 rfl dX5_crowdAt_56 ?_
            refine g_iload C 4 rfl dX5_crowdAt_59 ?_
            obtain ⟨cd9, h⟩ := ifN h
            refine g_iald C 3 rfl (inB_in cd9) dX5_crowdAt_61 ?_
            refine g_goto C (tgt := 66) dX5_crowdAt_62 (by decide) ?_
            refine g_iadd C dX5_crowdAt_66 ?_
            refine g_istore_n C (lv2 := [(3, .int (v3 + (we v4.toNatClampNeg))), (0, .ref (b 0)), (1, .int v1), (2, .int v2), (4, .int v4)]) rfl (by decide) rfl dX5_crowdAt_67 ?_
            refine g_iinc C (v := v4 + 1) 4 rfl rfl (lv2 := [(4, .int (v4 + 1)), (3, .int (v3 + (we v4.toNatClampNeg))), (0, .ref (b 0)), (1, .int v1), (2, .int v2)]) rfl (by decide) dX5_crowdAt_68 ?_
            refine g_goto C (tgt := 5) dX5_crowdAt_71 (by decide) ?_
            refine g_lv [2, 3, 4, 1, 0] (lv2 := [(0, .ref (b 0)), (1, .int v1), (2, .int v2), (3, .int (v3 + (we v4.toNatClampNeg))), (4, .int (v4 + 1))]) rfl ?_
            exact ih (v3 + (we v4.toNatClampNeg)) (v4 + 1) h
set_option maxHeartbeats 4000000 in
set_option maxRecDepth 100000 in
theorem c_X5_crowdAt (E : gE) (b : Nat → Nat) (th : Int32) (ma : Int32) (st : Int32) (ti : Nat → Int32) (sp : Nat → Int32) (we : Nat → Int32) (ho : Nat → Int32) (sa : Nat → Int32) (ca : Nat → Int32) (cl : Nat → Int32) (su : Int64) (p1 : Int32) (p2 : Int32) (o : (Int32)) (h : f_X5_crowdAt ma ti sp we ho sa p1 p2 = some o) : Ct E yX5_crowdAt wsX5_crowdAt r_X5_crowdAt [.ref (b 0), .int p1, .int p2] (wM E b th ma st ti sp we ho sa ca cl su) (gO (fun u9 => some (.int u9)) (fun u9 => (wM E b th ma st ti sp we ho sa ca cl su)) (.inr o)) := by
  refine Ct.of (cc := cX5_crowdAt) (nL := 5) (ret := ((some .int))) (own := RX5) (by decide) rfl rfl (Nat.le_of_ble_eq_true rfl) rfl ?_ ?_
  · intro v w1 hh
    cases hh; rfl
  · intro X C hQ
    rw [f_X5_crowdAt] at h
    refine g_iconst C (v := 0) (by decide) dX5_crowdAt_0 ?_
    refine g_istore_n C (lv2 := [(3, .int 0), (0, .ref (b 0)), (1, .int p1), (2, .int p2)]) rfl (by decide) rfl dX5_crowdAt_1 ?_
    refine g_iconst C (v := 0) (by decide) dX5_crowdAt_2 ?_
    refine g_istore C (lv2 := [(4, .int 0), (3, .int 0), (0, .ref (b 0)), (1, .int p1), (2, .int p2)]) rfl (by decide) dX5_crowdAt_3 ?_
    refine g_lv [2, 3, 4, 1, 0] (lv2 := [(0, .ref (b 0)), (1, .int p1), (2, .int p2), (3, .int 0), (4, .int 0)]) rfl ?_
    exact w_X5_crowdAt_5 (v1 := p1) (v2 := p2) C hQ FU 0 0 h
abbrev r_X5_changeAt : Room := { frames := 2, cells := 0, slots := 0, locals := 42 }
theorem m_X5_changeAt_0 : Cond.fieldLink RX5 35 "BookinghouseModel" "made" "I" ∈ wsX5_changeAt := by decide +kernel
theorem i_X5_changeAt_X5 : ∀ w ∈ wsX50, w ∈ wsX5_changeAt := by decide +kernel
theorem m_X5_changeAt_2 : Cond.fieldLink RX5 7 "BookinghouseModel" "time" "[I" ∈ wsX5_changeAt := by decide +kernel
theorem m_X5_changeAt_3 : Cond.fieldLink RX5 16 "BookinghouseModel" "weight" "[I" ∈ wsX5_changeAt := by decide +kernel
theorem m_X5_changeAt_4 : Cond.fieldLink RX5 13 "BookinghouseModel" "span" "[I" ∈ wsX5_changeAt := by decide +kernel
set_option maxHeartbeats 4000000 in
set_option maxRecDepth 100000 in
theorem v_X5_changeAt_47 {E : gE} {X : gX} {b : Nat → Nat} {th : Int32} {ma : Int32} {st : Int32} {ti : Nat → Int32} {sp : Nat → Int32} {we : Nat → Int32} {ho : Nat → Int32} {sa : Nat → Int32} {ca : Nat → Int32} {cl : Nat → Int32} {su : Int64} {v1 : Int32} {v2 : Int32} {v4 : Int32} {s0 : Int32} {s1 : Int32} {ko5 : Int32 → Int32 → Option (Int32)} {o : (Int32)} (C : Cx E X cX5_changeAt 5 RX5 wsX5_changeAt r_X5_changeAt ((some .int)) []) (hQ : gQ E X (wM E b th ma st ti sp we ho sa ca cl su) r_X5_changeAt (gO (fun u9 => some (.int u9)) (fun u9 => (wM E b th ma st ti sp we ho sa ca cl su)) (.inr o))) (Hko5 : ∀ (qv3 : Int32) (qv4 : Int32), ko5 qv3 qv4 = some o → Gx E X (wM E b th ma st ti sp we ho sa ca cl su) 5 [(0, .ref (b 0)), (1, .int v1), (2, .int v2), (3, .int qv3), (4, .int qv4)] [] 5 0 0) (h : b_X5_changeAt_47 ti sp we ho sa ko5 v1 v2 v4 s0 s1 = some o) : Gx E X (wM E b th ma st ti sp we ho sa ca cl su) 5 [(0, .ref (b 0)), (1, .int v1), (2, .int v2), (4, .int v4)] [.int s1, .int s0] 47 0 0 := by
  rw [b_X5_changeAt_47] at h
  refine g_iadd C dX5_changeAt_47 ?_
  refine g_istore_n C (lv2 := [(3, .int (s0 + s1)), (0, .ref (b 0)), (1, .int v1), (2, .int v2), (4, .int v4)]) rfl (by decide) rfl dX5_changeAt_48 ?_
  refine g_iload_n C 0 rfl rfl dX5_changeAt_49 ?_
  refine g_aload_n C 1 rfl rfl dX5_changeAt_50 ?_
  refine g_iload_n C 2 rfl rfl dX5_changeAt_51 ?_
  refine g_iload C 4 rfl dX5_changeAt_52 ?_
  obtain ⟨g1, eg1, h⟩ := Option.bind_eq_some_iff.mp h
  refine g_cVr (As := [.int v1, .int v4]) (n9 := 2) (st := [.int (s0 + s1)]) (w2 := (wM E b th ma st ti sp we ho sa ca cl su)) C (c_X5_isOf E b th ma st ti sp we ho sa ca cl su v1 v4 g1 eg1) gX5_changeAt_X5_isOf rfl (by decide +kernel) rfl ⟨by decide, by decide, by decide, by decide, Nat.le_of_ble_eq_true rfl⟩ 0 rfl rfl (gSub.idx [0, 1, 2, 3, 4, 5, 6, 7] rfl rfl) rfl dX5_changeAt_54 ?_
  refine g_if_eq C (tgt := 89) dX5_changeAt_57 (by decide) (fun cd2 => ?_) (fun cd2 => ?_)
  · replace h := (if_pos cd2).symm.trans h
    refine g_iconst C (v := 0) (by decide) dX5_changeAt_89 ?_
    refine g_isub C dX5_changeAt_90 ?_
    refine g_istore_n C (lv2 := [(3, .int ((s0 + s1) - 0)), (0, .ref (b 0)), (1, .int v1), (2, .int v2), (4, .int v4)]) rfl (by decide) rfl dX5_changeAt_91 ?_
    refine g_iinc C (v := v4 + 1) 4 rfl rfl (lv2 := [(4, .int (v4 + 1)), (3, .int ((s0 + s1) - 0)), (0, .ref (b 0)), (1, .int v1), (2, .int v2)]) rfl (by decide) dX5_changeAt_92 ?_
    refine g_goto C (tgt := 5) dX5_changeAt_95 (by decide) ?_
    refine g_lv [2, 3, 4, 1, 0] (lv2 := [(0, .ref (b 0)), (1, .int v1), (2, .int v2), (3, .int ((s0 + s1) - 0)), (4, .int (v4 + 1))]) rfl ?_
    exact Hko5 ((s0 + s1) - 0) (v4 + 1) h
  · replace h := (if_neg cd2).symm.trans h
    refine g_aload_n C 1 rfl rfl dX5_changeAt_60 ?_
    refine g_X5_time C i_X5_changeAt_X5 m_X5_changeAt_2 0 rfl dX5_changeAt_61 ?_
    refine g_iload C 4 rfl dX5_changeAt_64 ?_
    obtain ⟨cd3, h⟩ := ifN h
    refine g_iald C 1 rfl (inB_in cd3) dX5_changeAt_66 ?_
    refine g_aload_n C 1 rfl rfl dX5_changeAt_67 ?_
    refine g_X5_span C i_X5_changeAt_X5 m_X5_changeAt_4 0 rfl dX5_changeAt_68 ?_
    refine g_iload C 4 rfl dX5_changeAt_71 ?_
    obtain ⟨cd4, h⟩ := ifN h
    refine g_iald C 2 rfl (inB_in cd4) dX5_changeAt_73 ?_
    refine g_iadd C dX5_changeAt_74 ?_
    refine g_iload_n C 3 rfl rfl dX5_changeAt_75 ?_
    refine g_icmp_ne C (tgt := 89) dX5_changeAt_76 (by decide) (fun cd5 => ?_) (fun cd5 => ?_)
    · replace h := (if_neg cd5).symm.trans h
      refine g_iconst C (v := 0) (by decide) dX5_changeAt_89 ?_
      refine g_isub C dX5_changeAt_90 ?_
      refine g_istore_n C (lv2 := [(3, .int ((s0 + s1) - 0)), (0, .ref (b 0)), (1, .int v1), (2, .int v2), (4, .int v4)]) rfl (by decide) rfl dX5_changeAt_91 ?_
      refine g_iinc C (v := v4 + 1) 4 rfl rfl (lv2 := [(4, .int (v4 + 1)), (3, .int ((s0 + s1) - 0)), (0, .ref (b 0)), (1, .int v1), (2, .int v2)]) rfl (by decide) dX5_changeAt_92 ?_
      refine g_goto C (tgt := 5) dX5_changeAt_95 (by decide) ?_
      refine g_lv [2, 3, 4, 1, 0] (lv2 := [(0, .ref (b 0)), (1, .int v1), (2, .int v2), (3, .int ((s0 + s1) - 0)), (4, .int (v4 + 1))]) rfl ?_
      exact Hko5 ((s0 + s1) - 0) (v4 + 1) h
    · replace h := (if_pos cd5).symm.trans h
      refine g_aload_n C 1 rfl rfl dX5_changeAt_79 ?_
      refine g_X5_weight C i_X5_changeAt_X5 m_X5_changeAt_3 0 rfl dX5_changeAt_80 ?_
      refine g_iload C 4 rfl dX5_changeAt_83 ?_
      obtain ⟨cd6, h⟩ := ifN h
      refine g_iald C 3 rfl (inB_in cd6) dX5_changeAt_85 ?_
      refine g_goto C (tgt := 90) dX5_changeAt_86 (by decide) ?_
      refine g_isub C dX5_changeAt_90 ?_
      refine g_istore_n C (lv2 := [(3, .int ((s0 + s1) - (we v4.toNatClampNeg))), (0, .ref (b 0)), (1, .int v1), (2, .int v2), (4, .int v4)]) rfl (by decide) rfl dX5_changeAt_91 ?_
      refine g_iinc C (v := v4 + 1) 4 rfl rfl (lv2 := [(4, .int (v4 + 1)), (3, .int ((s0 + s1) - (we v4.toNatClampNeg))), (0, .ref (b 0)), (1, .int v1), (2, .int v2)]) rfl (by decide) dX5_changeAt_92 ?_
      refine g_goto C (tgt := 5) dX5_changeAt_95 (by decide) ?_
      refine g_lv [2, 3, 4, 1, 0] (lv2 := [(0, .ref (b 0)), (1, .int v1), (2, .int v2), (3, .int ((s0 + s1) - (we v4.toNatClampNeg))), (4, .int (v4 + 1))]) rfl ?_
      exact Hko5 ((s0 + s1) - (we v4.toNatClampNeg)) (v4 + 1) h
set_option maxHeartbeats 4000000 in
set_option maxRecDepth 100000 in
theorem w_X5_changeAt_5 {E : gE} {X : gX} {b : Nat → Nat} {th : Int32} {ma : Int32} {st : Int32} {ti : Nat → Int32} {sp : Nat → Int32} {we : Nat → Int32} {ho : Nat → Int32} {sa : Nat → Int32} {ca : Nat → Int32} {cl : Nat → Int32} {su : Int64} {v1 : Int32} {v2 : Int32} {o : (Int32)} (C : Cx E X cX5_changeAt 5 RX5 wsX5_changeAt r_X5_changeAt ((some .int)) []) (hQ : gQ E X (wM E b th ma st ti sp we ho sa ca cl su) r_X5_changeAt (gO (fun u9 => some (.int u9)) (fun u9 => (wM E b th ma st ti sp we ho sa ca cl su)) (.inr o))) : ∀ (F : Nat) (v3 : Int32) (v4 : Int32), l_X5_changeAt_5 ma ti sp we ho sa v1 v2 F v3 v4 = some o → Gx E X (wM E b th ma st ti sp we ho sa ca cl su) 5 [(0, .ref (b 0)), (1, .int v1), (2, .int v2), (3, .int v3), (4, .int v4)] [] 5 0 0 := by
  intro F
  induction F with
  | zero => intro v3 v4 h; exact absurd h (by simp [l_X5_changeAt_5])
  | succ F ih =>
    intro v3 v4 h
    rw [l_X5_changeAt_5] at h
    refine g_iload C 4 rfl dX5_changeAt_5 ?_
    refine g_aload_n C 0 rfl rfl dX5_changeAt_7 ?_
    refine g_X5_made C i_X5_changeAt_X5 m_X5_changeAt_0 0 rfl dX5_changeAt_8 ?_
    refine g_icmp_ge C (tgt := 98) dX5_changeAt_11 (by decide) (fun cd1 => ?_) (fun cd1 => ?_)
    · replace h := (if_pos cd1).symm.trans h
      refine g_iload_n C 3 rfl rfl dX5_changeAt_98 ?_
      obtain rfl := Option.some.inj h
      exact g_iret C hQ rfl ⟨by decide, by decide⟩ dX5_changeAt_99
    · replace h := (if_neg cd1).symm.trans h
      refine g_iload_n C 3 rfl rfl dX5_changeAt_14 ?_
      refine g_aload_n C 0 rfl rfl dX5_changeAt_15 ?_
      refine g_iload_n C 1 rfl rfl dX5_changeAt_16 ?_
      refine g_iload C 4 rfl dX5_changeAt_17 ?_
      obtain ⟨g2, eg2, h⟩ := Option.bind_eq_some_iff.mp h
      refine g_cVr (As := [.int v1, .int v4]) (n9 := 2) (st := [.int v3]) (w2 := (wM E b th ma st ti sp we ho sa ca cl su)) C (c_X5_isOf E b th ma st ti sp we ho sa ca cl su v1 v4 g2 eg2) gX5_changeAt_X5_isOf rfl (by decide +kernel) rfl ⟨by decide, by decide, by decide, by decide, Nat.le_of_ble_eq_true rfl⟩ 0 rfl rfl (gSub.idx [0, 1, 2, 3, 4, 5, 6, 7] rfl rfl) rfl dX5_changeAt_19 ?_
      refine g_if_eq C (tgt := 46) dX5_changeAt_22 (by decide) (fun cd3 => ?_) (fun cd3 => ?_)
      · replace h := (if_pos cd3).symm.trans h
        refine g_iconst C (v := 0) (by decide) dX5_changeAt_46 ?_
        refine g_lv [0, 1, 2, 4] (lv2 := [(0, .ref (b 0)), (1, .int v1), (2, .int v2), (4, .int v4)]) rfl ?_
        exact v_X5_changeAt_47 (v1 := v1) (v2 := v2) (v4 := v4) (s0 := v3) (s1 := 0) C hQ (fun qv3 qv4 hh => ih qv3 qv4 hh) h
      · replace h := (if_neg cd3).symm.trans h
        refine g_aload_n C 0 rfl rfl dX5_changeAt_25 ?_
        refine g_X5_time C i_X5_changeAt_X5 m_X5_changeAt_2 0 rfl dX5_changeAt_26 ?_
        refine g_iload C 4 rfl dX5_changeAt_29 ?_
        obtain ⟨cd4, h⟩ := ifN h
        refine g_iald C 1 rfl (inB_in cd4) dX5_changeAt_31 ?_
        refine g_iload_n C 2 rfl rfl dX5_changeAt_32 ?_
        refine g_icmp_ne C (tgt := 46) dX5_changeAt_33 (by decide) (fun cd5 => ?_) (fun cd5 => ?_)
        · replace h := (if_neg cd5).symm.trans h
          refine g_iconst C (v := 0) (by decide) dX5_changeAt_46 ?_
          refine g_lv [0, 1, 2, 4] (lv2 := [(0, .ref (b 0)), (1, .int v1), (2, .int v2), (4, .int v4)]) rfl ?_
          exact v_X5_changeAt_47 (v1 := v1) (v2 := v2) (v4 := v4) (s0 := v3) (s1 := 0) C hQ (fun qv3 qv4 hh => ih qv3 qv4 hh) h
        · replace h := (if_pos cd5).symm.trans h
          refine g_aload_n C 0 rfl rfl dX5_changeAt_36 ?_
          refine g_X5_weight C i_X5_changeAt_X5 m_X5_changeAt_3 0 rfl dX5_changeAt_37 ?_
          refine g_iload C 4 rfl dX5_changeAt_40 ?_
          obtain ⟨cd6, h⟩ := ifN h
          refine g_iald C 3 rfl (inB_in cd6) dX5_changeAt_42 ?_
          refine g_goto C (tgt := 47) dX5_changeAt_43 (by decide) ?_
          refine g_lv [0, 1, 2, 4] (lv2 := [(0, .ref (b 0)), (1, .int v1), (2, .int v2), (4, .int v4)]) rfl ?_
          exact v_X5_changeAt_47 (v1 := v1) (v2 := v2) (v4 := v4) (s0 := v3) (s1 := (we v4.toNatClampNeg)) C hQ (fun qv3 qv4 hh => ih qv3 qv4 hh) h
set_option maxHeartbeats 4000000 in
set_option maxRecDepth 100000 in
theorem c_X5_changeAt (E : gE) (b : Nat → Nat) (th : Int32) (ma : Int32) (st : Int32) (ti : Nat → Int32) (sp : Nat → Int32) (we : Nat → Int32) (ho : Nat → Int32) (sa : Nat → Int32) (ca : Nat → Int32) (cl : Nat → Int32) (su : Int64) (p1 : Int32) (p2 : Int32) (o : (Int32)) (h : f_X5_changeAt ma ti sp we ho sa p1 p2 = some o) : Ct E yX5_changeAt wsX5_changeAt r_X5_changeAt [.ref (b 0), .int p1, .int p2] (wM E b th ma st ti sp we ho sa ca cl su) (gO (fun u9 => some (.int u9)) (fun u9 => (wM E b th ma st ti sp we ho sa ca cl su)) (.inr o)) := by
  refine Ct.of (cc := cX5_changeAt) (nL := 5) (ret := ((some .int))) (own := RX5) (by decide) rfl rfl (Nat.le_of_ble_eq_true rfl) rfl ?_ ?_
  · intro v w1 hh
    cases hh; rfl
  · intro X C hQ
    rw [f_X5_changeAt] at h
    refine g_iconst C (v := 0) (by decide) dX5_changeAt_0 ?_
    refine g_istore_n C (lv2 := [(3, .int 0), (0, .ref (b 0)), (1, .int p1), (2, .int p2)]) rfl (by decide) rfl dX5_changeAt_1 ?_
    refine g_iconst C (v := 0) (by decide) dX5_changeAt_2 ?_
    refine g_istore C (lv2 := [(4, .int 0), (3, .int 0), (0, .ref (b 0)), (1, .int p1), (2, .int p2)]) rfl (by decide) dX5_changeAt_3 ?_
    refine g_lv [2, 3, 4, 1, 0] (lv2 := [(0, .ref (b 0)), (1, .int p1), (2, .int p2), (3, .int 0), (4, .int 0)]) rfl ?_
    exact w_X5_changeAt_5 (v1 := p1) (v2 := p2) C hQ FU 0 0 h
abbrev r_X5_busyFrom : Room := { frames := 3, cells := 0, slots := 0, locals := 66 }
theorem m_X5_busyFrom_0 : Cond.constant RX5 72 100000 ∈ wsX5_busyFrom := by decide +kernel
theorem m_X5_busyFrom_1 : Cond.fieldLink RX5 35 "BookinghouseModel" "made" "I" ∈ wsX5_busyFrom := by decide +kernel
theorem i_X5_busyFrom_X5 : ∀ w ∈ wsX50, w ∈ wsX5_busyFrom := by decide +kernel
theorem m_X5_busyFrom_3 : Cond.fieldLink RX5 7 "BookinghouseModel" "time" "[I" ∈ wsX5_busyFrom := by decide +kernel
set_option maxHeartbeats 4000000 in
set_option maxRecDepth 100000 in
theorem w_X5_busyFrom_19 {E : gE} {X : gX} {b : Nat → Nat} {th : Int32} {ma : Int32} {st : Int32} {ti : Nat → Int32} {sp : Nat → Int32} {we : Nat → Int32} {ho : Nat → Int32} {sa : Nat → Int32} {ca : Nat → Int32} {cl : Nat → Int32} {su : Int64} {v1 : Int32} {v2 : Int32} {o : (Int32)} (C : Cx E X cX5_busyFrom 5 RX5 wsX5_busyFrom r_X5_busyFrom ((some .int)) []) (hQ : gQ E X (wM E b th ma st ti sp we ho sa ca cl su) r_X5_busyFrom (gO (fun u9 => some (.int u9)) (fun u9 => (wM E b th ma st ti sp we ho sa ca cl su)) (.inr o))) : ∀ (F : Nat) (v3 : Int32) (v4 : Int32), l_X5_busyFrom_19 ma ti sp ho sa v1 v2 F v3 v4 = some o → Gx E X (wM E b th ma st ti sp we ho sa ca cl su) 5 [(0, .ref (b 0)), (1, .int v1), (2, .int v2), (3, .int v3), (4, .int v4)] [] 19 0 0 := by
  intro F
  induction F with
  | zero => intro v3 v4 h; exact absurd h (by simp [l_X5_busyFrom_19])
  | succ F ih =>
    intro v3 v4 h
    rw [l_X5_busyFrom_19] at h
    refine g_iload C 4 rfl dX5_busyFrom_19 ?_
    refine g_aload_n C 0 rfl rfl dX5_busyFrom_21 ?_
    refine g_X5_made C i_X5_busyFrom_X5 m_X5_busyFrom_1 0 rfl dX5_busyFrom_22 ?_
    refine g_icmp_ge C (tgt := 78) dX5_busyFrom_25 (by decide) (fun cd1 => ?_) (fun cd1 => ?_)
    · replace h := (if_pos cd1).symm.trans h
      refine g_iload_n C 3 rfl rfl dX5_busyFrom_78 ?_
      obtain rfl := Option.some.inj h
      exact g_iret C hQ rfl ⟨by decide, by decide⟩ dX5_busyFrom_79
    · replace h := (if_neg cd1).symm.trans h
      refine g_aload_n C 0 rfl rfl dX5_busyFrom_28 ?_
      refine g_iload_n C 1 rfl rfl dX5_busyFrom_29 ?_
      refine g_iload C 4 rfl dX5_busyFrom_30 ?_
      obtain ⟨g2, eg2, h⟩ := Option.bind_eq_some_iff.mp h
      refine g_cVr (As := [.int v1, .int v4]) (n9 := 2) (st := []) (w2 := (wM E b th ma st ti sp we ho sa ca cl su)) C (c_X5_isOf E b th ma st ti sp we ho sa ca cl su v1 v4 g2 eg2) gX5_busyFrom_X5_isOf rfl (by decide +kernel) rfl ⟨by decide, by decide, by decide, by decide, Nat.le_of_ble_eq_true rfl⟩ 0 rfl rfl (gSub.idx [0, 1, 2, 3, 4, 5, 6, 7] rfl rfl) rfl dX5_busyFrom_32 ?_
      refine g_if_eq C (tgt := 70) dX5_busyFrom_35 (by decide) (fun cd3 => ?_) (fun cd3 => ?_)
      · replace h := (if_pos cd3).symm.trans h
        refine g_iload_n C 3 rfl rfl dX5_busyFrom_70 ?_
        refine g_istore_n C (lv2 := [(3, .int v3), (0, .ref (b 0)), (1, .int v1), (2, .int v2), (4, .int v4)]) rfl (by decide) rfl dX5_busyFrom_71 ?_
        refine g_iinc C (v := v4 + 1) 4 rfl rfl (lv2 := [(4, .int (v4 + 1)), (3, .int v3), (0, .ref (b 0)), (1, .int v1), (2, .int v2)]) rfl (by decide) dX5_busyFrom_72 ?_
        refine g_goto C (tgt := 19) dX5_busyFrom_75 (by decide) ?_
        refine g_lv [2, 3, 4, 1, 0] (lv2 := [(0, .ref (b 0)), (1, .int v1), (2, .int v2), (3, .int v3), (4, .int (v4 + 1))]) rfl ?_
        exact ih v3 (v4 + 1) h
      · replace h := (if_neg cd3).symm.trans h
        refine g_aload_n C 0 rfl rfl dX5_busyFrom_38 ?_
        refine g_X5_time C i_X5_busyFrom_X5 m_X5_busyFrom_3 0 rfl dX5_busyFrom_39 ?_
        refine g_iload C 4 rfl dX5_busyFrom_42 ?_
        obtain ⟨cd4, h⟩ := ifN h
        refine g_iald C 1 rfl (inB_in cd4) dX5_busyFrom_44 ?_
        refine g_iload_n C 2 rfl rfl dX5_busyFrom_45 ?_
        refine g_icmp_lt C (tgt := 70) dX5_busyFrom_46 (by decide) (fun cd5 => ?_) (fun cd5 => ?_)
        · replace h := (if_pos cd5).symm.trans h
          refine g_iload_n C 3 rfl rfl dX5_busyFrom_70 ?_
          refine g_istore_n C (lv2 := [(3, .int v3), (0, .ref (b 0)), (1, .int v1), (2, .int v2), (4, .int v4)]) rfl (by decide) rfl dX5_busyFrom_71 ?_
          refine g_iinc C (v := v4 + 1) 4 rfl rfl (lv2 := [(4, .int (v4 + 1)), (3, .int v3), (0, .ref (b 0)), (1, .int v1), (2, .int v2)]) rfl (by decide) dX5_busyFrom_72 ?_
          refine g_goto C (tgt := 19) dX5_busyFrom_75 (by decide) ?_
          refine g_lv [2, 3, 4, 1, 0] (lv2 := [(0, .ref (b 0)), (1, .int v1), (2, .int v2), (3, .int v3), (4, .int (v4 + 1))]) rfl ?_
          exact ih v3 (v4 + 1) h
        · replace h := (if_neg cd5).symm.trans h
          refine g_aload_n C 0 rfl rfl dX5_busyFrom_49 ?_
          refine g_X5_time C i_X5_busyFrom_X5 m_X5_busyFrom_3 0 rfl dX5_busyFrom_50 ?_
          refine g_iload C 4 rfl dX5_busyFrom_53 ?_
          obtain ⟨cd6, h⟩ := ifN h
          refine g_iald C 1 rfl (inB_in cd6) dX5_busyFrom_55 ?_
          refine g_iload_n C 3 rfl rfl dX5_busyFrom_56 ?_
          refine g_icmp_ge C (tgt := 70) dX5_busyFrom_57 (by decide) (fun cd7 => ?_) (fun cd7 => ?_)
          · replace h := (if_pos cd7).symm.trans h
            refine g_iload_n C 3 rfl rfl dX5_busyFrom_70 ?_
            refine g_istore_n C (lv2 := [(3, .int v3), (0, .ref (b 0)), (1, .int v1), (2, .int v2), (4, .int v4)]) rfl (by decide) rfl dX5_busyFrom_71 ?_
            refine g_iinc C (v := v4 + 1) 4 rfl rfl (lv2 := [(4, .int (v4 + 1)), (3, .int v3), (0, .ref (b 0)), (1, .int v1), (2, .int v2)]) rfl (by decide) dX5_busyFrom_72 ?_
            refine g_goto C (tgt := 19) dX5_busyFrom_75 (by decide) ?_
            refine g_lv [2, 3, 4, 1, 0] (lv2 := [(0, .ref (b 0)), (1, .int v1), (2, .int v2), (3, .int v3), (4, .int (v4 + 1))]) rfl ?_
            exact ih v3 (v4 + 1) h
          · replace h := (if_neg cd7).symm.trans h
            refine g_aload_n C 0 rfl rfl dX5_busyFrom_60 ?_
            refine g_X5_time C i_X5_busyFrom_X5 m_X5_busyFrom_3 0 rfl dX5_busyFrom_61 ?_
            refine g_iload C 4 rfl dX5_busyFrom_64 ?_
            obtain ⟨cd8, h⟩ := ifN h
            refine g_iald C 1 rfl (inB_in cd8) dX5_busyFrom_66 ?_
            refine g_goto C (tgt := 71) dX5_busyFrom_67 (by decide) ?_
            refine g_istore_n C (lv2 := [(3, .int (ti v4.toNatClampNeg)), (0, .ref (b 0)), (1, .int v1), (2, .int v2), (4, .int v4)]) rfl (by decide) rfl dX5_busyFrom_71 ?_
            refine g_iinc C (v := v4 + 1) 4 rfl rfl (lv2 := [(4, .int (v4 + 1)), (3, .int (ti v4.toNatClampNeg)), (0, .ref (b 0)), (1, .int v1), (2, .int v2)]) rfl (by decide) dX5_busyFrom_72 ?_
            refine g_goto C (tgt := 19) dX5_busyFrom_75 (by decide) ?_
            refine g_lv [2, 3, 4, 1, 0] (lv2 := [(0, .ref (b 0)), (1, .int v1), (2, .int v2), (3, .int (ti v4.toNatClampNeg)), (4, .int (v4 + 1))]) rfl ?_
            exact ih (ti v4.toNatClampNeg) (v4 + 1) h
set_option maxHeartbeats 4000000 in
set_option maxRecDepth 100000 in
theorem c_X5_busyFrom (E : gE) (b : Nat → Nat) (th : Int32) (ma : Int32) (st : Int32) (ti : Nat → Int32) (sp : Nat → Int32) (we : Nat → Int32) (ho : Nat → Int32) (sa : Nat → Int32) (ca : Nat → Int32) (cl : Nat → Int32) (su : Int64) (p1 : Int32) (p2 : Int32) (o : (Int32)) (h : f_X5_busyFrom ma ti sp we ho sa p1 p2 = some o) : Ct E yX5_busyFrom wsX5_busyFrom r_X5_busyFrom [.ref (b 0), .int p1, .int p2] (wM E b th ma st ti sp we ho sa ca cl su) (gO (fun u9 => some (.int u9)) (fun u9 => (wM E b th ma st ti sp we ho sa ca cl su)) (.inr o)) := by
  refine Ct.of (cc := cX5_busyFrom) (nL := 5) (ret := ((some .int))) (own := RX5) (by decide) rfl rfl (Nat.le_of_ble_eq_true rfl) rfl ?_ ?_
  · intro v w1 hh
    cases hh; rfl
  · intro X C hQ
    rw [f_X5_busyFrom] at h
    refine g_aload_n C 0 rfl rfl dX5_busyFrom_0 ?_
    refine g_iload_n C 1 rfl rfl dX5_busyFrom_1 ?_
    refine g_iload_n C 2 rfl rfl dX5_busyFrom_2 ?_
    obtain ⟨g1, eg1, h⟩ := Option.bind_eq_some_iff.mp h
    refine g_cVr (As := [.int p1, .int p2]) (n9 := 2) (st := []) (w2 := (wM E b th ma st ti sp we ho sa ca cl su)) C (c_X5_crowdAt E b th ma st ti sp we ho sa ca cl su p1 p2 g1 eg1) gX5_busyFrom_X5_crowdAt rfl (by decide +kernel) rfl ⟨by decide, by decide, by decide, by decide, Nat.le_of_ble_eq_true rfl⟩ 0 rfl rfl (gSub.idx [0, 1, 2, 3, 4, 5, 6, 7] rfl rfl) rfl dX5_busyFrom_3 ?_
    refine g_if_le C (tgt := 13) dX5_busyFrom_6 (by decide) (fun cd2 => ?_) (fun cd2 => ?_)
    · replace h := (if_pos cd2).symm.trans h
      refine g_ldc C (v := 100000) m_X5_busyFrom_0 dX5_busyFrom_13 ?_
      refine g_istore_n C (lv2 := [(3, .int 100000), (0, .ref (b 0)), (1, .int p1), (2, .int p2)]) rfl (by decide) rfl dX5_busyFrom_15 ?_
      refine g_iconst C (v := 0) (by decide) dX5_busyFrom_16 ?_
      refine g_istore C (lv2 := [(4, .int 0), (3, .int 100000), (0, .ref (b 0)), (1, .int p1), (2, .int p2)]) rfl (by decide) dX5_busyFrom_17 ?_
      refine g_lv [2, 3, 4, 1, 0] (lv2 := [(0, .ref (b 0)), (1, .int p1), (2, .int p2), (3, .int 100000), (4, .int 0)]) rfl ?_
      exact w_X5_busyFrom_19 (v1 := p1) (v2 := p2) C hQ FU 100000 0 h
    · replace h := (if_neg cd2).symm.trans h
      refine g_iload_n C 2 rfl rfl dX5_busyFrom_9 ?_
      refine g_goto C (tgt := 15) dX5_busyFrom_10 (by decide) ?_
      refine g_istore_n C (lv2 := [(3, .int p2), (0, .ref (b 0)), (1, .int p1), (2, .int p2)]) rfl (by decide) rfl dX5_busyFrom_15 ?_
      refine g_iconst C (v := 0) (by decide) dX5_busyFrom_16 ?_
      refine g_istore C (lv2 := [(4, .int 0), (3, .int p2), (0, .ref (b 0)), (1, .int p1), (2, .int p2)]) rfl (by decide) dX5_busyFrom_17 ?_
      refine g_lv [2, 3, 4, 1, 0] (lv2 := [(0, .ref (b 0)), (1, .int p1), (2, .int p2), (3, .int p2), (4, .int 0)]) rfl ?_
      exact w_X5_busyFrom_19 (v1 := p1) (v2 := p2) C hQ FU p2 0 h
abbrev r_X5_idleFrom : Room := { frames := 3, cells := 0, slots := 0, locals := 66 }
theorem m_X5_idleFrom_0 : Cond.fieldLink RX5 35 "BookinghouseModel" "made" "I" ∈ wsX5_idleFrom := by decide +kernel
theorem i_X5_idleFrom_X5 : ∀ w ∈ wsX50, w ∈ wsX5_idleFrom := by decide +kernel
theorem m_X5_idleFrom_2 : Cond.fieldLink RX5 7 "BookinghouseModel" "time" "[I" ∈ wsX5_idleFrom := by decide +kernel
theorem m_X5_idleFrom_3 : Cond.fieldLink RX5 13 "BookinghouseModel" "span" "[I" ∈ wsX5_idleFrom := by decide +kernel
set_option maxHeartbeats 4000000 in
set_option maxRecDepth 100000 in
theorem w_X5_idleFrom_17 {E : gE} {X : gX} {b : Nat → Nat} {th : Int32} {ma : Int32} {st : Int32} {ti : Nat → Int32} {sp : Nat → Int32} {we : Nat → Int32} {ho : Nat → Int32} {sa : Nat → Int32} {ca : Nat → Int32} {cl : Nat → Int32} {su : Int64} {v1 : Int32} {v3 : Int32} {ko2 : Int32 → Option (Int32)} {o : (Int32)} (C : Cx E X cX5_idleFrom 6 RX5 wsX5_idleFrom r_X5_idleFrom ((some .int)) []) (hQ : gQ E X (wM E b th ma st ti sp we ho sa ca cl su) r_X5_idleFrom (gO (fun u9 => some (.int u9)) (fun u9 => (wM E b th ma st ti sp we ho sa ca cl su)) (.inr o))) (Hko2 : ∀ (qv3 : Int32), ko2 qv3 = some o → Gx E X (wM E b th ma st ti sp we ho sa ca cl su) 6 [(0, .ref (b 0)), (1, .int v1), (3, .int qv3)] [] 2 0 0) : ∀ (F : Nat) (v4 : Int32) (v5 : Int32), l_X5_idleFrom_17 ma ti sp ho sa v1 v3 ko2 F v4 v5 = some o → Gx E X (wM E b th ma st ti sp we ho sa ca cl su) 6 [(0, .ref (b 0)), (1, .int v1), (3, .int v3), (4, .int v4), (5, .int v5)] [] 17 0 0 := by
  intro F
  induction F with
  | zero => intro v4 v5 h; exact absurd h (by simp [l_X5_idleFrom_17])
  | succ F ih =>
    intro v4 v5 h
    rw [l_X5_idleFrom_17] at h
    refine g_iload C 4 rfl dX5_idleFrom_17 ?_
    refine g_aload_n C 0 rfl rfl dX5_idleFrom_19 ?_
    refine g_X5_made C i_X5_idleFrom_X5 m_X5_idleFrom_0 0 rfl dX5_idleFrom_20 ?_
    refine g_icmp_ge C (tgt := 95) dX5_idleFrom_23 (by decide) (fun cd1 => ?_) (fun cd1 => ?_)
    · replace h := (if_pos cd1).symm.trans h
      refine g_iload C 3 rfl dX5_idleFrom_95 ?_
      refine g_istore_n C (lv2 := [(3, .int v4), (0, .ref (b 0)), (1, .int v1), (4, .int v4), (5, .int v5)]) rfl (by decide) rfl dX5_idleFrom_97 ?_
      refine g_goto C (tgt := 2) dX5_idleFrom_98 (by decide) ?_
      refine g_lv [1, 2, 0] (lv2 := [(0, .ref (b 0)), (1, .int v1), (3, .int v4)]) rfl ?_
      exact Hko2 v4 h
    · replace h := (if_neg cd1).symm.trans h
      refine g_aload_n C 0 rfl rfl dX5_idleFrom_26 ?_
      refine g_iload_n C 1 rfl rfl dX5_idleFrom_27 ?_
      refine g_iload C 4 rfl dX5_idleFrom_28 ?_
      obtain ⟨g2, eg2, h⟩ := Option.bind_eq_some_iff.mp h
      refine g_cVr (As := [.int v1, .int v5]) (n9 := 2) (st := []) (w2 := (wM E b th ma st ti sp we ho sa ca cl su)) C (c_X5_isOf E b th ma st ti sp we ho sa ca cl su v1 v5 g2 eg2) gX5_idleFrom_X5_isOf rfl (by decide +kernel) rfl ⟨by decide, by decide, by decide, by decide, Nat.le_of_ble_eq_true rfl⟩ 0 rfl rfl (gSub.idx [0, 1, 2, 3, 4, 5, 6, 7] rfl rfl) rfl dX5_idleFrom_30 ?_
      refine g_if_eq C (tgt := 85) dX5_idleFrom_33 (by decide) (fun cd3 => ?_) (fun cd3 => ?_)
      · replace h := (if_pos cd3).symm.trans h
        refine g_iload C 3 rfl dX5_idleFrom_85 ?_
        refine g_istore C (lv2 := [(4, .int v4), (0, .ref (b 0)), (1, .int v1), (3, .int v3), (5, .int v5)]) rfl (by decide) dX5_idleFrom_87 ?_
        refine g_iinc C (v := v5 + 1) 4 rfl rfl (lv2 := [(5, .int (v5 + 1)), (4, .int v4), (0, .ref (b 0)), (1, .int v1), (3, .int v3)]) rfl (by decide) dX5_idleFrom_89 ?_
        refine g_goto C (tgt := 17) dX5_idleFrom_92 (by decide) ?_
        refine g_lv [2, 3, 4, 1, 0] (lv2 := [(0, .ref (b 0)), (1, .int v1), (3, .int v3), (4, .int v4), (5, .int (v5 + 1))]) rfl ?_
        exact ih v4 (v5 + 1) h
      · replace h := (if_neg cd3).symm.trans h
        refine g_aload_n C 0 rfl rfl dX5_idleFrom_36 ?_
        refine g_X5_time C i_X5_idleFrom_X5 m_X5_idleFrom_2 0 rfl dX5_idleFrom_37 ?_
        refine g_iload C 4 rfl dX5_idleFrom_40 ?_
        obtain ⟨cd4, h⟩ := ifN h
        refine g_iald C 1 rfl (inB_in cd4) dX5_idleFrom_42 ?_
        refine g_iload_n C 2 rfl rfl dX5_idleFrom_43 ?_
        refine g_icmp_gt C (tgt := 85) dX5_idleFrom_44 (by decide) (fun cd5 => ?_) (fun cd5 => ?_)
        · replace h := (if_pos cd5).symm.trans h
          refine g_iload C 3 rfl dX5_idleFrom_85 ?_
          refine g_istore C (lv2 := [(4, .int v4), (0, .ref (b 0)), (1, .int v1), (3, .int v3), (5, .int v5)]) rfl (by decide) dX5_idleFrom_87 ?_
          refine g_iinc C (v := v5 + 1) 4 rfl rfl (lv2 := [(5, .int (v5 + 1)), (4, .int v4), (0, .ref (b 0)), (1, .int v1), (3, .int v3)]) rfl (by decide) dX5_idleFrom_89 ?_
          refine g_goto C (tgt := 17) dX5_idleFrom_92 (by decide) ?_
          refine g_lv [2, 3, 4, 1, 0] (lv2 := [(0, .ref (b 0)), (1, .int v1), (3, .int v3), (4, .int v4), (5, .int (v5 + 1))]) rfl ?_
          exact ih v4 (v5 + 1) h
        · replace h := (if_neg cd5).symm.trans h
          refine g_aload_n C 0 rfl rfl dX5_idleFrom_47 ?_
          refine g_X5_time C i_X5_idleFrom_X5 m_X5_idleFrom_2 0 rfl dX5_idleFrom_48 ?_
          refine g_iload C 4 rfl dX5_idleFrom_51 ?_
          obtain ⟨cd6, h⟩ := ifN h
          refine g_iald C 1 rfl (inB_in cd6) dX5_idleFrom_53 ?_
          refine g_aload_n C 0 rfl rfl dX5_idleFrom_54 ?_
          refine g_X5_span C i_X5_idleFrom_X5 m_X5_idleFrom_3 0 rfl dX5_idleFrom_55 ?_
          refine g_iload C 4 rfl dX5_idleFrom_58 ?_
          obtain ⟨cd7, h⟩ := ifN h
          refine g_iald C 2 rfl (inB_in cd7) dX5_idleFrom_60 ?_
          refine g_iadd C dX5_idleFrom_61 ?_
          refine g_iload C 3 rfl dX5_idleFrom_62 ?_
          refine g_icmp_le C (tgt := 85) dX5_idleFrom_64 (by decide) (fun cd8 => ?_) (fun cd8 => ?_)
          · replace h := (if_pos cd8).symm.trans h
            refine g_iload C 3 rfl dX5_idleFrom_85 ?_
            refine g_istore C (lv2 := [(4, .int v4), (0, .ref (b 0)), (1, .int v1), (3, .int v3), (5, .int v5)]) rfl (by decide) dX5_idleFrom_87 ?_
            refine g_iinc C (v := v5 + 1) 4 rfl rfl (lv2 := [(5, .int (v5 + 1)), (4, .int v4), (0, .ref (b 0)), (1, .int v1), (3, .int v3)]) rfl (by decide) dX5_idleFrom_89 ?_
            refine g_goto C (tgt := 17) dX5_idleFrom_92 (by decide) ?_
            refine g_lv [2, 3, 4, 1, 0] (lv2 := [(0, .ref (b 0)), (1, .int v1), (3, .int v3), (4, .int v4), (5, .int (v5 + 1))]) rfl ?_
            exact ih v4 (v5 + 1) h
          · replace h := (if_neg cd8).symm.trans h
            refine g_aload_n C 0 rfl rfl dX5_idleFrom_67 ?_
            refine g_X5_time C i_X5_idleFrom_X5 m_X5_idleFrom_2 0 rfl dX5_idleFrom_68 ?_
            refine g_iload C 4 rfl dX5_idleFrom_71 ?_
            obtain ⟨cd9, h⟩ := ifN h
            refine g_iald C 1 rfl (inB_in cd9) dX5_idleFrom_73 ?_
            refine g_aload_n C 0 rfl rfl dX5_idleFrom_74 ?_
            refine g_X5_span C i_X5_idleFrom_X5 m_X5_idleFrom_3 0 rfl dX5_idleFrom_75 ?_
            refine g_iload C 4 rfl dX5_idleFrom_78 ?_
            obtain ⟨cd10, h⟩ := ifN h
            refine g_iald C 2 rfl (inB_in cd10) dX5_idleFrom_80 ?_
            refine g_iadd C dX5_idleFrom_81 ?_
            refine g_goto C (tgt := 87) dX5_idleFrom_82 (by decide) ?_
            refine g_istore C (lv2 := [(4, .int ((ti v5.toNatClampNeg) + (sp v5.toNatClampNeg))), (0, .ref (b 0)), (1, .int v1), (3, .int v3), (5, .int v5)]) rfl (by decide) dX5_idleFrom_87 ?_
            refine g_iinc C (v := v5 + 1) 4 rfl rfl (lv2 := [(5, .int (v5 + 1)), (4, .int ((ti v5.toNatClampNeg) + (sp v5.toNatClampNeg))), (0, .ref (b 0)), (1, .int v1), (3, .int v3)]) rfl (by decide) dX5_idleFrom_89 ?_
            refine g_goto C (tgt := 17) dX5_idleFrom_92 (by decide) ?_
            refine g_lv [2, 3, 4, 1, 0] (lv2 := [(0, .ref (b 0)), (1, .int v1), (3, .int v3), (4, .int ((ti v5.toNatClampNeg) + (sp v5.toNatClampNeg))), (5, .int (v5 + 1))]) rfl ?_
            exact ih ((ti v5.toNatClampNeg) + (sp v5.toNatClampNeg)) (v5 + 1) h
set_option maxHeartbeats 4000000 in
set_option maxRecDepth 100000 in
theorem w_X5_idleFrom_2 {E : gE} {X : gX} {b : Nat → Nat} {th : Int32} {ma : Int32} {st : Int32} {ti : Nat → Int32} {sp : Nat → Int32} {we : Nat → Int32} {ho : Nat → Int32} {sa : Nat → Int32} {ca : Nat → Int32} {cl : Nat → Int32} {su : Int64} {v1 : Int32} {o : (Int32)} (C : Cx E X cX5_idleFrom 6 RX5 wsX5_idleFrom r_X5_idleFrom ((some .int)) []) (hQ : gQ E X (wM E b th ma st ti sp we ho sa ca cl su) r_X5_idleFrom (gO (fun u9 => some (.int u9)) (fun u9 => (wM E b th ma st ti sp we ho sa ca cl su)) (.inr o))) : ∀ (F : Nat) (v3 : Int32), l_X5_idleFrom_2 ma ti sp we ho sa v1 F v3 = some o → Gx E X (wM E b th ma st ti sp we ho sa ca cl su) 6 [(0, .ref (b 0)), (1, .int v1), (3, .int v3)] [] 2 0 0 := by
  intro F
  induction F with
  | zero => intro v3 h; exact absurd h (by simp [l_X5_idleFrom_2])
  | succ F ih =>
    intro v3 h
    rw [l_X5_idleFrom_2] at h
    refine g_aload_n C 0 rfl rfl dX5_idleFrom_2 ?_
    refine g_iload_n C 1 rfl rfl dX5_idleFrom_3 ?_
    refine g_iload_n C 2 rfl rfl dX5_idleFrom_4 ?_
    obtain ⟨g1, eg1, h⟩ := Option.bind_eq_some_iff.mp h
    refine g_cVr (As := [.int v1, .int v3]) (n9 := 2) (st := []) (w2 := (wM E b th ma st ti sp we ho sa ca cl su)) C (c_X5_crowdAt E b th ma st ti sp we ho sa ca cl su v1 v3 g1 eg1) gX5_idleFrom_X5_crowdAt rfl (by decide +kernel) rfl ⟨by decide, by decide, by decide, by decide, Nat.le_of_ble_eq_true rfl⟩ 0 rfl rfl (gSub.idx [0, 1, 2, 3, 4, 5, 6, 7] rfl rfl) rfl dX5_idleFrom_5 ?_
    refine g_if_le C (tgt := 101) dX5_idleFrom_8 (by decide) (fun cd2 => ?_) (fun cd2 => ?_)
    · replace h := (if_pos cd2).symm.trans h
      refine g_iload_n C 2 rfl rfl dX5_idleFrom_101 ?_
      obtain rfl := Option.some.inj h
      exact g_iret C hQ rfl ⟨by decide, by decide⟩ dX5_idleFrom_102
    · replace h := (if_neg cd2).symm.trans h
      refine g_iload_n C 2 rfl rfl dX5_idleFrom_11 ?_
      refine g_istore C (lv2 := [(4, .int v3), (0, .ref (b 0)), (1, .int v1), (3, .int v3)]) rfl (by decide) dX5_idleFrom_12 ?_
      refine g_iconst C (v := 0) (by decide) dX5_idleFrom_14 ?_
      refine g_istore C (lv2 := [(5, .int 0), (4, .int v3), (0, .ref (b 0)), (1, .int v1), (3, .int v3)]) rfl (by decide) dX5_idleFrom_15 ?_
      refine g_lv [2, 3, 4, 1, 0] (lv2 := [(0, .ref (b 0)), (1, .int v1), (3, .int v3), (4, .int v3), (5, .int 0)]) rfl ?_
      exact w_X5_idleFrom_17 (v1 := v1) (v3 := v3) C hQ (fun qv3 hh => ih qv3 hh) FU v3 0 h
set_option maxHeartbeats 4000000 in
set_option maxRecDepth 100000 in
theorem c_X5_idleFrom (E : gE) (b : Nat → Nat) (th : Int32) (ma : Int32) (st : Int32) (ti : Nat → Int32) (sp : Nat → Int32) (we : Nat → Int32) (ho : Nat → Int32) (sa : Nat → Int32) (ca : Nat → Int32) (cl : Nat → Int32) (su : Int64) (p1 : Int32) (p2 : Int32) (o : (Int32)) (h : f_X5_idleFrom ma ti sp we ho sa p1 p2 = some o) : Ct E yX5_idleFrom wsX5_idleFrom r_X5_idleFrom [.ref (b 0), .int p1, .int p2] (wM E b th ma st ti sp we ho sa ca cl su) (gO (fun u9 => some (.int u9)) (fun u9 => (wM E b th ma st ti sp we ho sa ca cl su)) (.inr o)) := by
  refine Ct.of (cc := cX5_idleFrom) (nL := 6) (ret := ((some .int))) (own := RX5) (by decide) rfl rfl (Nat.le_of_ble_eq_true rfl) rfl ?_ ?_
  · intro v w1 hh
    cases hh; rfl
  · intro X C hQ
    rw [f_X5_idleFrom] at h
    refine g_iload_n C 2 rfl rfl dX5_idleFrom_0 ?_
    refine g_istore_n C (lv2 := [(3, .int p2), (0, .ref (b 0)), (1, .int p1), (2, .int p2)]) rfl (by decide) rfl dX5_idleFrom_1 ?_
    refine g_lv [1, 2, 0] (lv2 := [(0, .ref (b 0)), (1, .int p1), (3, .int p2)]) rfl ?_
    exact w_X5_idleFrom_2 (v1 := p1) C hQ FU p2 h
abbrev r_X5_greatestIn : Room := { frames := 3, cells := 0, slots := 0, locals := 66 }
theorem m_X5_greatestIn_0 : Cond.fieldLink RX5 35 "BookinghouseModel" "made" "I" ∈ wsX5_greatestIn := by decide +kernel
theorem i_X5_greatestIn_X5 : ∀ w ∈ wsX50, w ∈ wsX5_greatestIn := by decide +kernel
theorem m_X5_greatestIn_2 : Cond.fieldLink RX5 7 "BookinghouseModel" "time" "[I" ∈ wsX5_greatestIn := by decide +kernel
set_option maxHeartbeats 4000000 in
set_option maxRecDepth 100000 in
theorem w_X5_greatestIn_6 {E : gE} {X : gX} {b : Nat → Nat} {th : Int32} {ma : Int32} {st : Int32} {ti : Nat → Int32} {sp : Nat → Int32} {we : Nat → Int32} {ho : Nat → Int32} {sa : Nat → Int32} {ca : Nat → Int32} {cl : Nat → Int32} {su : Int64} {v1 : Int32} {v2 : Int32} {v3 : Int32} {o : (Int32)} (C : Cx E X cX5_greatestIn 7 RX5 wsX5_greatestIn r_X5_greatestIn ((some .int)) []) (hQ : gQ E X (wM E b th ma st ti sp we ho sa ca cl su) r_X5_greatestIn (gO (fun u9 => some (.int u9)) (fun u9 => (wM E b th ma st ti sp we ho sa ca cl su)) (.inr o))) : ∀ (F : Nat) (v4 : Int32) (v5 : Int32), l_X5_greatestIn_6 ma ti sp we ho sa v1 v2 v3 F v4 v5 = some o → Gx E X (wM E b th ma st ti sp we ho sa ca cl su) 7 [(0, .ref (b 0)), (1, .int v1), (2, .int v2), (3, .int v3), (4, .int v4), (5, .int v5)] [] 6 0 0 := by
  intro F
  induction F with
  | zero => intro v4 v5 h; exact absurd h (by simp [l_X5_greatestIn_6])
  | succ F ih =>
    intro v4 v5 h
    rw [l_X5_greatestIn_6] at h
    refine g_iload C 5 rfl dX5_greatestIn_6 ?_
    refine g_aload_n C 0 rfl rfl dX5_greatestIn_8 ?_
    refine g_X5_made C i_X5_greatestIn_X5 m_X5_greatestIn_0 0 rfl dX5_greatestIn_9 ?_
    refine g_icmp_ge C (tgt := 83) dX5_greatestIn_12 (by decide) (fun cd1 => ?_) (fun cd1 => ?_)
    · replace h := (if_pos cd1).symm.trans h
      refine g_iload C 4 rfl dX5_greatestIn_83 ?_
      obtain rfl := Option.some.inj h
      exact g_iret C hQ rfl ⟨by decide, by decide⟩ dX5_greatestIn_85
    · replace h := (if_neg cd1).symm.trans h
      refine g_aload_n C 0 rfl rfl dX5_greatestIn_15 ?_
      refine g_iload_n C 1 rfl rfl dX5_greatestIn_16 ?_
      refine g_iload C 5 rfl dX5_greatestIn_17 ?_
      obtain ⟨g2, eg2, h⟩ := Option.bind_eq_some_iff.mp h
      refine g_cVr (As := [.int v1, .int v5]) (n9 := 2) (st := []) (w2 := (wM E b th ma st ti sp we ho sa ca cl su)) C (c_X5_isOf E b th ma st ti sp we ho sa ca cl su v1 v5 g2 eg2) gX5_greatestIn_X5_isOf rfl (by decide +kernel) rfl ⟨by decide, by decide, by decide, by decide, Nat.le_of_ble_eq_true rfl⟩ 0 rfl rfl (gSub.idx [0, 1, 2, 3, 4, 5, 6, 7] rfl rfl) rfl dX5_greatestIn_19 ?_
      refine g_if_eq C (tgt := 77) dX5_greatestIn_22 (by decide) (fun cd3 => ?_) (fun cd3 => ?_)
      · replace h := (if_pos cd3).symm.trans h
        refine g_iinc C (v := v5 + 1) 5 rfl rfl (lv2 := [(5, .int (v5 + 1)), (0, .ref (b 0)), (1, .int v1), (2, .int v2), (3, .int v3), (4, .int v4)]) rfl (by decide) dX5_greatestIn_77 ?_
        refine g_goto C (tgt := 6) dX5_greatestIn_80 (by decide) ?_
        refine g_lv [1, 2, 3, 4, 5, 0] (lv2 := [(0, .ref (b 0)), (1, .int v1), (2, .int v2), (3, .int v3), (4, .int v4), (5, .int (v5 + 1))]) rfl ?_
        exact ih v4 (v5 + 1) h
      · replace h := (if_neg cd3).symm.trans h
        refine g_aload_n C 0 rfl rfl dX5_greatestIn_25 ?_
        refine g_X5_time C i_X5_greatestIn_X5 m_X5_greatestIn_2 0 rfl dX5_greatestIn_26 ?_
        refine g_iload C 5 rfl dX5_greatestIn_29 ?_
        obtain ⟨cd4, h⟩ := ifN h
        refine g_iald C 1 rfl (inB_in cd4) dX5_greatestIn_31 ?_
        refine g_iload_n C 2 rfl rfl dX5_greatestIn_32 ?_
        refine g_icmp_lt C (tgt := 77) dX5_greatestIn_33 (by decide) (fun cd5 => ?_) (fun cd5 => ?_)
        · replace h := (if_pos cd5).symm.trans h
          refine g_iinc C (v := v5 + 1) 5 rfl rfl (lv2 := [(5, .int (v5 + 1)), (0, .ref (b 0)), (1, .int v1), (2, .int v2), (3, .int v3), (4, .int v4)]) rfl (by decide) dX5_greatestIn_77 ?_
          refine g_goto C (tgt := 6) dX5_greatestIn_80 (by decide) ?_
          refine g_lv [1, 2, 3, 4, 5, 0] (lv2 := [(0, .ref (b 0)), (1, .int v1), (2, .int v2), (3, .int v3), (4, .int v4), (5, .int (v5 + 1))]) rfl ?_
          exact ih v4 (v5 + 1) h
        · replace h := (if_neg cd5).symm.trans h
          refine g_aload_n C 0 rfl rfl dX5_greatestIn_36 ?_
          refine g_X5_time C i_X5_greatestIn_X5 m_X5_greatestIn_2 0 rfl dX5_greatestIn_37 ?_
          refine g_iload C 5 rfl dX5_greatestIn_40 ?_
          obtain ⟨cd6, h⟩ := ifN h
          refine g_iald C 1 rfl (inB_in cd6) dX5_greatestIn_42 ?_
          refine g_iload_n C 3 rfl rfl dX5_greatestIn_43 ?_
          refine g_icmp_ge C (tgt := 77) dX5_greatestIn_44 (by decide) (fun cd7 => ?_) (fun cd7 => ?_)
          · replace h := (if_pos cd7).symm.trans h
            refine g_iinc C (v := v5 + 1) 5 rfl rfl (lv2 := [(5, .int (v5 + 1)), (0, .ref (b 0)), (1, .int v1), (2, .int v2), (3, .int v3), (4, .int v4)]) rfl (by decide) dX5_greatestIn_77 ?_
            refine g_goto C (tgt := 6) dX5_greatestIn_80 (by decide) ?_
            refine g_lv [1, 2, 3, 4, 5, 0] (lv2 := [(0, .ref (b 0)), (1, .int v1), (2, .int v2), (3, .int v3), (4, .int v4), (5, .int (v5 + 1))]) rfl ?_
            exact ih v4 (v5 + 1) h
          · replace h := (if_neg cd7).symm.trans h
            refine g_aload_n C 0 rfl rfl dX5_greatestIn_47 ?_
            refine g_iload_n C 1 rfl rfl dX5_greatestIn_48 ?_
            refine g_aload_n C 0 rfl rfl dX5_greatestIn_49 ?_
            refine g_X5_time C i_X5_greatestIn_X5 m_X5_greatestIn_2 0 rfl dX5_greatestIn_50 ?_
            refine g_iload C 5 rfl dX5_greatestIn_53 ?_
            obtain ⟨cd8, h⟩ := ifN h
            refine g_iald C 1 rfl (inB_in cd8) dX5_greatestIn_55 ?_
            obtain ⟨g9, eg9, h⟩ := Option.bind_eq_some_iff.mp h
            refine g_cVr (As := [.int v1, .int (ti v5.toNatClampNeg)]) (n9 := 2) (st := []) (w2 := (wM E b th ma st ti sp we ho sa ca cl su)) C (c_X5_crowdAt E b th ma st ti sp we ho sa ca cl su v1 (ti v5.toNatClampNeg) g9 eg9) gX5_greatestIn_X5_crowdAt rfl (by decide +kernel) rfl ⟨by decide, by decide, by decide, by decide, Nat.le_of_ble_eq_true rfl⟩ 0 rfl rfl (gSub.idx [0, 1, 2, 3, 4, 5, 6, 7] rfl rfl) rfl dX5_greatestIn_56 ?_
            refine g_istore C (lv2 := [(6, .int g9), (0, .ref (b 0)), (1, .int v1), (2, .int v2), (3, .int v3), (4, .int v4), (5, .int v5)]) rfl (by decide) dX5_greatestIn_59 ?_
            refine g_iload C 0 rfl dX5_greatestIn_61 ?_
            refine g_iload C 5 rfl dX5_greatestIn_63 ?_
            refine g_icmp_le C (tgt := 73) dX5_greatestIn_65 (by decide) (fun cd10 => ?_) (fun cd10 => ?_)
            · replace h := (if_pos cd10).symm.trans h
              refine g_iload C 5 rfl dX5_greatestIn_73 ?_
              refine g_istore C (lv2 := [(4, .int v4), (6, .int g9), (0, .ref (b 0)), (1, .int v1), (2, .int v2), (3, .int v3), (5, .int v5)]) rfl (by decide) dX5_greatestIn_75 ?_
              refine g_iinc C (v := v5 + 1) 6 rfl rfl (lv2 := [(5, .int (v5 + 1)), (4, .int v4), (6, .int g9), (0, .ref (b 0)), (1, .int v1), (2, .int v2), (3, .int v3)]) rfl (by decide) dX5_greatestIn_77 ?_
              refine g_goto C (tgt := 6) dX5_greatestIn_80 (by decide) ?_
              refine g_lv [3, 4, 5, 6, 1, 0] (lv2 := [(0, .ref (b 0)), (1, .int v1), (2, .int v2), (3, .int v3), (4, .int v4), (5, .int (v5 + 1))]) rfl ?_
              exact ih v4 (v5 + 1) h
            · replace h := (if_neg cd10).symm.trans h
              refine g_iload C 0 rfl dX5_greatestIn_68 ?_
              refine g_goto C (tgt := 75) dX5_greatestIn_70 (by decide) ?_
              refine g_istore C (lv2 := [(4, .int g9), (6, .int g9), (0, .ref (b 0)), (1, .int v1), (2, .int v2), (3, .int v3), (5, .int v5)]) rfl (by decide) dX5_greatestIn_75 ?_
              refine g_iinc C (v := v5 + 1) 6 rfl rfl (lv2 := [(5, .int (v5 + 1)), (4, .int g9), (6, .int g9), (0, .ref (b 0)), (1, .int v1), (2, .int v2), (3, .int v3)]) rfl (by decide) dX5_greatestIn_77 ?_
              refine g_goto C (tgt := 6) dX5_greatestIn_80 (by decide) ?_
              refine g_lv [3, 4, 5, 6, 1, 0] (lv2 := [(0, .ref (b 0)), (1, .int v1), (2, .int v2), (3, .int v3), (4, .int g9), (5, .int (v5 + 1))]) rfl ?_
              exact ih g9 (v5 + 1) h
set_option maxHeartbeats 4000000 in
set_option maxRecDepth 100000 in
theorem c_X5_greatestIn (E : gE) (b : Nat → Nat) (th : Int32) (ma : Int32) (st : Int32) (ti : Nat → Int32) (sp : Nat → Int32) (we : Nat → Int32) (ho : Nat → Int32) (sa : Nat → Int32) (ca : Nat → Int32) (cl : Nat → Int32) (su : Int64) (p1 : Int32) (p2 : Int32) (p3 : Int32) (o : (Int32)) (h : f_X5_greatestIn ma ti sp we ho sa p1 p2 p3 = some o) : Ct E yX5_greatestIn wsX5_greatestIn r_X5_greatestIn [.ref (b 0), .int p1, .int p2, .int p3] (wM E b th ma st ti sp we ho sa ca cl su) (gO (fun u9 => some (.int u9)) (fun u9 => (wM E b th ma st ti sp we ho sa ca cl su)) (.inr o)) := by
  refine Ct.of (cc := cX5_greatestIn) (nL := 7) (ret := ((some .int))) (own := RX5) (by decide) rfl rfl (Nat.le_of_ble_eq_true rfl) rfl ?_ ?_
  · intro v w1 hh
    cases hh; rfl
  · intro X C hQ
    rw [f_X5_greatestIn] at h
    refine g_iconst C (v := 0) (by decide) dX5_greatestIn_0 ?_
    refine g_istore C (lv2 := [(4, .int 0), (0, .ref (b 0)), (1, .int p1), (2, .int p2), (3, .int p3)]) rfl (by decide) dX5_greatestIn_1 ?_
    refine g_iconst C (v := 0) (by decide) dX5_greatestIn_3 ?_
    refine g_istore C (lv2 := [(5, .int 0), (4, .int 0), (0, .ref (b 0)), (1, .int p1), (2, .int p2), (3, .int p3)]) rfl (by decide) dX5_greatestIn_4 ?_
    refine g_lv [2, 3, 4, 5, 1, 0] (lv2 := [(0, .ref (b 0)), (1, .int p1), (2, .int p2), (3, .int p3), (4, .int 0), (5, .int 0)]) rfl ?_
    exact w_X5_greatestIn_6 (v1 := p1) (v2 := p2) (v3 := p3) C hQ FU 0 0 h
abbrev r_X5_crowd : Room := { frames := 3, cells := 0, slots := 0, locals := 66 }
set_option maxHeartbeats 4000000 in
set_option maxRecDepth 100000 in
theorem v_X5_crowd_13 {E : gE} {X : gX} {b : Nat → Nat} {th : Int32} {ma : Int32} {st : Int32} {ti : Nat → Int32} {sp : Nat → Int32} {we : Nat → Int32} {ho : Nat → Int32} {sa : Nat → Int32} {ca : Nat → Int32} {cl : Nat → Int32} {su : Int64} {v1 : Int32} {v2 : Int32} {s1 : Bool} {o : (Int32 × Int32)} (C : Cx E X cX5_crowd 3 RX5 wsX5_crowd r_X5_crowd ((some .int)) []) (hQ : gQ E X (wM E b th ma st ti sp we ho sa ca cl su) r_X5_crowd (gO (fun u9 => some (.int u9.1)) (fun u9 => (wM E b u9.2 ma st ti sp we ho sa ca cl su)) (.inr o))) (h : b_X5_crowd_13 ma ti sp we ho sa v1 v2 s1 = some o) : Gx E X (wM E b th ma st ti sp we ho sa ca cl su) 3 [(0, .ref (b 0)), (1, .int v1), (2, .int v2)] [.int (bI s1), .ref (b 0)] 13 0 0 := by
  rw [b_X5_crowd_13] at h
  refine g_iconst C (v := 1) (by decide) dX5_crowd_13 ?_
  obtain ⟨g1, eg1, h⟩ := Option.bind_eq_some_iff.mp h
  refine g_cVr (As := [.int (bI s1), .int 1]) (n9 := 2) (st := []) (w2 := (wM E b g1.2 ma st ti sp we ho sa ca cl su)) C (c_X5_isThrown E b th ma st ti sp we ho sa ca cl su s1 1 g1 eg1) gX5_crowd_X5_isThrown rfl (by decide +kernel) rfl ⟨by decide, by decide, by decide, by decide, Nat.le_of_ble_eq_true rfl⟩ 0 rfl rfl (gSub.idx [0, 1, 2, 3, 4, 5, 6, 7] rfl rfl) rfl dX5_crowd_14 ?_
  refine g_if_eq C (tgt := 24) dX5_crowd_17 (by decide) (fun cd2 => ?_) (fun cd2 => ?_)
  · replace h := (if_pos cd2).symm.trans h
    refine g_aload_n C 0 rfl rfl dX5_crowd_24 ?_
    refine g_iload_n C 1 rfl rfl dX5_crowd_25 ?_
    refine g_iload_n C 2 rfl rfl dX5_crowd_26 ?_
    obtain ⟨g3, eg3, h⟩ := Option.bind_eq_some_iff.mp h
    refine g_cVr (As := [.int v1, .int v2]) (n9 := 2) (st := []) (w2 := (wM E b g1.2 ma st ti sp we ho sa ca cl su)) C (c_X5_crowdAt E b g1.2 ma st ti sp we ho sa ca cl su v1 v2 g3 eg3) gX5_crowd_X5_crowdAt rfl (by decide +kernel) rfl ⟨by decide, by decide, by decide, by decide, Nat.le_of_ble_eq_true rfl⟩ 0 rfl rfl (gSub.idx [0, 1, 2, 3, 4, 5, 6, 7] rfl rfl) rfl dX5_crowd_27 ?_
    obtain rfl := Option.some.inj h
    exact g_iret C hQ rfl ⟨by decide, by decide⟩ dX5_crowd_30
  · replace h := (if_neg cd2).symm.trans h
    refine g_iconst C (v := 0) (by decide) dX5_crowd_20 ?_
    refine g_goto C (tgt := 30) dX5_crowd_21 (by decide) ?_
    obtain rfl := Option.some.inj h
    exact g_iret C hQ rfl ⟨by decide, by decide⟩ dX5_crowd_30
set_option maxHeartbeats 4000000 in
set_option maxRecDepth 100000 in
theorem c_X5_crowd (E : gE) (b : Nat → Nat) (th : Int32) (ma : Int32) (st : Int32) (ti : Nat → Int32) (sp : Nat → Int32) (we : Nat → Int32) (ho : Nat → Int32) (sa : Nat → Int32) (ca : Nat → Int32) (cl : Nat → Int32) (su : Int64) (p1 : Int32) (p2 : Int32) (o : (Int32 × Int32)) (h : f_X5_crowd ma ti sp we ho sa p1 p2 = some o) : Ct E yX5_crowd wsX5_crowd r_X5_crowd [.ref (b 0), .int p1, .int p2] (wM E b th ma st ti sp we ho sa ca cl su) (gO (fun u9 => some (.int u9.1)) (fun u9 => (wM E b u9.2 ma st ti sp we ho sa ca cl su)) (.inr o)) := by
  refine Ct.of (cc := cX5_crowd) (nL := 3) (ret := ((some .int))) (own := RX5) (by decide) rfl rfl (Nat.le_of_ble_eq_true rfl) rfl ?_ ?_
  · intro v w1 hh
    cases hh; rfl
  · intro X C hQ
    rw [f_X5_crowd] at h
    refine g_aload_n C 0 rfl rfl dX5_crowd_0 ?_
    refine g_iload_n C 1 rfl rfl dX5_crowd_1 ?_
    obtain ⟨g1, eg1, h⟩ := Option.bind_eq_some_iff.mp h
    refine g_cSr (As := [.int p1]) (n9 := 1) (st := [.ref (b 0)]) (w2 := (wM E b th ma st ti sp we ho sa ca cl su)) C (c_X5_isHouse E p1 g1 eg1) gX5_crowd_X5_isHouse rfl (by decide +kernel) rfl ⟨by decide, by decide, by decide, by decide, Nat.le_of_ble_eq_true rfl⟩ (gSub.idx [] rfl rfl) rfl dX5_crowd_2 ?_
    refine g_if_ne C (tgt := 12) dX5_crowd_5 (by decide) (fun cd2 => ?_) (fun cd2 => ?_)
    · replace h := (if_neg cd2).symm.trans h
      refine g_iconst C (v := 0) (by decide) dX5_crowd_12 ?_
      exact v_X5_crowd_13 (v1 := p1) (v2 := p2) (s1 := false) C hQ h
    · replace h := (if_pos cd2).symm.trans h
      refine g_iconst C (v := 1) (by decide) dX5_crowd_8 ?_
      refine g_goto C (tgt := 13) dX5_crowd_9 (by decide) ?_
      exact v_X5_crowd_13 (v1 := p1) (v2 := p2) (s1 := true) C hQ h
abbrev r_X5_change : Room := { frames := 3, cells := 0, slots := 0, locals := 66 }
set_option maxHeartbeats 4000000 in
set_option maxRecDepth 100000 in
theorem v_X5_change_13 {E : gE} {X : gX} {b : Nat → Nat} {th : Int32} {ma : Int32} {st : Int32} {ti : Nat → Int32} {sp : Nat → Int32} {we : Nat → Int32} {ho : Nat → Int32} {sa : Nat → Int32} {ca : Nat → Int32} {cl : Nat → Int32} {su : Int64} {v1 : Int32} {v2 : Int32} {s1 : Bool} {o : (Int32 × Int32)} (C : Cx E X cX5_change 3 RX5 wsX5_change r_X5_change ((some .int)) []) (hQ : gQ E X (wM E b th ma st ti sp we ho sa ca cl su) r_X5_change (gO (fun u9 => some (.int u9.1)) (fun u9 => (wM E b u9.2 ma st ti sp we ho sa ca cl su)) (.inr o))) (h : b_X5_change_13 ma ti sp we ho sa v1 v2 s1 = some o) : Gx E X (wM E b th ma st ti sp we ho sa ca cl su) 3 [(0, .ref (b 0)), (1, .int v1), (2, .int v2)] [.int (bI s1), .ref (b 0)] 13 0 0 := by
  rw [b_X5_change_13] at h
  refine g_iconst C (v := 1) (by decide) dX5_change_13 ?_
  obtain ⟨g1, eg1, h⟩ := Option.bind_eq_some_iff.mp h
  refine g_cVr (As := [.int (bI s1), .int 1]) (n9 := 2) (st := []) (w2 := (wM E b g1.2 ma st ti sp we ho sa ca cl su)) C (c_X5_isThrown E b th ma st ti sp we ho sa ca cl su s1 1 g1 eg1) gX5_change_X5_isThrown rfl (by decide +kernel) rfl ⟨by decide, by decide, by decide, by decide, Nat.le_of_ble_eq_true rfl⟩ 0 rfl rfl (gSub.idx [0, 1, 2, 3, 4, 5, 6, 7] rfl rfl) rfl dX5_change_14 ?_
  refine g_if_eq C (tgt := 24) dX5_change_17 (by decide) (fun cd2 => ?_) (fun cd2 => ?_)
  · replace h := (if_pos cd2).symm.trans h
    refine g_aload_n C 0 rfl rfl dX5_change_24 ?_
    refine g_iload_n C 1 rfl rfl dX5_change_25 ?_
    refine g_iload_n C 2 rfl rfl dX5_change_26 ?_
    obtain ⟨g3, eg3, h⟩ := Option.bind_eq_some_iff.mp h
    refine g_cVr (As := [.int v1, .int v2]) (n9 := 2) (st := []) (w2 := (wM E b g1.2 ma st ti sp we ho sa ca cl su)) C (c_X5_changeAt E b g1.2 ma st ti sp we ho sa ca cl su v1 v2 g3 eg3) gX5_change_X5_changeAt rfl (by decide +kernel) rfl ⟨by decide, by decide, by decide, by decide, Nat.le_of_ble_eq_true rfl⟩ 0 rfl rfl (gSub.idx [0, 1, 2, 3, 4, 5, 6, 7] rfl rfl) rfl dX5_change_27 ?_
    obtain rfl := Option.some.inj h
    exact g_iret C hQ rfl ⟨by decide, by decide⟩ dX5_change_30
  · replace h := (if_neg cd2).symm.trans h
    refine g_iconst C (v := 0) (by decide) dX5_change_20 ?_
    refine g_goto C (tgt := 30) dX5_change_21 (by decide) ?_
    obtain rfl := Option.some.inj h
    exact g_iret C hQ rfl ⟨by decide, by decide⟩ dX5_change_30
set_option maxHeartbeats 4000000 in
set_option maxRecDepth 100000 in
theorem c_X5_change (E : gE) (b : Nat → Nat) (th : Int32) (ma : Int32) (st : Int32) (ti : Nat → Int32) (sp : Nat → Int32) (we : Nat → Int32) (ho : Nat → Int32) (sa : Nat → Int32) (ca : Nat → Int32) (cl : Nat → Int32) (su : Int64) (p1 : Int32) (p2 : Int32) (o : (Int32 × Int32)) (h : f_X5_change ma ti sp we ho sa p1 p2 = some o) : Ct E yX5_change wsX5_change r_X5_change [.ref (b 0), .int p1, .int p2] (wM E b th ma st ti sp we ho sa ca cl su) (gO (fun u9 => some (.int u9.1)) (fun u9 => (wM E b u9.2 ma st ti sp we ho sa ca cl su)) (.inr o)) := by
  refine Ct.of (cc := cX5_change) (nL := 3) (ret := ((some .int))) (own := RX5) (by decide) rfl rfl (Nat.le_of_ble_eq_true rfl) rfl ?_ ?_
  · intro v w1 hh
    cases hh; rfl
  · intro X C hQ
    rw [f_X5_change] at h
    refine g_aload_n C 0 rfl rfl dX5_change_0 ?_
    refine g_iload_n C 1 rfl rfl dX5_change_1 ?_
    obtain ⟨g1, eg1, h⟩ := Option.bind_eq_some_iff.mp h
    refine g_cSr (As := [.int p1]) (n9 := 1) (st := [.ref (b 0)]) (w2 := (wM E b th ma st ti sp we ho sa ca cl su)) C (c_X5_isHouse E p1 g1 eg1) gX5_change_X5_isHouse rfl (by decide +kernel) rfl ⟨by decide, by decide, by decide, by decide, Nat.le_of_ble_eq_true rfl⟩ (gSub.idx [] rfl rfl) rfl dX5_change_2 ?_
    refine g_if_ne C (tgt := 12) dX5_change_5 (by decide) (fun cd2 => ?_) (fun cd2 => ?_)
    · replace h := (if_neg cd2).symm.trans h
      refine g_iconst C (v := 0) (by decide) dX5_change_12 ?_
      exact v_X5_change_13 (v1 := p1) (v2 := p2) (s1 := false) C hQ h
    · replace h := (if_pos cd2).symm.trans h
      refine g_iconst C (v := 1) (by decide) dX5_change_8 ?_
      refine g_goto C (tgt := 13) dX5_change_9 (by decide) ?_
      exact v_X5_change_13 (v1 := p1) (v2 := p2) (s1 := true) C hQ h
abbrev r_X5_greatest : Room := { frames := 4, cells := 0, slots := 0, locals := 92 }
theorem m_X5_greatest_0 : Cond.constant RX5 72 100000 ∈ wsX5_greatest := by decide +kernel
set_option maxHeartbeats 4000000 in
set_option maxRecDepth 100000 in
theorem v_X5_greatest_13 {E : gE} {X : gX} {b : Nat → Nat} {th : Int32} {ma : Int32} {st : Int32} {ti : Nat → Int32} {sp : Nat → Int32} {we : Nat → Int32} {ho : Nat → Int32} {sa : Nat → Int32} {ca : Nat → Int32} {cl : Nat → Int32} {su : Int64} {v1 : Int32} {s1 : Bool} {o : (Int32 × Int32)} (C : Cx E X cX5_greatest 2 RX5 wsX5_greatest r_X5_greatest ((some .int)) []) (hQ : gQ E X (wM E b th ma st ti sp we ho sa ca cl su) r_X5_greatest (gO (fun u9 => some (.int u9.1)) (fun u9 => (wM E b u9.2 ma st ti sp we ho sa ca cl su)) (.inr o))) (h : b_X5_greatest_13 ma ti sp we ho sa v1 s1 = some o) : Gx E X (wM E b th ma st ti sp we ho sa ca cl su) 2 [(0, .ref (b 0)), (1, .int v1)] [.int (bI s1), .ref (b 0)] 13 0 0 := by
  rw [b_X5_greatest_13] at h
  refine g_iconst C (v := 1) (by decide) dX5_greatest_13 ?_
  obtain ⟨g1, eg1, h⟩ := Option.bind_eq_some_iff.mp h
  refine g_cVr (As := [.int (bI s1), .int 1]) (n9 := 2) (st := []) (w2 := (wM E b g1.2 ma st ti sp we ho sa ca cl su)) C (c_X5_isThrown E b th ma st ti sp we ho sa ca cl su s1 1 g1 eg1) gX5_greatest_X5_isThrown rfl (by decide +kernel) rfl ⟨by decide, by decide, by decide, by decide, Nat.le_of_ble_eq_true rfl⟩ 0 rfl rfl (gSub.idx [0, 1, 2, 3, 4, 5, 6, 7] rfl rfl) rfl dX5_greatest_14 ?_
  refine g_if_eq C (tgt := 24) dX5_greatest_17 (by decide) (fun cd2 => ?_) (fun cd2 => ?_)
  · replace h := (if_pos cd2).symm.trans h
    refine g_aload_n C 0 rfl rfl dX5_greatest_24 ?_
    refine g_iload_n C 1 rfl rfl dX5_greatest_25 ?_
    refine g_iconst C (v := 0) (by decide) dX5_greatest_26 ?_
    refine g_ldc C (v := 100000) m_X5_greatest_0 dX5_greatest_27 ?_
    obtain ⟨g3, eg3, h⟩ := Option.bind_eq_some_iff.mp h
    refine g_cVr (As := [.int v1, .int 0, .int 100000]) (n9 := 3) (st := []) (w2 := (wM E b g1.2 ma st ti sp we ho sa ca cl su)) C (c_X5_greatestIn E b g1.2 ma st ti sp we ho sa ca cl su v1 0 100000 g3 eg3) gX5_greatest_X5_greatestIn rfl (by decide +kernel) rfl ⟨by decide, by decide, by decide, by decide, Nat.le_of_ble_eq_true rfl⟩ 0 rfl rfl (gSub.idx [0, 1, 2, 3, 4, 5, 6, 7] rfl rfl) rfl dX5_greatest_29 ?_
    obtain rfl := Option.some.inj h
    exact g_iret C hQ rfl ⟨by decide, by decide⟩ dX5_greatest_32
  · replace h := (if_neg cd2).symm.trans h
    refine g_iconst C (v := 0) (by decide) dX5_greatest_20 ?_
    refine g_goto C (tgt := 32) dX5_greatest_21 (by decide) ?_
    obtain rfl := Option.some.inj h
    exact g_iret C hQ rfl ⟨by decide, by decide⟩ dX5_greatest_32
set_option maxHeartbeats 4000000 in
set_option maxRecDepth 100000 in
theorem c_X5_greatest (E : gE) (b : Nat → Nat) (th : Int32) (ma : Int32) (st : Int32) (ti : Nat → Int32) (sp : Nat → Int32) (we : Nat → Int32) (ho : Nat → Int32) (sa : Nat → Int32) (ca : Nat → Int32) (cl : Nat → Int32) (su : Int64) (p1 : Int32) (o : (Int32 × Int32)) (h : f_X5_greatest ma ti sp we ho sa p1 = some o) : Ct E yX5_greatest wsX5_greatest r_X5_greatest [.ref (b 0), .int p1] (wM E b th ma st ti sp we ho sa ca cl su) (gO (fun u9 => some (.int u9.1)) (fun u9 => (wM E b u9.2 ma st ti sp we ho sa ca cl su)) (.inr o)) := by
  refine Ct.of (cc := cX5_greatest) (nL := 2) (ret := ((some .int))) (own := RX5) (by decide) rfl rfl (Nat.le_of_ble_eq_true rfl) rfl ?_ ?_
  · intro v w1 hh
    cases hh; rfl
  · intro X C hQ
    rw [f_X5_greatest] at h
    refine g_aload_n C 0 rfl rfl dX5_greatest_0 ?_
    refine g_iload_n C 1 rfl rfl dX5_greatest_1 ?_
    obtain ⟨g1, eg1, h⟩ := Option.bind_eq_some_iff.mp h
    refine g_cSr (As := [.int p1]) (n9 := 1) (st := [.ref (b 0)]) (w2 := (wM E b th ma st ti sp we ho sa ca cl su)) C (c_X5_isHouse E p1 g1 eg1) gX5_greatest_X5_isHouse rfl (by decide +kernel) rfl ⟨by decide, by decide, by decide, by decide, Nat.le_of_ble_eq_true rfl⟩ (gSub.idx [] rfl rfl) rfl dX5_greatest_2 ?_
    refine g_if_ne C (tgt := 12) dX5_greatest_5 (by decide) (fun cd2 => ?_) (fun cd2 => ?_)
    · replace h := (if_neg cd2).symm.trans h
      refine g_iconst C (v := 0) (by decide) dX5_greatest_12 ?_
      exact v_X5_greatest_13 (v1 := p1) (s1 := false) C hQ h
    · replace h := (if_pos cd2).symm.trans h
      refine g_iconst C (v := 1) (by decide) dX5_greatest_8 ?_
      refine g_goto C (tgt := 13) dX5_greatest_9 (by decide) ?_
      exact v_X5_greatest_13 (v1 := p1) (s1 := true) C hQ h
abbrev r_X5_greatestFrom : Room := { frames := 4, cells := 0, slots := 0, locals := 92 }
theorem m_X5_greatestFrom_0 : Cond.constant RX5 72 100000 ∈ wsX5_greatestFrom := by decide +kernel
theorem m_X5_greatestFrom_1 : Cond.fieldLink RX5 35 "BookinghouseModel" "made" "I" ∈ wsX5_greatestFrom := by decide +kernel
theorem i_X5_greatestFrom_X5 : ∀ w ∈ wsX50, w ∈ wsX5_greatestFrom := by decide +kernel
theorem m_X5_greatestFrom_3 : Cond.fieldLink RX5 7 "BookinghouseModel" "time" "[I" ∈ wsX5_greatestFrom := by decide +kernel
set_option maxHeartbeats 4000000 in
set_option maxRecDepth 100000 in
theorem w_X5_greatestFrom_56 {E : gE} {X : gX} {b : Nat → Nat} {th : Int32} {ma : Int32} {st : Int32} {ti : Nat → Int32} {sp : Nat → Int32} {we : Nat → Int32} {ho : Nat → Int32} {sa : Nat → Int32} {ca : Nat → Int32} {cl : Nat → Int32} {su : Int64} {v1 : Int32} {v2 : Int32} {thc : Int32} {o : (Int32 × Int32)} (C : Cx E X cX5_greatestFrom 5 RX5 wsX5_greatestFrom r_X5_greatestFrom ((some .int)) []) (hQ : gQ E X (wM E b th ma st ti sp we ho sa ca cl su) r_X5_greatestFrom (gO (fun u9 => some (.int u9.1)) (fun u9 => (wM E b u9.2 ma st ti sp we ho sa ca cl su)) (.inr o))) : ∀ (F : Nat) (v3 : Int32) (v4 : Int32), l_X5_greatestFrom_56 ma ti sp we ho sa v1 v2 thc F v3 v4 = some o → Gx E X (wM E b thc ma st ti sp we ho sa ca cl su) 5 [(0, .ref (b 0)), (1, .int v1), (2, .int v2), (3, .int v3), (4, .int v4)] [] 56 0 0 := by
  intro F
  induction F with
  | zero => intro v3 v4 h; exact absurd h (by simp [l_X5_greatestFrom_56])
  | succ F ih =>
    intro v3 v4 h
    rw [l_X5_greatestFrom_56] at h
    refine g_iload C 4 rfl dX5_greatestFrom_56 ?_
    refine g_aload_n C 0 rfl rfl dX5_greatestFrom_58 ?_
    refine g_X5_made C i_X5_greatestFrom_X5 m_X5_greatestFrom_1 0 rfl dX5_greatestFrom_59 ?_
    refine g_icmp_ge C (tgt := 120) dX5_greatestFrom_62 (by decide) (fun cd1 => ?_) (fun cd1 => ?_)
    · replace h := (if_pos cd1).symm.trans h
      refine g_iload_n C 3 rfl rfl dX5_greatestFrom_120 ?_
      obtain rfl := Option.some.inj h
      exact g_iret C hQ rfl ⟨by decide, by decide⟩ dX5_greatestFrom_121
    · replace h := (if_neg cd1).symm.trans h
      refine g_aload_n C 0 rfl rfl dX5_greatestFrom_65 ?_
      refine g_iload_n C 1 rfl rfl dX5_greatestFrom_66 ?_
      refine g_iload C 4 rfl dX5_greatestFrom_67 ?_
      obtain ⟨g2, eg2, h⟩ := Option.bind_eq_some_iff.mp h
      refine g_cVr (As := [.int v1, .int v4]) (n9 := 2) (st := []) (w2 := (wM E b thc ma st ti sp we ho sa ca cl su)) C (c_X5_isOf E b thc ma st ti sp we ho sa ca cl su v1 v4 g2 eg2) gX5_greatestFrom_X5_isOf rfl (by decide +kernel) rfl ⟨by decide, by decide, by decide, by decide, Nat.le_of_ble_eq_true rfl⟩ 0 rfl rfl (gSub.idx [0, 1, 2, 3, 4, 5, 6, 7] rfl rfl) rfl dX5_greatestFrom_69 ?_
      refine g_if_eq C (tgt := 112) dX5_greatestFrom_72 (by decide) (fun cd3 => ?_) (fun cd3 => ?_)
      · replace h := (if_pos cd3).symm.trans h
        refine g_iload_n C 3 rfl rfl dX5_greatestFrom_112 ?_
        refine g_istore_n C (lv2 := [(3, .int v3), (0, .ref (b 0)), (1, .int v1), (2, .int v2), (4, .int v4)]) rfl (by decide) rfl dX5_greatestFrom_113 ?_
        refine g_iinc C (v := v4 + 1) 4 rfl rfl (lv2 := [(4, .int (v4 + 1)), (3, .int v3), (0, .ref (b 0)), (1, .int v1), (2, .int v2)]) rfl (by decide) dX5_greatestFrom_114 ?_
        refine g_goto C (tgt := 56) dX5_greatestFrom_117 (by decide) ?_
        refine g_lv [2, 3, 4, 1, 0] (lv2 := [(0, .ref (b 0)), (1, .int v1), (2, .int v2), (3, .int v3), (4, .int (v4 + 1))]) rfl ?_
        exact ih v3 (v4 + 1) h
      · replace h := (if_neg cd3).symm.trans h
        refine g_aload_n C 0 rfl rfl dX5_greatestFrom_75 ?_
        refine g_X5_time C i_X5_greatestFrom_X5 m_X5_greatestFrom_3 0 rfl dX5_greatestFrom_76 ?_
        refine g_iload C 4 rfl dX5_greatestFrom_79 ?_
        obtain ⟨cd4, h⟩ := ifN h
        refine g_iald C 1 rfl (inB_in cd4) dX5_greatestFrom_81 ?_
        refine g_iload_n C 3 rfl rfl dX5_greatestFrom_82 ?_
        refine g_icmp_ge C (tgt := 112) dX5_greatestFrom_83 (by decide) (fun cd5 => ?_) (fun cd5 => ?_)
        · replace h := (if_pos cd5).symm.trans h
          refine g_iload_n C 3 rfl rfl dX5_greatestFrom_112 ?_
          refine g_istore_n C (lv2 := [(3, .int v3), (0, .ref (b 0)), (1, .int v1), (2, .int v2), (4, .int v4)]) rfl (by decide) rfl dX5_greatestFrom_113 ?_
          refine g_iinc C (v := v4 + 1) 4 rfl rfl (lv2 := [(4, .int (v4 + 1)), (3, .int v3), (0, .ref (b 0)), (1, .int v1), (2, .int v2)]) rfl (by decide) dX5_greatestFrom_114 ?_
          refine g_goto C (tgt := 56) dX5_greatestFrom_117 (by decide) ?_
          refine g_lv [2, 3, 4, 1, 0] (lv2 := [(0, .ref (b 0)), (1, .int v1), (2, .int v2), (3, .int v3), (4, .int (v4 + 1))]) rfl ?_
          exact ih v3 (v4 + 1) h
        · replace h := (if_neg cd5).symm.trans h
          refine g_aload_n C 0 rfl rfl dX5_greatestFrom_86 ?_
          refine g_iload_n C 1 rfl rfl dX5_greatestFrom_87 ?_
          refine g_aload_n C 0 rfl rfl dX5_greatestFrom_88 ?_
          refine g_X5_time C i_X5_greatestFrom_X5 m_X5_greatestFrom_3 0 rfl dX5_greatestFrom_89 ?_
          refine g_iload C 4 rfl dX5_greatestFrom_92 ?_
          obtain ⟨cd6, h⟩ := ifN h
          refine g_iald C 1 rfl (inB_in cd6) dX5_greatestFrom_94 ?_
          obtain ⟨g7, eg7, h⟩ := Option.bind_eq_some_iff.mp h
          refine g_cVr (As := [.int v1, .int (ti v4.toNatClampNeg)]) (n9 := 2) (st := []) (w2 := (wM E b thc ma st ti sp we ho sa ca cl su)) C (c_X5_crowdAt E b thc ma st ti sp we ho sa ca cl su v1 (ti v4.toNatClampNeg) g7 eg7) gX5_greatestFrom_X5_crowdAt rfl (by decide +kernel) rfl ⟨by decide, by decide, by decide, by decide, Nat.le_of_ble_eq_true rfl⟩ 0 rfl rfl (gSub.idx [0, 1, 2, 3, 4, 5, 6, 7] rfl rfl) rfl dX5_greatestFrom_95 ?_
          refine g_iload_n C 2 rfl rfl dX5_greatestFrom_98 ?_
          refine g_icmp_ne C (tgt := 112) dX5_greatestFrom_99 (by decide) (fun cd8 => ?_) (fun cd8 => ?_)
          · replace h := (if_neg cd8).symm.trans h
            refine g_iload_n C 3 rfl rfl dX5_greatestFrom_112 ?_
            refine g_istore_n C (lv2 := [(3, .int v3), (0, .ref (b 0)), (1, .int v1), (2, .int v2), (4, .int v4)]) rfl (by decide) rfl dX5_greatestFrom_113 ?_
            refine g_iinc C (v := v4 + 1) 4 rfl rfl (lv2 := [(4, .int (v4 + 1)), (3, .int v3), (0, .ref (b 0)), (1, .int v1), (2, .int v2)]) rfl (by decide) dX5_greatestFrom_114 ?_
            refine g_goto C (tgt := 56) dX5_greatestFrom_117 (by decide) ?_
            refine g_lv [2, 3, 4, 1, 0] (lv2 := [(0, .ref (b 0)), (1, .int v1), (2, .int v2), (3, .int v3), (4, .int (v4 + 1))]) rfl ?_
            exact ih v3 (v4 + 1) h
          · replace h := (if_pos cd8).symm.trans h
            refine g_aload_n C 0 rfl rfl dX5_greatestFrom_102 ?_
            refine g_X5_time C i_X5_greatestFrom_X5 m_X5_greatestFrom_3 0 rfl dX5_greatestFrom_103 ?_
            refine g_iload C 4 rfl dX5_greatestFrom_106 ?_
            obtain ⟨cd9, h⟩ := ifN h
            refine g_iald C 1 rfl (inB_in cd9) dX5_greatestFrom_108 ?_
            refine g_goto C (tgt := 113) dX5_greatestFrom_109 (by decide) ?_
            refine g_istore_n C (lv2 := [(3, .int (ti v4.toNatClampNeg)), (0, .ref (b 0)), (1, .int v1), (2, .int v2), (4, .int v4)]) rfl (by decide) rfl dX5_greatestFrom_113 ?_
            refine g_iinc C (v := v4 + 1) 4 rfl rfl (lv2 := [(4, .int (v4 + 1)), (3, .int (ti v4.toNatClampNeg)), (0, .ref (b 0)), (1, .int v1), (2, .int v2)]) rfl (by decide) dX5_greatestFrom_114 ?_
            refine g_goto C (tgt := 56) dX5_greatestFrom_117 (by decide) ?_
            refine g_lv [2, 3, 4, 1, 0] (lv2 := [(0, .ref (b 0)), (1, .int v1), (2, .int v2), (3, .int (ti v4.toNatClampNeg)), (4, .int (v4 + 1))]) rfl ?_
            exact ih (ti v4.toNatClampNeg) (v4 + 1) h
set_option maxHeartbeats 4000000 in
set_option maxRecDepth 100000 in
theorem v_X5_greatestFrom_41 {E : gE} {X : gX} {b : Nat → Nat} {th : Int32} {ma : Int32} {st : Int32} {ti : Nat → Int32} {sp : Nat → Int32} {we : Nat → Int32} {ho : Nat → Int32} {sa : Nat → Int32} {ca : Nat → Int32} {cl : Nat → Int32} {su : Int64} {v1 : Int32} {v2 : Int32} {s1 : Bool} {thc : Int32} {o : (Int32 × Int32)} (C : Cx E X cX5_greatestFrom 5 RX5 wsX5_greatestFrom r_X5_greatestFrom ((some .int)) []) (hQ : gQ E X (wM E b th ma st ti sp we ho sa ca cl su) r_X5_greatestFrom (gO (fun u9 => some (.int u9.1)) (fun u9 => (wM E b u9.2 ma st ti sp we ho sa ca cl su)) (.inr o))) (h : b_X5_greatestFrom_41 ma ti sp we ho sa v1 v2 s1 thc = some o) : Gx E X (wM E b thc ma st ti sp we ho sa ca cl su) 5 [(0, .ref (b 0)), (1, .int v1), (2, .int v2)] [.int (bI s1), .ref (b 0)] 41 0 0 := by
  rw [b_X5_greatestFrom_41] at h
  refine g_iconst C (v := 2) (by decide) dX5_greatestFrom_41 ?_
  obtain ⟨g1, eg1, h⟩ := Option.bind_eq_some_iff.mp h
  refine g_cVr (As := [.int (bI s1), .int 2]) (n9 := 2) (st := []) (w2 := (wM E b g1.2 ma st ti sp we ho sa ca cl su)) C (c_X5_isThrown E b thc ma st ti sp we ho sa ca cl su s1 2 g1 eg1) gX5_greatestFrom_X5_isThrown rfl (by decide +kernel) rfl ⟨by decide, by decide, by decide, by decide, Nat.le_of_ble_eq_true rfl⟩ 0 rfl rfl (gSub.idx [0, 1, 2, 3, 4, 5, 6, 7] rfl rfl) rfl dX5_greatestFrom_42 ?_
  refine g_if_eq C (tgt := 50) dX5_greatestFrom_45 (by decide) (fun cd2 => ?_) (fun cd2 => ?_)
  · replace h := (if_pos cd2).symm.trans h
    refine g_ldc C (v := 100000) m_X5_greatestFrom_0 dX5_greatestFrom_50 ?_
    refine g_istore_n C (lv2 := [(3, .int 100000), (0, .ref (b 0)), (1, .int v1), (2, .int v2)]) rfl (by decide) rfl dX5_greatestFrom_52 ?_
    refine g_iconst C (v := 0) (by decide) dX5_greatestFrom_53 ?_
    refine g_istore C (lv2 := [(4, .int 0), (3, .int 100000), (0, .ref (b 0)), (1, .int v1), (2, .int v2)]) rfl (by decide) dX5_greatestFrom_54 ?_
    refine g_lv [2, 3, 4, 1, 0] (lv2 := [(0, .ref (b 0)), (1, .int v1), (2, .int v2), (3, .int 100000), (4, .int 0)]) rfl ?_
    exact w_X5_greatestFrom_56 (v1 := v1) (v2 := v2) (thc := g1.2) C hQ FU 100000 0 h
  · replace h := (if_neg cd2).symm.trans h
    refine g_iconst C (v := 0) (by decide) dX5_greatestFrom_48 ?_
    obtain rfl := Option.some.inj h
    exact g_iret C hQ rfl ⟨by decide, by decide⟩ dX5_greatestFrom_49
set_option maxHeartbeats 4000000 in
set_option maxRecDepth 100000 in
theorem v_X5_greatestFrom_13 {E : gE} {X : gX} {b : Nat → Nat} {th : Int32} {ma : Int32} {st : Int32} {ti : Nat → Int32} {sp : Nat → Int32} {we : Nat → Int32} {ho : Nat → Int32} {sa : Nat → Int32} {ca : Nat → Int32} {cl : Nat → Int32} {su : Int64} {v1 : Int32} {s1 : Bool} {o : (Int32 × Int32)} (C : Cx E X cX5_greatestFrom 5 RX5 wsX5_greatestFrom r_X5_greatestFrom ((some .int)) []) (hQ : gQ E X (wM E b th ma st ti sp we ho sa ca cl su) r_X5_greatestFrom (gO (fun u9 => some (.int u9.1)) (fun u9 => (wM E b u9.2 ma st ti sp we ho sa ca cl su)) (.inr o))) (h : b_X5_greatestFrom_13 ma ti sp we ho sa v1 s1 = some o) : Gx E X (wM E b th ma st ti sp we ho sa ca cl su) 5 [(0, .ref (b 0)), (1, .int v1)] [.int (bI s1), .ref (b 0)] 13 0 0 := by
  rw [b_X5_greatestFrom_13] at h
  refine g_iconst C (v := 1) (by decide) dX5_greatestFrom_13 ?_
  obtain ⟨g1, eg1, h⟩ := Option.bind_eq_some_iff.mp h
  refine g_cVr (As := [.int (bI s1), .int 1]) (n9 := 2) (st := []) (w2 := (wM E b g1.2 ma st ti sp we ho sa ca cl su)) C (c_X5_isThrown E b th ma st ti sp we ho sa ca cl su s1 1 g1 eg1) gX5_greatestFrom_X5_isThrown rfl (by decide +kernel) rfl ⟨by decide, by decide, by decide, by decide, Nat.le_of_ble_eq_true rfl⟩ 0 rfl rfl (gSub.idx [0, 1, 2, 3, 4, 5, 6, 7] rfl rfl) rfl dX5_greatestFrom_14 ?_
  refine g_if_eq C (tgt := 22) dX5_greatestFrom_17 (by decide) (fun cd2 => ?_) (fun cd2 => ?_)
  · replace h := (if_pos cd2).symm.trans h
    refine g_aload_n C 0 rfl rfl dX5_greatestFrom_22 ?_
    refine g_iload_n C 1 rfl rfl dX5_greatestFrom_23 ?_
    refine g_iconst C (v := 0) (by decide) dX5_greatestFrom_24 ?_
    refine g_ldc C (v := 100000) m_X5_greatestFrom_0 dX5_greatestFrom_25 ?_
    obtain ⟨g3, eg3, h⟩ := Option.bind_eq_some_iff.mp h
    refine g_cVr (As := [.int v1, .int 0, .int 100000]) (n9 := 3) (st := []) (w2 := (wM E b g1.2 ma st ti sp we ho sa ca cl su)) C (c_X5_greatestIn E b g1.2 ma st ti sp we ho sa ca cl su v1 0 100000 g3 eg3) gX5_greatestFrom_X5_greatestIn rfl (by decide +kernel) rfl ⟨by decide, by decide, by decide, by decide, Nat.le_of_ble_eq_true rfl⟩ 0 rfl rfl (gSub.idx [0, 1, 2, 3, 4, 5, 6, 7] rfl rfl) rfl dX5_greatestFrom_27 ?_
    refine g_istore_n C (lv2 := [(2, .int g3), (0, .ref (b 0)), (1, .int v1)]) rfl (by decide) rfl dX5_greatestFrom_30 ?_
    refine g_aload_n C 1 rfl rfl dX5_greatestFrom_31 ?_
    refine g_iload_n C 0 rfl rfl dX5_greatestFrom_32 ?_
    refine g_if_ne C (tgt := 40) dX5_greatestFrom_33 (by decide) (fun cd4 => ?_) (fun cd4 => ?_)
    · replace h := (if_neg cd4).symm.trans h
      refine g_iconst C (v := 0) (by decide) dX5_greatestFrom_40 ?_
      refine g_lv [1, 2, 0] (lv2 := [(0, .ref (b 0)), (1, .int v1), (2, .int g3)]) rfl ?_
      exact v_X5_greatestFrom_41 (v1 := v1) (v2 := g3) (s1 := false) (thc := g1.2) C hQ h
    · replace h := (if_pos cd4).symm.trans h
      refine g_iconst C (v := 1) (by decide) dX5_greatestFrom_36 ?_
      refine g_goto C (tgt := 41) dX5_greatestFrom_37 (by decide) ?_
      refine g_lv [1, 2, 0] (lv2 := [(0, .ref (b 0)), (1, .int v1), (2, .int g3)]) rfl ?_
      exact v_X5_greatestFrom_41 (v1 := v1) (v2 := g3) (s1 := true) (thc := g1.2) C hQ h
  · replace h := (if_neg cd2).symm.trans h
    refine g_iconst C (v := 0) (by decide) dX5_greatestFrom_20 ?_
    obtain rfl := Option.some.inj h
    exact g_iret C hQ rfl ⟨by decide, by decide⟩ dX5_greatestFrom_21
set_option maxHeartbeats 4000000 in
set_option maxRecDepth 100000 in
theorem c_X5_greatestFrom (E : gE) (b : Nat → Nat) (th : Int32) (ma : Int32) (st : Int32) (ti : Nat → Int32) (sp : Nat → Int32) (we : Nat → Int32) (ho : Nat → Int32) (sa : Nat → Int32) (ca : Nat → Int32) (cl : Nat → Int32) (su : Int64) (p1 : Int32) (o : (Int32 × Int32)) (h : f_X5_greatestFrom ma ti sp we ho sa p1 = some o) : Ct E yX5_greatestFrom wsX5_greatestFrom r_X5_greatestFrom [.ref (b 0), .int p1] (wM E b th ma st ti sp we ho sa ca cl su) (gO (fun u9 => some (.int u9.1)) (fun u9 => (wM E b u9.2 ma st ti sp we ho sa ca cl su)) (.inr o)) := by
  refine Ct.of (cc := cX5_greatestFrom) (nL := 5) (ret := ((some .int))) (own := RX5) (by decide) rfl rfl (Nat.le_of_ble_eq_true rfl) rfl ?_ ?_
  · intro v w1 hh
    cases hh; rfl
  · intro X C hQ
    rw [f_X5_greatestFrom] at h
    refine g_aload_n C 0 rfl rfl dX5_greatestFrom_0 ?_
    refine g_iload_n C 1 rfl rfl dX5_greatestFrom_1 ?_
    obtain ⟨g1, eg1, h⟩ := Option.bind_eq_some_iff.mp h
    refine g_cSr (As := [.int p1]) (n9 := 1) (st := [.ref (b 0)]) (w2 := (wM E b th ma st ti sp we ho sa ca cl su)) C (c_X5_isHouse E p1 g1 eg1) gX5_greatestFrom_X5_isHouse rfl (by decide +kernel) rfl ⟨by decide, by decide, by decide, by decide, Nat.le_of_ble_eq_true rfl⟩ (gSub.idx [] rfl rfl) rfl dX5_greatestFrom_2 ?_
    refine g_if_ne C (tgt := 12) dX5_greatestFrom_5 (by decide) (fun cd2 => ?_) (fun cd2 => ?_)
    · replace h := (if_neg cd2).symm.trans h
      refine g_iconst C (v := 0) (by decide) dX5_greatestFrom_12 ?_
      exact v_X5_greatestFrom_13 (v1 := p1) (s1 := false) C hQ h
    · replace h := (if_pos cd2).symm.trans h
      refine g_iconst C (v := 1) (by decide) dX5_greatestFrom_8 ?_
      refine g_goto C (tgt := 13) dX5_greatestFrom_9 (by decide) ?_
      exact v_X5_greatestFrom_13 (v1 := p1) (s1 := true) C hQ h
abbrev r_X5_busyIn : Room := { frames := 4, cells := 0, slots := 0, locals := 91 }
theorem m_X5_busyIn_0 : Cond.constant RX5 72 100000 ∈ wsX5_busyIn := by decide +kernel
set_option maxHeartbeats 4000000 in
set_option maxRecDepth 100000 in
theorem v_X5_busyIn_73 {E : gE} {X : gX} {b : Nat → Nat} {th : Int32} {ma : Int32} {st : Int32} {ti : Nat → Int32} {sp : Nat → Int32} {we : Nat → Int32} {ho : Nat → Int32} {sa : Nat → Int32} {ca : Nat → Int32} {cl : Nat → Int32} {su : Int64} {v1 : Int32} {v2 : Int32} {v3 : Int32} {v6 : Int32} {s0 : Int32} {s1 : Int32} {ko11 : Int32 → Int32 → Option (Int32)} {o : (Int32)} (C : Cx E X cX5_busyIn 9 RX5 wsX5_busyIn r_X5_busyIn ((some .int)) []) (hQ : gQ E X (wM E b th ma st ti sp we ho sa ca cl su) r_X5_busyIn (gO (fun u9 => some (.int u9)) (fun u9 => (wM E b th ma st ti sp we ho sa ca cl su)) (.inr o))) (Hko11 : ∀ (qv4 : Int32) (qv5 : Int32), ko11 qv4 qv5 = some o → Gx E X (wM E b th ma st ti sp we ho sa ca cl su) 9 [(0, .ref (b 0)), (1, .int v1), (2, .int v2), (3, .int v3), (4, .int qv4), (5, .int qv5)] [] 11 0 0) (h : b_X5_busyIn_73 ma ti sp we ho sa ko11 v1 v2 v3 v6 s0 s1 = some o) : Gx E X (wM E b th ma st ti sp we ho sa ca cl su) 9 [(0, .ref (b 0)), (1, .int v1), (2, .int v2), (3, .int v3), (6, .int v6)] [.int s1, .int s0] 73 0 0 := by
  rw [b_X5_busyIn_73] at h
  refine g_iadd C dX5_busyIn_73 ?_
  refine g_istore C (lv2 := [(4, .int (s0 + s1)), (0, .ref (b 0)), (1, .int v1), (2, .int v2), (3, .int v3), (6, .int v6)]) rfl (by decide) dX5_busyIn_74 ?_
  refine g_aload_n C 1 rfl rfl dX5_busyIn_76 ?_
  refine g_iload_n C 2 rfl rfl dX5_busyIn_77 ?_
  refine g_iload C 5 rfl dX5_busyIn_78 ?_
  obtain ⟨g1, eg1, h⟩ := Option.bind_eq_some_iff.mp h
  refine g_cVr (As := [.int v1, .int v6]) (n9 := 2) (st := []) (w2 := (wM E b th ma st ti sp we ho sa ca cl su)) C (c_X5_busyFrom E b th ma st ti sp we ho sa ca cl su v1 v6 g1 eg1) gX5_busyIn_X5_busyFrom rfl (by decide +kernel) rfl ⟨by decide, by decide, by decide, by decide, Nat.le_of_ble_eq_true rfl⟩ 0 rfl rfl (gSub.idx [0, 1, 2, 3, 4, 5, 6, 7] rfl rfl) rfl dX5_busyIn_80 ?_
  refine g_istore C (lv2 := [(5, .int g1), (4, .int (s0 + s1)), (0, .ref (b 0)), (1, .int v1), (2, .int v2), (3, .int v3), (6, .int v6)]) rfl (by decide) dX5_busyIn_83 ?_
  refine g_goto C (tgt := 11) dX5_busyIn_85 (by decide) ?_
  refine g_lv [2, 3, 4, 5, 1, 0] (lv2 := [(0, .ref (b 0)), (1, .int v1), (2, .int v2), (3, .int v3), (4, .int (s0 + s1)), (5, .int g1)]) rfl ?_
  exact Hko11 (s0 + s1) g1 h
set_option maxHeartbeats 4000000 in
set_option maxRecDepth 100000 in
theorem v_X5_busyIn_53 {E : gE} {X : gX} {b : Nat → Nat} {th : Int32} {ma : Int32} {st : Int32} {ti : Nat → Int32} {sp : Nat → Int32} {we : Nat → Int32} {ho : Nat → Int32} {sa : Nat → Int32} {ca : Nat → Int32} {cl : Nat → Int32} {su : Int64} {v1 : Int32} {v2 : Int32} {v3 : Int32} {v4 : Int32} {v6 : Int32} {v7 : Int32} {s0 : Int32} {ko11 : Int32 → Int32 → Option (Int32)} {o : (Int32)} (C : Cx E X cX5_busyIn 9 RX5 wsX5_busyIn r_X5_busyIn ((some .int)) []) (hQ : gQ E X (wM E b th ma st ti sp we ho sa ca cl su) r_X5_busyIn (gO (fun u9 => some (.int u9)) (fun u9 => (wM E b th ma st ti sp we ho sa ca cl su)) (.inr o))) (Hko11 : ∀ (qv4 : Int32) (qv5 : Int32), ko11 qv4 qv5 = some o → Gx E X (wM E b th ma st ti sp we ho sa ca cl su) 9 [(0, .ref (b 0)), (1, .int v1), (2, .int v2), (3, .int v3), (4, .int qv4), (5, .int qv5)] [] 11 0 0) (h : b_X5_busyIn_53 ma ti sp we ho sa ko11 v1 v2 v3 v4 v6 v7 s0 = some o) : Gx E X (wM E b th ma st ti sp we ho sa ca cl su) 9 [(0, .ref (b 0)), (1, .int v1), (2, .int v2), (3, .int v3), (4, .int v4), (6, .int v6), (7, .int v7)] [.int s0] 53 0 0 := by
  rw [b_X5_busyIn_53] at h
  refine g_istore C (lv2 := [(8, .int s0), (0, .ref (b 0)), (1, .int v1), (2, .int v2), (3, .int v3), (4, .int v4), (6, .int v6), (7, .int v7)]) rfl (by decide) dX5_busyIn_53 ?_
  refine g_iload C 5 rfl dX5_busyIn_55 ?_
  refine g_iload C 0 rfl dX5_busyIn_57 ?_
  refine g_iload C 7 rfl dX5_busyIn_59 ?_
  refine g_icmp_le C (tgt := 72) dX5_busyIn_61 (by decide) (fun cd1 => ?_) (fun cd1 => ?_)
  · replace h := (if_pos cd1).symm.trans h
    refine g_iconst C (v := 0) (by decide) dX5_busyIn_72 ?_
    refine g_lv [1, 2, 3, 4, 6] (lv2 := [(0, .ref (b 0)), (1, .int v1), (2, .int v2), (3, .int v3), (6, .int v6)]) rfl ?_
    exact v_X5_busyIn_73 (v1 := v1) (v2 := v2) (v3 := v3) (v6 := v6) (s0 := v4) (s1 := 0) C hQ Hko11 h
  · replace h := (if_neg cd1).symm.trans h
    refine g_iload C 0 rfl dX5_busyIn_64 ?_
    refine g_iload C 7 rfl dX5_busyIn_66 ?_
    refine g_isub C dX5_busyIn_68 ?_
    refine g_goto C (tgt := 73) dX5_busyIn_69 (by decide) ?_
    refine g_lv [1, 2, 3, 4, 6] (lv2 := [(0, .ref (b 0)), (1, .int v1), (2, .int v2), (3, .int v3), (6, .int v6)]) rfl ?_
    exact v_X5_busyIn_73 (v1 := v1) (v2 := v2) (v3 := v3) (v6 := v6) (s0 := v4) (s1 := (s0 - v7)) C hQ Hko11 h
set_option maxHeartbeats 4000000 in
set_option maxRecDepth 100000 in
theorem w_X5_busyIn_11 {E : gE} {X : gX} {b : Nat → Nat} {th : Int32} {ma : Int32} {st : Int32} {ti : Nat → Int32} {sp : Nat → Int32} {we : Nat → Int32} {ho : Nat → Int32} {sa : Nat → Int32} {ca : Nat → Int32} {cl : Nat → Int32} {su : Int64} {v1 : Int32} {v2 : Int32} {v3 : Int32} {o : (Int32)} (C : Cx E X cX5_busyIn 9 RX5 wsX5_busyIn r_X5_busyIn ((some .int)) []) (hQ : gQ E X (wM E b th ma st ti sp we ho sa ca cl su) r_X5_busyIn (gO (fun u9 => some (.int u9)) (fun u9 => (wM E b th ma st ti sp we ho sa ca cl su)) (.inr o))) : ∀ (F : Nat) (v4 : Int32) (v5 : Int32), l_X5_busyIn_11 ma ti sp we ho sa v1 v2 v3 F v4 v5 = some o → Gx E X (wM E b th ma st ti sp we ho sa ca cl su) 9 [(0, .ref (b 0)), (1, .int v1), (2, .int v2), (3, .int v3), (4, .int v4), (5, .int v5)] [] 11 0 0 := by
  intro F
  induction F with
  | zero => intro v4 v5 h; exact absurd h (by simp [l_X5_busyIn_11])
  | succ F ih =>
    intro v4 v5 h
    rw [l_X5_busyIn_11] at h
    refine g_iload C 5 rfl dX5_busyIn_11 ?_
    refine g_ldc C (v := 100000) m_X5_busyIn_0 dX5_busyIn_13 ?_
    refine g_icmp_ge C (tgt := 88) dX5_busyIn_15 (by decide) (fun cd1 => ?_) (fun cd1 => ?_)
    · replace h := (if_pos cd1).symm.trans h
      refine g_iload C 4 rfl dX5_busyIn_88 ?_
      obtain rfl := Option.some.inj h
      exact g_iret C hQ rfl ⟨by decide, by decide⟩ dX5_busyIn_90
    · replace h := (if_neg cd1).symm.trans h
      refine g_aload_n C 0 rfl rfl dX5_busyIn_18 ?_
      refine g_iload_n C 1 rfl rfl dX5_busyIn_19 ?_
      refine g_iload C 5 rfl dX5_busyIn_20 ?_
      obtain ⟨g2, eg2, h⟩ := Option.bind_eq_some_iff.mp h
      refine g_cVr (As := [.int v1, .int v5]) (n9 := 2) (st := []) (w2 := (wM E b th ma st ti sp we ho sa ca cl su)) C (c_X5_idleFrom E b th ma st ti sp we ho sa ca cl su v1 v5 g2 eg2) gX5_busyIn_X5_idleFrom rfl (by decide +kernel) rfl ⟨by decide, by decide, by decide, by decide, Nat.le_of_ble_eq_true rfl⟩ 0 rfl rfl (gSub.idx [0, 1, 2, 3, 4, 5, 6, 7] rfl rfl) rfl dX5_busyIn_22 ?_
      refine g_istore C (lv2 := [(6, .int g2), (0, .ref (b 0)), (1, .int v1), (2, .int v2), (3, .int v3), (4, .int v4), (5, .int v5)]) rfl (by decide) dX5_busyIn_25 ?_
      refine g_iload C 6 rfl dX5_busyIn_27 ?_
      refine g_iload_n C 3 rfl rfl dX5_busyIn_29 ?_
      refine g_icmp_ge C (tgt := 37) dX5_busyIn_30 (by decide) (fun cd3 => ?_) (fun cd3 => ?_)
      · replace h := (if_pos cd3).symm.trans h
        refine g_iload C 6 rfl dX5_busyIn_37 ?_
        refine g_istore C (lv2 := [(7, .int v5), (6, .int g2), (0, .ref (b 0)), (1, .int v1), (2, .int v2), (3, .int v3), (4, .int v4), (5, .int v5)]) rfl (by decide) dX5_busyIn_39 ?_
        refine g_iload C 1 rfl dX5_busyIn_41 ?_
        refine g_iload_n C 5 rfl rfl dX5_busyIn_43 ?_
        refine g_icmp_ge C (tgt := 52) dX5_busyIn_44 (by decide) (fun cd4 => ?_) (fun cd4 => ?_)
        · replace h := (if_pos cd4).symm.trans h
          refine g_iload_n C 5 rfl rfl dX5_busyIn_52 ?_
          refine g_lv [2, 3, 4, 5, 6, 1, 0] (lv2 := [(0, .ref (b 0)), (1, .int v1), (2, .int v2), (3, .int v3), (4, .int v4), (6, .int g2), (7, .int v5)]) rfl ?_
          exact v_X5_busyIn_53 (v1 := v1) (v2 := v2) (v3 := v3) (v4 := v4) (v6 := g2) (v7 := v5) (s0 := v3) C hQ (fun qv4 qv5 hh => ih qv4 qv5 hh) h
        · replace h := (if_neg cd4).symm.trans h
          refine g_iload C 1 rfl dX5_busyIn_47 ?_
          refine g_goto C (tgt := 53) dX5_busyIn_49 (by decide) ?_
          refine g_lv [2, 3, 4, 5, 6, 1, 0] (lv2 := [(0, .ref (b 0)), (1, .int v1), (2, .int v2), (3, .int v3), (4, .int v4), (6, .int g2), (7, .int v5)]) rfl ?_
          exact v_X5_busyIn_53 (v1 := v1) (v2 := v2) (v3 := v3) (v4 := v4) (v6 := g2) (v7 := v5) (s0 := g2) C hQ (fun qv4 qv5 hh => ih qv4 qv5 hh) h
      · replace h := (if_neg cd3).symm.trans h
        refine g_iload_n C 3 rfl rfl dX5_busyIn_33 ?_
        refine g_goto C (tgt := 39) dX5_busyIn_34 (by decide) ?_
        refine g_istore C (lv2 := [(7, .int v2), (6, .int g2), (0, .ref (b 0)), (1, .int v1), (2, .int v2), (3, .int v3), (4, .int v4), (5, .int v5)]) rfl (by decide) dX5_busyIn_39 ?_
        refine g_iload C 1 rfl dX5_busyIn_41 ?_
        refine g_iload_n C 5 rfl rfl dX5_busyIn_43 ?_
        refine g_icmp_ge C (tgt := 52) dX5_busyIn_44 (by decide) (fun cd5 => ?_) (fun cd5 => ?_)
        · replace h := (if_pos cd5).symm.trans h
          refine g_iload_n C 5 rfl rfl dX5_busyIn_52 ?_
          refine g_lv [2, 3, 4, 5, 6, 1, 0] (lv2 := [(0, .ref (b 0)), (1, .int v1), (2, .int v2), (3, .int v3), (4, .int v4), (6, .int g2), (7, .int v2)]) rfl ?_
          exact v_X5_busyIn_53 (v1 := v1) (v2 := v2) (v3 := v3) (v4 := v4) (v6 := g2) (v7 := v2) (s0 := v3) C hQ (fun qv4 qv5 hh => ih qv4 qv5 hh) h
        · replace h := (if_neg cd5).symm.trans h
          refine g_iload C 1 rfl dX5_busyIn_47 ?_
          refine g_goto C (tgt := 53) dX5_busyIn_49 (by decide) ?_
          refine g_lv [2, 3, 4, 5, 6, 1, 0] (lv2 := [(0, .ref (b 0)), (1, .int v1), (2, .int v2), (3, .int v3), (4, .int v4), (6, .int g2), (7, .int v2)]) rfl ?_
          exact v_X5_busyIn_53 (v1 := v1) (v2 := v2) (v3 := v3) (v4 := v4) (v6 := g2) (v7 := v2) (s0 := g2) C hQ (fun qv4 qv5 hh => ih qv4 qv5 hh) h
set_option maxHeartbeats 4000000 in
set_option maxRecDepth 100000 in
theorem c_X5_busyIn (E : gE) (b : Nat → Nat) (th : Int32) (ma : Int32) (st : Int32) (ti : Nat → Int32) (sp : Nat → Int32) (we : Nat → Int32) (ho : Nat → Int32) (sa : Nat → Int32) (ca : Nat → Int32) (cl : Nat → Int32) (su : Int64) (p1 : Int32) (p2 : Int32) (p3 : Int32) (o : (Int32)) (h : f_X5_busyIn ma ti sp we ho sa p1 p2 p3 = some o) : Ct E yX5_busyIn wsX5_busyIn r_X5_busyIn [.ref (b 0), .int p1, .int p2, .int p3] (wM E b th ma st ti sp we ho sa ca cl su) (gO (fun u9 => some (.int u9)) (fun u9 => (wM E b th ma st ti sp we ho sa ca cl su)) (.inr o)) := by
  refine Ct.of (cc := cX5_busyIn) (nL := 9) (ret := ((some .int))) (own := RX5) (by decide) rfl rfl (Nat.le_of_ble_eq_true rfl) rfl ?_ ?_
  · intro v w1 hh
    cases hh; rfl
  · intro X C hQ
    rw [f_X5_busyIn] at h
    refine g_iconst C (v := 0) (by decide) dX5_busyIn_0 ?_
    refine g_istore C (lv2 := [(4, .int 0), (0, .ref (b 0)), (1, .int p1), (2, .int p2), (3, .int p3)]) rfl (by decide) dX5_busyIn_1 ?_
    refine g_aload_n C 1 rfl rfl dX5_busyIn_3 ?_
    refine g_iload_n C 2 rfl rfl dX5_busyIn_4 ?_
    refine g_iconst C (v := 0) (by decide) dX5_busyIn_5 ?_
    obtain ⟨g1, eg1, h⟩ := Option.bind_eq_some_iff.mp h
    refine g_cVr (As := [.int p1, .int 0]) (n9 := 2) (st := []) (w2 := (wM E b th ma st ti sp we ho sa ca cl su)) C (c_X5_busyFrom E b th ma st ti sp we ho sa ca cl su p1 0 g1 eg1) gX5_busyIn_X5_busyFrom rfl (by decide +kernel) rfl ⟨by decide, by decide, by decide, by decide, Nat.le_of_ble_eq_true rfl⟩ 0 rfl rfl (gSub.idx [0, 1, 2, 3, 4, 5, 6, 7] rfl rfl) rfl dX5_busyIn_6 ?_
    refine g_istore C (lv2 := [(5, .int g1), (4, .int 0), (0, .ref (b 0)), (1, .int p1), (2, .int p2), (3, .int p3)]) rfl (by decide) dX5_busyIn_9 ?_
    refine g_lv [2, 3, 4, 5, 1, 0] (lv2 := [(0, .ref (b 0)), (1, .int p1), (2, .int p2), (3, .int p3), (4, .int 0), (5, .int g1)]) rfl ?_
    exact w_X5_busyIn_11 (v1 := p1) (v2 := p2) (v3 := p3) C hQ FU 0 g1 h
abbrev r_X5_busy : Room := { frames := 5, cells := 0, slots := 0, locals := 119 }
set_option maxHeartbeats 4000000 in
set_option maxRecDepth 100000 in
theorem v_X5_busy_31 {E : gE} {X : gX} {b : Nat → Nat} {th : Int32} {ma : Int32} {st : Int32} {ti : Nat → Int32} {sp : Nat → Int32} {we : Nat → Int32} {ho : Nat → Int32} {sa : Nat → Int32} {ca : Nat → Int32} {cl : Nat → Int32} {su : Int64} {v1 : Int32} {v2 : Int32} {v3 : Int32} {s1 : Bool} {thc : Int32} {o : (Int32 × Int32)} (C : Cx E X cX5_busy 4 RX5 wsX5_busy r_X5_busy ((some .int)) []) (hQ : gQ E X (wM E b th ma st ti sp we ho sa ca cl su) r_X5_busy (gO (fun u9 => some (.int u9.1)) (fun u9 => (wM E b u9.2 ma st ti sp we ho sa ca cl su)) (.inr o))) (h : b_X5_busy_31 ma ti sp we ho sa v1 v2 v3 s1 thc = some o) : Gx E X (wM E b thc ma st ti sp we ho sa ca cl su) 4 [(0, .ref (b 0)), (1, .int v1), (2, .int v2), (3, .int v3)] [.int (bI s1), .ref (b 0)] 31 0 0 := by
  rw [b_X5_busy_31] at h
  refine g_iconst C (v := 2) (by decide) dX5_busy_31 ?_
  obtain ⟨g1, eg1, h⟩ := Option.bind_eq_some_iff.mp h
  refine g_cVr (As := [.int (bI s1), .int 2]) (n9 := 2) (st := []) (w2 := (wM E b g1.2 ma st ti sp we ho sa ca cl su)) C (c_X5_isThrown E b thc ma st ti sp we ho sa ca cl su s1 2 g1 eg1) gX5_busy_X5_isThrown rfl (by decide +kernel) rfl ⟨by decide, by decide, by decide, by decide, Nat.le_of_ble_eq_true rfl⟩ 0 rfl rfl (gSub.idx [0, 1, 2, 3, 4, 5, 6, 7] rfl rfl) rfl dX5_busy_32 ?_
  refine g_if_eq C (tgt := 42) dX5_busy_35 (by decide) (fun cd2 => ?_) (fun cd2 => ?_)
  · replace h := (if_pos cd2).symm.trans h
    refine g_aload_n C 0 rfl rfl dX5_busy_42 ?_
    refine g_iload_n C 1 rfl rfl dX5_busy_43 ?_
    refine g_iload_n C 2 rfl rfl dX5_busy_44 ?_
    refine g_iload_n C 3 rfl rfl dX5_busy_45 ?_
    obtain ⟨g3, eg3, h⟩ := Option.bind_eq_some_iff.mp h
    refine g_cVr (As := [.int v1, .int v2, .int v3]) (n9 := 3) (st := []) (w2 := (wM E b g1.2 ma st ti sp we ho sa ca cl su)) C (c_X5_busyIn E b g1.2 ma st ti sp we ho sa ca cl su v1 v2 v3 g3 eg3) gX5_busy_X5_busyIn rfl (by decide +kernel) rfl ⟨by decide, by decide, by decide, by decide, Nat.le_of_ble_eq_true rfl⟩ 0 rfl rfl (gSub.idx [0, 1, 2, 3, 4, 5, 6, 7] rfl rfl) rfl dX5_busy_46 ?_
    obtain rfl := Option.some.inj h
    exact g_iret C hQ rfl ⟨by decide, by decide⟩ dX5_busy_49
  · replace h := (if_neg cd2).symm.trans h
    refine g_iconst C (v := 0) (by decide) dX5_busy_38 ?_
    refine g_goto C (tgt := 49) dX5_busy_39 (by decide) ?_
    obtain rfl := Option.some.inj h
    exact g_iret C hQ rfl ⟨by decide, by decide⟩ dX5_busy_49
set_option maxHeartbeats 4000000 in
set_option maxRecDepth 100000 in
theorem v_X5_busy_13 {E : gE} {X : gX} {b : Nat → Nat} {th : Int32} {ma : Int32} {st : Int32} {ti : Nat → Int32} {sp : Nat → Int32} {we : Nat → Int32} {ho : Nat → Int32} {sa : Nat → Int32} {ca : Nat → Int32} {cl : Nat → Int32} {su : Int64} {v1 : Int32} {v2 : Int32} {v3 : Int32} {s1 : Bool} {o : (Int32 × Int32)} (C : Cx E X cX5_busy 4 RX5 wsX5_busy r_X5_busy ((some .int)) []) (hQ : gQ E X (wM E b th ma st ti sp we ho sa ca cl su) r_X5_busy (gO (fun u9 => some (.int u9.1)) (fun u9 => (wM E b u9.2 ma st ti sp we ho sa ca cl su)) (.inr o))) (h : b_X5_busy_13 ma ti sp we ho sa v1 v2 v3 s1 = some o) : Gx E X (wM E b th ma st ti sp we ho sa ca cl su) 4 [(0, .ref (b 0)), (1, .int v1), (2, .int v2), (3, .int v3)] [.int (bI s1), .ref (b 0)] 13 0 0 := by
  rw [b_X5_busy_13] at h
  refine g_iconst C (v := 1) (by decide) dX5_busy_13 ?_
  obtain ⟨g1, eg1, h⟩ := Option.bind_eq_some_iff.mp h
  refine g_cVr (As := [.int (bI s1), .int 1]) (n9 := 2) (st := []) (w2 := (wM E b g1.2 ma st ti sp we ho sa ca cl su)) C (c_X5_isThrown E b th ma st ti sp we ho sa ca cl su s1 1 g1 eg1) gX5_busy_X5_isThrown rfl (by decide +kernel) rfl ⟨by decide, by decide, by decide, by decide, Nat.le_of_ble_eq_true rfl⟩ 0 rfl rfl (gSub.idx [0, 1, 2, 3, 4, 5, 6, 7] rfl rfl) rfl dX5_busy_14 ?_
  refine g_if_ne C (tgt := 38) dX5_busy_17 (by decide) (fun cd2 => ?_) (fun cd2 => ?_)
  · replace h := (if_neg cd2).symm.trans h
    refine g_iconst C (v := 0) (by decide) dX5_busy_38 ?_
    refine g_goto C (tgt := 49) dX5_busy_39 (by decide) ?_
    obtain rfl := Option.some.inj h
    exact g_iret C hQ rfl ⟨by decide, by decide⟩ dX5_busy_49
  · replace h := (if_pos cd2).symm.trans h
    refine g_aload_n C 0 rfl rfl dX5_busy_20 ?_
    refine g_iload_n C 2 rfl rfl dX5_busy_21 ?_
    refine g_iload_n C 3 rfl rfl dX5_busy_22 ?_
    refine g_icmp_le C (tgt := 30) dX5_busy_23 (by decide) (fun cd3 => ?_) (fun cd3 => ?_)
    · replace h := (if_pos cd3).symm.trans h
      refine g_iconst C (v := 0) (by decide) dX5_busy_30 ?_
      exact v_X5_busy_31 (v1 := v1) (v2 := v2) (v3 := v3) (s1 := false) (thc := g1.2) C hQ h
    · replace h := (if_neg cd3).symm.trans h
      refine g_iconst C (v := 1) (by decide) dX5_busy_26 ?_
      refine g_goto C (tgt := 31) dX5_busy_27 (by decide) ?_
      exact v_X5_busy_31 (v1 := v1) (v2 := v2) (v3 := v3) (s1 := true) (thc := g1.2) C hQ h
set_option maxHeartbeats 4000000 in
set_option maxRecDepth 100000 in
theorem c_X5_busy (E : gE) (b : Nat → Nat) (th : Int32) (ma : Int32) (st : Int32) (ti : Nat → Int32) (sp : Nat → Int32) (we : Nat → Int32) (ho : Nat → Int32) (sa : Nat → Int32) (ca : Nat → Int32) (cl : Nat → Int32) (su : Int64) (p1 : Int32) (p2 : Int32) (p3 : Int32) (o : (Int32 × Int32)) (h : f_X5_busy ma ti sp we ho sa p1 p2 p3 = some o) : Ct E yX5_busy wsX5_busy r_X5_busy [.ref (b 0), .int p1, .int p2, .int p3] (wM E b th ma st ti sp we ho sa ca cl su) (gO (fun u9 => some (.int u9.1)) (fun u9 => (wM E b u9.2 ma st ti sp we ho sa ca cl su)) (.inr o)) := by
  refine Ct.of (cc := cX5_busy) (nL := 4) (ret := ((some .int))) (own := RX5) (by decide) rfl rfl (Nat.le_of_ble_eq_true rfl) rfl ?_ ?_
  · intro v w1 hh
    cases hh; rfl
  · intro X C hQ
    rw [f_X5_busy] at h
    refine g_aload_n C 0 rfl rfl dX5_busy_0 ?_
    refine g_iload_n C 1 rfl rfl dX5_busy_1 ?_
    obtain ⟨g1, eg1, h⟩ := Option.bind_eq_some_iff.mp h
    refine g_cSr (As := [.int p1]) (n9 := 1) (st := [.ref (b 0)]) (w2 := (wM E b th ma st ti sp we ho sa ca cl su)) C (c_X5_isHouse E p1 g1 eg1) gX5_busy_X5_isHouse rfl (by decide +kernel) rfl ⟨by decide, by decide, by decide, by decide, Nat.le_of_ble_eq_true rfl⟩ (gSub.idx [] rfl rfl) rfl dX5_busy_2 ?_
    refine g_if_ne C (tgt := 12) dX5_busy_5 (by decide) (fun cd2 => ?_) (fun cd2 => ?_)
    · replace h := (if_neg cd2).symm.trans h
      refine g_iconst C (v := 0) (by decide) dX5_busy_12 ?_
      exact v_X5_busy_13 (v1 := p1) (v2 := p2) (v3 := p3) (s1 := false) C hQ h
    · replace h := (if_pos cd2).symm.trans h
      refine g_iconst C (v := 1) (by decide) dX5_busy_8 ?_
      refine g_goto C (tgt := 13) dX5_busy_9 (by decide) ?_
      exact v_X5_busy_13 (v1 := p1) (v2 := p2) (v3 := p3) (s1 := true) C hQ h
abbrev r_X5_spans : Room := { frames := 4, cells := 0, slots := 0, locals := 91 }
theorem m_X5_spans_0 : Cond.constant RX5 72 100000 ∈ wsX5_spans := by decide +kernel
set_option maxHeartbeats 4000000 in
set_option maxRecDepth 100000 in
theorem w_X5_spans_31 {E : gE} {X : gX} {b : Nat → Nat} {th : Int32} {ma : Int32} {st : Int32} {ti : Nat → Int32} {sp : Nat → Int32} {we : Nat → Int32} {ho : Nat → Int32} {sa : Nat → Int32} {ca : Nat → Int32} {cl : Nat → Int32} {su : Int64} {v1 : Int32} {thc : Int32} {o : (Int32 × Int32)} (C : Cx E X cX5_spans 4 RX5 wsX5_spans r_X5_spans ((some .int)) []) (hQ : gQ E X (wM E b th ma st ti sp we ho sa ca cl su) r_X5_spans (gO (fun u9 => some (.int u9.1)) (fun u9 => (wM E b u9.2 ma st ti sp we ho sa ca cl su)) (.inr o))) : ∀ (F : Nat) (v2 : Int32) (v3 : Int32), l_X5_spans_31 ma ti sp we ho sa v1 thc F v2 v3 = some o → Gx E X (wM E b thc ma st ti sp we ho sa ca cl su) 4 [(0, .ref (b 0)), (1, .int v1), (2, .int v2), (3, .int v3)] [] 31 0 0 := by
  intro F
  induction F with
  | zero => intro v2 v3 h; exact absurd h (by simp [l_X5_spans_31])
  | succ F ih =>
    intro v2 v3 h
    rw [l_X5_spans_31] at h
    refine g_iload_n C 3 rfl rfl dX5_spans_31 ?_
    refine g_ldc C (v := 100000) m_X5_spans_0 dX5_spans_32 ?_
    refine g_icmp_ge C (tgt := 55) dX5_spans_34 (by decide) (fun cd1 => ?_) (fun cd1 => ?_)
    · replace h := (if_pos cd1).symm.trans h
      refine g_iload_n C 2 rfl rfl dX5_spans_55 ?_
      obtain rfl := Option.some.inj h
      exact g_iret C hQ rfl ⟨by decide, by decide⟩ dX5_spans_56
    · replace h := (if_neg cd1).symm.trans h
      refine g_iinc C (v := v2 + 1) 2 rfl rfl (lv2 := [(2, .int (v2 + 1)), (0, .ref (b 0)), (1, .int v1), (3, .int v3)]) rfl (by decide) dX5_spans_37 ?_
      refine g_aload_n C 1 rfl rfl dX5_spans_40 ?_
      refine g_iload_n C 2 rfl rfl dX5_spans_41 ?_
      refine g_aload_n C 1 rfl rfl dX5_spans_42 ?_
      refine g_iload_n C 2 rfl rfl dX5_spans_43 ?_
      refine g_iload_n C 3 rfl rfl dX5_spans_44 ?_
      obtain ⟨g2, eg2, h⟩ := Option.bind_eq_some_iff.mp h
      refine g_cVr (As := [.int v1, .int v3]) (n9 := 2) (st := [.int v1, .ref (b 0)]) (w2 := (wM E b thc ma st ti sp we ho sa ca cl su)) C (c_X5_idleFrom E b thc ma st ti sp we ho sa ca cl su v1 v3 g2 eg2) gX5_spans_X5_idleFrom rfl (by decide +kernel) rfl ⟨by decide, by decide, by decide, by decide, Nat.le_of_ble_eq_true rfl⟩ 0 rfl rfl (gSub.idx [0, 1, 2, 3, 4, 5, 6, 7] rfl rfl) rfl dX5_spans_45 ?_
      obtain ⟨g3, eg3, h⟩ := Option.bind_eq_some_iff.mp h
      refine g_cVr (As := [.int v1, .int g2]) (n9 := 2) (st := []) (w2 := (wM E b thc ma st ti sp we ho sa ca cl su)) C (c_X5_busyFrom E b thc ma st ti sp we ho sa ca cl su v1 g2 g3 eg3) gX5_spans_X5_busyFrom rfl (by decide +kernel) rfl ⟨by decide, by decide, by decide, by decide, Nat.le_of_ble_eq_true rfl⟩ 0 rfl rfl (gSub.idx [0, 1, 2, 3, 4, 5, 6, 7] rfl rfl) rfl dX5_spans_48 ?_
      refine g_istore_n C (lv2 := [(3, .int g3), (2, .int (v2 + 1)), (0, .ref (b 0)), (1, .int v1)]) rfl (by decide) rfl dX5_spans_51 ?_
      refine g_goto C (tgt := 31) dX5_spans_52 (by decide) ?_
      refine g_lv [2, 3, 1, 0] (lv2 := [(0, .ref (b 0)), (1, .int v1), (2, .int (v2 + 1)), (3, .int g3)]) rfl ?_
      exact ih (v2 + 1) g3 h
set_option maxHeartbeats 4000000 in
set_option maxRecDepth 100000 in
theorem v_X5_spans_13 {E : gE} {X : gX} {b : Nat → Nat} {th : Int32} {ma : Int32} {st : Int32} {ti : Nat → Int32} {sp : Nat → Int32} {we : Nat → Int32} {ho : Nat → Int32} {sa : Nat → Int32} {ca : Nat → Int32} {cl : Nat → Int32} {su : Int64} {v1 : Int32} {s1 : Bool} {o : (Int32 × Int32)} (C : Cx E X cX5_spans 4 RX5 wsX5_spans r_X5_spans ((some .int)) []) (hQ : gQ E X (wM E b th ma st ti sp we ho sa ca cl su) r_X5_spans (gO (fun u9 => some (.int u9.1)) (fun u9 => (wM E b u9.2 ma st ti sp we ho sa ca cl su)) (.inr o))) (h : b_X5_spans_13 ma ti sp we ho sa v1 s1 = some o) : Gx E X (wM E b th ma st ti sp we ho sa ca cl su) 4 [(0, .ref (b 0)), (1, .int v1)] [.int (bI s1), .ref (b 0)] 13 0 0 := by
  rw [b_X5_spans_13] at h
  refine g_iconst C (v := 1) (by decide) dX5_spans_13 ?_
  obtain ⟨g1, eg1, h⟩ := Option.bind_eq_some_iff.mp h
  refine g_cVr (As := [.int (bI s1), .int 1]) (n9 := 2) (st := []) (w2 := (wM E b g1.2 ma st ti sp we ho sa ca cl su)) C (c_X5_isThrown E b th ma st ti sp we ho sa ca cl su s1 1 g1 eg1) gX5_spans_X5_isThrown rfl (by decide +kernel) rfl ⟨by decide, by decide, by decide, by decide, Nat.le_of_ble_eq_true rfl⟩ 0 rfl rfl (gSub.idx [0, 1, 2, 3, 4, 5, 6, 7] rfl rfl) rfl dX5_spans_14 ?_
  refine g_if_eq C (tgt := 22) dX5_spans_17 (by decide) (fun cd2 => ?_) (fun cd2 => ?_)
  · replace h := (if_pos cd2).symm.trans h
    refine g_iconst C (v := 0) (by decide) dX5_spans_22 ?_
    refine g_istore_n C (lv2 := [(2, .int 0), (0, .ref (b 0)), (1, .int v1)]) rfl (by decide) rfl dX5_spans_23 ?_
    refine g_aload_n C 1 rfl rfl dX5_spans_24 ?_
    refine g_iload_n C 2 rfl rfl dX5_spans_25 ?_
    refine g_iconst C (v := 0) (by decide) dX5_spans_26 ?_
    obtain ⟨g3, eg3, h⟩ := Option.bind_eq_some_iff.mp h
    refine g_cVr (As := [.int v1, .int 0]) (n9 := 2) (st := []) (w2 := (wM E b g1.2 ma st ti sp we ho sa ca cl su)) C (c_X5_busyFrom E b g1.2 ma st ti sp we ho sa ca cl su v1 0 g3 eg3) gX5_spans_X5_busyFrom rfl (by decide +kernel) rfl ⟨by decide, by decide, by decide, by decide, Nat.le_of_ble_eq_true rfl⟩ 0 rfl rfl (gSub.idx [0, 1, 2, 3, 4, 5, 6, 7] rfl rfl) rfl dX5_spans_27 ?_
    refine g_istore_n C (lv2 := [(3, .int g3), (2, .int 0), (0, .ref (b 0)), (1, .int v1)]) rfl (by decide) rfl dX5_spans_30 ?_
    refine g_lv [2, 3, 1, 0] (lv2 := [(0, .ref (b 0)), (1, .int v1), (2, .int 0), (3, .int g3)]) rfl ?_
    exact w_X5_spans_31 (v1 := v1) (thc := g1.2) C hQ FU 0 g3 h
  · replace h := (if_neg cd2).symm.trans h
    refine g_iconst C (v := 0) (by decide) dX5_spans_20 ?_
    obtain rfl := Option.some.inj h
    exact g_iret C hQ rfl ⟨by decide, by decide⟩ dX5_spans_21
set_option maxHeartbeats 4000000 in
set_option maxRecDepth 100000 in
theorem c_X5_spans (E : gE) (b : Nat → Nat) (th : Int32) (ma : Int32) (st : Int32) (ti : Nat → Int32) (sp : Nat → Int32) (we : Nat → Int32) (ho : Nat → Int32) (sa : Nat → Int32) (ca : Nat → Int32) (cl : Nat → Int32) (su : Int64) (p1 : Int32) (o : (Int32 × Int32)) (h : f_X5_spans ma ti sp we ho sa p1 = some o) : Ct E yX5_spans wsX5_spans r_X5_spans [.ref (b 0), .int p1] (wM E b th ma st ti sp we ho sa ca cl su) (gO (fun u9 => some (.int u9.1)) (fun u9 => (wM E b u9.2 ma st ti sp we ho sa ca cl su)) (.inr o)) := by
  refine Ct.of (cc := cX5_spans) (nL := 4) (ret := ((some .int))) (own := RX5) (by decide) rfl rfl (Nat.le_of_ble_eq_true rfl) rfl ?_ ?_
  · intro v w1 hh
    cases hh; rfl
  · intro X C hQ
    rw [f_X5_spans] at h
    refine g_aload_n C 0 rfl rfl dX5_spans_0 ?_
    refine g_iload_n C 1 rfl rfl dX5_spans_1 ?_
    obtain ⟨g1, eg1, h⟩ := Option.bind_eq_some_iff.mp h
    refine g_cSr (As := [.int p1]) (n9 := 1) (st := [.ref (b 0)]) (w2 := (wM E b th ma st ti sp we ho sa ca cl su)) C (c_X5_isHouse E p1 g1 eg1) gX5_spans_X5_isHouse rfl (by decide +kernel) rfl ⟨by decide, by decide, by decide, by decide, Nat.le_of_ble_eq_true rfl⟩ (gSub.idx [] rfl rfl) rfl dX5_spans_2 ?_
    refine g_if_ne C (tgt := 12) dX5_spans_5 (by decide) (fun cd2 => ?_) (fun cd2 => ?_)
    · replace h := (if_neg cd2).symm.trans h
      refine g_iconst C (v := 0) (by decide) dX5_spans_12 ?_
      exact v_X5_spans_13 (v1 := p1) (s1 := false) C hQ h
    · replace h := (if_pos cd2).symm.trans h
      refine g_iconst C (v := 1) (by decide) dX5_spans_8 ?_
      refine g_goto C (tgt := 13) dX5_spans_9 (by decide) ?_
      exact v_X5_spans_13 (v1 := p1) (s1 := true) C hQ h
abbrev r_X5_span : Room := { frames := 4, cells := 0, slots := 0, locals := 92 }
theorem m_X5_span_0 : Cond.constant RX5 72 100000 ∈ wsX5_span := by decide +kernel
set_option maxHeartbeats 4000000 in
set_option maxRecDepth 100000 in
theorem v_X5_span_114 {E : gE} {X : gX} {b : Nat → Nat} {th : Int32} {ma : Int32} {st : Int32} {ti : Nat → Int32} {sp : Nat → Int32} {we : Nat → Int32} {ho : Nat → Int32} {sa : Nat → Int32} {ca : Nat → Int32} {cl : Nat → Int32} {su : Int64} {v1 : Int32} {v3 : Int32} {v4 : Int32} {s1 : Bool} {thc : Int32} {o : (Int32 × Int32)} (C : Cx E X cX5_span 6 RX5 wsX5_span r_X5_span ((some .int)) []) (hQ : gQ E X (wM E b th ma st ti sp we ho sa ca cl su) r_X5_span (gO (fun u9 => some (.int u9.1)) (fun u9 => (wM E b u9.2 ma st ti sp we ho sa ca cl su)) (.inr o))) (h : b_X5_span_114 ma ti sp we ho sa v1 v3 v4 s1 thc = some o) : Gx E X (wM E b thc ma st ti sp we ho sa ca cl su) 6 [(0, .ref (b 0)), (1, .int v1), (3, .int v3), (4, .int v4)] [.int (bI s1), .ref (b 0)] 114 0 0 := by
  rw [b_X5_span_114] at h
  refine g_iconst C (v := 3) (by decide) dX5_span_114 ?_
  obtain ⟨g1, eg1, h⟩ := Option.bind_eq_some_iff.mp h
  refine g_cVr (As := [.int (bI s1), .int 3]) (n9 := 2) (st := []) (w2 := (wM E b g1.2 ma st ti sp we ho sa ca cl su)) C (c_X5_isThrown E b thc ma st ti sp we ho sa ca cl su s1 3 g1 eg1) gX5_span_X5_isThrown rfl (by decide +kernel) rfl ⟨by decide, by decide, by decide, by decide, Nat.le_of_ble_eq_true rfl⟩ 0 rfl rfl (gSub.idx [0, 1, 2, 3, 4, 5, 6, 7] rfl rfl) rfl dX5_span_115 ?_
  refine g_if_eq C (tgt := 123) dX5_span_118 (by decide) (fun cd2 => ?_) (fun cd2 => ?_)
  · replace h := (if_pos cd2).symm.trans h
    refine g_aload_n C 0 rfl rfl dX5_span_123 ?_
    refine g_iload_n C 1 rfl rfl dX5_span_124 ?_
    refine g_iload C 3 rfl dX5_span_125 ?_
    obtain ⟨g3, eg3, h⟩ := Option.bind_eq_some_iff.mp h
    refine g_cVr (As := [.int v1, .int v4]) (n9 := 2) (st := []) (w2 := (wM E b g1.2 ma st ti sp we ho sa ca cl su)) C (c_X5_idleFrom E b g1.2 ma st ti sp we ho sa ca cl su v1 v4 g3 eg3) gX5_span_X5_idleFrom rfl (by decide +kernel) rfl ⟨by decide, by decide, by decide, by decide, Nat.le_of_ble_eq_true rfl⟩ 0 rfl rfl (gSub.idx [0, 1, 2, 3, 4, 5, 6, 7] rfl rfl) rfl dX5_span_127 ?_
    refine g_istore C (lv2 := [(5, .int g3), (0, .ref (b 0)), (1, .int v1), (3, .int v3), (4, .int v4)]) rfl (by decide) dX5_span_130 ?_
    refine g_iload_n C 3 rfl rfl dX5_span_132 ?_
    refine g_bipush C (v := 98) (by decide) dX5_span_133 ?_
    refine g_icmp_ne C (tgt := 143) dX5_span_135 (by decide) (fun cd4 => ?_) (fun cd4 => ?_)
    · replace h := (if_neg cd4).symm.trans h
      refine g_iload_n C 3 rfl rfl dX5_span_143 ?_
      refine g_bipush C (v := 101) (by decide) dX5_span_144 ?_
      refine g_icmp_ne C (tgt := 154) dX5_span_146 (by decide) (fun cd5 => ?_) (fun cd5 => ?_)
      · replace h := (if_neg cd5).symm.trans h
        refine g_aload_n C 1 rfl rfl dX5_span_154 ?_
        refine g_iload_n C 2 rfl rfl dX5_span_155 ?_
        refine g_iload C 4 rfl dX5_span_156 ?_
        refine g_iload C 0 rfl dX5_span_158 ?_
        obtain ⟨g6, eg6, h⟩ := Option.bind_eq_some_iff.mp h
        refine g_cVr (As := [.int v1, .int v4, .int g3]) (n9 := 3) (st := []) (w2 := (wM E b g1.2 ma st ti sp we ho sa ca cl su)) C (c_X5_greatestIn E b g1.2 ma st ti sp we ho sa ca cl su v1 v4 g3 g6 eg6) gX5_span_X5_greatestIn rfl (by decide +kernel) rfl ⟨by decide, by decide, by decide, by decide, Nat.le_of_ble_eq_true rfl⟩ 0 rfl rfl (gSub.idx [0, 1, 2, 3, 4, 5, 6, 7] rfl rfl) rfl dX5_span_160 ?_
        obtain rfl := Option.some.inj h
        exact g_iret C hQ rfl ⟨by decide, by decide⟩ dX5_span_163
      · replace h := (if_pos cd5).symm.trans h
        refine g_iload C 0 rfl dX5_span_149 ?_
        refine g_goto C (tgt := 163) dX5_span_151 (by decide) ?_
        obtain rfl := Option.some.inj h
        exact g_iret C hQ rfl ⟨by decide, by decide⟩ dX5_span_163
    · replace h := (if_pos cd4).symm.trans h
      refine g_iload C 4 rfl dX5_span_138 ?_
      refine g_goto C (tgt := 163) dX5_span_140 (by decide) ?_
      obtain rfl := Option.some.inj h
      exact g_iret C hQ rfl ⟨by decide, by decide⟩ dX5_span_163
  · replace h := (if_neg cd2).symm.trans h
    refine g_iconst C (v := 0) (by decide) dX5_span_121 ?_
    obtain rfl := Option.some.inj h
    exact g_iret C hQ rfl ⟨by decide, by decide⟩ dX5_span_122
set_option maxHeartbeats 4000000 in
set_option maxRecDepth 100000 in
theorem v_X5_span_97 {E : gE} {X : gX} {b : Nat → Nat} {th : Int32} {ma : Int32} {st : Int32} {ti : Nat → Int32} {sp : Nat → Int32} {we : Nat → Int32} {ho : Nat → Int32} {sa : Nat → Int32} {ca : Nat → Int32} {cl : Nat → Int32} {su : Int64} {v1 : Int32} {v2 : Int32} {v3 : Int32} {v4 : Int32} {thc : Int32} {o : (Int32 × Int32)} (C : Cx E X cX5_span 6 RX5 wsX5_span r_X5_span ((some .int)) []) (hQ : gQ E X (wM E b th ma st ti sp we ho sa ca cl su) r_X5_span (gO (fun u9 => some (.int u9.1)) (fun u9 => (wM E b u9.2 ma st ti sp we ho sa ca cl su)) (.inr o))) (h : b_X5_span_97 ma ti sp we ho sa v1 v2 v3 v4 thc = some o) : Gx E X (wM E b thc ma st ti sp we ho sa ca cl su) 6 [(0, .ref (b 0)), (1, .int v1), (2, .int v2), (3, .int v3), (4, .int v4)] [] 97 0 0 := by
  rw [b_X5_span_97] at h
  refine g_aload_n C 0 rfl rfl dX5_span_97 ?_
  refine g_iload_n C 2 rfl rfl dX5_span_98 ?_
  refine g_if_lt C (tgt := 109) dX5_span_99 (by decide) (fun cd1 => ?_) (fun cd1 => ?_)
  · replace h := (if_pos cd1).symm.trans h
    refine g_iconst C (v := 1) (by decide) dX5_span_109 ?_
    refine g_goto C (tgt := 114) dX5_span_110 (by decide) ?_
    refine g_lv [0, 1, 3, 4] (lv2 := [(0, .ref (b 0)), (1, .int v1), (3, .int v3), (4, .int v4)]) rfl ?_
    exact v_X5_span_114 (v1 := v1) (v3 := v3) (v4 := v4) (s1 := true) (thc := thc) C hQ h
  · replace h := (if_neg cd1).symm.trans h
    refine g_iload C 4 rfl dX5_span_102 ?_
    refine g_ldc C (v := 100000) m_X5_span_0 dX5_span_104 ?_
    refine g_icmp_ne C (tgt := 113) dX5_span_106 (by decide) (fun cd2 => ?_) (fun cd2 => ?_)
    · replace h := (if_neg cd2).symm.trans h
      refine g_iconst C (v := 0) (by decide) dX5_span_113 ?_
      refine g_lv [0, 1, 3, 4] (lv2 := [(0, .ref (b 0)), (1, .int v1), (3, .int v3), (4, .int v4)]) rfl ?_
      exact v_X5_span_114 (v1 := v1) (v3 := v3) (v4 := v4) (s1 := false) (thc := thc) C hQ h
    · replace h := (if_pos cd2).symm.trans h
      refine g_iconst C (v := 1) (by decide) dX5_span_109 ?_
      refine g_goto C (tgt := 114) dX5_span_110 (by decide) ?_
      refine g_lv [0, 1, 3, 4] (lv2 := [(0, .ref (b 0)), (1, .int v1), (3, .int v3), (4, .int v4)]) rfl ?_
      exact v_X5_span_114 (v1 := v1) (v3 := v3) (v4 := v4) (s1 := true) (thc := thc) C hQ h
set_option maxHeartbeats 4000000 in
set_option maxRecDepth 100000 in
theorem w_X5_span_64 {E : gE} {X : gX} {b : Nat → Nat} {th : Int32} {ma : Int32} {st : Int32} {ti : Nat → Int32} {sp : Nat → Int32} {we : Nat → Int32} {ho : Nat → Int32} {sa : Nat → Int32} {ca : Nat → Int32} {cl : Nat → Int32} {su : Int64} {v1 : Int32} {v2 : Int32} {v3 : Int32} {thc : Int32} {o : (Int32 × Int32)} (C : Cx E X cX5_span 6 RX5 wsX5_span r_X5_span ((some .int)) []) (hQ : gQ E X (wM E b th ma st ti sp we ho sa ca cl su) r_X5_span (gO (fun u9 => some (.int u9.1)) (fun u9 => (wM E b u9.2 ma st ti sp we ho sa ca cl su)) (.inr o))) : ∀ (F : Nat) (v4 : Int32) (v5 : Int32), l_X5_span_64 ma ti sp we ho sa v1 v2 v3 thc F v4 v5 = some o → Gx E X (wM E b thc ma st ti sp we ho sa ca cl su) 6 [(0, .ref (b 0)), (1, .int v1), (2, .int v2), (3, .int v3), (4, .int v4), (5, .int v5)] [] 64 0 0 := by
  intro F
  induction F with
  | zero => intro v4 v5 h; exact absurd h (by simp [l_X5_span_64])
  | succ F ih =>
    intro v4 v5 h
    rw [l_X5_span_64] at h
    refine g_iload C 5 rfl dX5_span_64 ?_
    refine g_iload_n C 2 rfl rfl dX5_span_66 ?_
    refine g_icmp_ge C (tgt := 97) dX5_span_67 (by decide) (fun cd1 => ?_) (fun cd1 => ?_)
    · replace h := (if_pos cd1).symm.trans h
      refine g_lv [0, 1, 2, 3, 4] (lv2 := [(0, .ref (b 0)), (1, .int v1), (2, .int v2), (3, .int v3), (4, .int v4)]) rfl ?_
      exact v_X5_span_97 (v1 := v1) (v2 := v2) (v3 := v3) (v4 := v4) (thc := thc) C hQ h
    · replace h := (if_neg cd1).symm.trans h
      refine g_iload C 4 rfl dX5_span_70 ?_
      refine g_ldc C (v := 100000) m_X5_span_0 dX5_span_72 ?_
      refine g_icmp_ge C (tgt := 97) dX5_span_74 (by decide) (fun cd2 => ?_) (fun cd2 => ?_)
      · replace h := (if_pos cd2).symm.trans h
        refine g_lv [0, 1, 2, 3, 4] (lv2 := [(0, .ref (b 0)), (1, .int v1), (2, .int v2), (3, .int v3), (4, .int v4)]) rfl ?_
        exact v_X5_span_97 (v1 := v1) (v2 := v2) (v3 := v3) (v4 := v4) (thc := thc) C hQ h
      · replace h := (if_neg cd2).symm.trans h
        refine g_aload_n C 0 rfl rfl dX5_span_77 ?_
        refine g_iload_n C 1 rfl rfl dX5_span_78 ?_
        refine g_aload_n C 0 rfl rfl dX5_span_79 ?_
        refine g_iload_n C 1 rfl rfl dX5_span_80 ?_
        refine g_iload C 4 rfl dX5_span_81 ?_
        obtain ⟨g3, eg3, h⟩ := Option.bind_eq_some_iff.mp h
        refine g_cVr (As := [.int v1, .int v4]) (n9 := 2) (st := [.int v1, .ref (b 0)]) (w2 := (wM E b thc ma st ti sp we ho sa ca cl su)) C (c_X5_idleFrom E b thc ma st ti sp we ho sa ca cl su v1 v4 g3 eg3) gX5_span_X5_idleFrom rfl (by decide +kernel) rfl ⟨by decide, by decide, by decide, by decide, Nat.le_of_ble_eq_true rfl⟩ 0 rfl rfl (gSub.idx [0, 1, 2, 3, 4, 5, 6, 7] rfl rfl) rfl dX5_span_83 ?_
        obtain ⟨g4, eg4, h⟩ := Option.bind_eq_some_iff.mp h
        refine g_cVr (As := [.int v1, .int g3]) (n9 := 2) (st := []) (w2 := (wM E b thc ma st ti sp we ho sa ca cl su)) C (c_X5_busyFrom E b thc ma st ti sp we ho sa ca cl su v1 g3 g4 eg4) gX5_span_X5_busyFrom rfl (by decide +kernel) rfl ⟨by decide, by decide, by decide, by decide, Nat.le_of_ble_eq_true rfl⟩ 0 rfl rfl (gSub.idx [0, 1, 2, 3, 4, 5, 6, 7] rfl rfl) rfl dX5_span_86 ?_
        refine g_istore C (lv2 := [(4, .int g4), (0, .ref (b 0)), (1, .int v1), (2, .int v2), (3, .int v3), (5, .int v5)]) rfl (by decide) dX5_span_89 ?_
        refine g_iinc C (v := v5 + 1) 5 rfl rfl (lv2 := [(5, .int (v5 + 1)), (4, .int g4), (0, .ref (b 0)), (1, .int v1), (2, .int v2), (3, .int v3)]) rfl (by decide) dX5_span_91 ?_
        refine g_goto C (tgt := 64) dX5_span_94 (by decide) ?_
        refine g_lv [2, 3, 4, 5, 1, 0] (lv2 := [(0, .ref (b 0)), (1, .int v1), (2, .int v2), (3, .int v3), (4, .int g4), (5, .int (v5 + 1))]) rfl ?_
        exact ih g4 (v5 + 1) h
set_option maxHeartbeats 4000000 in
set_option maxRecDepth 100000 in
theorem v_X5_span_44 {E : gE} {X : gX} {b : Nat → Nat} {th : Int32} {ma : Int32} {st : Int32} {ti : Nat → Int32} {sp : Nat → Int32} {we : Nat → Int32} {ho : Nat → Int32} {sa : Nat → Int32} {ca : Nat → Int32} {cl : Nat → Int32} {su : Int64} {v1 : Int32} {v2 : Int32} {v3 : Int32} {s1 : Bool} {thc : Int32} {o : (Int32 × Int32)} (C : Cx E X cX5_span 6 RX5 wsX5_span r_X5_span ((some .int)) []) (hQ : gQ E X (wM E b th ma st ti sp we ho sa ca cl su) r_X5_span (gO (fun u9 => some (.int u9.1)) (fun u9 => (wM E b u9.2 ma st ti sp we ho sa ca cl su)) (.inr o))) (h : b_X5_span_44 ma ti sp we ho sa v1 v2 v3 s1 thc = some o) : Gx E X (wM E b thc ma st ti sp we ho sa ca cl su) 6 [(0, .ref (b 0)), (1, .int v1), (2, .int v2), (3, .int v3)] [.int (bI s1), .ref (b 0)] 44 0 0 := by
  rw [b_X5_span_44] at h
  refine g_iconst C (v := 2) (by decide) dX5_span_44 ?_
  obtain ⟨g1, eg1, h⟩ := Option.bind_eq_some_iff.mp h
  refine g_cVr (As := [.int (bI s1), .int 2]) (n9 := 2) (st := []) (w2 := (wM E b g1.2 ma st ti sp we ho sa ca cl su)) C (c_X5_isThrown E b thc ma st ti sp we ho sa ca cl su s1 2 g1 eg1) gX5_span_X5_isThrown rfl (by decide +kernel) rfl ⟨by decide, by decide, by decide, by decide, Nat.le_of_ble_eq_true rfl⟩ 0 rfl rfl (gSub.idx [0, 1, 2, 3, 4, 5, 6, 7] rfl rfl) rfl dX5_span_45 ?_
  refine g_if_eq C (tgt := 53) dX5_span_48 (by decide) (fun cd2 => ?_) (fun cd2 => ?_)
  · replace h := (if_pos cd2).symm.trans h
    refine g_aload_n C 0 rfl rfl dX5_span_53 ?_
    refine g_iload_n C 1 rfl rfl dX5_span_54 ?_
    refine g_iconst C (v := 0) (by decide) dX5_span_55 ?_
    obtain ⟨g3, eg3, h⟩ := Option.bind_eq_some_iff.mp h
    refine g_cVr (As := [.int v1, .int 0]) (n9 := 2) (st := []) (w2 := (wM E b g1.2 ma st ti sp we ho sa ca cl su)) C (c_X5_busyFrom E b g1.2 ma st ti sp we ho sa ca cl su v1 0 g3 eg3) gX5_span_X5_busyFrom rfl (by decide +kernel) rfl ⟨by decide, by decide, by decide, by decide, Nat.le_of_ble_eq_true rfl⟩ 0 rfl rfl (gSub.idx [0, 1, 2, 3, 4, 5, 6, 7] rfl rfl) rfl dX5_span_56 ?_
    refine g_istore C (lv2 := [(4, .int g3), (0, .ref (b 0)), (1, .int v1), (2, .int v2), (3, .int v3)]) rfl (by decide) dX5_span_59 ?_
    refine g_iconst C (v := 0) (by decide) dX5_span_61 ?_
    refine g_istore C (lv2 := [(5, .int 0), (4, .int g3), (0, .ref (b 0)), (1, .int v1), (2, .int v2), (3, .int v3)]) rfl (by decide) dX5_span_62 ?_
    refine g_lv [2, 3, 4, 5, 1, 0] (lv2 := [(0, .ref (b 0)), (1, .int v1), (2, .int v2), (3, .int v3), (4, .int g3), (5, .int 0)]) rfl ?_
    exact w_X5_span_64 (v1 := v1) (v2 := v2) (v3 := v3) (thc := g1.2) C hQ FU g3 0 h
  · replace h := (if_neg cd2).symm.trans h
    refine g_iconst C (v := 0) (by decide) dX5_span_51 ?_
    obtain rfl := Option.some.inj h
    exact g_iret C hQ rfl ⟨by decide, by decide⟩ dX5_span_52
set_option maxHeartbeats 4000000 in
set_option maxRecDepth 100000 in
theorem v_X5_span_13 {E : gE} {X : gX} {b : Nat → Nat} {th : Int32} {ma : Int32} {st : Int32} {ti : Nat → Int32} {sp : Nat → Int32} {we : Nat → Int32} {ho : Nat → Int32} {sa : Nat → Int32} {ca : Nat → Int32} {cl : Nat → Int32} {su : Int64} {v1 : Int32} {v2 : Int32} {v3 : Int32} {s1 : Bool} {o : (Int32 × Int32)} (C : Cx E X cX5_span 6 RX5 wsX5_span r_X5_span ((some .int)) []) (hQ : gQ E X (wM E b th ma st ti sp we ho sa ca cl su) r_X5_span (gO (fun u9 => some (.int u9.1)) (fun u9 => (wM E b u9.2 ma st ti sp we ho sa ca cl su)) (.inr o))) (h : b_X5_span_13 ma ti sp we ho sa v1 v2 v3 s1 = some o) : Gx E X (wM E b th ma st ti sp we ho sa ca cl su) 6 [(0, .ref (b 0)), (1, .int v1), (2, .int v2), (3, .int v3)] [.int (bI s1), .ref (b 0)] 13 0 0 := by
  rw [b_X5_span_13] at h
  refine g_iconst C (v := 1) (by decide) dX5_span_13 ?_
  obtain ⟨g1, eg1, h⟩ := Option.bind_eq_some_iff.mp h
  refine g_cVr (As := [.int (bI s1), .int 1]) (n9 := 2) (st := []) (w2 := (wM E b g1.2 ma st ti sp we ho sa ca cl su)) C (c_X5_isThrown E b th ma st ti sp we ho sa ca cl su s1 1 g1 eg1) gX5_span_X5_isThrown rfl (by decide +kernel) rfl ⟨by decide, by decide, by decide, by decide, Nat.le_of_ble_eq_true rfl⟩ 0 rfl rfl (gSub.idx [0, 1, 2, 3, 4, 5, 6, 7] rfl rfl) rfl dX5_span_14 ?_
  refine g_if_ne C (tgt := 51) dX5_span_17 (by decide) (fun cd2 => ?_) (fun cd2 => ?_)
  · replace h := (if_neg cd2).symm.trans h
    refine g_iconst C (v := 0) (by decide) dX5_span_51 ?_
    obtain rfl := Option.some.inj h
    exact g_iret C hQ rfl ⟨by decide, by decide⟩ dX5_span_52
  · replace h := (if_pos cd2).symm.trans h
    refine g_aload_n C 0 rfl rfl dX5_span_20 ?_
    refine g_iload_n C 3 rfl rfl dX5_span_21 ?_
    refine g_bipush C (v := 98) (by decide) dX5_span_22 ?_
    refine g_icmp_eq C (tgt := 43) dX5_span_24 (by decide) (fun cd3 => ?_) (fun cd3 => ?_)
    · replace h := (if_pos cd3).symm.trans h
      refine g_iconst C (v := 0) (by decide) dX5_span_43 ?_
      exact v_X5_span_44 (v1 := v1) (v2 := v2) (v3 := v3) (s1 := false) (thc := g1.2) C hQ h
    · replace h := (if_neg cd3).symm.trans h
      refine g_iload_n C 3 rfl rfl dX5_span_27 ?_
      refine g_bipush C (v := 101) (by decide) dX5_span_28 ?_
      refine g_icmp_eq C (tgt := 43) dX5_span_30 (by decide) (fun cd4 => ?_) (fun cd4 => ?_)
      · replace h := (if_pos cd4).symm.trans h
        refine g_iconst C (v := 0) (by decide) dX5_span_43 ?_
        exact v_X5_span_44 (v1 := v1) (v2 := v2) (v3 := v3) (s1 := false) (thc := g1.2) C hQ h
      · replace h := (if_neg cd4).symm.trans h
        refine g_iload_n C 3 rfl rfl dX5_span_33 ?_
        refine g_bipush C (v := 103) (by decide) dX5_span_34 ?_
        refine g_icmp_eq C (tgt := 43) dX5_span_36 (by decide) (fun cd5 => ?_) (fun cd5 => ?_)
        · replace h := (if_pos cd5).symm.trans h
          refine g_iconst C (v := 0) (by decide) dX5_span_43 ?_
          exact v_X5_span_44 (v1 := v1) (v2 := v2) (v3 := v3) (s1 := false) (thc := g1.2) C hQ h
        · replace h := (if_neg cd5).symm.trans h
          refine g_iconst C (v := 1) (by decide) dX5_span_39 ?_
          refine g_goto C (tgt := 44) dX5_span_40 (by decide) ?_
          exact v_X5_span_44 (v1 := v1) (v2 := v2) (v3 := v3) (s1 := true) (thc := g1.2) C hQ h
set_option maxHeartbeats 4000000 in
set_option maxRecDepth 100000 in
theorem c_X5_span (E : gE) (b : Nat → Nat) (th : Int32) (ma : Int32) (st : Int32) (ti : Nat → Int32) (sp : Nat → Int32) (we : Nat → Int32) (ho : Nat → Int32) (sa : Nat → Int32) (ca : Nat → Int32) (cl : Nat → Int32) (su : Int64) (p1 : Int32) (p2 : Int32) (p3 : Int32) (o : (Int32 × Int32)) (h : f_X5_span ma ti sp we ho sa p1 p2 p3 = some o) : Ct E yX5_span wsX5_span r_X5_span [.ref (b 0), .int p1, .int p2, .int p3] (wM E b th ma st ti sp we ho sa ca cl su) (gO (fun u9 => some (.int u9.1)) (fun u9 => (wM E b u9.2 ma st ti sp we ho sa ca cl su)) (.inr o)) := by
  refine Ct.of (cc := cX5_span) (nL := 6) (ret := ((some .int))) (own := RX5) (by decide) rfl rfl (Nat.le_of_ble_eq_true rfl) rfl ?_ ?_
  · intro v w1 hh
    cases hh; rfl
  · intro X C hQ
    rw [f_X5_span] at h
    refine g_aload_n C 0 rfl rfl dX5_span_0 ?_
    refine g_iload_n C 1 rfl rfl dX5_span_1 ?_
    obtain ⟨g1, eg1, h⟩ := Option.bind_eq_some_iff.mp h
    refine g_cSr (As := [.int p1]) (n9 := 1) (st := [.ref (b 0)]) (w2 := (wM E b th ma st ti sp we ho sa ca cl su)) C (c_X5_isHouse E p1 g1 eg1) gX5_span_X5_isHouse rfl (by decide +kernel) rfl ⟨by decide, by decide, by decide, by decide, Nat.le_of_ble_eq_true rfl⟩ (gSub.idx [] rfl rfl) rfl dX5_span_2 ?_
    refine g_if_ne C (tgt := 12) dX5_span_5 (by decide) (fun cd2 => ?_) (fun cd2 => ?_)
    · replace h := (if_neg cd2).symm.trans h
      refine g_iconst C (v := 0) (by decide) dX5_span_12 ?_
      exact v_X5_span_13 (v1 := p1) (v2 := p2) (v3 := p3) (s1 := false) C hQ h
    · replace h := (if_pos cd2).symm.trans h
      refine g_iconst C (v := 1) (by decide) dX5_span_8 ?_
      refine g_goto C (tgt := 13) dX5_span_9 (by decide) ?_
      exact v_X5_span_13 (v1 := p1) (v2 := p2) (v3 := p3) (s1 := true) C hQ h
abbrev r_X5_free : Room := { frames := 4, cells := 0, slots := 0, locals := 91 }
set_option maxHeartbeats 4000000 in
set_option maxRecDepth 100000 in
theorem w_X5_free_69 {E : gE} {X : gX} {b : Nat → Nat} {th : Int32} {ma : Int32} {st : Int32} {ti : Nat → Int32} {sp : Nat → Int32} {we : Nat → Int32} {ho : Nat → Int32} {sa : Nat → Int32} {ca : Nat → Int32} {cl : Nat → Int32} {su : Int64} {v1 : Int32} {v3 : Int32} {thc : Int32} {o : (Int32 × Int32)} (C : Cx E X cX5_free 6 RX5 wsX5_free r_X5_free ((some .int)) []) (hQ : gQ E X (wM E b th ma st ti sp we ho sa ca cl su) r_X5_free (gO (fun u9 => some (.int u9.1)) (fun u9 => (wM E b u9.2 ma st ti sp we ho sa ca cl su)) (.inr o))) : ∀ (F : Nat) (v4 : Int32) (v5 : Int32), l_X5_free_69 ma ti sp we ho sa v1 v3 thc F v4 v5 = some o → Gx E X (wM E b thc ma st ti sp we ho sa ca cl su) 6 [(0, .ref (b 0)), (1, .int v1), (3, .int v3), (4, .int v4), (5, .int v5)] [] 69 0 0 := by
  intro F
  induction F with
  | zero => intro v4 v5 h; exact absurd h (by simp [l_X5_free_69])
  | succ F ih =>
    intro v4 v5 h
    rw [l_X5_free_69] at h
    refine g_iload C 4 rfl dX5_free_69 ?_
    refine g_iload C 3 rfl dX5_free_71 ?_
    refine g_isub C dX5_free_73 ?_
    refine g_iload_n C 2 rfl rfl dX5_free_74 ?_
    refine g_icmp_ge C (tgt := 99) dX5_free_75 (by decide) (fun cd1 => ?_) (fun cd1 => ?_)
    · replace h := (if_pos cd1).symm.trans h
      refine g_iload C 3 rfl dX5_free_99 ?_
      obtain rfl := Option.some.inj h
      exact g_iret C hQ rfl ⟨by decide, by decide⟩ dX5_free_101
    · replace h := (if_neg cd1).symm.trans h
      refine g_aload_n C 0 rfl rfl dX5_free_78 ?_
      refine g_iload_n C 1 rfl rfl dX5_free_79 ?_
      refine g_iload C 4 rfl dX5_free_80 ?_
      obtain ⟨g2, eg2, h⟩ := Option.bind_eq_some_iff.mp h
      refine g_cVr (As := [.int v1, .int v5]) (n9 := 2) (st := []) (w2 := (wM E b thc ma st ti sp we ho sa ca cl su)) C (c_X5_idleFrom E b thc ma st ti sp we ho sa ca cl su v1 v5 g2 eg2) gX5_free_X5_idleFrom rfl (by decide +kernel) rfl ⟨by decide, by decide, by decide, by decide, Nat.le_of_ble_eq_true rfl⟩ 0 rfl rfl (gSub.idx [0, 1, 2, 3, 4, 5, 6, 7] rfl rfl) rfl dX5_free_82 ?_
      refine g_istore C (lv2 := [(4, .int g2), (0, .ref (b 0)), (1, .int v1), (3, .int v3), (5, .int v5)]) rfl (by decide) dX5_free_85 ?_
      refine g_aload_n C 1 rfl rfl dX5_free_87 ?_
      refine g_iload_n C 2 rfl rfl dX5_free_88 ?_
      refine g_iload C 0 rfl dX5_free_89 ?_
      obtain ⟨g3, eg3, h⟩ := Option.bind_eq_some_iff.mp h
      refine g_cVr (As := [.int v1, .int g2]) (n9 := 2) (st := []) (w2 := (wM E b thc ma st ti sp we ho sa ca cl su)) C (c_X5_busyFrom E b thc ma st ti sp we ho sa ca cl su v1 g2 g3 eg3) gX5_free_X5_busyFrom rfl (by decide +kernel) rfl ⟨by decide, by decide, by decide, by decide, Nat.le_of_ble_eq_true rfl⟩ 0 rfl rfl (gSub.idx [0, 1, 2, 3, 4, 5, 6, 7] rfl rfl) rfl dX5_free_91 ?_
      refine g_istore C (lv2 := [(5, .int g3), (4, .int g2), (0, .ref (b 0)), (1, .int v1), (3, .int v3)]) rfl (by decide) dX5_free_94 ?_
      refine g_goto C (tgt := 69) dX5_free_96 (by decide) ?_
      refine g_lv [2, 3, 4, 1, 0] (lv2 := [(0, .ref (b 0)), (1, .int v1), (3, .int v3), (4, .int g2), (5, .int g3)]) rfl ?_
      exact ih g2 g3 h
set_option maxHeartbeats 4000000 in
set_option maxRecDepth 100000 in
theorem v_X5_free_48 {E : gE} {X : gX} {b : Nat → Nat} {th : Int32} {ma : Int32} {st : Int32} {ti : Nat → Int32} {sp : Nat → Int32} {we : Nat → Int32} {ho : Nat → Int32} {sa : Nat → Int32} {ca : Nat → Int32} {cl : Nat → Int32} {su : Int64} {v1 : Int32} {v2 : Int32} {v3 : Int32} {s1 : Bool} {thc : Int32} {o : (Int32 × Int32)} (C : Cx E X cX5_free 6 RX5 wsX5_free r_X5_free ((some .int)) []) (hQ : gQ E X (wM E b th ma st ti sp we ho sa ca cl su) r_X5_free (gO (fun u9 => some (.int u9.1)) (fun u9 => (wM E b u9.2 ma st ti sp we ho sa ca cl su)) (.inr o))) (h : b_X5_free_48 ma ti sp we ho sa v1 v2 v3 s1 thc = some o) : Gx E X (wM E b thc ma st ti sp we ho sa ca cl su) 6 [(0, .ref (b 0)), (1, .int v1), (2, .int v2), (3, .int v3)] [.int (bI s1), .ref (b 0)] 48 0 0 := by
  rw [b_X5_free_48] at h
  refine g_iconst C (v := 2) (by decide) dX5_free_48 ?_
  obtain ⟨g1, eg1, h⟩ := Option.bind_eq_some_iff.mp h
  refine g_cVr (As := [.int (bI s1), .int 2]) (n9 := 2) (st := []) (w2 := (wM E b g1.2 ma st ti sp we ho sa ca cl su)) C (c_X5_isThrown E b thc ma st ti sp we ho sa ca cl su s1 2 g1 eg1) gX5_free_X5_isThrown rfl (by decide +kernel) rfl ⟨by decide, by decide, by decide, by decide, Nat.le_of_ble_eq_true rfl⟩ 0 rfl rfl (gSub.idx [0, 1, 2, 3, 4, 5, 6, 7] rfl rfl) rfl dX5_free_49 ?_
  refine g_if_eq C (tgt := 57) dX5_free_52 (by decide) (fun cd2 => ?_) (fun cd2 => ?_)
  · replace h := (if_pos cd2).symm.trans h
    refine g_iload_n C 2 rfl rfl dX5_free_57 ?_
    refine g_istore C (lv2 := [(4, .int v2), (0, .ref (b 0)), (1, .int v1), (2, .int v2), (3, .int v3)]) rfl (by decide) dX5_free_58 ?_
    refine g_aload_n C 1 rfl rfl dX5_free_60 ?_
    refine g_iload_n C 2 rfl rfl dX5_free_61 ?_
    refine g_iload C 0 rfl dX5_free_62 ?_
    obtain ⟨g3, eg3, h⟩ := Option.bind_eq_some_iff.mp h
    refine g_cVr (As := [.int v1, .int v2]) (n9 := 2) (st := []) (w2 := (wM E b g1.2 ma st ti sp we ho sa ca cl su)) C (c_X5_busyFrom E b g1.2 ma st ti sp we ho sa ca cl su v1 v2 g3 eg3) gX5_free_X5_busyFrom rfl (by decide +kernel) rfl ⟨by decide, by decide, by decide, by decide, Nat.le_of_ble_eq_true rfl⟩ 0 rfl rfl (gSub.idx [0, 1, 2, 3, 4, 5, 6, 7] rfl rfl) rfl dX5_free_64 ?_
    refine g_istore C (lv2 := [(5, .int g3), (4, .int v2), (0, .ref (b 0)), (1, .int v1), (2, .int v2), (3, .int v3)]) rfl (by decide) dX5_free_67 ?_
    refine g_lv [2, 3, 5, 1, 0] (lv2 := [(0, .ref (b 0)), (1, .int v1), (3, .int v3), (4, .int v2), (5, .int g3)]) rfl ?_
    exact w_X5_free_69 (v1 := v1) (v3 := v3) (thc := g1.2) C hQ FU v2 g3 h
  · replace h := (if_neg cd2).symm.trans h
    refine g_iconst C (v := 0) (by decide) dX5_free_55 ?_
    obtain rfl := Option.some.inj h
    exact g_iret C hQ rfl ⟨by decide, by decide⟩ dX5_free_56
set_option maxHeartbeats 4000000 in
set_option maxRecDepth 100000 in
theorem v_X5_free_13 {E : gE} {X : gX} {b : Nat → Nat} {th : Int32} {ma : Int32} {st : Int32} {ti : Nat → Int32} {sp : Nat → Int32} {we : Nat → Int32} {ho : Nat → Int32} {sa : Nat → Int32} {ca : Nat → Int32} {cl : Nat → Int32} {su : Int64} {v1 : Int32} {v2 : Int32} {v3 : Int32} {s1 : Bool} {o : (Int32 × Int32)} (C : Cx E X cX5_free 6 RX5 wsX5_free r_X5_free ((some .int)) []) (hQ : gQ E X (wM E b th ma st ti sp we ho sa ca cl su) r_X5_free (gO (fun u9 => some (.int u9.1)) (fun u9 => (wM E b u9.2 ma st ti sp we ho sa ca cl su)) (.inr o))) (h : b_X5_free_13 ma ti sp we ho sa v1 v2 v3 s1 = some o) : Gx E X (wM E b th ma st ti sp we ho sa ca cl su) 6 [(0, .ref (b 0)), (1, .int v1), (2, .int v2), (3, .int v3)] [.int (bI s1), .ref (b 0)] 13 0 0 := by
  rw [b_X5_free_13] at h
  refine g_iconst C (v := 1) (by decide) dX5_free_13 ?_
  obtain ⟨g1, eg1, h⟩ := Option.bind_eq_some_iff.mp h
  refine g_cVr (As := [.int (bI s1), .int 1]) (n9 := 2) (st := []) (w2 := (wM E b g1.2 ma st ti sp we ho sa ca cl su)) C (c_X5_isThrown E b th ma st ti sp we ho sa ca cl su s1 1 g1 eg1) gX5_free_X5_isThrown rfl (by decide +kernel) rfl ⟨by decide, by decide, by decide, by decide, Nat.le_of_ble_eq_true rfl⟩ 0 rfl rfl (gSub.idx [0, 1, 2, 3, 4, 5, 6, 7] rfl rfl) rfl dX5_free_14 ?_
  refine g_if_ne C (tgt := 55) dX5_free_17 (by decide) (fun cd2 => ?_) (fun cd2 => ?_)
  · replace h := (if_neg cd2).symm.trans h
    refine g_iconst C (v := 0) (by decide) dX5_free_55 ?_
    obtain rfl := Option.some.inj h
    exact g_iret C hQ rfl ⟨by decide, by decide⟩ dX5_free_56
  · replace h := (if_pos cd2).symm.trans h
    refine g_aload_n C 0 rfl rfl dX5_free_20 ?_
    refine g_iload_n C 2 rfl rfl dX5_free_21 ?_
    refine g_iconst C (v := 0) (by decide) dX5_free_22 ?_
    refine g_sipush C (v := 20000) (by decide) dX5_free_23 ?_
    obtain ⟨g3, eg3, h⟩ := Option.bind_eq_some_iff.mp h
    refine g_cSr (As := [.int v2, .int 0, .int 20000]) (n9 := 3) (st := [.ref (b 0)]) (w2 := (wM E b g1.2 ma st ti sp we ho sa ca cl su)) C (c_X5_isIn E v2 0 20000 g3 eg3) gX5_free_X5_isIn rfl (by decide +kernel) rfl ⟨by decide, by decide, by decide, by decide, Nat.le_of_ble_eq_true rfl⟩ (gSub.idx [] rfl rfl) rfl dX5_free_26 ?_
    refine g_if_eq C (tgt := 43) dX5_free_29 (by decide) (fun cd4 => ?_) (fun cd4 => ?_)
    · replace h := (if_pos cd4).symm.trans h
      refine g_iconst C (v := 1) (by decide) dX5_free_43 ?_
      refine g_goto C (tgt := 48) dX5_free_44 (by decide) ?_
      exact v_X5_free_48 (v1 := v1) (v2 := v2) (v3 := v3) (s1 := true) (thc := g1.2) C hQ h
    · replace h := (if_neg cd4).symm.trans h
      refine g_iload_n C 3 rfl rfl dX5_free_32 ?_
      refine g_iconst C (v := 1) (by decide) dX5_free_33 ?_
      refine g_sipush C (v := 500) (by decide) dX5_free_34 ?_
      obtain ⟨g5, eg5, h⟩ := Option.bind_eq_some_iff.mp h
      refine g_cSr (As := [.int v3, .int 1, .int 500]) (n9 := 3) (st := [.ref (b 0)]) (w2 := (wM E b g1.2 ma st ti sp we ho sa ca cl su)) C (c_X5_isIn E v3 1 500 g5 eg5) gX5_free_X5_isIn rfl (by decide +kernel) rfl ⟨by decide, by decide, by decide, by decide, Nat.le_of_ble_eq_true rfl⟩ (gSub.idx [] rfl rfl) rfl dX5_free_37 ?_
      refine g_if_ne C (tgt := 47) dX5_free_40 (by decide) (fun cd6 => ?_) (fun cd6 => ?_)
      · replace h := (if_neg cd6).symm.trans h
        refine g_iconst C (v := 0) (by decide) dX5_free_47 ?_
        exact v_X5_free_48 (v1 := v1) (v2 := v2) (v3 := v3) (s1 := false) (thc := g1.2) C hQ h
      · replace h := (if_pos cd6).symm.trans h
        refine g_iconst C (v := 1) (by decide) dX5_free_43 ?_
        refine g_goto C (tgt := 48) dX5_free_44 (by decide) ?_
        exact v_X5_free_48 (v1 := v1) (v2 := v2) (v3 := v3) (s1 := true) (thc := g1.2) C hQ h
set_option maxHeartbeats 4000000 in
set_option maxRecDepth 100000 in
theorem c_X5_free (E : gE) (b : Nat → Nat) (th : Int32) (ma : Int32) (st : Int32) (ti : Nat → Int32) (sp : Nat → Int32) (we : Nat → Int32) (ho : Nat → Int32) (sa : Nat → Int32) (ca : Nat → Int32) (cl : Nat → Int32) (su : Int64) (p1 : Int32) (p2 : Int32) (p3 : Int32) (o : (Int32 × Int32)) (h : f_X5_free ma ti sp we ho sa p1 p2 p3 = some o) : Ct E yX5_free wsX5_free r_X5_free [.ref (b 0), .int p1, .int p2, .int p3] (wM E b th ma st ti sp we ho sa ca cl su) (gO (fun u9 => some (.int u9.1)) (fun u9 => (wM E b u9.2 ma st ti sp we ho sa ca cl su)) (.inr o)) := by
  refine Ct.of (cc := cX5_free) (nL := 6) (ret := ((some .int))) (own := RX5) (by decide) rfl rfl (Nat.le_of_ble_eq_true rfl) rfl ?_ ?_
  · intro v w1 hh
    cases hh; rfl
  · intro X C hQ
    rw [f_X5_free] at h
    refine g_aload_n C 0 rfl rfl dX5_free_0 ?_
    refine g_iload_n C 1 rfl rfl dX5_free_1 ?_
    obtain ⟨g1, eg1, h⟩ := Option.bind_eq_some_iff.mp h
    refine g_cSr (As := [.int p1]) (n9 := 1) (st := [.ref (b 0)]) (w2 := (wM E b th ma st ti sp we ho sa ca cl su)) C (c_X5_isHouse E p1 g1 eg1) gX5_free_X5_isHouse rfl (by decide +kernel) rfl ⟨by decide, by decide, by decide, by decide, Nat.le_of_ble_eq_true rfl⟩ (gSub.idx [] rfl rfl) rfl dX5_free_2 ?_
    refine g_if_ne C (tgt := 12) dX5_free_5 (by decide) (fun cd2 => ?_) (fun cd2 => ?_)
    · replace h := (if_neg cd2).symm.trans h
      refine g_iconst C (v := 0) (by decide) dX5_free_12 ?_
      exact v_X5_free_13 (v1 := p1) (v2 := p2) (v3 := p3) (s1 := false) C hQ h
    · replace h := (if_pos cd2).symm.trans h
      refine g_iconst C (v := 1) (by decide) dX5_free_8 ?_
      refine g_goto C (tgt := 13) dX5_free_9 (by decide) ?_
      exact v_X5_free_13 (v1 := p1) (v2 := p2) (v3 := p3) (s1 := true) C hQ h
abbrev r_X5_loadOf : Room := { frames := 2, cells := 0, slots := 0, locals := 42 }
theorem m_X5_loadOf_0 : Cond.fieldLink RX5 35 "BookinghouseModel" "made" "I" ∈ wsX5_loadOf := by decide +kernel
theorem i_X5_loadOf_X5 : ∀ w ∈ wsX50, w ∈ wsX5_loadOf := by decide +kernel
theorem m_X5_loadOf_2 : Cond.fieldLink RX5 16 "BookinghouseModel" "weight" "[I" ∈ wsX5_loadOf := by decide +kernel
theorem m_X5_loadOf_3 : Cond.fieldLink RX5 13 "BookinghouseModel" "span" "[I" ∈ wsX5_loadOf := by decide +kernel
set_option maxHeartbeats 4000000 in
set_option maxRecDepth 100000 in
theorem w_X5_loadOf_5 {E : gE} {X : gX} {b : Nat → Nat} {th : Int32} {ma : Int32} {st : Int32} {ti : Nat → Int32} {sp : Nat → Int32} {we : Nat → Int32} {ho : Nat → Int32} {sa : Nat → Int32} {ca : Nat → Int32} {cl : Nat → Int32} {su : Int64} {v1 : Int32} {o : (Int64)} (C : Cx E X cX5_loadOf 5 RX5 wsX5_loadOf r_X5_loadOf ((some .long)) []) (hQ : gQ E X (wM E b th ma st ti sp we ho sa ca cl su) r_X5_loadOf (gO (fun u9 => some (.long u9)) (fun u9 => (wM E b th ma st ti sp we ho sa ca cl su)) (.inr o))) : ∀ (F : Nat) (v2 : Int64) (v4 : Int32), l_X5_loadOf_5 ma sp we ho sa v1 F v2 v4 = some o → Gx E X (wM E b th ma st ti sp we ho sa ca cl su) 5 [(0, .ref (b 0)), (1, .int v1), (2, .long v2), (4, .int v4)] [] 5 0 0 := by
  intro F
  induction F with
  | zero => intro v2 v4 h; exact absurd h (by simp [l_X5_loadOf_5])
  | succ F ih =>
    intro v2 v4 h
    rw [l_X5_loadOf_5] at h
    refine g_iload C 3 rfl dX5_loadOf_5 ?_
    refine g_aload_n C 0 rfl rfl dX5_loadOf_7 ?_
    refine g_X5_made C i_X5_loadOf_X5 m_X5_loadOf_0 0 rfl dX5_loadOf_8 ?_
    refine g_icmp_ge C (tgt := 54) dX5_loadOf_11 (by decide) (fun cd1 => ?_) (fun cd1 => ?_)
    · replace h := (if_pos cd1).symm.trans h
      refine g_lload_n C 2 rfl rfl dX5_loadOf_54 ?_
      obtain rfl := Option.some.inj h
      exact g_lret C hQ rfl ⟨by decide, by decide⟩ dX5_loadOf_55
    · replace h := (if_neg cd1).symm.trans h
      refine g_lload_n C 2 rfl rfl dX5_loadOf_14 ?_
      refine g_aload_n C 0 rfl rfl dX5_loadOf_15 ?_
      refine g_iload_n C 1 rfl rfl dX5_loadOf_16 ?_
      refine g_iload C 3 rfl dX5_loadOf_17 ?_
      obtain ⟨g2, eg2, h⟩ := Option.bind_eq_some_iff.mp h
      refine g_cVr (As := [.int v1, .int v4]) (n9 := 2) (st := [.long v2]) (w2 := (wM E b th ma st ti sp we ho sa ca cl su)) C (c_X5_isOf E b th ma st ti sp we ho sa ca cl su v1 v4 g2 eg2) gX5_loadOf_X5_isOf rfl (by decide +kernel) rfl ⟨by decide, by decide, by decide, by decide, Nat.le_of_ble_eq_true rfl⟩ 0 rfl rfl (gSub.idx [0, 1, 2, 3, 4, 5, 6, 7] rfl rfl) rfl dX5_loadOf_19 ?_
      refine g_if_eq C (tgt := 45) dX5_loadOf_22 (by decide) (fun cd3 => ?_) (fun cd3 => ?_)
      · replace h := (if_pos cd3).symm.trans h
        refine g_lconst C (v := 0) (by decide) dX5_loadOf_45 ?_
        refine g_ladd C dX5_loadOf_46 ?_
        refine g_lstore_n C (lv2 := [(2, .long (v2 + 0)), (0, .ref (b 0)), (1, .int v1), (4, .int v4)]) rfl (by decide) rfl dX5_loadOf_47 ?_
        refine g_iinc C (v := v4 + 1) 3 rfl rfl (lv2 := [(4, .int (v4 + 1)), (2, .long (v2 + 0)), (0, .ref (b 0)), (1, .int v1)]) rfl (by decide) dX5_loadOf_48 ?_
        refine g_goto C (tgt := 5) dX5_loadOf_51 (by decide) ?_
        refine g_lv [2, 3, 1, 0] (lv2 := [(0, .ref (b 0)), (1, .int v1), (2, .long (v2 + 0)), (4, .int (v4 + 1))]) rfl ?_
        exact ih (v2 + 0) (v4 + 1) h
      · replace h := (if_neg cd3).symm.trans h
        refine g_aload_n C 0 rfl rfl dX5_loadOf_25 ?_
        refine g_X5_weight C i_X5_loadOf_X5 m_X5_loadOf_2 0 rfl dX5_loadOf_26 ?_
        refine g_iload C 3 rfl dX5_loadOf_29 ?_
        obtain ⟨cd4, h⟩ := ifN h
        refine g_iald C 3 rfl (inB_in cd4) dX5_loadOf_31 ?_
        refine g_i2l C dX5_loadOf_32 ?_
        refine g_aload_n C 0 rfl rfl dX5_loadOf_33 ?_
        refine g_X5_span C i_X5_loadOf_X5 m_X5_loadOf_3 0 rfl dX5_loadOf_34 ?_
        refine g_iload C 3 rfl dX5_loadOf_37 ?_
        obtain ⟨cd5, h⟩ := ifN h
        refine g_iald C 2 rfl (inB_in cd5) dX5_loadOf_39 ?_
        refine g_i2l C dX5_loadOf_40 ?_
        refine g_lmul C dX5_loadOf_41 ?_
        refine g_goto C (tgt := 46) dX5_loadOf_42 (by decide) ?_
        refine g_ladd C dX5_loadOf_46 ?_
        refine g_lstore_n C (lv2 := [(2, .long (v2 + (((we v4.toNatClampNeg).toInt64) * ((sp v4.toNatClampNeg).toInt64)))), (0, .ref (b 0)), (1, .int v1), (4, .int v4)]) rfl (by decide) rfl dX5_loadOf_47 ?_
        refine g_iinc C (v := v4 + 1) 3 rfl rfl (lv2 := [(4, .int (v4 + 1)), (2, .long (v2 + (((we v4.toNatClampNeg).toInt64) * ((sp v4.toNatClampNeg).toInt64)))), (0, .ref (b 0)), (1, .int v1)]) rfl (by decide) dX5_loadOf_48 ?_
        refine g_goto C (tgt := 5) dX5_loadOf_51 (by decide) ?_
        refine g_lv [2, 3, 1, 0] (lv2 := [(0, .ref (b 0)), (1, .int v1), (2, .long (v2 + (((we v4.toNatClampNeg).toInt64) * ((sp v4.toNatClampNeg).toInt64)))), (4, .int (v4 + 1))]) rfl ?_
        exact ih (v2 + (((we v4.toNatClampNeg).toInt64) * ((sp v4.toNatClampNeg).toInt64))) (v4 + 1) h
set_option maxHeartbeats 4000000 in
set_option maxRecDepth 100000 in
theorem c_X5_loadOf (E : gE) (b : Nat → Nat) (th : Int32) (ma : Int32) (st : Int32) (ti : Nat → Int32) (sp : Nat → Int32) (we : Nat → Int32) (ho : Nat → Int32) (sa : Nat → Int32) (ca : Nat → Int32) (cl : Nat → Int32) (su : Int64) (p1 : Int32) (o : (Int64)) (h : f_X5_loadOf ma sp we ho sa p1 = some o) : Ct E yX5_loadOf wsX5_loadOf r_X5_loadOf [.ref (b 0), .int p1] (wM E b th ma st ti sp we ho sa ca cl su) (gO (fun u9 => some (.long u9)) (fun u9 => (wM E b th ma st ti sp we ho sa ca cl su)) (.inr o)) := by
  refine Ct.of (cc := cX5_loadOf) (nL := 5) (ret := ((some .long))) (own := RX5) (by decide) rfl rfl (Nat.le_of_ble_eq_true rfl) rfl ?_ ?_
  · intro v w1 hh
    cases hh; rfl
  · intro X C hQ
    rw [f_X5_loadOf] at h
    refine g_lconst C (v := 0) (by decide) dX5_loadOf_0 ?_
    refine g_lstore_n C (lv2 := [(2, .long 0), (0, .ref (b 0)), (1, .int p1)]) rfl (by decide) rfl dX5_loadOf_1 ?_
    refine g_iconst C (v := 0) (by decide) dX5_loadOf_2 ?_
    refine g_istore C (lv2 := [(4, .int 0), (2, .long 0), (0, .ref (b 0)), (1, .int p1)]) rfl (by decide) dX5_loadOf_3 ?_
    refine g_lv [2, 3, 1, 0] (lv2 := [(0, .ref (b 0)), (1, .int p1), (2, .long 0), (4, .int 0)]) rfl ?_
    exact w_X5_loadOf_5 (v1 := p1) C hQ FU 0 0 h
abbrev r_X5_load : Room := { frames := 3, cells := 0, slots := 0, locals := 66 }
set_option maxHeartbeats 4000000 in
set_option maxRecDepth 100000 in
theorem v_X5_load_13 {E : gE} {X : gX} {b : Nat → Nat} {th : Int32} {ma : Int32} {st : Int32} {ti : Nat → Int32} {sp : Nat → Int32} {we : Nat → Int32} {ho : Nat → Int32} {sa : Nat → Int32} {ca : Nat → Int32} {cl : Nat → Int32} {su : Int64} {v1 : Int32} {s1 : Bool} {o : (Int64 × Int32)} (C : Cx E X cX5_load 2 RX5 wsX5_load r_X5_load ((some .long)) []) (hQ : gQ E X (wM E b th ma st ti sp we ho sa ca cl su) r_X5_load (gO (fun u9 => some (.long u9.1)) (fun u9 => (wM E b u9.2 ma st ti sp we ho sa ca cl su)) (.inr o))) (h : b_X5_load_13 ma sp we ho sa v1 s1 = some o) : Gx E X (wM E b th ma st ti sp we ho sa ca cl su) 2 [(0, .ref (b 0)), (1, .int v1)] [.int (bI s1), .ref (b 0)] 13 0 0 := by
  rw [b_X5_load_13] at h
  refine g_iconst C (v := 1) (by decide) dX5_load_13 ?_
  obtain ⟨g1, eg1, h⟩ := Option.bind_eq_some_iff.mp h
  refine g_cVr (As := [.int (bI s1), .int 1]) (n9 := 2) (st := []) (w2 := (wM E b g1.2 ma st ti sp we ho sa ca cl su)) C (c_X5_isThrown E b th ma st ti sp we ho sa ca cl su s1 1 g1 eg1) gX5_load_X5_isThrown rfl (by decide +kernel) rfl ⟨by decide, by decide, by decide, by decide, Nat.le_of_ble_eq_true rfl⟩ 0 rfl rfl (gSub.idx [0, 1, 2, 3, 4, 5, 6, 7] rfl rfl) rfl dX5_load_14 ?_
  refine g_if_eq C (tgt := 24) dX5_load_17 (by decide) (fun cd2 => ?_) (fun cd2 => ?_)
  · replace h := (if_pos cd2).symm.trans h
    refine g_aload_n C 0 rfl rfl dX5_load_24 ?_
    refine g_iload_n C 1 rfl rfl dX5_load_25 ?_
    obtain ⟨g3, eg3, h⟩ := Option.bind_eq_some_iff.mp h
    refine g_cVr (As := [.int v1]) (n9 := 1) (st := []) (w2 := (wM E b g1.2 ma st ti sp we ho sa ca cl su)) C (c_X5_loadOf E b g1.2 ma st ti sp we ho sa ca cl su v1 g3 eg3) gX5_load_X5_loadOf rfl (by decide +kernel) rfl ⟨by decide, by decide, by decide, by decide, Nat.le_of_ble_eq_true rfl⟩ 0 rfl rfl (gSub.idx [0, 1, 2, 3, 4, 5, 6, 7] rfl rfl) rfl dX5_load_26 ?_
    obtain rfl := Option.some.inj h
    exact g_lret C hQ rfl ⟨by decide, by decide⟩ dX5_load_29
  · replace h := (if_neg cd2).symm.trans h
    refine g_lconst C (v := 0) (by decide) dX5_load_20 ?_
    refine g_goto C (tgt := 29) dX5_load_21 (by decide) ?_
    obtain rfl := Option.some.inj h
    exact g_lret C hQ rfl ⟨by decide, by decide⟩ dX5_load_29
set_option maxHeartbeats 4000000 in
set_option maxRecDepth 100000 in
theorem c_X5_load (E : gE) (b : Nat → Nat) (th : Int32) (ma : Int32) (st : Int32) (ti : Nat → Int32) (sp : Nat → Int32) (we : Nat → Int32) (ho : Nat → Int32) (sa : Nat → Int32) (ca : Nat → Int32) (cl : Nat → Int32) (su : Int64) (p1 : Int32) (o : (Int64 × Int32)) (h : f_X5_load ma sp we ho sa p1 = some o) : Ct E yX5_load wsX5_load r_X5_load [.ref (b 0), .int p1] (wM E b th ma st ti sp we ho sa ca cl su) (gO (fun u9 => some (.long u9.1)) (fun u9 => (wM E b u9.2 ma st ti sp we ho sa ca cl su)) (.inr o)) := by
  refine Ct.of (cc := cX5_load) (nL := 2) (ret := ((some .long))) (own := RX5) (by decide) rfl rfl (Nat.le_of_ble_eq_true rfl) rfl ?_ ?_
  · intro v w1 hh
    cases hh; rfl
  · intro X C hQ
    rw [f_X5_load] at h
    refine g_aload_n C 0 rfl rfl dX5_load_0 ?_
    refine g_iload_n C 1 rfl rfl dX5_load_1 ?_
    obtain ⟨g1, eg1, h⟩ := Option.bind_eq_some_iff.mp h
    refine g_cSr (As := [.int p1]) (n9 := 1) (st := [.ref (b 0)]) (w2 := (wM E b th ma st ti sp we ho sa ca cl su)) C (c_X5_isHouse E p1 g1 eg1) gX5_load_X5_isHouse rfl (by decide +kernel) rfl ⟨by decide, by decide, by decide, by decide, Nat.le_of_ble_eq_true rfl⟩ (gSub.idx [] rfl rfl) rfl dX5_load_2 ?_
    refine g_if_ne C (tgt := 12) dX5_load_5 (by decide) (fun cd2 => ?_) (fun cd2 => ?_)
    · replace h := (if_neg cd2).symm.trans h
      refine g_iconst C (v := 0) (by decide) dX5_load_12 ?_
      exact v_X5_load_13 (v1 := p1) (s1 := false) C hQ h
    · replace h := (if_pos cd2).symm.trans h
      refine g_iconst C (v := 1) (by decide) dX5_load_8 ?_
      refine g_goto C (tgt := 13) dX5_load_9 (by decide) ?_
      exact v_X5_load_13 (v1 := p1) (s1 := true) C hQ h
abbrev r_X5_isQuiet : Room := { frames := 4, cells := 0, slots := 0, locals := 90 }
theorem m_X5_isQuiet_0 : Cond.fieldLink RX5 28 "BookinghouseModel" "clock" "[I" ∈ wsX5_isQuiet := by decide +kernel
theorem i_X5_isQuiet_X5 : ∀ w ∈ wsX50, w ∈ wsX5_isQuiet := by decide +kernel
theorem m_X5_isQuiet_2 : Cond.constant RX5 72 100000 ∈ wsX5_isQuiet := by decide +kernel
set_option maxHeartbeats 4000000 in
set_option maxRecDepth 100000 in
theorem v_X5_isQuiet_13 {E : gE} {X : gX} {b : Nat → Nat} {th : Int32} {ma : Int32} {st : Int32} {ti : Nat → Int32} {sp : Nat → Int32} {we : Nat → Int32} {ho : Nat → Int32} {sa : Nat → Int32} {ca : Nat → Int32} {cl : Nat → Int32} {su : Int64} {v1 : Int32} {s1 : Bool} {o : (Bool × Int32)} (C : Cx E X cX5_isQuiet 2 RX5 wsX5_isQuiet r_X5_isQuiet ((some .boolean)) []) (hQ : gQ E X (wM E b th ma st ti sp we ho sa ca cl su) r_X5_isQuiet (gO (fun u9 => some (.int (bI u9.1))) (fun u9 => (wM E b u9.2 ma st ti sp we ho sa ca cl su)) (.inr o))) (h : b_X5_isQuiet_13 ma ti sp we ho sa cl v1 s1 = some o) : Gx E X (wM E b th ma st ti sp we ho sa ca cl su) 2 [(0, .ref (b 0)), (1, .int v1)] [.int (bI s1), .ref (b 0)] 13 0 0 := by
  rw [b_X5_isQuiet_13] at h
  refine g_iconst C (v := 1) (by decide) dX5_isQuiet_13 ?_
  obtain ⟨g1, eg1, h⟩ := Option.bind_eq_some_iff.mp h
  refine g_cVr (As := [.int (bI s1), .int 1]) (n9 := 2) (st := []) (w2 := (wM E b g1.2 ma st ti sp we ho sa ca cl su)) C (c_X5_isThrown E b th ma st ti sp we ho sa ca cl su s1 1 g1 eg1) gX5_isQuiet_X5_isThrown rfl (by decide +kernel) rfl ⟨by decide, by decide, by decide, by decide, Nat.le_of_ble_eq_true rfl⟩ 0 rfl rfl (gSub.idx [0, 1, 2, 3, 4, 5, 6, 7] rfl rfl) rfl dX5_isQuiet_14 ?_
  refine g_if_ne C (tgt := 49) dX5_isQuiet_17 (by decide) (fun cd2 => ?_) (fun cd2 => ?_)
  · replace h := (if_neg cd2).symm.trans h
    refine g_iconst C (v := 0) (by decide) dX5_isQuiet_49 ?_
    obtain rfl := Option.some.inj h
    exact g_zret C hQ rfl rfl ⟨by decide, by decide⟩ dX5_isQuiet_50
  · replace h := (if_pos cd2).symm.trans h
    refine g_aload_n C 0 rfl rfl dX5_isQuiet_20 ?_
    refine g_iload_n C 1 rfl rfl dX5_isQuiet_21 ?_
    refine g_iconst C (v := 0) (by decide) dX5_isQuiet_22 ?_
    obtain ⟨g3, eg3, h⟩ := Option.bind_eq_some_iff.mp h
    refine g_cVr (As := [.int v1, .int 0]) (n9 := 2) (st := []) (w2 := (wM E b g1.2 ma st ti sp we ho sa ca cl su)) C (c_X5_many E b g1.2 ma st ti sp we ho sa ca cl su v1 0 g3 eg3) gX5_isQuiet_X5_many rfl (by decide +kernel) rfl ⟨by decide, by decide, by decide, by decide, Nat.le_of_ble_eq_true rfl⟩ 0 rfl rfl (gSub.idx [0, 1, 2, 3, 4, 5, 6, 7] rfl rfl) rfl dX5_isQuiet_23 ?_
    refine g_if_ne C (tgt := 49) dX5_isQuiet_26 (by decide) (fun cd4 => ?_) (fun cd4 => ?_)
    · replace h := (if_neg cd4).symm.trans h
      refine g_iconst C (v := 0) (by decide) dX5_isQuiet_49 ?_
      obtain rfl := Option.some.inj h
      exact g_zret C hQ rfl rfl ⟨by decide, by decide⟩ dX5_isQuiet_50
    · replace h := (if_pos cd4).symm.trans h
      refine g_aload_n C 0 rfl rfl dX5_isQuiet_29 ?_
      refine g_iload_n C 1 rfl rfl dX5_isQuiet_30 ?_
      refine g_aload_n C 0 rfl rfl dX5_isQuiet_31 ?_
      refine g_X5_clock C i_X5_isQuiet_X5 m_X5_isQuiet_0 0 rfl dX5_isQuiet_32 ?_
      refine g_iload_n C 1 rfl rfl dX5_isQuiet_35 ?_
      obtain ⟨cd5, h⟩ := ifN h
      refine g_iald C 7 rfl (inB_in cd5) dX5_isQuiet_36 ?_
      obtain ⟨g6, eg6, h⟩ := Option.bind_eq_some_iff.mp h
      refine g_cVr (As := [.int v1, .int (cl v1.toNatClampNeg)]) (n9 := 2) (st := []) (w2 := (wM E b g1.2 ma st ti sp we ho sa ca cl su)) C (c_X5_busyFrom E b g1.2 ma st ti sp we ho sa ca cl su v1 (cl v1.toNatClampNeg) g6 eg6) gX5_isQuiet_X5_busyFrom rfl (by decide +kernel) rfl ⟨by decide, by decide, by decide, by decide, Nat.le_of_ble_eq_true rfl⟩ 0 rfl rfl (gSub.idx [0, 1, 2, 3, 4, 5, 6, 7] rfl rfl) rfl dX5_isQuiet_37 ?_
      refine g_ldc C (v := 100000) m_X5_isQuiet_2 dX5_isQuiet_40 ?_
      refine g_icmp_ne C (tgt := 49) dX5_isQuiet_42 (by decide) (fun cd7 => ?_) (fun cd7 => ?_)
      · replace h := (if_neg cd7).symm.trans h
        refine g_iconst C (v := 0) (by decide) dX5_isQuiet_49 ?_
        obtain rfl := Option.some.inj h
        exact g_zret C hQ rfl rfl ⟨by decide, by decide⟩ dX5_isQuiet_50
      · replace h := (if_pos cd7).symm.trans h
        refine g_iconst C (v := 1) (by decide) dX5_isQuiet_45 ?_
        refine g_goto C (tgt := 50) dX5_isQuiet_46 (by decide) ?_
        obtain rfl := Option.some.inj h
        exact g_zret C hQ rfl rfl ⟨by decide, by decide⟩ dX5_isQuiet_50
set_option maxHeartbeats 4000000 in
set_option maxRecDepth 100000 in
theorem c_X5_isQuiet (E : gE) (b : Nat → Nat) (th : Int32) (ma : Int32) (st : Int32) (ti : Nat → Int32) (sp : Nat → Int32) (we : Nat → Int32) (ho : Nat → Int32) (sa : Nat → Int32) (ca : Nat → Int32) (cl : Nat → Int32) (su : Int64) (p1 : Int32) (o : (Bool × Int32)) (h : f_X5_isQuiet ma ti sp we ho sa cl p1 = some o) : Ct E yX5_isQuiet wsX5_isQuiet r_X5_isQuiet [.ref (b 0), .int p1] (wM E b th ma st ti sp we ho sa ca cl su) (gO (fun u9 => some (.int (bI u9.1))) (fun u9 => (wM E b u9.2 ma st ti sp we ho sa ca cl su)) (.inr o)) := by
  refine Ct.of (cc := cX5_isQuiet) (nL := 2) (ret := ((some .boolean))) (own := RX5) (by decide) rfl rfl (Nat.le_of_ble_eq_true rfl) rfl ?_ ?_
  · intro v w1 hh
    cases hh; rfl
  · intro X C hQ
    rw [f_X5_isQuiet] at h
    refine g_aload_n C 0 rfl rfl dX5_isQuiet_0 ?_
    refine g_iload_n C 1 rfl rfl dX5_isQuiet_1 ?_
    obtain ⟨g1, eg1, h⟩ := Option.bind_eq_some_iff.mp h
    refine g_cSr (As := [.int p1]) (n9 := 1) (st := [.ref (b 0)]) (w2 := (wM E b th ma st ti sp we ho sa ca cl su)) C (c_X5_isHouse E p1 g1 eg1) gX5_isQuiet_X5_isHouse rfl (by decide +kernel) rfl ⟨by decide, by decide, by decide, by decide, Nat.le_of_ble_eq_true rfl⟩ (gSub.idx [] rfl rfl) rfl dX5_isQuiet_2 ?_
    refine g_if_ne C (tgt := 12) dX5_isQuiet_5 (by decide) (fun cd2 => ?_) (fun cd2 => ?_)
    · replace h := (if_neg cd2).symm.trans h
      refine g_iconst C (v := 0) (by decide) dX5_isQuiet_12 ?_
      exact v_X5_isQuiet_13 (v1 := p1) (s1 := false) C hQ h
    · replace h := (if_pos cd2).symm.trans h
      refine g_iconst C (v := 1) (by decide) dX5_isQuiet_8 ?_
      refine g_goto C (tgt := 13) dX5_isQuiet_9 (by decide) ?_
      exact v_X5_isQuiet_13 (v1 := p1) (s1 := true) C hQ h
abbrev r_X5_adds : Room := { frames := 1, cells := 0, slots := 0, locals := 20 }
theorem m_X5_adds_0 : Cond.constantLong RX5 116 31 ∈ wsX5_adds := by decide +kernel
theorem m_X5_adds_1 : Cond.fieldLink RX5 118 "BookinghouseModel" "sum" "J" ∈ wsX5_adds := by decide +kernel
theorem i_X5_adds_X5 : ∀ w ∈ wsX50, w ∈ wsX5_adds := by decide +kernel
set_option maxHeartbeats 4000000 in
set_option maxRecDepth 100000 in
theorem c_X5_adds (E : gE) (b : Nat → Nat) (th : Int32) (ma : Int32) (st : Int32) (ti : Nat → Int32) (sp : Nat → Int32) (we : Nat → Int32) (ho : Nat → Int32) (sa : Nat → Int32) (ca : Nat → Int32) (cl : Nat → Int32) (su : Int64) (p1 : Int64) (o : (Int64)) (h : f_X5_adds su p1 = some o) : Ct E yX5_adds wsX5_adds r_X5_adds [.ref (b 0), .long p1] (wM E b th ma st ti sp we ho sa ca cl su) (gO (fun u9 => none) (fun u9 => (wM E b th ma st ti sp we ho sa ca cl u9)) (.inr o)) := by
  refine Ct.of (cc := cX5_adds) (nL := 3) (ret := (none)) (own := RX5) (by decide) rfl rfl (Nat.le_of_ble_eq_true rfl) rfl ?_ ?_
  · intro v w1 hh
    cases hh; rfl
  · intro X C hQ
    rw [f_X5_adds] at h
    refine g_aload_n C 0 rfl rfl dX5_adds_0 ?_
    refine g_ldc2 C (v := 31) m_X5_adds_0 dX5_adds_1 ?_
    refine g_aload_n C 0 rfl rfl dX5_adds_4 ?_
    refine g_X5_sum C i_X5_adds_X5 m_X5_adds_1 0 rfl dX5_adds_5 ?_
    refine g_lmul C dX5_adds_8 ?_
    refine g_lload_n C 1 rfl rfl dX5_adds_9 ?_
    refine g_ladd C dX5_adds_10 ?_
    refine g_X5_set_sum C i_X5_adds_X5 m_X5_adds_1 0 rfl (ws2 := (wM E b th ma st ti sp we ho sa ca cl ((31 * su) + p1))) rfl dX5_adds_11 ?_
    obtain rfl := Option.some.inj h
    exact g_vret C hQ rfl ⟨by decide, by decide⟩ dX5_adds_14
abbrev r_X5_turnBehind : Room := { frames := 2, cells := 0, slots := 0, locals := 42 }
theorem m_X5_turnBehind_0 : Cond.constant RX5 72 100000 ∈ wsX5_turnBehind := by decide +kernel
theorem m_X5_turnBehind_1 : Cond.fieldLink RX5 35 "BookinghouseModel" "made" "I" ∈ wsX5_turnBehind := by decide +kernel
theorem i_X5_turnBehind_X5 : ∀ w ∈ wsX50, w ∈ wsX5_turnBehind := by decide +kernel
theorem m_X5_turnBehind_3 : Cond.fieldLink RX5 7 "BookinghouseModel" "time" "[I" ∈ wsX5_turnBehind := by decide +kernel
theorem m_X5_turnBehind_4 : Cond.fieldLink RX5 13 "BookinghouseModel" "span" "[I" ∈ wsX5_turnBehind := by decide +kernel
set_option maxHeartbeats 4000000 in
set_option maxRecDepth 100000 in
theorem v_X5_turnBehind_58 {E : gE} {X : gX} {b : Nat → Nat} {th : Int32} {ma : Int32} {st : Int32} {ti : Nat → Int32} {sp : Nat → Int32} {we : Nat → Int32} {ho : Nat → Int32} {sa : Nat → Int32} {ca : Nat → Int32} {cl : Nat → Int32} {su : Int64} {v1 : Int32} {v2 : Int32} {v4 : Int32} {s0 : Int32} {ko6 : Int32 → Int32 → Option (Int32)} {o : (Int32)} (C : Cx E X cX5_turnBehind 5 RX5 wsX5_turnBehind r_X5_turnBehind ((some .int)) []) (hQ : gQ E X (wM E b th ma st ti sp we ho sa ca cl su) r_X5_turnBehind (gO (fun u9 => some (.int u9)) (fun u9 => (wM E b th ma st ti sp we ho sa ca cl su)) (.inr o))) (Hko6 : ∀ (qv3 : Int32) (qv4 : Int32), ko6 qv3 qv4 = some o → Gx E X (wM E b th ma st ti sp we ho sa ca cl su) 5 [(0, .ref (b 0)), (1, .int v1), (2, .int v2), (3, .int qv3), (4, .int qv4)] [] 6 0 0) (h : b_X5_turnBehind_58 ti sp ko6 v1 v2 v4 s0 = some o) : Gx E X (wM E b th ma st ti sp we ho sa ca cl su) 5 [(0, .ref (b 0)), (1, .int v1), (2, .int v2), (4, .int v4)] [.int s0] 58 0 0 := by
  rw [b_X5_turnBehind_58] at h
  refine g_istore_n C (lv2 := [(3, .int s0), (0, .ref (b 0)), (1, .int v1), (2, .int v2), (4, .int v4)]) rfl (by decide) rfl dX5_turnBehind_58 ?_
  refine g_aload_n C 1 rfl rfl dX5_turnBehind_59 ?_
  refine g_X5_time C i_X5_turnBehind_X5 m_X5_turnBehind_3 0 rfl dX5_turnBehind_60 ?_
  refine g_iload C 4 rfl dX5_turnBehind_63 ?_
  obtain ⟨cd1, h⟩ := ifN h
  refine g_iald C 1 rfl (inB_in cd1) dX5_turnBehind_65 ?_
  refine g_aload_n C 1 rfl rfl dX5_turnBehind_66 ?_
  refine g_X5_span C i_X5_turnBehind_X5 m_X5_turnBehind_4 0 rfl dX5_turnBehind_67 ?_
  refine g_iload C 4 rfl dX5_turnBehind_70 ?_
  obtain ⟨cd2, h⟩ := ifN h
  refine g_iald C 2 rfl (inB_in cd2) dX5_turnBehind_72 ?_
  refine g_iadd C dX5_turnBehind_73 ?_
  refine g_iload_n C 3 rfl rfl dX5_turnBehind_74 ?_
  refine g_icmp_le C (tgt := 115) dX5_turnBehind_75 (by decide) (fun cd3 => ?_) (fun cd3 => ?_)
  · replace h := (if_pos cd3).symm.trans h
    refine g_iload_n C 0 rfl rfl dX5_turnBehind_115 ?_
    refine g_istore_n C (lv2 := [(3, .int s0), (0, .ref (b 0)), (1, .int v1), (2, .int v2), (4, .int v4)]) rfl (by decide) rfl dX5_turnBehind_116 ?_
    refine g_iinc C (v := v4 + 1) 4 rfl rfl (lv2 := [(4, .int (v4 + 1)), (3, .int s0), (0, .ref (b 0)), (1, .int v1), (2, .int v2)]) rfl (by decide) dX5_turnBehind_117 ?_
    refine g_goto C (tgt := 6) dX5_turnBehind_120 (by decide) ?_
    refine g_lv [2, 3, 4, 1, 0] (lv2 := [(0, .ref (b 0)), (1, .int v1), (2, .int v2), (3, .int s0), (4, .int (v4 + 1))]) rfl ?_
    exact Hko6 s0 (v4 + 1) h
  · replace h := (if_neg cd3).symm.trans h
    refine g_aload_n C 1 rfl rfl dX5_turnBehind_78 ?_
    refine g_X5_time C i_X5_turnBehind_X5 m_X5_turnBehind_3 0 rfl dX5_turnBehind_79 ?_
    refine g_iload C 4 rfl dX5_turnBehind_82 ?_
    obtain ⟨cd4, h⟩ := ifN h
    refine g_iald C 1 rfl (inB_in cd4) dX5_turnBehind_84 ?_
    refine g_aload_n C 1 rfl rfl dX5_turnBehind_85 ?_
    refine g_X5_span C i_X5_turnBehind_X5 m_X5_turnBehind_4 0 rfl dX5_turnBehind_86 ?_
    refine g_iload C 4 rfl dX5_turnBehind_89 ?_
    obtain ⟨cd5, h⟩ := ifN h
    refine g_iald C 2 rfl (inB_in cd5) dX5_turnBehind_91 ?_
    refine g_iadd C dX5_turnBehind_92 ?_
    refine g_iload_n C 0 rfl rfl dX5_turnBehind_93 ?_
    refine g_icmp_ge C (tgt := 115) dX5_turnBehind_94 (by decide) (fun cd6 => ?_) (fun cd6 => ?_)
    · replace h := (if_pos cd6).symm.trans h
      refine g_iload_n C 0 rfl rfl dX5_turnBehind_115 ?_
      refine g_istore_n C (lv2 := [(3, .int s0), (0, .ref (b 0)), (1, .int v1), (2, .int v2), (4, .int v4)]) rfl (by decide) rfl dX5_turnBehind_116 ?_
      refine g_iinc C (v := v4 + 1) 4 rfl rfl (lv2 := [(4, .int (v4 + 1)), (3, .int s0), (0, .ref (b 0)), (1, .int v1), (2, .int v2)]) rfl (by decide) dX5_turnBehind_117 ?_
      refine g_goto C (tgt := 6) dX5_turnBehind_120 (by decide) ?_
      refine g_lv [2, 3, 4, 1, 0] (lv2 := [(0, .ref (b 0)), (1, .int v1), (2, .int v2), (3, .int s0), (4, .int (v4 + 1))]) rfl ?_
      exact Hko6 s0 (v4 + 1) h
    · replace h := (if_neg cd6).symm.trans h
      refine g_aload_n C 1 rfl rfl dX5_turnBehind_97 ?_
      refine g_X5_time C i_X5_turnBehind_X5 m_X5_turnBehind_3 0 rfl dX5_turnBehind_98 ?_
      refine g_iload C 4 rfl dX5_turnBehind_101 ?_
      obtain ⟨cd7, h⟩ := ifN h
      refine g_iald C 1 rfl (inB_in cd7) dX5_turnBehind_103 ?_
      refine g_aload_n C 1 rfl rfl dX5_turnBehind_104 ?_
      refine g_X5_span C i_X5_turnBehind_X5 m_X5_turnBehind_4 0 rfl dX5_turnBehind_105 ?_
      refine g_iload C 4 rfl dX5_turnBehind_108 ?_
      obtain ⟨cd8, h⟩ := ifN h
      refine g_iald C 2 rfl (inB_in cd8) dX5_turnBehind_110 ?_
      refine g_iadd C dX5_turnBehind_111 ?_
      refine g_goto C (tgt := 116) dX5_turnBehind_112 (by decide) ?_
      refine g_istore_n C (lv2 := [(3, .int ((ti v4.toNatClampNeg) + (sp v4.toNatClampNeg))), (0, .ref (b 0)), (1, .int v1), (2, .int v2), (4, .int v4)]) rfl (by decide) rfl dX5_turnBehind_116 ?_
      refine g_iinc C (v := v4 + 1) 4 rfl rfl (lv2 := [(4, .int (v4 + 1)), (3, .int ((ti v4.toNatClampNeg) + (sp v4.toNatClampNeg))), (0, .ref (b 0)), (1, .int v1), (2, .int v2)]) rfl (by decide) dX5_turnBehind_117 ?_
      refine g_goto C (tgt := 6) dX5_turnBehind_120 (by decide) ?_
      refine g_lv [2, 3, 4, 1, 0] (lv2 := [(0, .ref (b 0)), (1, .int v1), (2, .int v2), (3, .int ((ti v4.toNatClampNeg) + (sp v4.toNatClampNeg))), (4, .int (v4 + 1))]) rfl ?_
      exact Hko6 ((ti v4.toNatClampNeg) + (sp v4.toNatClampNeg)) (v4 + 1) h
set_option maxHeartbeats 4000000 in
set_option maxRecDepth 100000 in
theorem w_X5_turnBehind_6 {E : gE} {X : gX} {b : Nat → Nat} {th : Int32} {ma : Int32} {st : Int32} {ti : Nat → Int32} {sp : Nat → Int32} {we : Nat → Int32} {ho : Nat → Int32} {sa : Nat → Int32} {ca : Nat → Int32} {cl : Nat → Int32} {su : Int64} {v1 : Int32} {v2 : Int32} {o : (Int32)} (C : Cx E X cX5_turnBehind 5 RX5 wsX5_turnBehind r_X5_turnBehind ((some .int)) []) (hQ : gQ E X (wM E b th ma st ti sp we ho sa ca cl su) r_X5_turnBehind (gO (fun u9 => some (.int u9)) (fun u9 => (wM E b th ma st ti sp we ho sa ca cl su)) (.inr o))) : ∀ (F : Nat) (v3 : Int32) (v4 : Int32), l_X5_turnBehind_6 ma ti sp ho sa v1 v2 F v3 v4 = some o → Gx E X (wM E b th ma st ti sp we ho sa ca cl su) 5 [(0, .ref (b 0)), (1, .int v1), (2, .int v2), (3, .int v3), (4, .int v4)] [] 6 0 0 := by
  intro F
  induction F with
  | zero => intro v3 v4 h; exact absurd h (by simp [l_X5_turnBehind_6])
  | succ F ih =>
    intro v3 v4 h
    rw [l_X5_turnBehind_6] at h
    refine g_iload C 4 rfl dX5_turnBehind_6 ?_
    refine g_aload_n C 0 rfl rfl dX5_turnBehind_8 ?_
    refine g_X5_made C i_X5_turnBehind_X5 m_X5_turnBehind_1 0 rfl dX5_turnBehind_9 ?_
    refine g_icmp_ge C (tgt := 123) dX5_turnBehind_12 (by decide) (fun cd1 => ?_) (fun cd1 => ?_)
    · replace h := (if_pos cd1).symm.trans h
      refine g_iload_n C 3 rfl rfl dX5_turnBehind_123 ?_
      obtain rfl := Option.some.inj h
      exact g_iret C hQ rfl ⟨by decide, by decide⟩ dX5_turnBehind_124
    · replace h := (if_neg cd1).symm.trans h
      refine g_aload_n C 0 rfl rfl dX5_turnBehind_15 ?_
      refine g_iload_n C 1 rfl rfl dX5_turnBehind_16 ?_
      refine g_iload C 4 rfl dX5_turnBehind_17 ?_
      obtain ⟨g2, eg2, h⟩ := Option.bind_eq_some_iff.mp h
      refine g_cVr (As := [.int v1, .int v4]) (n9 := 2) (st := []) (w2 := (wM E b th ma st ti sp we ho sa ca cl su)) C (c_X5_isOf E b th ma st ti sp we ho sa ca cl su v1 v4 g2 eg2) gX5_turnBehind_X5_isOf rfl (by decide +kernel) rfl ⟨by decide, by decide, by decide, by decide, Nat.le_of_ble_eq_true rfl⟩ 0 rfl rfl (gSub.idx [0, 1, 2, 3, 4, 5, 6, 7] rfl rfl) rfl dX5_turnBehind_19 ?_
      refine g_if_eq C (tgt := 117) dX5_turnBehind_22 (by decide) (fun cd3 => ?_) (fun cd3 => ?_)
      · replace h := (if_pos cd3).symm.trans h
        refine g_iinc C (v := v4 + 1) 4 rfl rfl (lv2 := [(4, .int (v4 + 1)), (0, .ref (b 0)), (1, .int v1), (2, .int v2), (3, .int v3)]) rfl (by decide) dX5_turnBehind_117 ?_
        refine g_goto C (tgt := 6) dX5_turnBehind_120 (by decide) ?_
        refine g_lv [1, 2, 3, 4, 0] (lv2 := [(0, .ref (b 0)), (1, .int v1), (2, .int v2), (3, .int v3), (4, .int (v4 + 1))]) rfl ?_
        exact ih v3 (v4 + 1) h
      · replace h := (if_neg cd3).symm.trans h
        refine g_aload_n C 0 rfl rfl dX5_turnBehind_25 ?_
        refine g_X5_time C i_X5_turnBehind_X5 m_X5_turnBehind_3 0 rfl dX5_turnBehind_26 ?_
        refine g_iload C 4 rfl dX5_turnBehind_29 ?_
        obtain ⟨cd4, h⟩ := ifN h
        refine g_iald C 1 rfl (inB_in cd4) dX5_turnBehind_31 ?_
        refine g_iload_n C 2 rfl rfl dX5_turnBehind_32 ?_
        refine g_icmp_le C (tgt := 57) dX5_turnBehind_33 (by decide) (fun cd5 => ?_) (fun cd5 => ?_)
        · replace h := (if_pos cd5).symm.trans h
          refine g_iload_n C 3 rfl rfl dX5_turnBehind_57 ?_
          refine g_lv [0, 1, 2, 4] (lv2 := [(0, .ref (b 0)), (1, .int v1), (2, .int v2), (4, .int v4)]) rfl ?_
          exact v_X5_turnBehind_58 (v1 := v1) (v2 := v2) (v4 := v4) (s0 := v3) C hQ (fun qv3 qv4 hh => ih qv3 qv4 hh) h
        · replace h := (if_neg cd5).symm.trans h
          refine g_aload_n C 0 rfl rfl dX5_turnBehind_36 ?_
          refine g_X5_time C i_X5_turnBehind_X5 m_X5_turnBehind_3 0 rfl dX5_turnBehind_37 ?_
          refine g_iload C 4 rfl dX5_turnBehind_40 ?_
          obtain ⟨cd6, h⟩ := ifN h
          refine g_iald C 1 rfl (inB_in cd6) dX5_turnBehind_42 ?_
          refine g_iload_n C 3 rfl rfl dX5_turnBehind_43 ?_
          refine g_icmp_ge C (tgt := 57) dX5_turnBehind_44 (by decide) (fun cd7 => ?_) (fun cd7 => ?_)
          · replace h := (if_pos cd7).symm.trans h
            refine g_iload_n C 3 rfl rfl dX5_turnBehind_57 ?_
            refine g_lv [0, 1, 2, 4] (lv2 := [(0, .ref (b 0)), (1, .int v1), (2, .int v2), (4, .int v4)]) rfl ?_
            exact v_X5_turnBehind_58 (v1 := v1) (v2 := v2) (v4 := v4) (s0 := v3) C hQ (fun qv3 qv4 hh => ih qv3 qv4 hh) h
          · replace h := (if_neg cd7).symm.trans h
            refine g_aload_n C 0 rfl rfl dX5_turnBehind_47 ?_
            refine g_X5_time C i_X5_turnBehind_X5 m_X5_turnBehind_3 0 rfl dX5_turnBehind_48 ?_
            refine g_iload C 4 rfl dX5_turnBehind_51 ?_
            obtain ⟨cd8, h⟩ := ifN h
            refine g_iald C 1 rfl (inB_in cd8) dX5_turnBehind_53 ?_
            refine g_goto C (tgt := 58) dX5_turnBehind_54 (by decide) ?_
            refine g_lv [0, 1, 2, 4] (lv2 := [(0, .ref (b 0)), (1, .int v1), (2, .int v2), (4, .int v4)]) rfl ?_
            exact v_X5_turnBehind_58 (v1 := v1) (v2 := v2) (v4 := v4) (s0 := (ti v4.toNatClampNeg)) C hQ (fun qv3 qv4 hh => ih qv3 qv4 hh) h
set_option maxHeartbeats 4000000 in
set_option maxRecDepth 100000 in
theorem c_X5_turnBehind (E : gE) (b : Nat → Nat) (th : Int32) (ma : Int32) (st : Int32) (ti : Nat → Int32) (sp : Nat → Int32) (we : Nat → Int32) (ho : Nat → Int32) (sa : Nat → Int32) (ca : Nat → Int32) (cl : Nat → Int32) (su : Int64) (p1 : Int32) (p2 : Int32) (o : (Int32)) (h : f_X5_turnBehind ma ti sp ho sa p1 p2 = some o) : Ct E yX5_turnBehind wsX5_turnBehind r_X5_turnBehind [.ref (b 0), .int p1, .int p2] (wM E b th ma st ti sp we ho sa ca cl su) (gO (fun u9 => some (.int u9)) (fun u9 => (wM E b th ma st ti sp we ho sa ca cl su)) (.inr o)) := by
  refine Ct.of (cc := cX5_turnBehind) (nL := 5) (ret := ((some .int))) (own := RX5) (by decide) rfl rfl (Nat.le_of_ble_eq_true rfl) rfl ?_ ?_
  · intro v w1 hh
    cases hh; rfl
  · intro X C hQ
    rw [f_X5_turnBehind] at h
    refine g_ldc C (v := 100000) m_X5_turnBehind_0 dX5_turnBehind_0 ?_
    refine g_istore_n C (lv2 := [(3, .int 100000), (0, .ref (b 0)), (1, .int p1), (2, .int p2)]) rfl (by decide) rfl dX5_turnBehind_2 ?_
    refine g_iconst C (v := 0) (by decide) dX5_turnBehind_3 ?_
    refine g_istore C (lv2 := [(4, .int 0), (3, .int 100000), (0, .ref (b 0)), (1, .int p1), (2, .int p2)]) rfl (by decide) dX5_turnBehind_4 ?_
    refine g_lv [2, 3, 4, 1, 0] (lv2 := [(0, .ref (b 0)), (1, .int p1), (2, .int p2), (3, .int 100000), (4, .int 0)]) rfl ?_
    exact w_X5_turnBehind_6 (v1 := p1) (v2 := p2) C hQ FU 100000 0 h
abbrev r_X5_checksum : Room := { frames := 4, cells := 0, slots := 0, locals := 87 }
theorem m_X5_checksum_0 : Cond.fieldLink RX5 31 "BookinghouseModel" "thrown" "I" ∈ wsX5_checksum := by decide +kernel
theorem i_X5_checksum_X5 : ∀ w ∈ wsX50, w ∈ wsX5_checksum := by decide +kernel
theorem m_X5_checksum_2 : Cond.constantLong RX5 122 7 ∈ wsX5_checksum := by decide +kernel
theorem m_X5_checksum_3 : Cond.fieldLink RX5 118 "BookinghouseModel" "sum" "J" ∈ wsX5_checksum := by decide +kernel
theorem m_X5_checksum_4 : Cond.fieldLink RX5 28 "BookinghouseModel" "clock" "[I" ∈ wsX5_checksum := by decide +kernel
theorem m_X5_checksum_5 : Cond.constant RX5 72 100000 ∈ wsX5_checksum := by decide +kernel
set_option maxHeartbeats 4000000 in
set_option maxRecDepth 100000 in
theorem v_X5_checksum_143 {E : gE} {X : gX} {b : Nat → Nat} {th : Int32} {ma : Int32} {st : Int32} {ti : Nat → Int32} {sp : Nat → Int32} {we : Nat → Int32} {ho : Nat → Int32} {sa : Nat → Int32} {ca : Nat → Int32} {cl : Nat → Int32} {su : Int64} {v1 : Int32} {v2 : Int32} {thc : Int32} {suc : Int64} {ko14 : Int32 → Int64 → Option (Int64 × Int32 × Int64)} {ko114 : Int32 → Int64 → Option (Int64 × Int32 × Int64)} {o : (Int64 × Int32 × Int64)} (C : Cx E X cX5_checksum 4 RX5 wsX5_checksum r_X5_checksum ((some .long)) []) (hQ : gQ E X (wM E b th ma st ti sp we ho sa ca cl su) r_X5_checksum (gO (fun u9 => some (.long u9.1)) (fun u9 => (wM E b u9.2.1 ma st ti sp we ho sa ca cl u9.2.2)) (.inr o))) (Hko14 : ∀ (qv1 : Int32) (qsuc : Int64), ko14 qv1 qsuc = some o → Gx E X (wM E b thc ma st ti sp we ho sa ca cl qsuc) 4 [(0, .ref (b 0)), (1, .int qv1)] [] 14 0 0) (Hko114 : ∀ (qv2 : Int32) (qsuc : Int64), ko114 qv2 qsuc = some o → Gx E X (wM E b thc ma st ti sp we ho sa ca cl qsuc) 4 [(0, .ref (b 0)), (1, .int v1), (2, .int qv2)] [] 114 0 0) (h : b_X5_checksum_143 ma ti sp ho sa ko14 ko114 v1 v2 thc suc = some o) : Gx E X (wM E b thc ma st ti sp we ho sa ca cl suc) 4 [(0, .ref (b 0)), (1, .int v1), (2, .int v2)] [] 143 0 0 := by
  rw [b_X5_checksum_143] at h
  refine g_aload_n C 0 rfl rfl dX5_checksum_143 ?_
  refine g_iload_n C 1 rfl rfl dX5_checksum_144 ?_
  refine g_iload_n C 2 rfl rfl dX5_checksum_145 ?_
  obtain ⟨g1, eg1, h⟩ := Option.bind_eq_some_iff.mp h
  refine g_cVr (As := [.int v1, .int v2]) (n9 := 2) (st := []) (w2 := (wM E b thc ma st ti sp we ho sa ca cl suc)) C (c_X5_turnBehind E b thc ma st ti sp we ho sa ca cl suc v1 v2 g1 eg1) gX5_checksum_X5_turnBehind rfl (by decide +kernel) rfl ⟨by decide, by decide, by decide, by decide, Nat.le_of_ble_eq_true rfl⟩ 0 rfl rfl (gSub.idx [0, 1, 2, 3, 4, 5, 6, 7] rfl rfl) rfl dX5_checksum_146 ?_
  refine g_istore_n C (lv2 := [(2, .int g1), (0, .ref (b 0)), (1, .int v1)]) rfl (by decide) rfl dX5_checksum_149 ?_
  refine g_goto C (tgt := 114) dX5_checksum_150 (by decide) ?_
  refine g_lv [1, 2, 0] (lv2 := [(0, .ref (b 0)), (1, .int v1), (2, .int g1)]) rfl ?_
  exact Hko114 g1 suc h
set_option maxHeartbeats 4000000 in
set_option maxRecDepth 100000 in
theorem w_X5_checksum_114 {E : gE} {X : gX} {b : Nat → Nat} {th : Int32} {ma : Int32} {st : Int32} {ti : Nat → Int32} {sp : Nat → Int32} {we : Nat → Int32} {ho : Nat → Int32} {sa : Nat → Int32} {ca : Nat → Int32} {cl : Nat → Int32} {su : Int64} {v1 : Int32} {thc : Int32} {ko14 : Int32 → Int64 → Option (Int64 × Int32 × Int64)} {o : (Int64 × Int32 × Int64)} (C : Cx E X cX5_checksum 4 RX5 wsX5_checksum r_X5_checksum ((some .long)) []) (hQ : gQ E X (wM E b th ma st ti sp we ho sa ca cl su) r_X5_checksum (gO (fun u9 => some (.long u9.1)) (fun u9 => (wM E b u9.2.1 ma st ti sp we ho sa ca cl u9.2.2)) (.inr o))) (Hko14 : ∀ (qv1 : Int32) (qsuc : Int64), ko14 qv1 qsuc = some o → Gx E X (wM E b thc ma st ti sp we ho sa ca cl qsuc) 4 [(0, .ref (b 0)), (1, .int qv1)] [] 14 0 0) : ∀ (F : Nat) (v2 : Int32) (suc : Int64), l_X5_checksum_114 ma ti sp we ho sa v1 thc ko14 F v2 suc = some o → Gx E X (wM E b thc ma st ti sp we ho sa ca cl suc) 4 [(0, .ref (b 0)), (1, .int v1), (2, .int v2)] [] 114 0 0 := by
  intro F
  induction F with
  | zero => intro v2 suc h; exact absurd h (by simp [l_X5_checksum_114])
  | succ F ih =>
    intro v2 suc h
    rw [l_X5_checksum_114] at h
    refine g_iload_n C 2 rfl rfl dX5_checksum_114 ?_
    refine g_ldc C (v := 100000) m_X5_checksum_5 dX5_checksum_115 ?_
    refine g_icmp_ge C (tgt := 153) dX5_checksum_117 (by decide) (fun cd1 => ?_) (fun cd1 => ?_)
    · replace h := (if_pos cd1).symm.trans h
      refine g_iinc C (v := v1 + 1) 1 rfl rfl (lv2 := [(1, .int (v1 + 1)), (0, .ref (b 0)), (2, .int v2)]) rfl (by decide) dX5_checksum_153 ?_
      refine g_goto C (tgt := 14) dX5_checksum_156 (by decide) ?_
      refine g_lv [1, 0] (lv2 := [(0, .ref (b 0)), (1, .int (v1 + 1))]) rfl ?_
      exact Hko14 (v1 + 1) suc h
    · replace h := (if_neg cd1).symm.trans h
      refine g_aload_n C 0 rfl rfl dX5_checksum_120 ?_
      refine g_iload_n C 1 rfl rfl dX5_checksum_121 ?_
      refine g_iload_n C 2 rfl rfl dX5_checksum_122 ?_
      obtain ⟨g2, eg2, h⟩ := Option.bind_eq_some_iff.mp h
      refine g_cVr (As := [.int v1, .int v2]) (n9 := 2) (st := []) (w2 := (wM E b thc ma st ti sp we ho sa ca cl suc)) C (c_X5_changeAt E b thc ma st ti sp we ho sa ca cl suc v1 v2 g2 eg2) gX5_checksum_X5_changeAt rfl (by decide +kernel) rfl ⟨by decide, by decide, by decide, by decide, Nat.le_of_ble_eq_true rfl⟩ 0 rfl rfl (gSub.idx [0, 1, 2, 3, 4, 5, 6, 7] rfl rfl) rfl dX5_checksum_123 ?_
      refine g_istore_n C (lv2 := [(3, .int g2), (0, .ref (b 0)), (1, .int v1), (2, .int v2)]) rfl (by decide) rfl dX5_checksum_126 ?_
      refine g_iload_n C 0 rfl rfl dX5_checksum_127 ?_
      refine g_if_eq C (tgt := 143) dX5_checksum_128 (by decide) (fun cd3 => ?_) (fun cd3 => ?_)
      · replace h := (if_pos cd3).symm.trans h
        refine g_lv [1, 2, 3] (lv2 := [(0, .ref (b 0)), (1, .int v1), (2, .int v2)]) rfl ?_
        exact v_X5_checksum_143 (v1 := v1) (v2 := v2) (thc := thc) (suc := suc) C hQ Hko14 (fun qv2 qsuc hh => ih qv2 qsuc hh) h
      · replace h := (if_neg cd3).symm.trans h
        refine g_aload_n C 1 rfl rfl dX5_checksum_131 ?_
        refine g_iload_n C 3 rfl rfl dX5_checksum_132 ?_
        refine g_i2l C dX5_checksum_133 ?_
        obtain ⟨g4, eg4, h⟩ := Option.bind_eq_some_iff.mp h
        refine g_cVv (As := [.long v2.toInt64]) (n9 := 1) (st := []) (w2 := (wM E b thc ma st ti sp we ho sa ca cl g4)) C (c_X5_adds E b thc ma st ti sp we ho sa ca cl suc v2.toInt64 g4 eg4) gX5_checksum_X5_adds rfl (by decide +kernel) rfl ⟨by decide, by decide, by decide, by decide, Nat.le_of_ble_eq_true rfl⟩ 0 rfl rfl (gSub.idx [0, 1, 2, 3, 4, 5, 6, 7] rfl rfl) rfl dX5_checksum_134 ?_
        refine g_aload_n C 1 rfl rfl dX5_checksum_137 ?_
        refine g_iload_n C 0 rfl rfl dX5_checksum_138 ?_
        refine g_i2l C dX5_checksum_139 ?_
        obtain ⟨g5, eg5, h⟩ := Option.bind_eq_some_iff.mp h
        refine g_cVv (As := [.long g2.toInt64]) (n9 := 1) (st := []) (w2 := (wM E b thc ma st ti sp we ho sa ca cl g5)) C (c_X5_adds E b thc ma st ti sp we ho sa ca cl g4 g2.toInt64 g5 eg5) gX5_checksum_X5_adds rfl (by decide +kernel) rfl ⟨by decide, by decide, by decide, by decide, Nat.le_of_ble_eq_true rfl⟩ 0 rfl rfl (gSub.idx [0, 1, 2, 3, 4, 5, 6, 7] rfl rfl) rfl dX5_checksum_140 ?_
        refine g_lv [1, 2, 3] (lv2 := [(0, .ref (b 0)), (1, .int v1), (2, .int v2)]) rfl ?_
        exact v_X5_checksum_143 (v1 := v1) (v2 := v2) (thc := thc) (suc := g5) C hQ Hko14 (fun qv2 qsuc hh => ih qv2 qsuc hh) h
set_option maxHeartbeats 4000000 in
set_option maxRecDepth 100000 in
theorem w_X5_checksum_86 {E : gE} {X : gX} {b : Nat → Nat} {th : Int32} {ma : Int32} {st : Int32} {ti : Nat → Int32} {sp : Nat → Int32} {we : Nat → Int32} {ho : Nat → Int32} {sa : Nat → Int32} {ca : Nat → Int32} {cl : Nat → Int32} {su : Int64} {v1 : Int32} {thc : Int32} {ko14 : Int32 → Int64 → Option (Int64 × Int32 × Int64)} {o : (Int64 × Int32 × Int64)} (C : Cx E X cX5_checksum 4 RX5 wsX5_checksum r_X5_checksum ((some .long)) []) (hQ : gQ E X (wM E b th ma st ti sp we ho sa ca cl su) r_X5_checksum (gO (fun u9 => some (.long u9.1)) (fun u9 => (wM E b u9.2.1 ma st ti sp we ho sa ca cl u9.2.2)) (.inr o))) (Hko14 : ∀ (qv1 : Int32) (qsuc : Int64), ko14 qv1 qsuc = some o → Gx E X (wM E b thc ma st ti sp we ho sa ca cl qsuc) 4 [(0, .ref (b 0)), (1, .int qv1)] [] 14 0 0) : ∀ (F : Nat) (v2 : Int32) (suc : Int64), l_X5_checksum_86 ma ti sp we ho sa ca v1 thc ko14 F v2 suc = some o → Gx E X (wM E b thc ma st ti sp we ho sa ca cl suc) 4 [(0, .ref (b 0)), (1, .int v1), (2, .int v2)] [] 86 0 0 := by
  intro F
  induction F with
  | zero => intro v2 suc h; exact absurd h (by simp [l_X5_checksum_86])
  | succ F ih =>
    intro v2 suc h
    rw [l_X5_checksum_86] at h
    refine g_iload_n C 2 rfl rfl dX5_checksum_86 ?_
    refine g_iconst C (v := (-1)) (by decide) dX5_checksum_87 ?_
    refine g_icmp_eq C (tgt := 107) dX5_checksum_88 (by decide) (fun cd1 => ?_) (fun cd1 => ?_)
    · replace h := (if_pos cd1).symm.trans h
      refine g_aload_n C 0 rfl rfl dX5_checksum_107 ?_
      refine g_iload_n C 1 rfl rfl dX5_checksum_108 ?_
      refine g_iconst C (v := (-1)) (by decide) dX5_checksum_109 ?_
      obtain ⟨g2, eg2, h⟩ := Option.bind_eq_some_iff.mp h
      refine g_cVr (As := [.int v1, .int (-1)]) (n9 := 2) (st := []) (w2 := (wM E b thc ma st ti sp we ho sa ca cl suc)) C (c_X5_turnBehind E b thc ma st ti sp we ho sa ca cl suc v1 (-1) g2 eg2) gX5_checksum_X5_turnBehind rfl (by decide +kernel) rfl ⟨by decide, by decide, by decide, by decide, Nat.le_of_ble_eq_true rfl⟩ 0 rfl rfl (gSub.idx [0, 1, 2, 3, 4, 5, 6, 7] rfl rfl) rfl dX5_checksum_110 ?_
      refine g_istore_n C (lv2 := [(2, .int g2), (0, .ref (b 0)), (1, .int v1)]) rfl (by decide) rfl dX5_checksum_113 ?_
      refine g_lv [1, 2, 0] (lv2 := [(0, .ref (b 0)), (1, .int v1), (2, .int g2)]) rfl ?_
      exact w_X5_checksum_114 (v1 := v1) (thc := thc) C hQ Hko14 FU g2 suc h
    · replace h := (if_neg cd1).symm.trans h
      refine g_aload_n C 0 rfl rfl dX5_checksum_91 ?_
      refine g_iload_n C 2 rfl rfl dX5_checksum_92 ?_
      refine g_i2l C dX5_checksum_93 ?_
      obtain ⟨g3, eg3, h⟩ := Option.bind_eq_some_iff.mp h
      refine g_cVv (As := [.long v2.toInt64]) (n9 := 1) (st := []) (w2 := (wM E b thc ma st ti sp we ho sa ca cl g3)) C (c_X5_adds E b thc ma st ti sp we ho sa ca cl suc v2.toInt64 g3 eg3) gX5_checksum_X5_adds rfl (by decide +kernel) rfl ⟨by decide, by decide, by decide, by decide, Nat.le_of_ble_eq_true rfl⟩ 0 rfl rfl (gSub.idx [0, 1, 2, 3, 4, 5, 6, 7] rfl rfl) rfl dX5_checksum_94 ?_
      refine g_aload_n C 0 rfl rfl dX5_checksum_97 ?_
      refine g_iload_n C 1 rfl rfl dX5_checksum_98 ?_
      refine g_iload_n C 2 rfl rfl dX5_checksum_99 ?_
      obtain ⟨g4, eg4, h⟩ := Option.bind_eq_some_iff.mp h
      refine g_cVr (As := [.int v1, .int v2]) (n9 := 2) (st := []) (w2 := (wM E b thc ma st ti sp we ho sa ca cl g3)) C (c_X5_cameBehind E b thc ma st ti sp we ho sa ca cl g3 v1 v2 g4 eg4) gX5_checksum_X5_cameBehind rfl (by decide +kernel) rfl ⟨by decide, by decide, by decide, by decide, Nat.le_of_ble_eq_true rfl⟩ 0 rfl rfl (gSub.idx [0, 1, 2, 3, 4, 5, 6, 7] rfl rfl) rfl dX5_checksum_100 ?_
      refine g_istore_n C (lv2 := [(2, .int g4), (0, .ref (b 0)), (1, .int v1)]) rfl (by decide) rfl dX5_checksum_103 ?_
      refine g_goto C (tgt := 86) dX5_checksum_104 (by decide) ?_
      refine g_lv [1, 2, 0] (lv2 := [(0, .ref (b 0)), (1, .int v1), (2, .int g4)]) rfl ?_
      exact ih g4 g3 h
set_option maxHeartbeats 4000000 in
set_option maxRecDepth 100000 in
theorem w_X5_checksum_47 {E : gE} {X : gX} {b : Nat → Nat} {th : Int32} {ma : Int32} {st : Int32} {ti : Nat → Int32} {sp : Nat → Int32} {we : Nat → Int32} {ho : Nat → Int32} {sa : Nat → Int32} {ca : Nat → Int32} {cl : Nat → Int32} {su : Int64} {v1 : Int32} {thc : Int32} {ko14 : Int32 → Int64 → Option (Int64 × Int32 × Int64)} {o : (Int64 × Int32 × Int64)} (C : Cx E X cX5_checksum 4 RX5 wsX5_checksum r_X5_checksum ((some .long)) []) (hQ : gQ E X (wM E b th ma st ti sp we ho sa ca cl su) r_X5_checksum (gO (fun u9 => some (.long u9.1)) (fun u9 => (wM E b u9.2.1 ma st ti sp we ho sa ca cl u9.2.2)) (.inr o))) (Hko14 : ∀ (qv1 : Int32) (qsuc : Int64), ko14 qv1 qsuc = some o → Gx E X (wM E b thc ma st ti sp we ho sa ca cl qsuc) 4 [(0, .ref (b 0)), (1, .int qv1)] [] 14 0 0) : ∀ (F : Nat) (v2 : Int32) (suc : Int64), l_X5_checksum_47 ma ti sp we ho sa ca v1 thc ko14 F v2 suc = some o → Gx E X (wM E b thc ma st ti sp we ho sa ca cl suc) 4 [(0, .ref (b 0)), (1, .int v1), (2, .int v2)] [] 47 0 0 := by
  intro F
  induction F with
  | zero => intro v2 suc h; exact absurd h (by simp [l_X5_checksum_47])
  | succ F ih =>
    intro v2 suc h
    rw [l_X5_checksum_47] at h
    refine g_iload_n C 2 rfl rfl dX5_checksum_47 ?_
    refine g_iconst C (v := (-1)) (by decide) dX5_checksum_48 ?_
    refine g_icmp_eq C (tgt := 68) dX5_checksum_49 (by decide) (fun cd1 => ?_) (fun cd1 => ?_)
    · replace h := (if_pos cd1).symm.trans h
      refine g_aload_n C 0 rfl rfl dX5_checksum_68 ?_
      refine g_aload_n C 0 rfl rfl dX5_checksum_69 ?_
      refine g_iload_n C 1 rfl rfl dX5_checksum_70 ?_
      refine g_iconst C (v := 1) (by decide) dX5_checksum_71 ?_
      obtain ⟨g2, eg2, h⟩ := Option.bind_eq_some_iff.mp h
      refine g_cVr (As := [.int v1, .int 1]) (n9 := 2) (st := [.ref (b 0)]) (w2 := (wM E b thc ma st ti sp we ho sa ca cl suc)) C (c_X5_many E b thc ma st ti sp we ho sa ca cl suc v1 1 g2 eg2) gX5_checksum_X5_many rfl (by decide +kernel) rfl ⟨by decide, by decide, by decide, by decide, Nat.le_of_ble_eq_true rfl⟩ 0 rfl rfl (gSub.idx [0, 1, 2, 3, 4, 5, 6, 7] rfl rfl) rfl dX5_checksum_72 ?_
      refine g_i2l C dX5_checksum_75 ?_
      obtain ⟨g3, eg3, h⟩ := Option.bind_eq_some_iff.mp h
      refine g_cVv (As := [.long g2.toInt64]) (n9 := 1) (st := []) (w2 := (wM E b thc ma st ti sp we ho sa ca cl g3)) C (c_X5_adds E b thc ma st ti sp we ho sa ca cl suc g2.toInt64 g3 eg3) gX5_checksum_X5_adds rfl (by decide +kernel) rfl ⟨by decide, by decide, by decide, by decide, Nat.le_of_ble_eq_true rfl⟩ 0 rfl rfl (gSub.idx [0, 1, 2, 3, 4, 5, 6, 7] rfl rfl) rfl dX5_checksum_76 ?_
      refine g_aload_n C 0 rfl rfl dX5_checksum_79 ?_
      refine g_iload_n C 1 rfl rfl dX5_checksum_80 ?_
      refine g_iconst C (v := (-1)) (by decide) dX5_checksum_81 ?_
      obtain ⟨g4, eg4, h⟩ := Option.bind_eq_some_iff.mp h
      refine g_cVr (As := [.int v1, .int (-1)]) (n9 := 2) (st := []) (w2 := (wM E b thc ma st ti sp we ho sa ca cl g3)) C (c_X5_cameBehind E b thc ma st ti sp we ho sa ca cl g3 v1 (-1) g4 eg4) gX5_checksum_X5_cameBehind rfl (by decide +kernel) rfl ⟨by decide, by decide, by decide, by decide, Nat.le_of_ble_eq_true rfl⟩ 0 rfl rfl (gSub.idx [0, 1, 2, 3, 4, 5, 6, 7] rfl rfl) rfl dX5_checksum_82 ?_
      refine g_istore_n C (lv2 := [(2, .int g4), (0, .ref (b 0)), (1, .int v1)]) rfl (by decide) rfl dX5_checksum_85 ?_
      refine g_lv [1, 2, 0] (lv2 := [(0, .ref (b 0)), (1, .int v1), (2, .int g4)]) rfl ?_
      exact w_X5_checksum_86 (v1 := v1) (thc := thc) C hQ Hko14 FU g4 g3 h
    · replace h := (if_neg cd1).symm.trans h
      refine g_aload_n C 0 rfl rfl dX5_checksum_52 ?_
      refine g_iload_n C 2 rfl rfl dX5_checksum_53 ?_
      refine g_i2l C dX5_checksum_54 ?_
      obtain ⟨g5, eg5, h⟩ := Option.bind_eq_some_iff.mp h
      refine g_cVv (As := [.long v2.toInt64]) (n9 := 1) (st := []) (w2 := (wM E b thc ma st ti sp we ho sa ca cl g5)) C (c_X5_adds E b thc ma st ti sp we ho sa ca cl suc v2.toInt64 g5 eg5) gX5_checksum_X5_adds rfl (by decide +kernel) rfl ⟨by decide, by decide, by decide, by decide, Nat.le_of_ble_eq_true rfl⟩ 0 rfl rfl (gSub.idx [0, 1, 2, 3, 4, 5, 6, 7] rfl rfl) rfl dX5_checksum_55 ?_
      refine g_aload_n C 0 rfl rfl dX5_checksum_58 ?_
      refine g_iload_n C 1 rfl rfl dX5_checksum_59 ?_
      refine g_iload_n C 2 rfl rfl dX5_checksum_60 ?_
      obtain ⟨g6, eg6, h⟩ := Option.bind_eq_some_iff.mp h
      refine g_cVr (As := [.int v1, .int v2]) (n9 := 2) (st := []) (w2 := (wM E b thc ma st ti sp we ho sa ca cl g5)) C (c_X5_behind E b thc ma st ti sp we ho sa ca cl g5 v1 v2 g6 eg6) gX5_checksum_X5_behind rfl (by decide +kernel) rfl ⟨by decide, by decide, by decide, by decide, Nat.le_of_ble_eq_true rfl⟩ 0 rfl rfl (gSub.idx [0, 1, 2, 3, 4, 5, 6, 7] rfl rfl) rfl dX5_checksum_61 ?_
      refine g_istore_n C (lv2 := [(2, .int g6), (0, .ref (b 0)), (1, .int v1)]) rfl (by decide) rfl dX5_checksum_64 ?_
      refine g_goto C (tgt := 47) dX5_checksum_65 (by decide) ?_
      refine g_lv [1, 2, 0] (lv2 := [(0, .ref (b 0)), (1, .int v1), (2, .int g6)]) rfl ?_
      exact ih g6 g5 h
set_option maxHeartbeats 4000000 in
set_option maxRecDepth 100000 in
theorem w_X5_checksum_14 {E : gE} {X : gX} {b : Nat → Nat} {th : Int32} {ma : Int32} {st : Int32} {ti : Nat → Int32} {sp : Nat → Int32} {we : Nat → Int32} {ho : Nat → Int32} {sa : Nat → Int32} {ca : Nat → Int32} {cl : Nat → Int32} {su : Int64} {thc : Int32} {o : (Int64 × Int32 × Int64)} (C : Cx E X cX5_checksum 4 RX5 wsX5_checksum r_X5_checksum ((some .long)) []) (hQ : gQ E X (wM E b th ma st ti sp we ho sa ca cl su) r_X5_checksum (gO (fun u9 => some (.long u9.1)) (fun u9 => (wM E b u9.2.1 ma st ti sp we ho sa ca cl u9.2.2)) (.inr o))) : ∀ (F : Nat) (v1 : Int32) (suc : Int64), l_X5_checksum_14 ma ti sp we ho sa ca cl thc F v1 suc = some o → Gx E X (wM E b thc ma st ti sp we ho sa ca cl suc) 4 [(0, .ref (b 0)), (1, .int v1)] [] 14 0 0 := by
  intro F
  induction F with
  | zero => intro v1 suc h; exact absurd h (by simp [l_X5_checksum_14])
  | succ F ih =>
    intro v1 suc h
    rw [l_X5_checksum_14] at h
    refine g_iload_n C 1 rfl rfl dX5_checksum_14 ?_
    refine g_iconst C (v := 4) (by decide) dX5_checksum_15 ?_
    refine g_icmp_ge C (tgt := 159) dX5_checksum_16 (by decide) (fun cd1 => ?_) (fun cd1 => ?_)
    · replace h := (if_pos cd1).symm.trans h
      refine g_aload_n C 0 rfl rfl dX5_checksum_159 ?_
      refine g_X5_sum C i_X5_checksum_X5 m_X5_checksum_3 0 rfl dX5_checksum_160 ?_
      obtain rfl := Option.some.inj h
      exact g_lret C hQ rfl ⟨by decide, by decide⟩ dX5_checksum_163
    · replace h := (if_neg cd1).symm.trans h
      refine g_aload_n C 0 rfl rfl dX5_checksum_19 ?_
      refine g_aload_n C 0 rfl rfl dX5_checksum_20 ?_
      refine g_X5_clock C i_X5_checksum_X5 m_X5_checksum_4 0 rfl dX5_checksum_21 ?_
      refine g_iload_n C 1 rfl rfl dX5_checksum_24 ?_
      obtain ⟨cd2, h⟩ := ifN h
      refine g_iald C 7 rfl (inB_in cd2) dX5_checksum_25 ?_
      refine g_i2l C dX5_checksum_26 ?_
      obtain ⟨g3, eg3, h⟩ := Option.bind_eq_some_iff.mp h
      refine g_cVv (As := [.long ((cl v1.toNatClampNeg).toInt64)]) (n9 := 1) (st := []) (w2 := (wM E b thc ma st ti sp we ho sa ca cl g3)) C (c_X5_adds E b thc ma st ti sp we ho sa ca cl suc ((cl v1.toNatClampNeg).toInt64) g3 eg3) gX5_checksum_X5_adds rfl (by decide +kernel) rfl ⟨by decide, by decide, by decide, by decide, Nat.le_of_ble_eq_true rfl⟩ 0 rfl rfl (gSub.idx [0, 1, 2, 3, 4, 5, 6, 7] rfl rfl) rfl dX5_checksum_27 ?_
      refine g_aload_n C 0 rfl rfl dX5_checksum_30 ?_
      refine g_aload_n C 0 rfl rfl dX5_checksum_31 ?_
      refine g_iload_n C 1 rfl rfl dX5_checksum_32 ?_
      refine g_iconst C (v := 0) (by decide) dX5_checksum_33 ?_
      obtain ⟨g4, eg4, h⟩ := Option.bind_eq_some_iff.mp h
      refine g_cVr (As := [.int v1, .int 0]) (n9 := 2) (st := [.ref (b 0)]) (w2 := (wM E b thc ma st ti sp we ho sa ca cl g3)) C (c_X5_many E b thc ma st ti sp we ho sa ca cl g3 v1 0 g4 eg4) gX5_checksum_X5_many rfl (by decide +kernel) rfl ⟨by decide, by decide, by decide, by decide, Nat.le_of_ble_eq_true rfl⟩ 0 rfl rfl (gSub.idx [0, 1, 2, 3, 4, 5, 6, 7] rfl rfl) rfl dX5_checksum_34 ?_
      refine g_i2l C dX5_checksum_37 ?_
      obtain ⟨g5, eg5, h⟩ := Option.bind_eq_some_iff.mp h
      refine g_cVv (As := [.long g4.toInt64]) (n9 := 1) (st := []) (w2 := (wM E b thc ma st ti sp we ho sa ca cl g5)) C (c_X5_adds E b thc ma st ti sp we ho sa ca cl g3 g4.toInt64 g5 eg5) gX5_checksum_X5_adds rfl (by decide +kernel) rfl ⟨by decide, by decide, by decide, by decide, Nat.le_of_ble_eq_true rfl⟩ 0 rfl rfl (gSub.idx [0, 1, 2, 3, 4, 5, 6, 7] rfl rfl) rfl dX5_checksum_38 ?_
      refine g_aload_n C 0 rfl rfl dX5_checksum_41 ?_
      refine g_iload_n C 1 rfl rfl dX5_checksum_42 ?_
      obtain ⟨g6, eg6, h⟩ := Option.bind_eq_some_iff.mp h
      refine g_cVr (As := [.int v1]) (n9 := 1) (st := []) (w2 := (wM E b thc ma st ti sp we ho sa ca cl g5)) C (c_X5_first E b thc ma st ti sp we ho sa ca cl g5 v1 g6 eg6) gX5_checksum_X5_first rfl (by decide +kernel) rfl ⟨by decide, by decide, by decide, by decide, Nat.le_of_ble_eq_true rfl⟩ 0 rfl rfl (gSub.idx [0, 1, 2, 3, 4, 5, 6, 7] rfl rfl) rfl dX5_checksum_43 ?_
      refine g_istore_n C (lv2 := [(2, .int g6), (0, .ref (b 0)), (1, .int v1)]) rfl (by decide) rfl dX5_checksum_46 ?_
      refine g_lv [1, 2, 0] (lv2 := [(0, .ref (b 0)), (1, .int v1), (2, .int g6)]) rfl ?_
      exact w_X5_checksum_47 (v1 := v1) (thc := thc) C hQ (fun qv1 qsuc hh => ih qv1 qsuc hh) FU g6 g5 h
set_option maxHeartbeats 4000000 in
set_option maxRecDepth 100000 in
theorem c_X5_checksum (E : gE) (b : Nat → Nat) (th : Int32) (ma : Int32) (st : Int32) (ti : Nat → Int32) (sp : Nat → Int32) (we : Nat → Int32) (ho : Nat → Int32) (sa : Nat → Int32) (ca : Nat → Int32) (cl : Nat → Int32) (su : Int64) (o : (Int64 × Int32 × Int64)) (h : f_X5_checksum ma ti sp we ho sa ca cl = some o) : Ct E yX5_checksum wsX5_checksum r_X5_checksum [.ref (b 0)] (wM E b th ma st ti sp we ho sa ca cl su) (gO (fun u9 => some (.long u9.1)) (fun u9 => (wM E b u9.2.1 ma st ti sp we ho sa ca cl u9.2.2)) (.inr o)) := by
  refine Ct.of (cc := cX5_checksum) (nL := 4) (ret := ((some .long))) (own := RX5) (by decide) rfl rfl (Nat.le_of_ble_eq_true rfl) rfl ?_ ?_
  · intro v w1 hh
    cases hh; rfl
  · intro X C hQ
    rw [f_X5_checksum] at h
    refine g_aload_n C 0 rfl rfl dX5_checksum_0 ?_
    refine g_iconst C (v := 0) (by decide) dX5_checksum_1 ?_
    refine g_X5_set_thrown C i_X5_checksum_X5 m_X5_checksum_0 0 rfl (ws2 := (wM E b 0 ma st ti sp we ho sa ca cl su)) rfl dX5_checksum_2 ?_
    refine g_aload_n C 0 rfl rfl dX5_checksum_5 ?_
    refine g_ldc2 C (v := 7) m_X5_checksum_2 dX5_checksum_6 ?_
    refine g_X5_set_sum C i_X5_checksum_X5 m_X5_checksum_3 0 rfl (ws2 := (wM E b 0 ma st ti sp we ho sa ca cl 7)) rfl dX5_checksum_9 ?_
    refine g_iconst C (v := 0) (by decide) dX5_checksum_12 ?_
    refine g_istore_n C (lv2 := [(1, .int 0), (0, .ref (b 0))]) rfl (by decide) rfl dX5_checksum_13 ?_
    refine g_lv [1, 0] (lv2 := [(0, .ref (b 0)), (1, .int 0)]) rfl ?_
    exact w_X5_checksum_14 (thc := 0) C hQ FU 0 7 h
abbrev r_X5_isSound : Room := { frames := 1, cells := 0, slots := 0, locals := 20 }
theorem m_X5_isSound_0 : Cond.fieldLink RX5 31 "BookinghouseModel" "thrown" "I" ∈ wsX5_isSound := by decide +kernel
theorem i_X5_isSound_X5 : ∀ w ∈ wsX50, w ∈ wsX5_isSound := by decide +kernel
set_option maxHeartbeats 4000000 in
set_option maxRecDepth 100000 in
theorem c_X5_isSound (E : gE) (b : Nat → Nat) (th : Int32) (ma : Int32) (st : Int32) (ti : Nat → Int32) (sp : Nat → Int32) (we : Nat → Int32) (ho : Nat → Int32) (sa : Nat → Int32) (ca : Nat → Int32) (cl : Nat → Int32) (su : Int64) (o : (Bool × Int32)) (h : f_X5_isSound = some o) : Ct E yX5_isSound wsX5_isSound r_X5_isSound [.ref (b 0)] (wM E b th ma st ti sp we ho sa ca cl su) (gO (fun u9 => some (.int (bI u9.1))) (fun u9 => (wM E b u9.2 ma st ti sp we ho sa ca cl su)) (.inr o)) := by
  refine Ct.of (cc := cX5_isSound) (nL := 1) (ret := ((some .boolean))) (own := RX5) (by decide) rfl rfl (Nat.le_of_ble_eq_true rfl) rfl ?_ ?_
  · intro v w1 hh
    cases hh; rfl
  · intro X C hQ
    rw [f_X5_isSound] at h
    refine g_aload_n C 0 rfl rfl dX5_isSound_0 ?_
    refine g_iconst C (v := 0) (by decide) dX5_isSound_1 ?_
    refine g_X5_set_thrown C i_X5_isSound_X5 m_X5_isSound_0 0 rfl (ws2 := (wM E b 0 ma st ti sp we ho sa ca cl su)) rfl dX5_isSound_2 ?_
    refine g_iconst C (v := 1) (by decide) dX5_isSound_5 ?_
    obtain rfl := Option.some.inj h
    exact g_zret C hQ rfl rfl ⟨by decide, by decide⟩ dX5_isSound_6
