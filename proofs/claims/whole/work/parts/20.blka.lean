/-! block equations -/
-- 0 RangeHouse$Ask.<init>(IIIJJ)V
set_option maxRecDepth 100000 in
theorem bq_0_0 (T0 MI : Nat) (th : Nat) (x1 : Int32) (x2 : Int32) (x3 : Int32) (y4 : Int64) (o5 : Option xV) (y6 : Int64) (o7 : Option xV) (M : xM) : xZ T0 MI 0 0 [some (vr (some th)), some (vi x1), some (vi x2), some (vi x3), some (vl y4), o5, some (vl y6), o7] [] M = (xput M th 0 0 (vi x1)).bind fun M_1 => (xput M_1 th 0 1 (vi x2)).bind fun M_2 => (xput M_2 th 0 2 (vi x3)).bind fun M_3 => (xput M_3 th 0 3 (vl y4)).bind fun M_4 => (xput M_4 th 0 4 (vl y6)).bind fun M_5 => some (none, M_5) := (xZ_k T0 MI 18 _ _ _ _ _).trans rfl
-- 1 RangeHouse$Ask.hear(JI)V
set_option maxRecDepth 100000 in
theorem bq_1_0 (T0 MI : Nat) (th : Nat) (y1 : Int64) (o2 : Option xV) (x3 : Int32) (M : xM) : xZ T0 MI 1 0 [some (vr (some th)), some (vl y1), o2, some (vi x3)] [] M = (xgetI M th 0 5).bind fun x_1 => if x_1 = 0 then xZ T0 MI 1 7 [some (vr (some th)), some (vl y1), o2, some (vi x3)] [] M else xZ T0 MI 1 22 [some (vr (some th)), some (vl y1), o2, some (vi x3)] [] M := (xZ_k T0 MI 3 _ _ _ _ _).trans rfl
set_option maxRecDepth 100000 in
theorem bq_1_7 (T0 MI : Nat) (th : Nat) (y1 : Int64) (o2 : Option xV) (x3 : Int32) (M : xM) : xZ T0 MI 1 7 [some (vr (some th)), some (vl y1), o2, some (vi x3)] [] M = bif xbool (Int32.ofInt 1) then (xput M th 0 5 (vi (Int32.ofInt 1))).bind fun M_1 => (xput M_1 th 0 6 (vl y1)).bind fun M_2 => (xput M_2 th 0 7 (vi x3)).bind fun M_3 => xZ T0 MI 1 22 [some (vr (some th)), some (vl y1), o2, some (vi x3)] [] M_3 else none := (xZ_k T0 MI 9 _ _ _ _ _).trans rfl
set_option maxRecDepth 100000 in
theorem bq_1_22 (T0 MI : Nat) (o0 : Option xV) (o1 : Option xV) (o2 : Option xV) (o3 : Option xV) (M : xM) : xZ T0 MI 1 22 [o0, o1, o2, o3] [] M = some (none, M) := (xZ_k T0 MI 1 _ _ _ _ _).trans rfl
-- 2 RangeHouse$Caller.<init>(I)V
set_option maxRecDepth 100000 in
theorem bq_2_0 (T0 MI : Nat) (th : Nat) (x1 : Int32) (M : xM) : xZ T0 MI 2 0 [some (vr (some th)), some (vi x1)] [] M = (xZ T0 MI 203 0 [some (vr (some M.1))] [] (xnewO M 13)).bind fun z_1 => bif z_1.1.isNone then xZ T0 MI 2 12 [some (vr (some th)), some (vi x1)] [vr (some M.1), vr (some th)] z_1.2 else none := (xZ_k T0 MI 6 _ _ _ _ _).trans rfl
set_option maxRecDepth 100000 in
theorem bq_2_12 (T0 MI : Nat) (th : Nat) (x1 : Int32) (ts0 : Nat) (ts1 : Nat) (M : xM) : xZ T0 MI 2 12 [some (vr (some th)), some (vi x1)] [vr (some ts0), vr (some ts1)] M = (xput M ts1 1 1 (vr (some ts0))).bind fun M_1 => (xZ T0 MI 203 0 [some (vr (some M_1.1))] [] (xnewO M_1 13)).bind fun z_2 => bif z_2.1.isNone then xZ T0 MI 2 23 [some (vr (some th)), some (vi x1)] [vr (some M_1.1), vr (some th)] z_2.2 else none := (xZ_k T0 MI 5 _ _ _ _ _).trans rfl
set_option maxRecDepth 100000 in
theorem bq_2_23 (T0 MI : Nat) (th : Nat) (x1 : Int32) (ts0 : Nat) (ts1 : Nat) (M : xM) : xZ T0 MI 2 23 [some (vr (some th)), some (vi x1)] [vr (some ts0), vr (some ts1)] M = (xput M ts1 1 2 (vr (some ts0))).bind fun M_1 => (xput M_1 th 1 0 (vi x1)).bind fun M_2 => some (none, M_2) := (xZ_k T0 MI 5 _ _ _ _ _).trans rfl
-- 3 RangeHouse$Caller.askOf(I)LRangeHouse$Ask;
set_option maxRecDepth 100000 in
theorem bq_3_0 (T0 MI : Nat) (th : Nat) (x1 : Int32) (M : xM) : xZ T0 MI 3 0 [some (vr (some th)), some (vi x1)] [] M = if x1 < 0 then xZ T0 MI 3 15 [some (vr (some th)), some (vi x1)] [] M else xZ T0 MI 3 4 [some (vr (some th)), some (vi x1)] [] M := (xZ_k T0 MI 2 _ _ _ _ _).trans rfl
set_option maxRecDepth 100000 in
theorem bq_3_4 (T0 MI : Nat) (th : Nat) (x1 : Int32) (M : xM) : xZ T0 MI 3 4 [some (vr (some th)), some (vi x1)] [] M = (xgetR M th 1 2).bind fun r_1 => r_1.bind fun q_2 => bif xcls M q_2 13 then (xZ T0 MI 206 0 [some (vr (some q_2))] [] M).bind fun z_3 => (xasI z_3.1).bind fun x_4 => xZ T0 MI 3 12 [some (vr (some th)), some (vi x1)] [vi x_4, vi x1] z_3.2 else none := (xZ_k T0 MI 4 _ _ _ _ _).trans rfl
set_option maxRecDepth 100000 in
theorem bq_3_12 (T0 MI : Nat) (th : Nat) (x1 : Int32) (sx0 : Int32) (sx1 : Int32) (M : xM) : xZ T0 MI 3 12 [some (vr (some th)), some (vi x1)] [vi sx0, vi sx1] M = if sx1 < sx0 then xZ T0 MI 3 19 [some (vr (some th)), some (vi x1)] [] M else xZ T0 MI 3 15 [some (vr (some th)), some (vi x1)] [] M := (xZ_k T0 MI 1 _ _ _ _ _).trans rfl
set_option maxRecDepth 100000 in
theorem bq_3_15 (T0 MI : Nat) (o0 : Option xV) (o1 : Option xV) (M : xM) : xZ T0 MI 3 15 [o0, o1] [] M = xZ T0 MI 3 30 [o0, o1] [vr none] M := (xZ_k T0 MI 2 _ _ _ _ _).trans rfl
set_option maxRecDepth 100000 in
theorem bq_3_19 (T0 MI : Nat) (th : Nat) (x1 : Int32) (M : xM) : xZ T0 MI 3 19 [some (vr (some th)), some (vi x1)] [] M = (xgetR M th 1 2).bind fun r_1 => r_1.bind fun q_2 => bif xcls M q_2 13 then (xZ T0 MI 208 0 [some (vr (some q_2)), some (vi x1)] [] M).bind fun z_3 => (xasR z_3.1).bind fun r_4 => xZ T0 MI 3 27 [some (vr (some th)), some (vi x1)] [vr r_4] z_3.2 else none := (xZ_k T0 MI 4 _ _ _ _ _).trans rfl
set_option maxRecDepth 100000 in
theorem bq_3_27 (T0 MI : Nat) (o0 : Option xV) (o1 : Option xV) (sr0 : Option Nat) (M : xM) : xZ T0 MI 3 27 [o0, o1] [vr sr0] M = (match sr0 with
    | none => xZ T0 MI 3 30 [o0, o1] [vr none] M
    | some q_1 => bif xcls M q_1 0 then xZ T0 MI 3 30 [o0, o1] [vr (some q_1)] M else none) := (xZ_k T0 MI 1 _ _ _ _ _).trans rfl
set_option maxRecDepth 100000 in
theorem bq_3_30 (T0 MI : Nat) (o0 : Option xV) (o1 : Option xV) (sr0 : Option Nat) (M : xM) : xZ T0 MI 3 30 [o0, o1] [vr sr0] M = some (some (vr sr0), M) := (xZ_k T0 MI 1 _ _ _ _ _).trans rfl
-- 4 RangeHouse$Caller.spotOf(I)LRangeHouse$Spot;
set_option maxRecDepth 100000 in
theorem bq_4_0 (T0 MI : Nat) (th : Nat) (x1 : Int32) (o2 : Option xV) (o3 : Option xV) (M : xM) : xZ T0 MI 4 0 [some (vr (some th)), some (vi x1), o2, o3] [] M = xZ T0 MI 4 2 [some (vr (some th)), some (vi x1), some (vi (Int32.ofInt 0)), o3] [] M := (xZ_k T0 MI 2 _ _ _ _ _).trans rfl
set_option maxRecDepth 100000 in
theorem bq_4_2 (T0 MI : Nat) (th : Nat) (x1 : Int32) (x2 : Int32) (o3 : Option xV) (M : xM) : xZ T0 MI 4 2 [some (vr (some th)), some (vi x1), some (vi x2), o3] [] M = (xgetR M th 1 1).bind fun r_1 => r_1.bind fun q_2 => bif xcls M q_2 13 then (xZ T0 MI 206 0 [some (vr (some q_2))] [] M).bind fun z_3 => (xasI z_3.1).bind fun x_4 => xZ T0 MI 4 10 [some (vr (some th)), some (vi x1), some (vi x2), o3] [vi x_4, vi x2] z_3.2 else none := (xZ_k T0 MI 4 _ _ _ _ _).trans rfl
set_option maxRecDepth 100000 in
theorem bq_4_10 (T0 MI : Nat) (th : Nat) (x1 : Int32) (x2 : Int32) (o3 : Option xV) (sx0 : Int32) (sx1 : Int32) (M : xM) : xZ T0 MI 4 10 [some (vr (some th)), some (vi x1), some (vi x2), o3] [vi sx0, vi sx1] M = if sx0 ≤ sx1 then xZ T0 MI 4 41 [some (vr (some th)), some (vi x1), some (vi x2), o3] [] M else xZ T0 MI 4 13 [some (vr (some th)), some (vi x1), some (vi x2), o3] [] M := (xZ_k T0 MI 1 _ _ _ _ _).trans rfl
set_option maxRecDepth 100000 in
theorem bq_4_13 (T0 MI : Nat) (th : Nat) (x1 : Int32) (x2 : Int32) (o3 : Option xV) (M : xM) : xZ T0 MI 4 13 [some (vr (some th)), some (vi x1), some (vi x2), o3] [] M = (xgetR M th 1 1).bind fun r_1 => r_1.bind fun q_2 => bif xcls M q_2 13 then (xZ T0 MI 208 0 [some (vr (some q_2)), some (vi x2)] [] M).bind fun z_3 => (xasR z_3.1).bind fun r_4 => xZ T0 MI 4 21 [some (vr (some th)), some (vi x1), some (vi x2), o3] [vr r_4] z_3.2 else none := (xZ_k T0 MI 4 _ _ _ _ _).trans rfl
set_option maxRecDepth 100000 in
theorem bq_4_21 (T0 MI : Nat) (th : Nat) (x1 : Int32) (x2 : Int32) (o3 : Option xV) (sr0 : Option Nat) (M : xM) : xZ T0 MI 4 21 [some (vr (some th)), some (vi x1), some (vi x2), o3] [vr sr0] M = (match sr0 with
    | none => none
    | some q_1 => bif xcls M q_1 10 then bif xcls M q_1 10 then (xZ T0 MI 60 0 [some (vr (some q_1)), some (vi x1)] [] M).bind fun z_2 => (xasI z_2.1).bind fun x_3 => xZ T0 MI 4 30 [some (vr (some th)), some (vi x1), some (vi x2), some (vr (some q_1))] [vi x_3] z_2.2 else none else none) := (xZ_k T0 MI 5 _ _ _ _ _).trans rfl
set_option maxRecDepth 100000 in
theorem bq_4_30 (T0 MI : Nat) (th : Nat) (x1 : Int32) (x2 : Int32) (r3 : Option Nat) (sx0 : Int32) (M : xM) : xZ T0 MI 4 30 [some (vr (some th)), some (vi x1), some (vi x2), some (vr r3)] [vi sx0] M = if sx0 = 0 then xZ T0 MI 4 35 [some (vr (some th)), some (vi x1), some (vi x2), some (vr r3)] [] M else xZ T0 MI 4 33 [some (vr (some th)), some (vi x1), some (vi x2), some (vr r3)] [] M := (xZ_k T0 MI 1 _ _ _ _ _).trans rfl
set_option maxRecDepth 100000 in
theorem bq_4_33 (T0 MI : Nat) (o0 : Option xV) (o1 : Option xV) (o2 : Option xV) (r3 : Option Nat) (M : xM) : xZ T0 MI 4 33 [o0, o1, o2, some (vr r3)] [] M = some (some (vr r3), M) := (xZ_k T0 MI 2 _ _ _ _ _).trans rfl
set_option maxRecDepth 100000 in
theorem bq_4_35 (T0 MI : Nat) (th : Nat) (x1 : Int32) (x2 : Int32) (o3 : Option xV) (M : xM) : xZ T0 MI 4 35 [some (vr (some th)), some (vi x1), some (vi x2), o3] [] M = xZ T0 MI 4 2 [some (vr (some th)), some (vi x1), some (vi (x2 + Int32.ofInt 1)), o3] [] M := (xZ_k T0 MI 2 _ _ _ _ _).trans rfl
set_option maxRecDepth 100000 in
theorem bq_4_41 (T0 MI : Nat) (o0 : Option xV) (o1 : Option xV) (o2 : Option xV) (o3 : Option xV) (M : xM) : xZ T0 MI 4 41 [o0, o1, o2, o3] [] M = some (some (vr none), M) := (xZ_k T0 MI 2 _ _ _ _ _).trans rfl
-- 5 RangeHouse$Caller.correct(LRangeHouse$Spot;)V
set_option maxRecDepth 100000 in
theorem bq_5_0 (T0 MI : Nat) (th : Nat) (r1 : Option Nat) (o2 : Option xV) (o3 : Option xV) (M : xM) : xZ T0 MI 5 0 [some (vr (some th)), some (vr r1), o2, o3] [] M = xZ T0 MI 5 2 [some (vr (some th)), some (vr r1), some (vi (Int32.ofInt 0)), o3] [] M := (xZ_k T0 MI 2 _ _ _ _ _).trans rfl
set_option maxRecDepth 100000 in
theorem bq_5_2 (T0 MI : Nat) (th : Nat) (r1 : Option Nat) (x2 : Int32) (o3 : Option xV) (M : xM) : xZ T0 MI 5 2 [some (vr (some th)), some (vr r1), some (vi x2), o3] [] M = (xgetR M th 1 1).bind fun r_1 => r_1.bind fun q_2 => bif xcls M q_2 13 then (xZ T0 MI 206 0 [some (vr (some q_2))] [] M).bind fun z_3 => (xasI z_3.1).bind fun x_4 => xZ T0 MI 5 10 [some (vr (some th)), some (vr r1), some (vi x2), o3] [vi x_4, vi x2] z_3.2 else none := (xZ_k T0 MI 4 _ _ _ _ _).trans rfl
set_option maxRecDepth 100000 in
theorem bq_5_10 (T0 MI : Nat) (th : Nat) (r1 : Option Nat) (x2 : Int32) (o3 : Option xV) (sx0 : Int32) (sx1 : Int32) (M : xM) : xZ T0 MI 5 10 [some (vr (some th)), some (vr r1), some (vi x2), o3] [vi sx0, vi sx1] M = if sx0 ≤ sx1 then xZ T0 MI 5 51 [some (vr (some th)), some (vr r1), some (vi x2), o3] [] M else xZ T0 MI 5 13 [some (vr (some th)), some (vr r1), some (vi x2), o3] [] M := (xZ_k T0 MI 1 _ _ _ _ _).trans rfl
set_option maxRecDepth 100000 in
theorem bq_5_13 (T0 MI : Nat) (th : Nat) (r1 : Option Nat) (x2 : Int32) (o3 : Option xV) (M : xM) : xZ T0 MI 5 13 [some (vr (some th)), some (vr r1), some (vi x2), o3] [] M = (xgetR M th 1 1).bind fun r_1 => r_1.bind fun q_2 => bif xcls M q_2 13 then (xZ T0 MI 208 0 [some (vr (some q_2)), some (vi x2)] [] M).bind fun z_3 => (xasR z_3.1).bind fun r_4 => xZ T0 MI 5 21 [some (vr (some th)), some (vr r1), some (vi x2), o3] [vr r_4] z_3.2 else none := (xZ_k T0 MI 4 _ _ _ _ _).trans rfl
set_option maxRecDepth 100000 in
theorem bq_5_21 (T0 MI : Nat) (th : Nat) (r1 : Option Nat) (x2 : Int32) (o3 : Option xV) (sr0 : Option Nat) (M : xM) : xZ T0 MI 5 21 [some (vr (some th)), some (vr r1), some (vi x2), o3] [vr sr0] M = (match sr0 with
    | none => none
    | some q_1 => bif xcls M q_1 10 then bif xcls M q_1 10 then (xZ T0 MI 61 0 [some (vr (some q_1)), some (vr r1)] [] M).bind fun z_2 => (xasI z_2.1).bind fun x_3 => xZ T0 MI 5 30 [some (vr (some th)), some (vr r1), some (vi x2), some (vr (some q_1))] [vi x_3] z_2.2 else none else none) := (xZ_k T0 MI 5 _ _ _ _ _).trans rfl
set_option maxRecDepth 100000 in
theorem bq_5_30 (T0 MI : Nat) (th : Nat) (r1 : Option Nat) (x2 : Int32) (r3 : Option Nat) (sx0 : Int32) (M : xM) : xZ T0 MI 5 30 [some (vr (some th)), some (vr r1), some (vi x2), some (vr r3)] [vi sx0] M = if sx0 = 0 then xZ T0 MI 5 45 [some (vr (some th)), some (vr r1), some (vi x2), some (vr r3)] [] M else xZ T0 MI 5 33 [some (vr (some th)), some (vr r1), some (vi x2), some (vr r3)] [] M := (xZ_k T0 MI 1 _ _ _ _ _).trans rfl
set_option maxRecDepth 100000 in
theorem bq_5_33 (T0 MI : Nat) (th : Nat) (r1 : Option Nat) (x2 : Int32) (r3 : Option Nat) (M : xM) : xZ T0 MI 5 33 [some (vr (some th)), some (vr r1), some (vi x2), some (vr r3)] [] M = r3.bind fun q_1 => (xgetI M q_1 10 3).bind fun x_2 => r1.bind fun q_3 => (xgetI M q_3 10 3).bind fun x_4 => if x_2 < x_4 then xZ T0 MI 5 45 [some (vr (some th)), some (vr r1), some (vi x2), some (vr r3)] [] M else xZ T0 MI 5 44 [some (vr (some th)), some (vr r1), some (vi x2), some (vr r3)] [] M := (xZ_k T0 MI 5 _ _ _ _ _).trans rfl
set_option maxRecDepth 100000 in
theorem bq_5_44 (T0 MI : Nat) (o0 : Option xV) (o1 : Option xV) (o2 : Option xV) (o3 : Option xV) (M : xM) : xZ T0 MI 5 44 [o0, o1, o2, o3] [] M = some (none, M) := (xZ_k T0 MI 1 _ _ _ _ _).trans rfl
set_option maxRecDepth 100000 in
theorem bq_5_45 (T0 MI : Nat) (th : Nat) (r1 : Option Nat) (x2 : Int32) (o3 : Option xV) (M : xM) : xZ T0 MI 5 45 [some (vr (some th)), some (vr r1), some (vi x2), o3] [] M = xZ T0 MI 5 2 [some (vr (some th)), some (vr r1), some (vi (x2 + Int32.ofInt 1)), o3] [] M := (xZ_k T0 MI 2 _ _ _ _ _).trans rfl
set_option maxRecDepth 100000 in
theorem bq_5_51 (T0 MI : Nat) (th : Nat) (r1 : Option Nat) (o2 : Option xV) (o3 : Option xV) (M : xM) : xZ T0 MI 5 51 [some (vr (some th)), some (vr r1), o2, o3] [] M = (xgetR M th 1 1).bind fun r_1 => r_1.bind fun q_2 => bif xcls M q_2 13 then (xZ T0 MI 206 0 [some (vr (some q_2))] [] M).bind fun z_3 => (xasI z_3.1).bind fun x_4 => xZ T0 MI 5 58 [some (vr (some th)), some (vr r1), o2, o3] [vi x_4] z_3.2 else none := (xZ_k T0 MI 3 _ _ _ _ _).trans rfl
set_option maxRecDepth 100000 in
theorem bq_5_58 (T0 MI : Nat) (th : Nat) (r1 : Option Nat) (o2 : Option xV) (o3 : Option xV) (sx0 : Int32) (M : xM) : xZ T0 MI 5 58 [some (vr (some th)), some (vr r1), o2, o3] [vi sx0] M = xZ T0 MI 5 61 [some (vr (some th)), some (vr r1), some (vi (sx0 - (Int32.ofInt 1))), o3] [] M := (xZ_k T0 MI 3 _ _ _ _ _).trans rfl
set_option maxRecDepth 100000 in
theorem bq_5_61 (T0 MI : Nat) (th : Nat) (r1 : Option Nat) (x2 : Int32) (o3 : Option xV) (M : xM) : xZ T0 MI 5 61 [some (vr (some th)), some (vr r1), some (vi x2), o3] [] M = if x2 < 0 then xZ T0 MI 5 106 [some (vr (some th)), some (vr r1), some (vi x2), o3] [] M else xZ T0 MI 5 65 [some (vr (some th)), some (vr r1), some (vi x2), o3] [] M := (xZ_k T0 MI 2 _ _ _ _ _).trans rfl
set_option maxRecDepth 100000 in
theorem bq_5_65 (T0 MI : Nat) (th : Nat) (r1 : Option Nat) (x2 : Int32) (o3 : Option xV) (M : xM) : xZ T0 MI 5 65 [some (vr (some th)), some (vr r1), some (vi x2), o3] [] M = (xgetR M th 1 1).bind fun r_1 => r_1.bind fun q_2 => bif xcls M q_2 13 then (xZ T0 MI 208 0 [some (vr (some q_2)), some (vi x2)] [] M).bind fun z_3 => (xasR z_3.1).bind fun r_4 => xZ T0 MI 5 73 [some (vr (some th)), some (vr r1), some (vi x2), o3] [vr r_4] z_3.2 else none := (xZ_k T0 MI 4 _ _ _ _ _).trans rfl
set_option maxRecDepth 100000 in
theorem bq_5_73 (T0 MI : Nat) (th : Nat) (r1 : Option Nat) (x2 : Int32) (o3 : Option xV) (sr0 : Option Nat) (M : xM) : xZ T0 MI 5 73 [some (vr (some th)), some (vr r1), some (vi x2), o3] [vr sr0] M = (match sr0 with
    | none => none
    | some q_1 => bif xcls M q_1 10 then bif xcls M q_1 10 then (xZ T0 MI 61 0 [some (vr (some q_1)), some (vr r1)] [] M).bind fun z_2 => (xasI z_2.1).bind fun x_3 => xZ T0 MI 5 82 [some (vr (some th)), some (vr r1), some (vi x2), some (vr (some q_1))] [vi x_3] z_2.2 else none else none) := (xZ_k T0 MI 5 _ _ _ _ _).trans rfl
set_option maxRecDepth 100000 in
theorem bq_5_82 (T0 MI : Nat) (th : Nat) (r1 : Option Nat) (x2 : Int32) (r3 : Option Nat) (sx0 : Int32) (M : xM) : xZ T0 MI 5 82 [some (vr (some th)), some (vr r1), some (vi x2), some (vr r3)] [vi sx0] M = if sx0 = 0 then xZ T0 MI 5 100 [some (vr (some th)), some (vr r1), some (vi x2), some (vr r3)] [] M else xZ T0 MI 5 85 [some (vr (some th)), some (vr r1), some (vi x2), some (vr r3)] [] M := (xZ_k T0 MI 1 _ _ _ _ _).trans rfl
set_option maxRecDepth 100000 in
theorem bq_5_85 (T0 MI : Nat) (th : Nat) (r1 : Option Nat) (x2 : Int32) (r3 : Option Nat) (M : xM) : xZ T0 MI 5 85 [some (vr (some th)), some (vr r1), some (vi x2), some (vr r3)] [] M = (xgetR M th 1 1).bind fun r_1 => r_1.bind fun q_2 => bif xcls M q_2 13 then (xZ T0 MI 211 0 [some (vr (some q_2)), some (vi x2), none, none] [] M).bind fun z_3 => (xasR z_3.1).bind fun r_4 => xZ T0 MI 5 93 [some (vr (some th)), some (vr r1), some (vi x2), some (vr r3)] [vr r_4] z_3.2 else none := (xZ_k T0 MI 4 _ _ _ _ _).trans rfl
set_option maxRecDepth 100000 in
theorem bq_5_93 (T0 MI : Nat) (th : Nat) (r1 : Option Nat) (x2 : Int32) (r3 : Option Nat) (sr0 : Option Nat) (M : xM) : xZ T0 MI 5 93 [some (vr (some th)), some (vr r1), some (vi x2), some (vr r3)] [vr sr0] M = bif xcls M th 1 then (xZ T0 MI 6 0 [some (vr (some th)), some (vr r3), some (vr r1)] [] M).bind fun z_1 => bif z_1.1.isNone then xZ T0 MI 5 100 [some (vr (some th)), some (vr r1), some (vi x2), some (vr r3)] [] z_1.2 else none else none := (xZ_k T0 MI 5 _ _ _ _ _).trans rfl
set_option maxRecDepth 100000 in
theorem bq_5_100 (T0 MI : Nat) (th : Nat) (r1 : Option Nat) (x2 : Int32) (o3 : Option xV) (M : xM) : xZ T0 MI 5 100 [some (vr (some th)), some (vr r1), some (vi x2), o3] [] M = xZ T0 MI 5 61 [some (vr (some th)), some (vr r1), some (vi (x2 + Int32.ofInt (-1))), o3] [] M := (xZ_k T0 MI 2 _ _ _ _ _).trans rfl
set_option maxRecDepth 100000 in
theorem bq_5_106 (T0 MI : Nat) (th : Nat) (r1 : Option Nat) (o2 : Option xV) (o3 : Option xV) (M : xM) : xZ T0 MI 5 106 [some (vr (some th)), some (vr r1), o2, o3] [] M = (xgetR M th 1 1).bind fun r_1 => r_1.bind fun q_2 => bif xcls M q_2 13 then (xZ T0 MI 210 0 [some (vr (some q_2)), some (vr r1)] [] M).bind fun z_3 => (xasI z_3.1).bind fun x_4 => xZ T0 MI 5 114 [some (vr (some th)), some (vr r1), o2, o3] [vi x_4] z_3.2 else none := (xZ_k T0 MI 4 _ _ _ _ _).trans rfl
set_option maxRecDepth 100000 in
theorem bq_5_114 (T0 MI : Nat) (o0 : Option xV) (o1 : Option xV) (o2 : Option xV) (o3 : Option xV) (sx0 : Int32) (M : xM) : xZ T0 MI 5 114 [o0, o1, o2, o3] [vi sx0] M = some (none, M) := (xZ_k T0 MI 2 _ _ _ _ _).trans rfl
-- 6 RangeHouse$Caller.keepRest(LRangeHouse$Spot;LRangeHouse$Spot;)V
set_option maxRecDepth 100000 in
theorem bq_6_0 (T0 MI : Nat) (th : Nat) (r1 : Option Nat) (r2 : Option Nat) (M : xM) : xZ T0 MI 6 0 [some (vr (some th)), some (vr r1), some (vr r2)] [] M = r1.bind fun q_1 => (xgetI M q_1 10 1).bind fun x_2 => r2.bind fun q_3 => (xgetI M q_3 10 1).bind fun x_4 => if x_4 ≤ x_2 then xZ T0 MI 6 31 [some (vr (some th)), some (vr r1), some (vr r2)] [] M else xZ T0 MI 6 11 [some (vr (some th)), some (vr r1), some (vr r2)] [] M := (xZ_k T0 MI 5 _ _ _ _ _).trans rfl
set_option maxRecDepth 100000 in
theorem bq_6_11 (T0 MI : Nat) (th : Nat) (r1 : Option Nat) (r2 : Option Nat) (M : xM) : xZ T0 MI 6 11 [some (vr (some th)), some (vr r1), some (vr r2)] [] M = (xgetR M th 1 1).bind fun r_1 => r1.bind fun q_2 => (xgetI M q_2 10 1).bind fun x_3 => r2.bind fun q_4 => (xgetI M q_4 10 1).bind fun x_5 => r1.bind fun q_6 => bif xcls M q_6 10 then (xZ T0 MI 63 0 [some (vr (some q_6)), some (vi x_3), some (vi x_5)] [] M).bind fun z_7 => (xasR z_7.1).bind fun r_8 => xZ T0 MI 6 27 [some (vr (some th)), some (vr r1), some (vr r2)] [vr r_8, vr r_1] z_7.2 else none := (xZ_k T0 MI 8 _ _ _ _ _).trans rfl
set_option maxRecDepth 100000 in
theorem bq_6_27 (T0 MI : Nat) (th : Nat) (r1 : Option Nat) (r2 : Option Nat) (sr0 : Option Nat) (sr1 : Option Nat) (M : xM) : xZ T0 MI 6 27 [some (vr (some th)), some (vr r1), some (vr r2)] [vr sr0, vr sr1] M = sr1.bind fun q_1 => bif xcls M q_1 13 then (xZ T0 MI 210 0 [some (vr (some q_1)), some (vr sr0)] [] M).bind fun z_2 => (xasI z_2.1).bind fun x_3 => xZ T0 MI 6 30 [some (vr (some th)), some (vr r1), some (vr r2)] [vi x_3] z_2.2 else none := (xZ_k T0 MI 1 _ _ _ _ _).trans rfl
set_option maxRecDepth 100000 in
theorem bq_6_30 (T0 MI : Nat) (th : Nat) (r1 : Option Nat) (r2 : Option Nat) (sx0 : Int32) (M : xM) : xZ T0 MI 6 30 [some (vr (some th)), some (vr r1), some (vr r2)] [vi sx0] M = xZ T0 MI 6 31 [some (vr (some th)), some (vr r1), some (vr r2)] [] M := (xZ_k T0 MI 1 _ _ _ _ _).trans rfl
set_option maxRecDepth 100000 in
theorem bq_6_31 (T0 MI : Nat) (th : Nat) (r1 : Option Nat) (r2 : Option Nat) (M : xM) : xZ T0 MI 6 31 [some (vr (some th)), some (vr r1), some (vr r2)] [] M = r1.bind fun q_1 => (xgetI M q_1 10 2).bind fun x_2 => r2.bind fun q_3 => (xgetI M q_3 10 2).bind fun x_4 => if x_2 ≤ x_4 then xZ T0 MI 6 62 [some (vr (some th)), some (vr r1), some (vr r2)] [] M else xZ T0 MI 6 42 [some (vr (some th)), some (vr r1), some (vr r2)] [] M := (xZ_k T0 MI 5 _ _ _ _ _).trans rfl
set_option maxRecDepth 100000 in
theorem bq_6_42 (T0 MI : Nat) (th : Nat) (r1 : Option Nat) (r2 : Option Nat) (M : xM) : xZ T0 MI 6 42 [some (vr (some th)), some (vr r1), some (vr r2)] [] M = (xgetR M th 1 1).bind fun r_1 => r2.bind fun q_2 => (xgetI M q_2 10 2).bind fun x_3 => r1.bind fun q_4 => (xgetI M q_4 10 2).bind fun x_5 => r1.bind fun q_6 => bif xcls M q_6 10 then (xZ T0 MI 63 0 [some (vr (some q_6)), some (vi x_3), some (vi x_5)] [] M).bind fun z_7 => (xasR z_7.1).bind fun r_8 => xZ T0 MI 6 58 [some (vr (some th)), some (vr r1), some (vr r2)] [vr r_8, vr r_1] z_7.2 else none := (xZ_k T0 MI 8 _ _ _ _ _).trans rfl
set_option maxRecDepth 100000 in
theorem bq_6_58 (T0 MI : Nat) (o0 : Option xV) (o1 : Option xV) (o2 : Option xV) (sr0 : Option Nat) (sr1 : Option Nat) (M : xM) : xZ T0 MI 6 58 [o0, o1, o2] [vr sr0, vr sr1] M = sr1.bind fun q_1 => bif xcls M q_1 13 then (xZ T0 MI 210 0 [some (vr (some q_1)), some (vr sr0)] [] M).bind fun z_2 => (xasI z_2.1).bind fun x_3 => xZ T0 MI 6 61 [o0, o1, o2] [vi x_3] z_2.2 else none := (xZ_k T0 MI 1 _ _ _ _ _).trans rfl
set_option maxRecDepth 100000 in
theorem bq_6_61 (T0 MI : Nat) (o0 : Option xV) (o1 : Option xV) (o2 : Option xV) (sx0 : Int32) (M : xM) : xZ T0 MI 6 61 [o0, o1, o2] [vi sx0] M = xZ T0 MI 6 62 [o0, o1, o2] [] M := (xZ_k T0 MI 1 _ _ _ _ _).trans rfl
set_option maxRecDepth 100000 in
theorem bq_6_62 (T0 MI : Nat) (o0 : Option xV) (o1 : Option xV) (o2 : Option xV) (M : xM) : xZ T0 MI 6 62 [o0, o1, o2] [] M = some (none, M) := (xZ_k T0 MI 1 _ _ _ _ _).trans rfl
-- 7 RangeHouse$Holding.<init>()V
set_option maxRecDepth 100000 in
theorem bq_7_0 (T0 MI : Nat) (th : Nat) (M : xM) : xZ T0 MI 7 0 [some (vr (some th))] [] M = (xput M th 2 0 (vi (Int32.ofInt 0))).bind fun M_1 => (xZ T0 MI 53 0 [some (vr (some M_1.1))] [] (xnewO M_1 9)).bind fun z_2 => bif z_2.1.isNone then xZ T0 MI 7 17 [some (vr (some th))] [vr (some M_1.1), vr (some th)] z_2.2 else none := (xZ_k T0 MI 9 _ _ _ _ _).trans rfl
set_option maxRecDepth 100000 in
theorem bq_7_17 (T0 MI : Nat) (th : Nat) (ts0 : Nat) (ts1 : Nat) (M : xM) : xZ T0 MI 7 17 [some (vr (some th))] [vr (some ts0), vr (some ts1)] M = (xput M ts1 2 4 (vr (some ts0))).bind fun M_1 => (xZ T0 MI 33 0 [some (vr (some M_1.1))] [] (xnewO M_1 4)).bind fun z_2 => bif z_2.1.isNone then xZ T0 MI 7 28 [some (vr (some th))] [vr (some M_1.1), vr (some th)] z_2.2 else none := (xZ_k T0 MI 5 _ _ _ _ _).trans rfl
set_option maxRecDepth 100000 in
theorem bq_7_28 (T0 MI : Nat) (th : Nat) (ts0 : Nat) (ts1 : Nat) (M : xM) : xZ T0 MI 7 28 [some (vr (some th))] [vr (some ts0), vr (some ts1)] M = (xput M ts1 2 5 (vr (some ts0))).bind fun M_1 => (xZ T0 MI 43 0 [some (vr (some M_1.1))] [] (xnewO M_1 5)).bind fun z_2 => bif z_2.1.isNone then xZ T0 MI 7 39 [some (vr (some th))] [vr (some M_1.1), vr (some th)] z_2.2 else none := (xZ_k T0 MI 5 _ _ _ _ _).trans rfl
set_option maxRecDepth 100000 in
theorem bq_7_39 (T0 MI : Nat) (o0 : Option xV) (ts0 : Nat) (ts1 : Nat) (M : xM) : xZ T0 MI 7 39 [o0] [vr (some ts0), vr (some ts1)] M = (xput M ts1 2 13 (vr (some ts0))).bind fun M_1 => some (none, M_1) := (xZ_k T0 MI 2 _ _ _ _ _).trans rfl
-- 8 RangeHouse$Holding.isServing()Z
set_option maxRecDepth 100000 in
theorem bq_8_0 (T0 MI : Nat) (th : Nat) (M : xM) : xZ T0 MI 8 0 [some (vr (some th))] [] M = (xgetI M th 2 0).bind fun x_1 => if x_1 = (Int32.ofInt 1) then xZ T0 MI 8 16 [some (vr (some th))] [] M else xZ T0 MI 8 8 [some (vr (some th))] [] M := (xZ_k T0 MI 4 _ _ _ _ _).trans rfl
set_option maxRecDepth 100000 in
theorem bq_8_8 (T0 MI : Nat) (th : Nat) (M : xM) : xZ T0 MI 8 8 [some (vr (some th))] [] M = (xgetI M th 2 0).bind fun x_1 => if x_1 = (Int32.ofInt 2) then xZ T0 MI 8 16 [some (vr (some th))] [] M else xZ T0 MI 8 20 [some (vr (some th))] [] M := (xZ_k T0 MI 4 _ _ _ _ _).trans rfl
set_option maxRecDepth 100000 in
theorem bq_8_16 (T0 MI : Nat) (o0 : Option xV) (M : xM) : xZ T0 MI 8 16 [o0] [] M = xZ T0 MI 8 21 [o0] [vi (Int32.ofInt 1)] M := (xZ_k T0 MI 2 _ _ _ _ _).trans rfl
set_option maxRecDepth 100000 in
theorem bq_8_20 (T0 MI : Nat) (o0 : Option xV) (M : xM) : xZ T0 MI 8 20 [o0] [] M = xZ T0 MI 8 21 [o0] [vi (Int32.ofInt 0)] M := (xZ_k T0 MI 1 _ _ _ _ _).trans rfl
set_option maxRecDepth 100000 in
theorem bq_8_21 (T0 MI : Nat) (o0 : Option xV) (sx0 : Int32) (M : xM) : xZ T0 MI 8 21 [o0] [vi sx0] M = bif xbool sx0 then some (some (vi sx0), M) else none := (xZ_k T0 MI 1 _ _ _ _ _).trans rfl
-- 9 RangeHouse$Holding.isGiven()Z
set_option maxRecDepth 100000 in
theorem bq_9_0 (T0 MI : Nat) (th : Nat) (M : xM) : xZ T0 MI 9 0 [some (vr (some th))] [] M = (xgetI M th 2 0).bind fun x_1 => if x_1 = (Int32.ofInt 2) then xZ T0 MI 9 16 [some (vr (some th))] [] M else xZ T0 MI 9 8 [some (vr (some th))] [] M := (xZ_k T0 MI 4 _ _ _ _ _).trans rfl
set_option maxRecDepth 100000 in
theorem bq_9_8 (T0 MI : Nat) (th : Nat) (M : xM) : xZ T0 MI 9 8 [some (vr (some th))] [] M = (xgetI M th 2 0).bind fun x_1 => if x_1 = (Int32.ofInt 3) then xZ T0 MI 9 16 [some (vr (some th))] [] M else xZ T0 MI 9 20 [some (vr (some th))] [] M := (xZ_k T0 MI 4 _ _ _ _ _).trans rfl
set_option maxRecDepth 100000 in
theorem bq_9_16 (T0 MI : Nat) (o0 : Option xV) (M : xM) : xZ T0 MI 9 16 [o0] [] M = xZ T0 MI 9 21 [o0] [vi (Int32.ofInt 1)] M := (xZ_k T0 MI 2 _ _ _ _ _).trans rfl
set_option maxRecDepth 100000 in
theorem bq_9_20 (T0 MI : Nat) (o0 : Option xV) (M : xM) : xZ T0 MI 9 20 [o0] [] M = xZ T0 MI 9 21 [o0] [vi (Int32.ofInt 0)] M := (xZ_k T0 MI 1 _ _ _ _ _).trans rfl
set_option maxRecDepth 100000 in
theorem bq_9_21 (T0 MI : Nat) (o0 : Option xV) (sx0 : Int32) (M : xM) : xZ T0 MI 9 21 [o0] [vi sx0] M = bif xbool sx0 then some (some (vi sx0), M) else none := (xZ_k T0 MI 1 _ _ _ _ _).trans rfl
-- 10 RangeHouse$Holding.isHome()Z
set_option maxRecDepth 100000 in
theorem bq_10_0 (T0 MI : Nat) (th : Nat) (M : xM) : xZ T0 MI 10 0 [some (vr (some th))] [] M = (xgetI M th 2 0).bind fun x_1 => if x_1 = (Int32.ofInt 1) then xZ T0 MI 10 15 [some (vr (some th))] [] M else xZ T0 MI 10 8 [some (vr (some th))] [] M := (xZ_k T0 MI 4 _ _ _ _ _).trans rfl
set_option maxRecDepth 100000 in
theorem bq_10_8 (T0 MI : Nat) (th : Nat) (M : xM) : xZ T0 MI 10 8 [some (vr (some th))] [] M = bif xcls M th 2 then (xZ T0 MI 9 0 [some (vr (some th))] [] M).bind fun z_1 => (xasI z_1.1).bind fun x_2 => xZ T0 MI 10 12 [some (vr (some th))] [vi x_2] z_1.2 else none := (xZ_k T0 MI 2 _ _ _ _ _).trans rfl
set_option maxRecDepth 100000 in
theorem bq_10_12 (T0 MI : Nat) (o0 : Option xV) (sx0 : Int32) (M : xM) : xZ T0 MI 10 12 [o0] [vi sx0] M = if sx0 = 0 then xZ T0 MI 10 19 [o0] [] M else xZ T0 MI 10 15 [o0] [] M := (xZ_k T0 MI 1 _ _ _ _ _).trans rfl
set_option maxRecDepth 100000 in
theorem bq_10_15 (T0 MI : Nat) (o0 : Option xV) (M : xM) : xZ T0 MI 10 15 [o0] [] M = xZ T0 MI 10 20 [o0] [vi (Int32.ofInt 1)] M := (xZ_k T0 MI 2 _ _ _ _ _).trans rfl
set_option maxRecDepth 100000 in
theorem bq_10_19 (T0 MI : Nat) (o0 : Option xV) (M : xM) : xZ T0 MI 10 19 [o0] [] M = xZ T0 MI 10 20 [o0] [vi (Int32.ofInt 0)] M := (xZ_k T0 MI 1 _ _ _ _ _).trans rfl
set_option maxRecDepth 100000 in
theorem bq_10_20 (T0 MI : Nat) (o0 : Option xV) (sx0 : Int32) (M : xM) : xZ T0 MI 10 20 [o0] [vi sx0] M = bif xbool sx0 then some (some (vi sx0), M) else none := (xZ_k T0 MI 1 _ _ _ _ _).trans rfl
-- 11 RangeHouse$Holding.isTaken()Z
set_option maxRecDepth 100000 in
theorem bq_11_0 (T0 MI : Nat) (th : Nat) (M : xM) : xZ T0 MI 11 0 [some (vr (some th))] [] M = (xgetI M th 2 0).bind fun x_1 => if x_1 = (Int32.ofInt 4) then xZ T0 MI 11 16 [some (vr (some th))] [] M else xZ T0 MI 11 8 [some (vr (some th))] [] M := (xZ_k T0 MI 4 _ _ _ _ _).trans rfl
set_option maxRecDepth 100000 in
theorem bq_11_8 (T0 MI : Nat) (th : Nat) (M : xM) : xZ T0 MI 11 8 [some (vr (some th))] [] M = (xgetI M th 2 0).bind fun x_1 => if x_1 = (Int32.ofInt 5) then xZ T0 MI 11 16 [some (vr (some th))] [] M else xZ T0 MI 11 20 [some (vr (some th))] [] M := (xZ_k T0 MI 4 _ _ _ _ _).trans rfl
set_option maxRecDepth 100000 in
theorem bq_11_16 (T0 MI : Nat) (o0 : Option xV) (M : xM) : xZ T0 MI 11 16 [o0] [] M = xZ T0 MI 11 21 [o0] [vi (Int32.ofInt 1)] M := (xZ_k T0 MI 2 _ _ _ _ _).trans rfl
set_option maxRecDepth 100000 in
theorem bq_11_20 (T0 MI : Nat) (o0 : Option xV) (M : xM) : xZ T0 MI 11 20 [o0] [] M = xZ T0 MI 11 21 [o0] [vi (Int32.ofInt 0)] M := (xZ_k T0 MI 1 _ _ _ _ _).trans rfl
set_option maxRecDepth 100000 in
theorem bq_11_21 (T0 MI : Nat) (o0 : Option xV) (sx0 : Int32) (M : xM) : xZ T0 MI 11 21 [o0] [vi sx0] M = bif xbool sx0 then some (some (vi sx0), M) else none := (xZ_k T0 MI 1 _ _ _ _ _).trans rfl
-- 12 RangeHouse$Holding.moveEpoch()I
set_option maxRecDepth 100000 in
theorem bq_12_0 (T0 MI : Nat) (th : Nat) (M : xM) : xZ T0 MI 12 0 [some (vr (some th))] [] M = (xgetI M th 2 3).bind fun x_1 => some (some (vi (x_1 + (Int32.ofInt 1))), M) := (xZ_k T0 MI 5 _ _ _ _ _).trans rfl
-- 13 RangeHouse$Holding.beNothing()V
set_option maxRecDepth 100000 in
theorem bq_13_0 (T0 MI : Nat) (th : Nat) (M : xM) : xZ T0 MI 13 0 [some (vr (some th))] [] M = (xput M th 2 0 (vi (Int32.ofInt 0))).bind fun M_1 => (xgetR M_1 th 2 4).bind fun r_2 => r_2.bind fun q_3 => (xput M_1 q_3 9 0 (vi (Int32.ofInt 0))).bind fun M_4 => (xgetR M_4 th 2 5).bind fun r_5 => r_5.bind fun q_6 => bif xcls M_4 q_6 4 then (xZ T0 MI 41 0 [some (vr (some q_6))] [] M_4).bind fun z_7 => bif z_7.1.isNone then xZ T0 MI 13 20 [some (vr (some th))] [] z_7.2 else none else none := (xZ_k T0 MI 10 _ _ _ _ _).trans rfl
set_option maxRecDepth 100000 in
theorem bq_13_20 (T0 MI : Nat) (th : Nat) (M : xM) : xZ T0 MI 13 20 [some (vr (some th))] [] M = bif xcls M th 2 then (xZ T0 MI 15 0 [some (vr (some th))] [] M).bind fun z_1 => bif z_1.1.isNone then xZ T0 MI 13 24 [some (vr (some th))] [] z_1.2 else none else none := (xZ_k T0 MI 2 _ _ _ _ _).trans rfl
set_option maxRecDepth 100000 in
theorem bq_13_24 (T0 MI : Nat) (o0 : Option xV) (M : xM) : xZ T0 MI 13 24 [o0] [] M = some (none, M) := (xZ_k T0 MI 1 _ _ _ _ _).trans rfl
-- 14 RangeHouse$Holding.beWhole(III)V
set_option maxRecDepth 100000 in
theorem bq_14_0 (T0 MI : Nat) (th : Nat) (x1 : Int32) (x2 : Int32) (x3 : Int32) (M : xM) : xZ T0 MI 14 0 [some (vr (some th)), some (vi x1), some (vi x2), some (vi x3)] [] M = (xput M th 2 0 (vi (Int32.ofInt 1))).bind fun M_1 => (xput M_1 th 2 1 (vi x1)).bind fun M_2 => (xput M_2 th 2 2 (vi x2)).bind fun M_3 => (xput M_3 th 2 3 (vi x3)).bind fun M_4 => bif xcls M_4 th 2 then (xZ T0 MI 15 0 [some (vr (some th))] [] M_4).bind fun z_5 => bif z_5.1.isNone then xZ T0 MI 14 24 [some (vr (some th)), some (vi x1), some (vi x2), some (vi x3)] [] z_5.2 else none else none := (xZ_k T0 MI 14 _ _ _ _ _).trans rfl
set_option maxRecDepth 100000 in
theorem bq_14_24 (T0 MI : Nat) (o0 : Option xV) (o1 : Option xV) (o2 : Option xV) (o3 : Option xV) (M : xM) : xZ T0 MI 14 24 [o0, o1, o2, o3] [] M = some (none, M) := (xZ_k T0 MI 1 _ _ _ _ _).trans rfl
-- 15 RangeHouse$Holding.endGiving()V
set_option maxRecDepth 100000 in
theorem bq_15_0 (T0 MI : Nat) (th : Nat) (M : xM) : xZ T0 MI 15 0 [some (vr (some th))] [] M = (xput M th 2 11 (vr none)).bind fun M_1 => bif xbool (Int32.ofInt 0) then (xput M_1 th 2 12 (vi (Int32.ofInt 0))).bind fun M_2 => (xgetR M_2 th 2 13).bind fun r_3 => r_3.bind fun q_4 => (xput M_2 q_4 5 0 (vi (Int32.ofInt 0))).bind fun M_5 => some (none, M_5) else none := (xZ_k T0 MI 11 _ _ _ _ _).trans rfl
-- 16 RangeHouse$Holding.cutInto(LRangeHouse$Holding;II)V
set_option maxRecDepth 100000 in
theorem bq_16_0 (T0 MI : Nat) (th : Nat) (r1 : Option Nat) (x2 : Int32) (x3 : Int32) (M : xM) : xZ T0 MI 16 0 [some (vr (some th)), some (vr r1), some (vi x2), some (vi x3)] [] M = (xgetI M th 2 2).bind fun x_1 => r1.bind fun q_2 => bif xcls M q_2 2 then (xZ T0 MI 14 0 [some (vr (some q_2)), some (vi x2), some (vi x_1), some (vi x3)] [] M).bind fun z_3 => bif z_3.1.isNone then xZ T0 MI 16 10 [some (vr (some th)), some (vr r1), some (vi x2), some (vi x3)] [] z_3.2 else none else none := (xZ_k T0 MI 6 _ _ _ _ _).trans rfl
set_option maxRecDepth 100000 in
theorem bq_16_10 (T0 MI : Nat) (th : Nat) (r1 : Option Nat) (x2 : Int32) (x3 : Int32) (M : xM) : xZ T0 MI 16 10 [some (vr (some th)), some (vr r1), some (vi x2), some (vi x3)] [] M = (xgetI M th 2 1).bind fun x_1 => bif xcls M th 2 then (xZ T0 MI 14 0 [some (vr (some th)), some (vi x_1), some (vi x2), some (vi x3)] [] M).bind fun z_2 => bif z_2.1.isNone then xZ T0 MI 16 20 [some (vr (some th)), some (vr r1), some (vi x2), some (vi x3)] [] z_2.2 else none else none := (xZ_k T0 MI 6 _ _ _ _ _).trans rfl
set_option maxRecDepth 100000 in
theorem bq_16_20 (T0 MI : Nat) (th : Nat) (r1 : Option Nat) (x2 : Int32) (o3 : Option xV) (M : xM) : xZ T0 MI 16 20 [some (vr (some th)), some (vr r1), some (vi x2), o3] [] M = r1.bind fun q_1 => (xgetR M q_1 2 4).bind fun r_2 => r_2.bind fun q_3 => (xput M q_3 9 0 (vi (Int32.ofInt 0))).bind fun M_4 => (xgetR M_4 th 2 4).bind fun r_5 => r1.bind fun q_6 => (xgetR M_4 q_6 2 4).bind fun r_7 => r_5.bind fun q_8 => bif xcls M_4 q_8 9 then (xZ T0 MI 58 0 [some (vr (some q_8)), some (vr r_7), some (vi x2), none, none] [] M_4).bind fun z_9 => bif z_9.1.isNone then xZ T0 MI 16 40 [some (vr (some th)), some (vr r1), some (vi x2), o3] [] z_9.2 else none else none := (xZ_k T0 MI 10 _ _ _ _ _).trans rfl
set_option maxRecDepth 100000 in
theorem bq_16_40 (T0 MI : Nat) (th : Nat) (r1 : Option Nat) (o2 : Option xV) (o3 : Option xV) (M : xM) : xZ T0 MI 16 40 [some (vr (some th)), some (vr r1), o2, o3] [] M = r1.bind fun q_1 => (xgetR M q_1 2 5).bind fun r_2 => (xgetR M th 2 5).bind fun r_3 => r_2.bind fun q_4 => bif xcls M q_4 4 then (xZ T0 MI 40 0 [some (vr (some q_4)), some (vr r_3)] [] M).bind fun z_5 => bif z_5.1.isNone then xZ T0 MI 16 51 [some (vr (some th)), some (vr r1), o2, o3] [] z_5.2 else none else none := (xZ_k T0 MI 5 _ _ _ _ _).trans rfl
set_option maxRecDepth 100000 in
theorem bq_16_51 (T0 MI : Nat) (o0 : Option xV) (o1 : Option xV) (o2 : Option xV) (o3 : Option xV) (M : xM) : xZ T0 MI 16 51 [o0, o1, o2, o3] [] M = some (none, M) := (xZ_k T0 MI 1 _ _ _ _ _).trans rfl
-- 17 RangeHouse$Holding.swallow(LRangeHouse$Holding;)V
set_option maxRecDepth 100000 in
theorem bq_17_0 (T0 MI : Nat) (th : Nat) (r1 : Option Nat) (o2 : Option xV) (M : xM) : xZ T0 MI 17 0 [some (vr (some th)), some (vr r1), o2] [] M = xZ T0 MI 17 2 [some (vr (some th)), some (vr r1), some (vi (Int32.ofInt 0))] [] M := (xZ_k T0 MI 2 _ _ _ _ _).trans rfl
set_option maxRecDepth 100000 in
theorem bq_17_2 (T0 MI : Nat) (th : Nat) (r1 : Option Nat) (x2 : Int32) (M : xM) : xZ T0 MI 17 2 [some (vr (some th)), some (vr r1), some (vi x2)] [] M = r1.bind fun q_1 => (xgetR M q_1 2 4).bind fun r_2 => r_2.bind fun q_3 => (xgetI M q_3 9 0).bind fun x_4 => if x_4 ≤ x2 then xZ T0 MI 17 45 [some (vr (some th)), some (vr r1), some (vi x2)] [] M else xZ T0 MI 17 13 [some (vr (some th)), some (vr r1), some (vi x2)] [] M := (xZ_k T0 MI 5 _ _ _ _ _).trans rfl
set_option maxRecDepth 100000 in
theorem bq_17_13 (T0 MI : Nat) (th : Nat) (r1 : Option Nat) (x2 : Int32) (M : xM) : xZ T0 MI 17 13 [some (vr (some th)), some (vr r1), some (vi x2)] [] M = (xgetR M th 2 4).bind fun r_1 => r1.bind fun q_2 => (xgetR M q_2 2 4).bind fun r_3 => r_3.bind fun q_4 => (xgetR M q_4 9 1).bind fun r_5 => r_5.bind fun q_6 => (xaI M q_6 x2).bind fun x_7 => r1.bind fun q_8 => (xgetR M q_8 2 4).bind fun r_9 => r_9.bind fun q_10 => (xgetR M q_10 9 2).bind fun r_11 => r_11.bind fun q_12 => (xaL M q_12 x2).bind fun y_13 => r_1.bind fun q_14 => bif xcls M q_14 9 then (xZ T0 MI 56 0 [some (vr (some q_14)), some (vi x_7), some (vl y_13), none, none] [] M).bind fun z_15 => (xasI z_15.1).bind fun x_16 => xZ T0 MI 17 38 [some (vr (some th)), some (vr r1), some (vi x2)] [vi x_16] z_15.2 else none := (xZ_k T0 MI 13 _ _ _ _ _).trans rfl
set_option maxRecDepth 100000 in
theorem bq_17_38 (T0 MI : Nat) (th : Nat) (r1 : Option Nat) (x2 : Int32) (sx0 : Int32) (M : xM) : xZ T0 MI 17 38 [some (vr (some th)), some (vr r1), some (vi x2)] [vi sx0] M = xZ T0 MI 17 2 [some (vr (some th)), some (vr r1), some (vi (x2 + Int32.ofInt 1))] [] M := (xZ_k T0 MI 3 _ _ _ _ _).trans rfl
set_option maxRecDepth 100000 in
theorem bq_17_45 (T0 MI : Nat) (th : Nat) (r1 : Option Nat) (o2 : Option xV) (M : xM) : xZ T0 MI 17 45 [some (vr (some th)), some (vr r1), o2] [] M = (xgetR M th 2 5).bind fun r_1 => r1.bind fun q_2 => (xgetR M q_2 2 5).bind fun r_3 => r_1.bind fun q_4 => bif xcls M q_4 4 then (xZ T0 MI 39 0 [some (vr (some q_4)), some (vr r_3), none, none, none] [] M).bind fun z_5 => bif z_5.1.isNone then xZ T0 MI 17 56 [some (vr (some th)), some (vr r1), o2] [] z_5.2 else none else none := (xZ_k T0 MI 5 _ _ _ _ _).trans rfl
set_option maxRecDepth 100000 in
theorem bq_17_56 (T0 MI : Nat) (o0 : Option xV) (r1 : Option Nat) (o2 : Option xV) (M : xM) : xZ T0 MI 17 56 [o0, some (vr r1), o2] [] M = r1.bind fun q_1 => bif xcls M q_1 2 then (xZ T0 MI 13 0 [some (vr (some q_1))] [] M).bind fun z_2 => bif z_2.1.isNone then xZ T0 MI 17 60 [o0, some (vr r1), o2] [] z_2.2 else none else none := (xZ_k T0 MI 2 _ _ _ _ _).trans rfl
set_option maxRecDepth 100000 in
theorem bq_17_60 (T0 MI : Nat) (o0 : Option xV) (o1 : Option xV) (o2 : Option xV) (M : xM) : xZ T0 MI 17 60 [o0, o1, o2] [] M = some (none, M) := (xZ_k T0 MI 1 _ _ _ _ _).trans rfl
-- 18 RangeHouse$Holding.perform(ILRangeHouse$Ask;)V
set_option maxRecDepth 100000 in
theorem bq_18_0 (T0 MI : Nat) (th : Nat) (x1 : Int32) (r2 : Option Nat) (o3 : Option xV) (o4 : Option xV) (o5 : Option xV) (o6 : Option xV) (o7 : Option xV) (o8 : Option xV) (o9 : Option xV) (M : xM) : xZ T0 MI 18 0 [some (vr (some th)), some (vi x1), some (vr r2), o3, o4, o5, o6, o7, o8, o9] [] M = (xgetR M th 2 4).bind fun r_1 => r2.bind fun q_2 => (xgetI M q_2 0 2).bind fun x_3 => r_1.bind fun q_4 => bif xcls M q_4 9 then (xZ T0 MI 54 0 [some (vr (some q_4)), some (vi x_3), none] [] M).bind fun z_5 => (xasI z_5.1).bind fun x_6 => xZ T0 MI 18 11 [some (vr (some th)), some (vi x1), some (vr r2), o3, o4, o5, o6, o7, o8, o9] [vi x_6] z_5.2 else none := (xZ_k T0 MI 5 _ _ _ _ _).trans rfl
set_option maxRecDepth 100000 in
theorem bq_18_11 (T0 MI : Nat) (th : Nat) (x1 : Int32) (r2 : Option Nat) (o3 : Option xV) (o4 : Option xV) (o5 : Option xV) (o6 : Option xV) (o7 : Option xV) (o8 : Option xV) (o9 : Option xV) (sx0 : Int32) (M : xM) : xZ T0 MI 18 11 [some (vr (some th)), some (vi x1), some (vr r2), o3, o4, o5, o6, o7, o8, o9] [vi sx0] M = if sx0 < 0 then xZ T0 MI 18 18 [some (vr (some th)), some (vi x1), some (vr r2), o3, o4, o5, o6, o7, o8, o9] [] M else xZ T0 MI 18 14 [some (vr (some th)), some (vi x1), some (vr r2), o3, o4, o5, o6, o7, o8, o9] [] M := (xZ_k T0 MI 1 _ _ _ _ _).trans rfl
set_option maxRecDepth 100000 in
theorem bq_18_14 (T0 MI : Nat) (th : Nat) (x1 : Int32) (r2 : Option Nat) (o3 : Option xV) (o4 : Option xV) (o5 : Option xV) (o6 : Option xV) (o7 : Option xV) (o8 : Option xV) (o9 : Option xV) (M : xM) : xZ T0 MI 18 14 [some (vr (some th)), some (vi x1), some (vr r2), o3, o4, o5, o6, o7, o8, o9] [] M = xZ T0 MI 18 19 [some (vr (some th)), some (vi x1), some (vr r2), o3, o4, o5, o6, o7, o8, o9] [vi (Int32.ofInt 1)] M := (xZ_k T0 MI 2 _ _ _ _ _).trans rfl
set_option maxRecDepth 100000 in
theorem bq_18_18 (T0 MI : Nat) (th : Nat) (x1 : Int32) (r2 : Option Nat) (o3 : Option xV) (o4 : Option xV) (o5 : Option xV) (o6 : Option xV) (o7 : Option xV) (o8 : Option xV) (o9 : Option xV) (M : xM) : xZ T0 MI 18 18 [some (vr (some th)), some (vi x1), some (vr r2), o3, o4, o5, o6, o7, o8, o9] [] M = xZ T0 MI 18 19 [some (vr (some th)), some (vi x1), some (vr r2), o3, o4, o5, o6, o7, o8, o9] [vi (Int32.ofInt 0)] M := (xZ_k T0 MI 1 _ _ _ _ _).trans rfl
set_option maxRecDepth 100000 in
theorem bq_18_19 (T0 MI : Nat) (th : Nat) (x1 : Int32) (r2 : Option Nat) (o3 : Option xV) (o4 : Option xV) (o5 : Option xV) (o6 : Option xV) (o7 : Option xV) (o8 : Option xV) (o9 : Option xV) (sx0 : Int32) (M : xM) : xZ T0 MI 18 19 [some (vr (some th)), some (vi x1), some (vr r2), o3, o4, o5, o6, o7, o8, o9] [vi sx0] M = (xgetR M th 2 4).bind fun r_1 => r2.bind fun q_2 => (xgetI M q_2 0 2).bind fun x_3 => r_1.bind fun q_4 => bif xcls M q_4 9 then (xZ T0 MI 55 0 [some (vr (some q_4)), some (vi x_3), none] [] M).bind fun z_5 => (xasL z_5.1).bind fun y_6 => xZ T0 MI 18 31 [some (vr (some th)), some (vi x1), some (vr r2), some (vi sx0), o4, o5, o6, o7, o8, o9] [vl y_6] z_5.2 else none := (xZ_k T0 MI 6 _ _ _ _ _).trans rfl
set_option maxRecDepth 100000 in
theorem bq_18_31 (T0 MI : Nat) (th : Nat) (x1 : Int32) (r2 : Option Nat) (x3 : Int32) (o4 : Option xV) (o5 : Option xV) (o6 : Option xV) (o7 : Option xV) (o8 : Option xV) (o9 : Option xV) (sy0 : Int64) (M : xM) : xZ T0 MI 18 31 [some (vr (some th)), some (vi x1), some (vr r2), some (vi x3), o4, o5, o6, o7, o8, o9] [vl sy0] M = if x3 = 0 then xZ T0 MI 18 41 [some (vr (some th)), some (vi x1), some (vr r2), some (vi x3), some (vl sy0), none, o6, o7, o8, o9] [] M else xZ T0 MI 18 37 [some (vr (some th)), some (vi x1), some (vr r2), some (vi x3), some (vl sy0), none, o6, o7, o8, o9] [] M := (xZ_k T0 MI 3 _ _ _ _ _).trans rfl
set_option maxRecDepth 100000 in
theorem bq_18_37 (T0 MI : Nat) (th : Nat) (x1 : Int32) (r2 : Option Nat) (x3 : Int32) (y4 : Int64) (o5 : Option xV) (o6 : Option xV) (o7 : Option xV) (o8 : Option xV) (o9 : Option xV) (M : xM) : xZ T0 MI 18 37 [some (vr (some th)), some (vi x1), some (vr r2), some (vi x3), some (vl y4), o5, o6, o7, o8, o9] [] M = xZ T0 MI 18 42 [some (vr (some th)), some (vi x1), some (vr r2), some (vi x3), some (vl y4), o5, o6, o7, o8, o9] [vi (Int32.ofInt 1)] M := (xZ_k T0 MI 2 _ _ _ _ _).trans rfl
set_option maxRecDepth 100000 in
theorem bq_18_41 (T0 MI : Nat) (th : Nat) (x1 : Int32) (r2 : Option Nat) (x3 : Int32) (y4 : Int64) (o5 : Option xV) (o6 : Option xV) (o7 : Option xV) (o8 : Option xV) (o9 : Option xV) (M : xM) : xZ T0 MI 18 41 [some (vr (some th)), some (vi x1), some (vr r2), some (vi x3), some (vl y4), o5, o6, o7, o8, o9] [] M = xZ T0 MI 18 42 [some (vr (some th)), some (vi x1), some (vr r2), some (vi x3), some (vl y4), o5, o6, o7, o8, o9] [vi (Int32.ofInt 0)] M := (xZ_k T0 MI 1 _ _ _ _ _).trans rfl
set_option maxRecDepth 100000 in
theorem bq_18_42 (T0 MI : Nat) (th : Nat) (x1 : Int32) (r2 : Option Nat) (x3 : Int32) (y4 : Int64) (o5 : Option xV) (o6 : Option xV) (o7 : Option xV) (o8 : Option xV) (o9 : Option xV) (sx0 : Int32) (M : xM) : xZ T0 MI 18 42 [some (vr (some th)), some (vi x1), some (vr r2), some (vi x3), some (vl y4), o5, o6, o7, o8, o9] [vi sx0] M = r2.bind fun q_1 => (xgetI M q_1 0 1).bind fun x_2 => if x_2 = (Int32.ofInt 1) then xZ T0 MI 18 63 [some (vr (some th)), some (vi x1), some (vr r2), some (vi x3), some (vl y4), xinv o5, some (vi sx0), some (vi (Int32.ofInt 0)), o8, o9] [] M else xZ T0 MI 18 55 [some (vr (some th)), some (vi x1), some (vr r2), some (vi x3), some (vl y4), xinv o5, some (vi sx0), some (vi (Int32.ofInt 0)), o8, o9] [] M := (xZ_k T0 MI 7 _ _ _ _ _).trans rfl
set_option maxRecDepth 100000 in
theorem bq_18_55 (T0 MI : Nat) (th : Nat) (x1 : Int32) (r2 : Option Nat) (x3 : Int32) (y4 : Int64) (o5 : Option xV) (x6 : Int32) (x7 : Int32) (o8 : Option xV) (o9 : Option xV) (M : xM) : xZ T0 MI 18 55 [some (vr (some th)), some (vi x1), some (vr r2), some (vi x3), some (vl y4), o5, some (vi x6), some (vi x7), o8, o9] [] M = r2.bind fun q_1 => (xgetI M q_1 0 1).bind fun x_2 => if x_2 = (Int32.ofInt 3) then xZ T0 MI 18 63 [some (vr (some th)), some (vi x1), some (vr r2), some (vi x3), some (vl y4), o5, some (vi x6), some (vi x7), o8, o9] [] M else xZ T0 MI 18 128 [some (vr (some th)), some (vi x1), some (vr r2), some (vi x3), some (vl y4), o5, some (vi x6), some (vi x7), o8, o9] [] M := (xZ_k T0 MI 4 _ _ _ _ _).trans rfl
set_option maxRecDepth 100000 in
theorem bq_18_63 (T0 MI : Nat) (th : Nat) (x1 : Int32) (r2 : Option Nat) (o3 : Option xV) (y4 : Int64) (o5 : Option xV) (x6 : Int32) (o7 : Option xV) (o8 : Option xV) (o9 : Option xV) (M : xM) : xZ T0 MI 18 63 [some (vr (some th)), some (vi x1), some (vr r2), o3, some (vl y4), o5, some (vi x6), o7, o8, o9] [] M = r2.bind fun q_1 => (xgetI M q_1 0 1).bind fun x_2 => if x_2 = (Int32.ofInt 3) then xZ T0 MI 18 71 [some (vr (some th)), some (vi x1), some (vr r2), o3, some (vl y4), o5, some (vi x6), o7, o8, o9] [] M else xZ T0 MI 18 81 [some (vr (some th)), some (vi x1), some (vr r2), o3, some (vl y4), o5, some (vi x6), o7, o8, o9] [] M := (xZ_k T0 MI 4 _ _ _ _ _).trans rfl
set_option maxRecDepth 100000 in
theorem bq_18_71 (T0 MI : Nat) (th : Nat) (x1 : Int32) (r2 : Option Nat) (o3 : Option xV) (y4 : Int64) (o5 : Option xV) (x6 : Int32) (o7 : Option xV) (o8 : Option xV) (o9 : Option xV) (M : xM) : xZ T0 MI 18 71 [some (vr (some th)), some (vi x1), some (vr r2), o3, some (vl y4), o5, some (vi x6), o7, o8, o9] [] M = r2.bind fun q_1 => (xgetL M q_1 0 3).bind fun y_2 => xZ T0 MI 18 85 [some (vr (some th)), some (vi x1), some (vr r2), o3, some (vl y4), o5, some (vi x6), o7, o8, o9] [vl (y4 + y_2)] M := (xZ_k T0 MI 5 _ _ _ _ _).trans rfl
set_option maxRecDepth 100000 in
theorem bq_18_81 (T0 MI : Nat) (th : Nat) (x1 : Int32) (r2 : Option Nat) (o3 : Option xV) (y4 : Int64) (o5 : Option xV) (x6 : Int32) (o7 : Option xV) (o8 : Option xV) (o9 : Option xV) (M : xM) : xZ T0 MI 18 81 [some (vr (some th)), some (vi x1), some (vr r2), o3, some (vl y4), o5, some (vi x6), o7, o8, o9] [] M = r2.bind fun q_1 => (xgetL M q_1 0 3).bind fun y_2 => xZ T0 MI 18 85 [some (vr (some th)), some (vi x1), some (vr r2), o3, some (vl y4), o5, some (vi x6), o7, o8, o9] [vl y_2] M := (xZ_k T0 MI 2 _ _ _ _ _).trans rfl
set_option maxRecDepth 100000 in
theorem bq_18_85 (T0 MI : Nat) (th : Nat) (x1 : Int32) (r2 : Option Nat) (o3 : Option xV) (y4 : Int64) (o5 : Option xV) (x6 : Int32) (o7 : Option xV) (o8 : Option xV) (o9 : Option xV) (sy0 : Int64) (M : xM) : xZ T0 MI 18 85 [some (vr (some th)), some (vi x1), some (vr r2), o3, some (vl y4), o5, some (vi x6), o7, o8, o9] [vl sy0] M = (xgetR M th 2 4).bind fun r_1 => r2.bind fun q_2 => (xgetI M q_2 0 2).bind fun x_3 => r_1.bind fun q_4 => bif xcls M q_4 9 then (xZ T0 MI 56 0 [some (vr (some q_4)), some (vi x_3), some (vl sy0), none, none] [] M).bind fun z_5 => (xasI z_5.1).bind fun x_6 => xZ T0 MI 18 100 [some (vr (some th)), some (vi x1), some (vr r2), o3, some (vl y4), o5, some (vi x6), xinv o7, some (vl sy0), none] [vi x_6] z_5.2 else none := (xZ_k T0 MI 7 _ _ _ _ _).trans rfl
set_option maxRecDepth 100000 in
theorem bq_18_100 (T0 MI : Nat) (th : Nat) (x1 : Int32) (r2 : Option Nat) (o3 : Option xV) (y4 : Int64) (o5 : Option xV) (x6 : Int32) (o7 : Option xV) (y8 : Int64) (o9 : Option xV) (sx0 : Int32) (M : xM) : xZ T0 MI 18 100 [some (vr (some th)), some (vi x1), some (vr r2), o3, some (vl y4), o5, some (vi x6), o7, some (vl y8), o9] [vi sx0] M = if sx0 = 0 then xZ T0 MI 18 107 [some (vr (some th)), some (vi x1), some (vr r2), o3, some (vl y4), o5, some (vi x6), some (vi sx0), some (vl y8), o9] [] M else xZ T0 MI 18 113 [some (vr (some th)), some (vi x1), some (vr r2), o3, some (vl y4), o5, some (vi x6), some (vi sx0), some (vl y8), o9] [] M := (xZ_k T0 MI 3 _ _ _ _ _).trans rfl
set_option maxRecDepth 100000 in
theorem bq_18_107 (T0 MI : Nat) (th : Nat) (x1 : Int32) (r2 : Option Nat) (o3 : Option xV) (y4 : Int64) (o5 : Option xV) (o6 : Option xV) (x7 : Int32) (o8 : Option xV) (o9 : Option xV) (M : xM) : xZ T0 MI 18 107 [some (vr (some th)), some (vi x1), some (vr r2), o3, some (vl y4), o5, o6, some (vi x7), o8, o9] [] M = xZ T0 MI 18 125 [some (vr (some th)), some (vi x1), some (vr r2), o3, some (vl y4), xinv o5, some (vi (Int32.ofInt 2)), some (vi x7), o8, o9] [] M := (xZ_k T0 MI 3 _ _ _ _ _).trans rfl
set_option maxRecDepth 100000 in
theorem bq_18_113 (T0 MI : Nat) (th : Nat) (x1 : Int32) (r2 : Option Nat) (o3 : Option xV) (y4 : Int64) (o5 : Option xV) (x6 : Int32) (x7 : Int32) (y8 : Int64) (o9 : Option xV) (M : xM) : xZ T0 MI 18 113 [some (vr (some th)), some (vi x1), some (vr r2), o3, some (vl y4), o5, some (vi x6), some (vi x7), some (vl y8), o9] [] M = r2.bind fun q_1 => (xgetI M q_1 0 1).bind fun x_2 => if x_2 = (Int32.ofInt 3) then xZ T0 MI 18 121 [some (vr (some th)), some (vi x1), some (vr r2), o3, some (vl y4), o5, some (vi x6), some (vi x7), some (vl y8), o9] [] M else xZ T0 MI 18 125 [some (vr (some th)), some (vi x1), some (vr r2), o3, some (vl y4), o5, some (vi x6), some (vi x7), some (vl y8), o9] [] M := (xZ_k T0 MI 4 _ _ _ _ _).trans rfl
set_option maxRecDepth 100000 in
theorem bq_18_121 (T0 MI : Nat) (th : Nat) (x1 : Int32) (r2 : Option Nat) (o3 : Option xV) (o4 : Option xV) (o5 : Option xV) (x6 : Int32) (x7 : Int32) (y8 : Int64) (o9 : Option xV) (M : xM) : xZ T0 MI 18 121 [some (vr (some th)), some (vi x1), some (vr r2), o3, o4, o5, some (vi x6), some (vi x7), some (vl y8), o9] [] M = xZ T0 MI 18 125 [some (vr (some th)), some (vi x1), some (vr r2), xinv o3, some (vl y8), none, some (vi x6), some (vi x7), some (vl y8), o9] [] M := (xZ_k T0 MI 2 _ _ _ _ _).trans rfl
set_option maxRecDepth 100000 in
theorem bq_18_125 (T0 MI : Nat) (th : Nat) (x1 : Int32) (r2 : Option Nat) (o3 : Option xV) (y4 : Int64) (o5 : Option xV) (x6 : Int32) (x7 : Int32) (o8 : Option xV) (o9 : Option xV) (M : xM) : xZ T0 MI 18 125 [some (vr (some th)), some (vi x1), some (vr r2), o3, some (vl y4), o5, some (vi x6), some (vi x7), o8, o9] [] M = xZ T0 MI 18 211 [some (vr (some th)), some (vi x1), some (vr r2), o3, some (vl y4), o5, some (vi x6), some (vi x7), o8, o9] [] M := (xZ_k T0 MI 1 _ _ _ _ _).trans rfl
set_option maxRecDepth 100000 in
theorem bq_18_128 (T0 MI : Nat) (th : Nat) (x1 : Int32) (r2 : Option Nat) (x3 : Int32) (y4 : Int64) (o5 : Option xV) (x6 : Int32) (x7 : Int32) (o8 : Option xV) (o9 : Option xV) (M : xM) : xZ T0 MI 18 128 [some (vr (some th)), some (vi x1), some (vr r2), some (vi x3), some (vl y4), o5, some (vi x6), some (vi x7), o8, o9] [] M = r2.bind fun q_1 => (xgetI M q_1 0 1).bind fun x_2 => if x_2 = (Int32.ofInt 2) then xZ T0 MI 18 136 [some (vr (some th)), some (vi x1), some (vr r2), some (vi x3), some (vl y4), o5, some (vi x6), some (vi x7), o8, o9] [] M else xZ T0 MI 18 152 [some (vr (some th)), some (vi x1), some (vr r2), some (vi x3), some (vl y4), o5, some (vi x6), some (vi x7), o8, o9] [] M := (xZ_k T0 MI 4 _ _ _ _ _).trans rfl
set_option maxRecDepth 100000 in
theorem bq_18_136 (T0 MI : Nat) (th : Nat) (x1 : Int32) (r2 : Option Nat) (o3 : Option xV) (y4 : Int64) (o5 : Option xV) (x6 : Int32) (o7 : Option xV) (o8 : Option xV) (o9 : Option xV) (M : xM) : xZ T0 MI 18 136 [some (vr (some th)), some (vi x1), some (vr r2), o3, some (vl y4), o5, some (vi x6), o7, o8, o9] [] M = (xgetR M th 2 4).bind fun r_1 => r2.bind fun q_2 => (xgetI M q_2 0 2).bind fun x_3 => r_1.bind fun q_4 => bif xcls M q_4 9 then (xZ T0 MI 57 0 [some (vr (some q_4)), some (vi x_3), none, none] [] M).bind fun z_5 => (xasI z_5.1).bind fun x_6 => xZ T0 MI 18 147 [some (vr (some th)), some (vi x1), some (vr r2), o3, some (vl y4), o5, some (vi x6), o7, o8, o9] [vi x_6] z_5.2 else none := (xZ_k T0 MI 5 _ _ _ _ _).trans rfl
set_option maxRecDepth 100000 in
theorem bq_18_147 (T0 MI : Nat) (th : Nat) (x1 : Int32) (r2 : Option Nat) (o3 : Option xV) (y4 : Int64) (o5 : Option xV) (x6 : Int32) (o7 : Option xV) (o8 : Option xV) (o9 : Option xV) (sx0 : Int32) (M : xM) : xZ T0 MI 18 147 [some (vr (some th)), some (vi x1), some (vr r2), o3, some (vl y4), o5, some (vi x6), o7, o8, o9] [vi sx0] M = xZ T0 MI 18 211 [some (vr (some th)), some (vi x1), some (vr r2), o3, some (vl y4), o5, some (vi x6), some (vi sx0), o8, o9] [] M := (xZ_k T0 MI 2 _ _ _ _ _).trans rfl
set_option maxRecDepth 100000 in
theorem bq_18_152 (T0 MI : Nat) (th : Nat) (x1 : Int32) (r2 : Option Nat) (x3 : Int32) (y4 : Int64) (o5 : Option xV) (x6 : Int32) (x7 : Int32) (o8 : Option xV) (o9 : Option xV) (M : xM) : xZ T0 MI 18 152 [some (vr (some th)), some (vi x1), some (vr r2), some (vi x3), some (vl y4), o5, some (vi x6), some (vi x7), o8, o9] [] M = r2.bind fun q_1 => (xgetI M q_1 0 1).bind fun x_2 => if x_2 = (Int32.ofInt 4) then xZ T0 MI 18 160 [some (vr (some th)), some (vi x1), some (vr r2), some (vi x3), some (vl y4), o5, some (vi x6), some (vi x7), o8, o9] [] M else xZ T0 MI 18 211 [some (vr (some th)), some (vi x1), some (vr r2), some (vi x3), some (vl y4), o5, some (vi x6), some (vi x7), o8, o9] [] M := (xZ_k T0 MI 4 _ _ _ _ _).trans rfl
set_option maxRecDepth 100000 in
theorem bq_18_160 (T0 MI : Nat) (th : Nat) (x1 : Int32) (r2 : Option Nat) (x3 : Int32) (y4 : Int64) (o5 : Option xV) (o6 : Option xV) (o7 : Option xV) (o8 : Option xV) (o9 : Option xV) (M : xM) : xZ T0 MI 18 160 [some (vr (some th)), some (vi x1), some (vr r2), some (vi x3), some (vl y4), o5, o6, o7, o8, o9] [] M = if x3 = 0 then xZ T0 MI 18 196 [some (vr (some th)), some (vi x1), some (vr r2), some (vi x3), some (vl y4), o5, o6, o7, o8, o9] [] M else xZ T0 MI 18 164 [some (vr (some th)), some (vi x1), some (vr r2), some (vi x3), some (vl y4), o5, o6, o7, o8, o9] [] M := (xZ_k T0 MI 2 _ _ _ _ _).trans rfl
set_option maxRecDepth 100000 in
theorem bq_18_164 (T0 MI : Nat) (th : Nat) (x1 : Int32) (r2 : Option Nat) (o3 : Option xV) (y4 : Int64) (o5 : Option xV) (o6 : Option xV) (o7 : Option xV) (o8 : Option xV) (o9 : Option xV) (M : xM) : xZ T0 MI 18 164 [some (vr (some th)), some (vi x1), some (vr r2), o3, some (vl y4), o5, o6, o7, o8, o9] [] M = r2.bind fun q_1 => (xgetL M q_1 0 3).bind fun y_2 => if (lg_cmp y4 y_2) = 0 then xZ T0 MI 18 174 [some (vr (some th)), some (vi x1), some (vr r2), o3, some (vl y4), o5, o6, o7, o8, o9] [] M else xZ T0 MI 18 196 [some (vr (some th)), some (vi x1), some (vr r2), o3, some (vl y4), o5, o6, o7, o8, o9] [] M := (xZ_k T0 MI 5 _ _ _ _ _).trans rfl
set_option maxRecDepth 100000 in
theorem bq_18_174 (T0 MI : Nat) (th : Nat) (x1 : Int32) (r2 : Option Nat) (o3 : Option xV) (y4 : Int64) (o5 : Option xV) (o6 : Option xV) (o7 : Option xV) (o8 : Option xV) (o9 : Option xV) (M : xM) : xZ T0 MI 18 174 [some (vr (some th)), some (vi x1), some (vr r2), o3, some (vl y4), o5, o6, o7, o8, o9] [] M = (xgetR M th 2 4).bind fun r_1 => r2.bind fun q_2 => (xgetI M q_2 0 2).bind fun x_3 => r2.bind fun q_4 => (xgetL M q_4 0 4).bind fun y_5 => r_1.bind fun q_6 => bif xcls M q_6 9 then (xZ T0 MI 56 0 [some (vr (some q_6)), some (vi x_3), some (vl y_5), none, none] [] M).bind fun z_7 => (xasI z_7.1).bind fun x_8 => xZ T0 MI 18 189 [some (vr (some th)), some (vi x1), some (vr r2), o3, some (vl y4), o5, o6, o7, o8, o9] [vi x_8] z_7.2 else none := (xZ_k T0 MI 7 _ _ _ _ _).trans rfl
set_option maxRecDepth 100000 in
theorem bq_18_189 (T0 MI : Nat) (th : Nat) (x1 : Int32) (r2 : Option Nat) (o3 : Option xV) (y4 : Int64) (o5 : Option xV) (o6 : Option xV) (o7 : Option xV) (o8 : Option xV) (o9 : Option xV) (sx0 : Int32) (M : xM) : xZ T0 MI 18 189 [some (vr (some th)), some (vi x1), some (vr r2), o3, some (vl y4), o5, o6, o7, o8, o9] [vi sx0] M = if sx0 = 0 then xZ T0 MI 18 196 [some (vr (some th)), some (vi x1), some (vr r2), o3, some (vl y4), o5, o6, o7, o8, o9] [] M else xZ T0 MI 18 192 [some (vr (some th)), some (vi x1), some (vr r2), o3, some (vl y4), o5, o6, o7, o8, o9] [] M := (xZ_k T0 MI 1 _ _ _ _ _).trans rfl
set_option maxRecDepth 100000 in
theorem bq_18_192 (T0 MI : Nat) (th : Nat) (x1 : Int32) (r2 : Option Nat) (o3 : Option xV) (y4 : Int64) (o5 : Option xV) (o6 : Option xV) (o7 : Option xV) (o8 : Option xV) (o9 : Option xV) (M : xM) : xZ T0 MI 18 192 [some (vr (some th)), some (vi x1), some (vr r2), o3, some (vl y4), o5, o6, o7, o8, o9] [] M = xZ T0 MI 18 197 [some (vr (some th)), some (vi x1), some (vr r2), o3, some (vl y4), o5, o6, o7, o8, o9] [vi (Int32.ofInt 1)] M := (xZ_k T0 MI 2 _ _ _ _ _).trans rfl
set_option maxRecDepth 100000 in
theorem bq_18_196 (T0 MI : Nat) (th : Nat) (x1 : Int32) (r2 : Option Nat) (o3 : Option xV) (y4 : Int64) (o5 : Option xV) (o6 : Option xV) (o7 : Option xV) (o8 : Option xV) (o9 : Option xV) (M : xM) : xZ T0 MI 18 196 [some (vr (some th)), some (vi x1), some (vr r2), o3, some (vl y4), o5, o6, o7, o8, o9] [] M = xZ T0 MI 18 197 [some (vr (some th)), some (vi x1), some (vr r2), o3, some (vl y4), o5, o6, o7, o8, o9] [vi (Int32.ofInt 0)] M := (xZ_k T0 MI 1 _ _ _ _ _).trans rfl
set_option maxRecDepth 100000 in
theorem bq_18_197 (T0 MI : Nat) (th : Nat) (x1 : Int32) (r2 : Option Nat) (o3 : Option xV) (y4 : Int64) (o5 : Option xV) (o6 : Option xV) (o7 : Option xV) (o8 : Option xV) (o9 : Option xV) (sx0 : Int32) (M : xM) : xZ T0 MI 18 197 [some (vr (some th)), some (vi x1), some (vr r2), o3, some (vl y4), o5, o6, o7, o8, o9] [vi sx0] M = if sx0 = 0 then xZ T0 MI 18 208 [some (vr (some th)), some (vi x1), some (vr r2), o3, some (vl y4), o5, xinv o6, some (vi sx0), o8, o9] [] M else xZ T0 MI 18 204 [some (vr (some th)), some (vi x1), some (vr r2), o3, some (vl y4), o5, xinv o6, some (vi sx0), o8, o9] [] M := (xZ_k T0 MI 3 _ _ _ _ _).trans rfl
set_option maxRecDepth 100000 in
theorem bq_18_204 (T0 MI : Nat) (th : Nat) (x1 : Int32) (r2 : Option Nat) (o3 : Option xV) (y4 : Int64) (o5 : Option xV) (o6 : Option xV) (x7 : Int32) (o8 : Option xV) (o9 : Option xV) (M : xM) : xZ T0 MI 18 204 [some (vr (some th)), some (vi x1), some (vr r2), o3, some (vl y4), o5, o6, some (vi x7), o8, o9] [] M = xZ T0 MI 18 209 [some (vr (some th)), some (vi x1), some (vr r2), o3, some (vl y4), o5, o6, some (vi x7), o8, o9] [vi (Int32.ofInt 1)] M := (xZ_k T0 MI 2 _ _ _ _ _).trans rfl
set_option maxRecDepth 100000 in
theorem bq_18_208 (T0 MI : Nat) (th : Nat) (x1 : Int32) (r2 : Option Nat) (o3 : Option xV) (y4 : Int64) (o5 : Option xV) (o6 : Option xV) (x7 : Int32) (o8 : Option xV) (o9 : Option xV) (M : xM) : xZ T0 MI 18 208 [some (vr (some th)), some (vi x1), some (vr r2), o3, some (vl y4), o5, o6, some (vi x7), o8, o9] [] M = xZ T0 MI 18 209 [some (vr (some th)), some (vi x1), some (vr r2), o3, some (vl y4), o5, o6, some (vi x7), o8, o9] [vi (Int32.ofInt 0)] M := (xZ_k T0 MI 1 _ _ _ _ _).trans rfl
set_option maxRecDepth 100000 in
theorem bq_18_209 (T0 MI : Nat) (th : Nat) (x1 : Int32) (r2 : Option Nat) (o3 : Option xV) (y4 : Int64) (o5 : Option xV) (o6 : Option xV) (x7 : Int32) (o8 : Option xV) (o9 : Option xV) (sx0 : Int32) (M : xM) : xZ T0 MI 18 209 [some (vr (some th)), some (vi x1), some (vr r2), o3, some (vl y4), o5, o6, some (vi x7), o8, o9] [vi sx0] M = xZ T0 MI 18 211 [some (vr (some th)), some (vi x1), some (vr r2), o3, some (vl y4), xinv o5, some (vi sx0), some (vi x7), o8, o9] [] M := (xZ_k T0 MI 1 _ _ _ _ _).trans rfl
set_option maxRecDepth 100000 in
theorem bq_18_211 (T0 MI : Nat) (th : Nat) (x1 : Int32) (r2 : Option Nat) (o3 : Option xV) (y4 : Int64) (o5 : Option xV) (x6 : Int32) (x7 : Int32) (o8 : Option xV) (o9 : Option xV) (M : xM) : xZ T0 MI 18 211 [some (vr (some th)), some (vi x1), some (vr r2), o3, some (vl y4), o5, some (vi x6), some (vi x7), o8, o9] [] M = if x7 = 0 then xZ T0 MI 18 235 [some (vr (some th)), some (vi x1), some (vr r2), o3, some (vl y4), o5, some (vi x6), some (vi x7), o8, o9] [] M else xZ T0 MI 18 216 [some (vr (some th)), some (vi x1), some (vr r2), o3, some (vl y4), o5, some (vi x6), some (vi x7), o8, o9] [] M := (xZ_k T0 MI 2 _ _ _ _ _).trans rfl
set_option maxRecDepth 100000 in
theorem bq_18_216 (T0 MI : Nat) (th : Nat) (x1 : Int32) (r2 : Option Nat) (o3 : Option xV) (y4 : Int64) (o5 : Option xV) (x6 : Int32) (o7 : Option xV) (o8 : Option xV) (o9 : Option xV) (M : xM) : xZ T0 MI 18 216 [some (vr (some th)), some (vi x1), some (vr r2), o3, some (vl y4), o5, some (vi x6), o7, o8, o9] [] M = (xgetI M th 2 0).bind fun x_1 => if x_1 = (Int32.ofInt 2) then xZ T0 MI 18 224 [some (vr (some th)), some (vi x1), some (vr r2), o3, some (vl y4), o5, some (vi x6), o7, o8, o9] [] M else xZ T0 MI 18 235 [some (vr (some th)), some (vi x1), some (vr r2), o3, some (vl y4), o5, some (vi x6), o7, o8, o9] [] M := (xZ_k T0 MI 4 _ _ _ _ _).trans rfl
set_option maxRecDepth 100000 in
theorem bq_18_224 (T0 MI : Nat) (th : Nat) (x1 : Int32) (r2 : Option Nat) (o3 : Option xV) (y4 : Int64) (o5 : Option xV) (x6 : Int32) (o7 : Option xV) (o8 : Option xV) (o9 : Option xV) (M : xM) : xZ T0 MI 18 224 [some (vr (some th)), some (vi x1), some (vr r2), o3, some (vl y4), o5, some (vi x6), o7, o8, o9] [] M = (xgetR M th 2 13).bind fun r_1 => r2.bind fun q_2 => (xgetI M q_2 0 2).bind fun x_3 => r_1.bind fun q_4 => bif xcls M q_4 5 then (xZ T0 MI 44 0 [some (vr (some q_4)), some (vi x_3), none, none] [] M).bind fun z_5 => bif z_5.1.isNone then xZ T0 MI 18 235 [some (vr (some th)), some (vi x1), some (vr r2), o3, some (vl y4), o5, some (vi x6), o7, o8, o9] [] z_5.2 else none else none := (xZ_k T0 MI 5 _ _ _ _ _).trans rfl
set_option maxRecDepth 100000 in
theorem bq_18_235 (T0 MI : Nat) (th : Nat) (x1 : Int32) (r2 : Option Nat) (o3 : Option xV) (y4 : Int64) (o5 : Option xV) (x6 : Int32) (o7 : Option xV) (o8 : Option xV) (o9 : Option xV) (M : xM) : xZ T0 MI 18 235 [some (vr (some th)), some (vi x1), some (vr r2), o3, some (vl y4), o5, some (vi x6), o7, o8, o9] [] M = (xgetR M th 2 5).bind fun r_1 => r2.bind fun q_2 => (xgetI M q_2 0 0).bind fun x_3 => r_1.bind fun q_4 => bif xcls M q_4 4 then (xZ T0 MI 37 0 [some (vr (some q_4)), some (vi x1), some (vi x_3), some (vl y4), none, some (vi x6), none, none] [] M).bind fun z_5 => bif z_5.1.isNone then xZ T0 MI 18 251 [some (vr (some th)), some (vi x1), some (vr r2), o3, some (vl y4), o5, some (vi x6), o7, o8, o9] [] z_5.2 else none else none := (xZ_k T0 MI 8 _ _ _ _ _).trans rfl
set_option maxRecDepth 100000 in
theorem bq_18_251 (T0 MI : Nat) (o0 : Option xV) (o1 : Option xV) (o2 : Option xV) (o3 : Option xV) (o4 : Option xV) (o5 : Option xV) (o6 : Option xV) (o7 : Option xV) (o8 : Option xV) (o9 : Option xV) (M : xM) : xZ T0 MI 18 251 [o0, o1, o2, o3, o4, o5, o6, o7, o8, o9] [] M = some (none, M) := (xZ_k T0 MI 1 _ _ _ _ _).trans rfl
-- 19 RangeHouse$Holding.startAttempt(I)V
set_option maxRecDepth 100000 in
theorem bq_19_0 (T0 MI : Nat) (th : Nat) (x1 : Int32) (o2 : Option xV) (M : xM) : xZ T0 MI 19 0 [some (vr (some th)), some (vi x1), o2] [] M = bif xcls M th 2 then (xZ T0 MI 15 0 [some (vr (some th))] [] M).bind fun z_1 => bif z_1.1.isNone then xZ T0 MI 19 4 [some (vr (some th)), some (vi x1), o2] [] z_1.2 else none else none := (xZ_k T0 MI 2 _ _ _ _ _).trans rfl
set_option maxRecDepth 100000 in
theorem bq_19_4 (T0 MI : Nat) (th : Nat) (x1 : Int32) (o2 : Option xV) (M : xM) : xZ T0 MI 19 4 [some (vr (some th)), some (vi x1), o2] [] M = (xput M th 2 0 (vi (Int32.ofInt 2))).bind fun M_1 => (xput M_1 th 2 9 (vi x1)).bind fun M_2 => (xput M_2 th 2 10 (vi (Int32.ofInt 0))).bind fun M_3 => xZ T0 MI 19 21 [some (vr (some th)), some (vi x1), some (vi (Int32.ofInt 0))] [] M_3 := (xZ_k T0 MI 11 _ _ _ _ _).trans rfl
set_option maxRecDepth 100000 in
theorem bq_19_21 (T0 MI : Nat) (th : Nat) (o1 : Option xV) (x2 : Int32) (M : xM) : xZ T0 MI 19 21 [some (vr (some th)), o1, some (vi x2)] [] M = (xgetR M th 2 4).bind fun r_1 => r_1.bind fun q_2 => (xgetI M q_2 9 0).bind fun x_3 => if x_3 ≤ x2 then xZ T0 MI 19 54 [some (vr (some th)), o1, some (vi x2)] [] M else xZ T0 MI 19 32 [some (vr (some th)), o1, some (vi x2)] [] M := (xZ_k T0 MI 5 _ _ _ _ _).trans rfl
set_option maxRecDepth 100000 in
theorem bq_19_32 (T0 MI : Nat) (th : Nat) (o1 : Option xV) (x2 : Int32) (M : xM) : xZ T0 MI 19 32 [some (vr (some th)), o1, some (vi x2)] [] M = (xgetR M th 2 13).bind fun r_1 => (xgetR M th 2 4).bind fun r_2 => r_2.bind fun q_3 => (xgetR M q_3 9 1).bind fun r_4 => r_4.bind fun q_5 => (xaI M q_5 x2).bind fun x_6 => r_1.bind fun q_7 => bif xcls M q_7 5 then (xZ T0 MI 44 0 [some (vr (some q_7)), some (vi x_6), none, none] [] M).bind fun z_8 => bif z_8.1.isNone then xZ T0 MI 19 48 [some (vr (some th)), o1, some (vi x2)] [] z_8.2 else none else none := (xZ_k T0 MI 8 _ _ _ _ _).trans rfl
set_option maxRecDepth 100000 in
theorem bq_19_48 (T0 MI : Nat) (th : Nat) (o1 : Option xV) (x2 : Int32) (M : xM) : xZ T0 MI 19 48 [some (vr (some th)), o1, some (vi x2)] [] M = xZ T0 MI 19 21 [some (vr (some th)), xinv o1, some (vi (x2 + Int32.ofInt 1))] [] M := (xZ_k T0 MI 2 _ _ _ _ _).trans rfl
set_option maxRecDepth 100000 in
theorem bq_19_54 (T0 MI : Nat) (o0 : Option xV) (o1 : Option xV) (o2 : Option xV) (M : xM) : xZ T0 MI 19 54 [o0, o1, o2] [] M = some (none, M) := (xZ_k T0 MI 1 _ _ _ _ _).trans rfl
-- 20 RangeHouse$Holding.packNext()V
set_option maxRecDepth 100000 in
theorem bq_20_0 (T0 MI : Nat) (th : Nat) (o1 : Option xV) (M : xM) : xZ T0 MI 20 0 [some (vr (some th)), o1] [] M = (xgetI (xnewO M 8) th 2 1).bind fun x_1 => (xgetI (xnewO M 8) th 2 2).bind fun x_2 => (xZ T0 MI 51 0 [some (vr (some M.1)), some (vi x_1), some (vi x_2)] [] (xnewO M 8)).bind fun z_3 => bif z_3.1.isNone then xZ T0 MI 20 16 [some (vr (some th)), o1] [vr (some M.1), vr (some th)] z_3.2 else none := (xZ_k T0 MI 8 _ _ _ _ _).trans rfl
set_option maxRecDepth 100000 in
theorem bq_20_16 (T0 MI : Nat) (th : Nat) (o1 : Option xV) (ts0 : Nat) (ts1 : Nat) (M : xM) : xZ T0 MI 20 16 [some (vr (some th)), o1] [vr (some ts0), vr (some ts1)] M = (xput M ts1 2 11 (vr (some ts0))).bind fun M_1 => bif xcls M_1 th 2 then (xZ T0 MI 21 0 [some (vr (some th)), some (vi (Int32.ofInt 0)), none, none] [] M_1).bind fun z_2 => bif z_2.1.isNone then xZ T0 MI 20 24 [some (vr (some th)), o1] [] z_2.2 else none else none := (xZ_k T0 MI 4 _ _ _ _ _).trans rfl
set_option maxRecDepth 100000 in
theorem bq_20_24 (T0 MI : Nat) (th : Nat) (o1 : Option xV) (M : xM) : xZ T0 MI 20 24 [some (vr (some th)), o1] [] M = bif xcls M th 2 then (xZ T0 MI 21 0 [some (vr (some th)), some (vi (Int32.ofInt 1)), none, none] [] M).bind fun z_1 => bif z_1.1.isNone then xZ T0 MI 20 29 [some (vr (some th)), o1] [] z_1.2 else none else none := (xZ_k T0 MI 3 _ _ _ _ _).trans rfl
set_option maxRecDepth 100000 in
theorem bq_20_29 (T0 MI : Nat) (th : Nat) (o1 : Option xV) (M : xM) : xZ T0 MI 20 29 [some (vr (some th)), o1] [] M = (xgetR M th 2 11).bind fun r_1 => r_1.bind fun q_2 => (xgetI M q_2 8 2).bind fun x_3 => if x_3 = 0 then xZ T0 MI 20 39 [some (vr (some th)), o1] [] M else xZ T0 MI 20 81 [some (vr (some th)), o1] [] M := (xZ_k T0 MI 4 _ _ _ _ _).trans rfl
set_option maxRecDepth 100000 in
theorem bq_20_39 (T0 MI : Nat) (th : Nat) (o1 : Option xV) (M : xM) : xZ T0 MI 20 39 [some (vr (some th)), o1] [] M = (xput M th 2 0 (vi (Int32.ofInt 3))).bind fun M_1 => (xgetR M_1 th 2 11).bind fun r_2 => r_2.bind fun q_3 => (xput M_1 q_3 8 2 (vi (Int32.ofInt (-1)))).bind fun M_4 => (xgetR M_4 th 2 11).bind fun r_5 => (xZ T0 MI 33 0 [some (vr (some M_4.1))] [] (xnewO M_4 4)).bind fun z_6 => bif z_6.1.isNone then xZ T0 MI 20 63 [some (vr (some th)), o1] [vr (some M_4.1), vr r_5] z_6.2 else none := (xZ_k T0 MI 12 _ _ _ _ _).trans rfl
set_option maxRecDepth 100000 in
theorem bq_20_63 (T0 MI : Nat) (th : Nat) (o1 : Option xV) (ts0 : Nat) (sr1 : Option Nat) (M : xM) : xZ T0 MI 20 63 [some (vr (some th)), o1] [vr (some ts0), vr sr1] M = sr1.bind fun q_1 => (xput M q_1 8 6 (vr (some ts0))).bind fun M_2 => (xgetR M_2 th 2 11).bind fun r_3 => r_3.bind fun q_4 => (xgetR M_2 q_4 8 6).bind fun r_5 => (xgetR M_2 th 2 5).bind fun r_6 => r_5.bind fun q_7 => bif xcls M_2 q_7 4 then (xZ T0 MI 40 0 [some (vr (some q_7)), some (vr r_6)] [] M_2).bind fun z_8 => bif z_8.1.isNone then xZ T0 MI 20 80 [some (vr (some th)), o1] [] z_8.2 else none else none := (xZ_k T0 MI 7 _ _ _ _ _).trans rfl
set_option maxRecDepth 100000 in
theorem bq_20_80 (T0 MI : Nat) (o0 : Option xV) (o1 : Option xV) (M : xM) : xZ T0 MI 20 80 [o0, o1] [] M = some (none, M) := (xZ_k T0 MI 1 _ _ _ _ _).trans rfl
set_option maxRecDepth 100000 in
theorem bq_20_81 (T0 MI : Nat) (th : Nat) (o1 : Option xV) (M : xM) : xZ T0 MI 20 81 [some (vr (some th)), o1] [] M = xZ T0 MI 20 83 [some (vr (some th)), some (vi (Int32.ofInt 0))] [] M := (xZ_k T0 MI 2 _ _ _ _ _).trans rfl
set_option maxRecDepth 100000 in
theorem bq_20_83 (T0 MI : Nat) (th : Nat) (x1 : Int32) (M : xM) : xZ T0 MI 20 83 [some (vr (some th)), some (vi x1)] [] M = (xgetR M th 2 11).bind fun r_1 => r_1.bind fun q_2 => (xgetI M q_2 8 2).bind fun x_3 => if x_3 ≤ x1 then xZ T0 MI 20 116 [some (vr (some th)), some (vi x1)] [] M else xZ T0 MI 20 94 [some (vr (some th)), some (vi x1)] [] M := (xZ_k T0 MI 5 _ _ _ _ _).trans rfl
set_option maxRecDepth 100000 in
theorem bq_20_94 (T0 MI : Nat) (th : Nat) (x1 : Int32) (M : xM) : xZ T0 MI 20 94 [some (vr (some th)), some (vi x1)] [] M = (xgetR M th 2 13).bind fun r_1 => (xgetR M th 2 11).bind fun r_2 => r_2.bind fun q_3 => (xgetR M q_3 8 3).bind fun r_4 => r_4.bind fun q_5 => (xaI M q_5 x1).bind fun x_6 => r_1.bind fun q_7 => bif xcls M q_7 5 then (xZ T0 MI 45 0 [some (vr (some q_7)), some (vi x_6), none, none] [] M).bind fun z_8 => bif z_8.1.isNone then xZ T0 MI 20 110 [some (vr (some th)), some (vi x1)] [] z_8.2 else none else none := (xZ_k T0 MI 8 _ _ _ _ _).trans rfl
set_option maxRecDepth 100000 in
theorem bq_20_110 (T0 MI : Nat) (th : Nat) (x1 : Int32) (M : xM) : xZ T0 MI 20 110 [some (vr (some th)), some (vi x1)] [] M = xZ T0 MI 20 83 [some (vr (some th)), some (vi (x1 + Int32.ofInt 1))] [] M := (xZ_k T0 MI 2 _ _ _ _ _).trans rfl
set_option maxRecDepth 100000 in
theorem bq_20_116 (T0 MI : Nat) (o0 : Option xV) (o1 : Option xV) (M : xM) : xZ T0 MI 20 116 [o0, o1] [] M = some (none, M) := (xZ_k T0 MI 1 _ _ _ _ _).trans rfl
-- 21 RangeHouse$Holding.pack(Z)V
set_option maxRecDepth 100000 in
theorem bq_21_0 (T0 MI : Nat) (th : Nat) (x1 : Int32) (o2 : Option xV) (o3 : Option xV) (M : xM) : xZ T0 MI 21 0 [some (vr (some th)), some (vi x1), o2, o3] [] M = xZ T0 MI 21 2 [some (vr (some th)), some (vi x1), some (vi (Int32.ofInt 0)), o3] [] M := (xZ_k T0 MI 2 _ _ _ _ _).trans rfl
set_option maxRecDepth 100000 in
theorem bq_21_2 (T0 MI : Nat) (th : Nat) (x1 : Int32) (x2 : Int32) (o3 : Option xV) (M : xM) : xZ T0 MI 21 2 [some (vr (some th)), some (vi x1), some (vi x2), o3] [] M = (xgetR M th 2 13).bind fun r_1 => r_1.bind fun q_2 => (xgetI M q_2 5 0).bind fun x_3 => if x_3 ≤ x2 then xZ T0 MI 21 66 [some (vr (some th)), some (vi x1), some (vi x2), o3] [] M else xZ T0 MI 21 13 [some (vr (some th)), some (vi x1), some (vi x2), o3] [] M := (xZ_k T0 MI 5 _ _ _ _ _).trans rfl
set_option maxRecDepth 100000 in
theorem bq_21_13 (T0 MI : Nat) (th : Nat) (x1 : Int32) (x2 : Int32) (o3 : Option xV) (M : xM) : xZ T0 MI 21 13 [some (vr (some th)), some (vi x1), some (vi x2), o3] [] M = (xgetR M th 2 13).bind fun r_1 => r_1.bind fun q_2 => (xgetR M q_2 5 1).bind fun r_3 => r_3.bind fun q_4 => (xaI M q_4 x2).bind fun x_5 => (xgetR M th 2 4).bind fun r_6 => r_6.bind fun q_7 => bif xcls M q_7 9 then (xZ T0 MI 54 0 [some (vr (some q_7)), some (vi x_5), none] [] M).bind fun z_8 => (xasI z_8.1).bind fun x_9 => xZ T0 MI 21 31 [some (vr (some th)), some (vi x1), some (vi x2), some (vi x_5)] [vi x_9] z_8.2 else none := (xZ_k T0 MI 10 _ _ _ _ _).trans rfl
set_option maxRecDepth 100000 in
theorem bq_21_31 (T0 MI : Nat) (th : Nat) (x1 : Int32) (x2 : Int32) (x3 : Int32) (sx0 : Int32) (M : xM) : xZ T0 MI 21 31 [some (vr (some th)), some (vi x1), some (vi x2), some (vi x3)] [vi sx0] M = if sx0 < 0 then xZ T0 MI 21 38 [some (vr (some th)), some (vi x1), some (vi x2), some (vi x3)] [] M else xZ T0 MI 21 34 [some (vr (some th)), some (vi x1), some (vi x2), some (vi x3)] [] M := (xZ_k T0 MI 1 _ _ _ _ _).trans rfl
set_option maxRecDepth 100000 in
theorem bq_21_34 (T0 MI : Nat) (th : Nat) (x1 : Int32) (x2 : Int32) (x3 : Int32) (M : xM) : xZ T0 MI 21 34 [some (vr (some th)), some (vi x1), some (vi x2), some (vi x3)] [] M = xZ T0 MI 21 39 [some (vr (some th)), some (vi x1), some (vi x2), some (vi x3)] [vi (Int32.ofInt 1)] M := (xZ_k T0 MI 2 _ _ _ _ _).trans rfl
set_option maxRecDepth 100000 in
theorem bq_21_38 (T0 MI : Nat) (th : Nat) (x1 : Int32) (x2 : Int32) (x3 : Int32) (M : xM) : xZ T0 MI 21 38 [some (vr (some th)), some (vi x1), some (vi x2), some (vi x3)] [] M = xZ T0 MI 21 39 [some (vr (some th)), some (vi x1), some (vi x2), some (vi x3)] [vi (Int32.ofInt 0)] M := (xZ_k T0 MI 1 _ _ _ _ _).trans rfl
set_option maxRecDepth 100000 in
theorem bq_21_39 (T0 MI : Nat) (th : Nat) (x1 : Int32) (x2 : Int32) (x3 : Int32) (sx0 : Int32) (M : xM) : xZ T0 MI 21 39 [some (vr (some th)), some (vi x1), some (vi x2), some (vi x3)] [vi sx0] M = if sx0 = x1 then xZ T0 MI 21 43 [some (vr (some th)), some (vi x1), some (vi x2), some (vi x3)] [] M else xZ T0 MI 21 60 [some (vr (some th)), some (vi x1), some (vi x2), some (vi x3)] [] M := (xZ_k T0 MI 2 _ _ _ _ _).trans rfl
set_option maxRecDepth 100000 in
theorem bq_21_43 (T0 MI : Nat) (th : Nat) (x1 : Int32) (x2 : Int32) (x3 : Int32) (M : xM) : xZ T0 MI 21 43 [some (vr (some th)), some (vi x1), some (vi x2), some (vi x3)] [] M = (xgetR M th 2 11).bind fun r_1 => (xgetR M th 2 4).bind fun r_2 => r_2.bind fun q_3 => bif xcls M q_3 9 then (xZ T0 MI 55 0 [some (vr (some q_3)), some (vi x3), none] [] M).bind fun z_4 => (xasL z_4.1).bind fun y_5 => xZ T0 MI 21 57 [some (vr (some th)), some (vi x1), some (vi x2), some (vi x3)] [vl y_5, vi x1, vi x3, vr r_1] z_4.2 else none := (xZ_k T0 MI 8 _ _ _ _ _).trans rfl
set_option maxRecDepth 100000 in
theorem bq_21_57 (T0 MI : Nat) (th : Nat) (x1 : Int32) (x2 : Int32) (o3 : Option xV) (sy0 : Int64) (sx1 : Int32) (sx2 : Int32) (sr3 : Option Nat) (M : xM) : xZ T0 MI 21 57 [some (vr (some th)), some (vi x1), some (vi x2), o3] [vl sy0, vi sx1, vi sx2, vr sr3] M = sr3.bind fun q_1 => bif xcls M q_1 8 then (xZ T0 MI 52 0 [some (vr (some q_1)), some (vi sx2), some (vi sx1), some (vl sy0), none] [] M).bind fun z_2 => bif z_2.1.isNone then xZ T0 MI 21 60 [some (vr (some th)), some (vi x1), some (vi x2), o3] [] z_2.2 else none else none := (xZ_k T0 MI 1 _ _ _ _ _).trans rfl
set_option maxRecDepth 100000 in
theorem bq_21_60 (T0 MI : Nat) (th : Nat) (x1 : Int32) (x2 : Int32) (o3 : Option xV) (M : xM) : xZ T0 MI 21 60 [some (vr (some th)), some (vi x1), some (vi x2), o3] [] M = xZ T0 MI 21 2 [some (vr (some th)), some (vi x1), some (vi (x2 + Int32.ofInt 1)), o3] [] M := (xZ_k T0 MI 2 _ _ _ _ _).trans rfl
set_option maxRecDepth 100000 in
theorem bq_21_66 (T0 MI : Nat) (o0 : Option xV) (o1 : Option xV) (o2 : Option xV) (o3 : Option xV) (M : xM) : xZ T0 MI 21 66 [o0, o1, o2, o3] [] M = some (none, M) := (xZ_k T0 MI 1 _ _ _ _ _).trans rfl
-- 22 RangeHouse$Holding.receive(LRangeHouse$Letter;LRangeHouse$Parcel;)I
set_option maxRecDepth 100000 in
theorem bq_22_0 (T0 MI : Nat) (th : Nat) (r1 : Option Nat) (r2 : Option Nat) (M : xM) : xZ T0 MI 22 0 [some (vr (some th)), some (vr r1), some (vr r2)] [] M = bif xcls M th 2 then (xZ T0 MI 23 0 [some (vr (some th)), some (vr r1), none] [] M).bind fun z_1 => (xasI z_1.1).bind fun x_2 => xZ T0 MI 22 5 [some (vr (some th)), some (vr r1), some (vr r2)] [vi x_2] z_1.2 else none := (xZ_k T0 MI 3 _ _ _ _ _).trans rfl
set_option maxRecDepth 100000 in
theorem bq_22_5 (T0 MI : Nat) (th : Nat) (r1 : Option Nat) (r2 : Option Nat) (sx0 : Int32) (M : xM) : xZ T0 MI 22 5 [some (vr (some th)), some (vr r1), some (vr r2)] [vi sx0] M = if sx0 = 0 then xZ T0 MI 22 24 [some (vr (some th)), some (vr r1), some (vr r2)] [] M else xZ T0 MI 22 8 [some (vr (some th)), some (vr r1), some (vr r2)] [] M := (xZ_k T0 MI 1 _ _ _ _ _).trans rfl
set_option maxRecDepth 100000 in
theorem bq_22_8 (T0 MI : Nat) (th : Nat) (r1 : Option Nat) (r2 : Option Nat) (M : xM) : xZ T0 MI 22 8 [some (vr (some th)), some (vr r1), some (vr r2)] [] M = bif xcls M th 2 then (xZ T0 MI 24 0 [some (vr (some th)), some (vr r1), some (vr r2)] [] M).bind fun z_1 => bif z_1.1.isNone then xZ T0 MI 22 14 [some (vr (some th)), some (vr r1), some (vr r2)] [] z_1.2 else none else none := (xZ_k T0 MI 4 _ _ _ _ _).trans rfl
set_option maxRecDepth 100000 in
theorem bq_22_14 (T0 MI : Nat) (th : Nat) (r1 : Option Nat) (r2 : Option Nat) (M : xM) : xZ T0 MI 22 14 [some (vr (some th)), some (vr r1), some (vr r2)] [] M = bif xcls M th 2 then (xZ T0 MI 25 0 [some (vr (some th)), some (vr r2), none] [] M).bind fun z_1 => bif z_1.1.isNone then xZ T0 MI 22 19 [some (vr (some th)), some (vr r1), some (vr r2)] [] z_1.2 else none else none := (xZ_k T0 MI 3 _ _ _ _ _).trans rfl
set_option maxRecDepth 100000 in
theorem bq_22_19 (T0 MI : Nat) (o0 : Option xV) (r1 : Option Nat) (o2 : Option xV) (M : xM) : xZ T0 MI 22 19 [o0, some (vr r1), o2] [] M = r1.bind fun q_1 => (xgetI M q_1 6 7).bind fun x_2 => some (some (vi x_2), M) := (xZ_k T0 MI 3 _ _ _ _ _).trans rfl
set_option maxRecDepth 100000 in
theorem bq_22_24 (T0 MI : Nat) (th : Nat) (r1 : Option Nat) (r2 : Option Nat) (M : xM) : xZ T0 MI 22 24 [some (vr (some th)), some (vr r1), some (vr r2)] [] M = (xgetI M th 2 0).bind fun x_1 => if x_1 = (Int32.ofInt 4) then xZ T0 MI 22 32 [some (vr (some th)), some (vr r1), some (vr r2)] [] M else xZ T0 MI 22 96 [some (vr (some th)), some (vr r1), some (vr r2)] [] M := (xZ_k T0 MI 4 _ _ _ _ _).trans rfl
set_option maxRecDepth 100000 in
theorem bq_22_32 (T0 MI : Nat) (th : Nat) (r1 : Option Nat) (r2 : Option Nat) (M : xM) : xZ T0 MI 22 32 [some (vr (some th)), some (vr r1), some (vr r2)] [] M = (xgetI M th 2 3).bind fun x_1 => r1.bind fun q_2 => (xgetI M q_2 6 4).bind fun x_3 => if x_1 = x_3 then xZ T0 MI 22 43 [some (vr (some th)), some (vr r1), some (vr r2)] [] M else xZ T0 MI 22 96 [some (vr (some th)), some (vr r1), some (vr r2)] [] M := (xZ_k T0 MI 5 _ _ _ _ _).trans rfl
set_option maxRecDepth 100000 in
theorem bq_22_43 (T0 MI : Nat) (th : Nat) (r1 : Option Nat) (r2 : Option Nat) (M : xM) : xZ T0 MI 22 43 [some (vr (some th)), some (vr r1), some (vr r2)] [] M = (xgetI M th 2 9).bind fun x_1 => r1.bind fun q_2 => (xgetI M q_2 6 6).bind fun x_3 => if x_1 = x_3 then xZ T0 MI 22 54 [some (vr (some th)), some (vr r1), some (vr r2)] [] M else xZ T0 MI 22 96 [some (vr (some th)), some (vr r1), some (vr r2)] [] M := (xZ_k T0 MI 5 _ _ _ _ _).trans rfl
set_option maxRecDepth 100000 in
theorem bq_22_54 (T0 MI : Nat) (th : Nat) (r1 : Option Nat) (r2 : Option Nat) (M : xM) : xZ T0 MI 22 54 [some (vr (some th)), some (vr r1), some (vr r2)] [] M = r1.bind fun q_1 => (xgetI M q_1 6 7).bind fun x_2 => (xgetI M th 2 10).bind fun x_3 => if x_2 = x_3 then xZ T0 MI 22 65 [some (vr (some th)), some (vr r1), some (vr r2)] [] M else xZ T0 MI 22 75 [some (vr (some th)), some (vr r1), some (vr r2)] [] M := (xZ_k T0 MI 5 _ _ _ _ _).trans rfl
set_option maxRecDepth 100000 in
theorem bq_22_65 (T0 MI : Nat) (th : Nat) (r1 : Option Nat) (r2 : Option Nat) (M : xM) : xZ T0 MI 22 65 [some (vr (some th)), some (vr r1), some (vr r2)] [] M = bif xcls M th 2 then (xZ T0 MI 25 0 [some (vr (some th)), some (vr r2), none] [] M).bind fun z_1 => bif z_1.1.isNone then xZ T0 MI 22 70 [some (vr (some th)), some (vr r1), some (vr r2)] [] z_1.2 else none else none := (xZ_k T0 MI 3 _ _ _ _ _).trans rfl
set_option maxRecDepth 100000 in
theorem bq_22_70 (T0 MI : Nat) (o0 : Option xV) (r1 : Option Nat) (o2 : Option xV) (M : xM) : xZ T0 MI 22 70 [o0, some (vr r1), o2] [] M = r1.bind fun q_1 => (xgetI M q_1 6 7).bind fun x_2 => some (some (vi x_2), M) := (xZ_k T0 MI 3 _ _ _ _ _).trans rfl
set_option maxRecDepth 100000 in
theorem bq_22_75 (T0 MI : Nat) (th : Nat) (r1 : Option Nat) (o2 : Option xV) (M : xM) : xZ T0 MI 22 75 [some (vr (some th)), some (vr r1), o2] [] M = r1.bind fun q_1 => (xgetI M q_1 6 7).bind fun x_2 => (xgetI M th 2 10).bind fun x_3 => if x_3 ≤ x_2 then xZ T0 MI 22 93 [some (vr (some th)), some (vr r1), o2] [] M else xZ T0 MI 22 86 [some (vr (some th)), some (vr r1), o2] [] M := (xZ_k T0 MI 5 _ _ _ _ _).trans rfl
set_option maxRecDepth 100000 in
theorem bq_22_86 (T0 MI : Nat) (o0 : Option xV) (r1 : Option Nat) (o2 : Option xV) (M : xM) : xZ T0 MI 22 86 [o0, some (vr r1), o2] [] M = r1.bind fun q_1 => (xgetI M q_1 6 7).bind fun x_2 => xZ T0 MI 22 95 [o0, some (vr r1), o2] [vi x_2] M := (xZ_k T0 MI 3 _ _ _ _ _).trans rfl
set_option maxRecDepth 100000 in
theorem bq_22_93 (T0 MI : Nat) (o0 : Option xV) (o1 : Option xV) (o2 : Option xV) (M : xM) : xZ T0 MI 22 93 [o0, o1, o2] [] M = xZ T0 MI 22 95 [o0, o1, o2] [vi (Int32.ofInt (-2))] M := (xZ_k T0 MI 1 _ _ _ _ _).trans rfl
set_option maxRecDepth 100000 in
theorem bq_22_95 (T0 MI : Nat) (o0 : Option xV) (o1 : Option xV) (o2 : Option xV) (sx0 : Int32) (M : xM) : xZ T0 MI 22 95 [o0, o1, o2] [vi sx0] M = some (some (vi sx0), M) := (xZ_k T0 MI 1 _ _ _ _ _).trans rfl
set_option maxRecDepth 100000 in
theorem bq_22_96 (T0 MI : Nat) (th : Nat) (r1 : Option Nat) (o2 : Option xV) (M : xM) : xZ T0 MI 22 96 [some (vr (some th)), some (vr r1), o2] [] M = (xgetI M th 2 0).bind fun x_1 => if x_1 = (Int32.ofInt 5) then xZ T0 MI 22 104 [some (vr (some th)), some (vr r1), o2] [] M else xZ T0 MI 22 120 [some (vr (some th)), some (vr r1), o2] [] M := (xZ_k T0 MI 4 _ _ _ _ _).trans rfl
set_option maxRecDepth 100000 in
theorem bq_22_104 (T0 MI : Nat) (th : Nat) (r1 : Option Nat) (o2 : Option xV) (M : xM) : xZ T0 MI 22 104 [some (vr (some th)), some (vr r1), o2] [] M = (xgetI M th 2 3).bind fun x_1 => r1.bind fun q_2 => (xgetI M q_2 6 4).bind fun x_3 => if x_1 = x_3 then xZ T0 MI 22 115 [some (vr (some th)), some (vr r1), o2] [] M else xZ T0 MI 22 120 [some (vr (some th)), some (vr r1), o2] [] M := (xZ_k T0 MI 5 _ _ _ _ _).trans rfl
set_option maxRecDepth 100000 in
theorem bq_22_115 (T0 MI : Nat) (o0 : Option xV) (r1 : Option Nat) (o2 : Option xV) (M : xM) : xZ T0 MI 22 115 [o0, some (vr r1), o2] [] M = r1.bind fun q_1 => (xgetI M q_1 6 7).bind fun x_2 => some (some (vi x_2), M) := (xZ_k T0 MI 3 _ _ _ _ _).trans rfl
set_option maxRecDepth 100000 in
theorem bq_22_120 (T0 MI : Nat) (th : Nat) (o1 : Option xV) (o2 : Option xV) (M : xM) : xZ T0 MI 22 120 [some (vr (some th)), o1, o2] [] M = (xgetI M th 2 0).bind fun x_1 => if x_1 = 0 then xZ T0 MI 22 127 [some (vr (some th)), o1, o2] [] M else xZ T0 MI 22 131 [some (vr (some th)), o1, o2] [] M := (xZ_k T0 MI 3 _ _ _ _ _).trans rfl
set_option maxRecDepth 100000 in
theorem bq_22_127 (T0 MI : Nat) (o0 : Option xV) (o1 : Option xV) (o2 : Option xV) (M : xM) : xZ T0 MI 22 127 [o0, o1, o2] [] M = xZ T0 MI 22 133 [o0, o1, o2] [vi (Int32.ofInt (-1))] M := (xZ_k T0 MI 2 _ _ _ _ _).trans rfl
set_option maxRecDepth 100000 in
theorem bq_22_131 (T0 MI : Nat) (o0 : Option xV) (o1 : Option xV) (o2 : Option xV) (M : xM) : xZ T0 MI 22 131 [o0, o1, o2] [] M = xZ T0 MI 22 133 [o0, o1, o2] [vi (Int32.ofInt (-2))] M := (xZ_k T0 MI 1 _ _ _ _ _).trans rfl
set_option maxRecDepth 100000 in
theorem bq_22_133 (T0 MI : Nat) (o0 : Option xV) (o1 : Option xV) (o2 : Option xV) (sx0 : Int32) (M : xM) : xZ T0 MI 22 133 [o0, o1, o2] [vi sx0] M = some (some (vi sx0), M) := (xZ_k T0 MI 1 _ _ _ _ _).trans rfl
-- 23 RangeHouse$Holding.startsAnew(LRangeHouse$Letter;)Z
set_option maxRecDepth 100000 in
theorem bq_23_0 (T0 MI : Nat) (th : Nat) (r1 : Option Nat) (o2 : Option xV) (M : xM) : xZ T0 MI 23 0 [some (vr (some th)), some (vr r1), o2] [] M = r1.bind fun q_1 => (xgetI M q_1 6 4).bind fun x_2 => (xgetI M th 2 6).bind fun x_3 => if x_3 < x_2 then xZ T0 MI 23 33 [some (vr (some th)), some (vr r1), o2] [] M else xZ T0 MI 23 11 [some (vr (some th)), some (vr r1), o2] [] M := (xZ_k T0 MI 5 _ _ _ _ _).trans rfl
set_option maxRecDepth 100000 in
theorem bq_23_11 (T0 MI : Nat) (th : Nat) (r1 : Option Nat) (o2 : Option xV) (M : xM) : xZ T0 MI 23 11 [some (vr (some th)), some (vr r1), o2] [] M = r1.bind fun q_1 => (xgetI M q_1 6 4).bind fun x_2 => (xgetI M th 2 6).bind fun x_3 => if x_2 = x_3 then xZ T0 MI 23 22 [some (vr (some th)), some (vr r1), o2] [] M else xZ T0 MI 23 37 [some (vr (some th)), some (vr r1), o2] [] M := (xZ_k T0 MI 5 _ _ _ _ _).trans rfl
set_option maxRecDepth 100000 in
theorem bq_23_22 (T0 MI : Nat) (th : Nat) (r1 : Option Nat) (o2 : Option xV) (M : xM) : xZ T0 MI 23 22 [some (vr (some th)), some (vr r1), o2] [] M = r1.bind fun q_1 => (xgetI M q_1 6 6).bind fun x_2 => (xgetI M th 2 7).bind fun x_3 => if x_2 ≤ x_3 then xZ T0 MI 23 37 [some (vr (some th)), some (vr r1), o2] [] M else xZ T0 MI 23 33 [some (vr (some th)), some (vr r1), o2] [] M := (xZ_k T0 MI 5 _ _ _ _ _).trans rfl
set_option maxRecDepth 100000 in
theorem bq_23_33 (T0 MI : Nat) (th : Nat) (r1 : Option Nat) (o2 : Option xV) (M : xM) : xZ T0 MI 23 33 [some (vr (some th)), some (vr r1), o2] [] M = xZ T0 MI 23 38 [some (vr (some th)), some (vr r1), o2] [vi (Int32.ofInt 1)] M := (xZ_k T0 MI 2 _ _ _ _ _).trans rfl
set_option maxRecDepth 100000 in
theorem bq_23_37 (T0 MI : Nat) (th : Nat) (r1 : Option Nat) (o2 : Option xV) (M : xM) : xZ T0 MI 23 37 [some (vr (some th)), some (vr r1), o2] [] M = xZ T0 MI 23 38 [some (vr (some th)), some (vr r1), o2] [vi (Int32.ofInt 0)] M := (xZ_k T0 MI 1 _ _ _ _ _).trans rfl
set_option maxRecDepth 100000 in
theorem bq_23_38 (T0 MI : Nat) (th : Nat) (r1 : Option Nat) (o2 : Option xV) (sx0 : Int32) (M : xM) : xZ T0 MI 23 38 [some (vr (some th)), some (vr r1), o2] [vi sx0] M = bif xcls M th 2 then (xZ T0 MI 10 0 [some (vr (some th))] [] M).bind fun z_1 => (xasI z_1.1).bind fun x_2 => xZ T0 MI 23 43 [some (vr (some th)), some (vr r1), some (vi sx0)] [vi x_2] z_1.2 else none := (xZ_k T0 MI 3 _ _ _ _ _).trans rfl
set_option maxRecDepth 100000 in
theorem bq_23_43 (T0 MI : Nat) (o0 : Option xV) (r1 : Option Nat) (x2 : Int32) (sx0 : Int32) (M : xM) : xZ T0 MI 23 43 [o0, some (vr r1), some (vi x2)] [vi sx0] M = if sx0 = 0 then xZ T0 MI 23 46 [o0, some (vr r1), some (vi x2)] [] M else xZ T0 MI 23 61 [o0, some (vr r1), some (vi x2)] [] M := (xZ_k T0 MI 1 _ _ _ _ _).trans rfl
set_option maxRecDepth 100000 in
theorem bq_23_46 (T0 MI : Nat) (o0 : Option xV) (r1 : Option Nat) (x2 : Int32) (M : xM) : xZ T0 MI 23 46 [o0, some (vr r1), some (vi x2)] [] M = r1.bind fun q_1 => (xgetI M q_1 6 7).bind fun x_2 => if x_2 = 0 then xZ T0 MI 23 53 [o0, some (vr r1), some (vi x2)] [] M else xZ T0 MI 23 61 [o0, some (vr r1), some (vi x2)] [] M := (xZ_k T0 MI 3 _ _ _ _ _).trans rfl
set_option maxRecDepth 100000 in
theorem bq_23_53 (T0 MI : Nat) (o0 : Option xV) (o1 : Option xV) (x2 : Int32) (M : xM) : xZ T0 MI 23 53 [o0, o1, some (vi x2)] [] M = if x2 = 0 then xZ T0 MI 23 61 [o0, o1, some (vi x2)] [] M else xZ T0 MI 23 57 [o0, o1, some (vi x2)] [] M := (xZ_k T0 MI 2 _ _ _ _ _).trans rfl
set_option maxRecDepth 100000 in
theorem bq_23_57 (T0 MI : Nat) (o0 : Option xV) (o1 : Option xV) (o2 : Option xV) (M : xM) : xZ T0 MI 23 57 [o0, o1, o2] [] M = xZ T0 MI 23 62 [o0, o1, o2] [vi (Int32.ofInt 1)] M := (xZ_k T0 MI 2 _ _ _ _ _).trans rfl
set_option maxRecDepth 100000 in
theorem bq_23_61 (T0 MI : Nat) (o0 : Option xV) (o1 : Option xV) (o2 : Option xV) (M : xM) : xZ T0 MI 23 61 [o0, o1, o2] [] M = xZ T0 MI 23 62 [o0, o1, o2] [vi (Int32.ofInt 0)] M := (xZ_k T0 MI 1 _ _ _ _ _).trans rfl
set_option maxRecDepth 100000 in
theorem bq_23_62 (T0 MI : Nat) (o0 : Option xV) (o1 : Option xV) (o2 : Option xV) (sx0 : Int32) (M : xM) : xZ T0 MI 23 62 [o0, o1, o2] [vi sx0] M = bif xbool sx0 then some (some (vi sx0), M) else none := (xZ_k T0 MI 1 _ _ _ _ _).trans rfl
-- 24 RangeHouse$Holding.startTaking(LRangeHouse$Letter;LRangeHouse$Parcel;)V
set_option maxRecDepth 100000 in
theorem bq_24_0 (T0 MI : Nat) (th : Nat) (r1 : Option Nat) (r2 : Option Nat) (M : xM) : xZ T0 MI 24 0 [some (vr (some th)), some (vr r1), some (vr r2)] [] M = bif xcls M th 2 then (xZ T0 MI 13 0 [some (vr (some th))] [] M).bind fun z_1 => bif z_1.1.isNone then xZ T0 MI 24 4 [some (vr (some th)), some (vr r1), some (vr r2)] [] z_1.2 else none else none := (xZ_k T0 MI 2 _ _ _ _ _).trans rfl
set_option maxRecDepth 100000 in
theorem bq_24_4 (T0 MI : Nat) (th : Nat) (r1 : Option Nat) (r2 : Option Nat) (M : xM) : xZ T0 MI 24 4 [some (vr (some th)), some (vr r1), some (vr r2)] [] M = (xput M th 2 0 (vi (Int32.ofInt 4))).bind fun M_1 => r2.bind fun q_2 => (xgetI M_1 q_2 8 0).bind fun x_3 => (xput M_1 th 2 1 (vi x_3)).bind fun M_4 => r2.bind fun q_5 => (xgetI M_4 q_5 8 1).bind fun x_6 => (xput M_4 th 2 2 (vi x_6)).bind fun M_7 => r1.bind fun q_8 => (xgetI M_7 q_8 6 4).bind fun x_9 => (xput M_7 th 2 3 (vi x_9)).bind fun M_10 => r1.bind fun q_11 => (xgetI M_10 q_11 6 6).bind fun x_12 => (xput M_10 th 2 9 (vi x_12)).bind fun M_13 => (xput M_13 th 2 10 (vi (Int32.ofInt 0))).bind fun M_14 => r1.bind fun q_15 => (xgetI M_14 q_15 6 4).bind fun x_16 => (xput M_14 th 2 6 (vi x_16)).bind fun M_17 => r1.bind fun q_18 => (xgetI M_17 q_18 6 6).bind fun x_19 => (xput M_17 th 2 7 (vi x_19)).bind fun M_20 => some (none, M_20) := (xZ_k T0 MI 31 _ _ _ _ _).trans rfl
-- 25 RangeHouse$Holding.take(LRangeHouse$Parcel;)V
set_option maxRecDepth 100000 in
theorem bq_25_0 (T0 MI : Nat) (th : Nat) (r1 : Option Nat) (o2 : Option xV) (M : xM) : xZ T0 MI 25 0 [some (vr (some th)), some (vr r1), o2] [] M = xZ T0 MI 25 2 [some (vr (some th)), some (vr r1), some (vi (Int32.ofInt 0))] [] M := (xZ_k T0 MI 2 _ _ _ _ _).trans rfl
set_option maxRecDepth 100000 in
theorem bq_25_2 (T0 MI : Nat) (th : Nat) (r1 : Option Nat) (x2 : Int32) (M : xM) : xZ T0 MI 25 2 [some (vr (some th)), some (vr r1), some (vi x2)] [] M = r1.bind fun q_1 => (xgetI M q_1 8 2).bind fun x_2 => if x_2 ≤ x2 then xZ T0 MI 25 62 [some (vr (some th)), some (vr r1), some (vi x2)] [] M else xZ T0 MI 25 10 [some (vr (some th)), some (vr r1), some (vi x2)] [] M := (xZ_k T0 MI 4 _ _ _ _ _).trans rfl
set_option maxRecDepth 100000 in
theorem bq_25_10 (T0 MI : Nat) (th : Nat) (r1 : Option Nat) (x2 : Int32) (M : xM) : xZ T0 MI 25 10 [some (vr (some th)), some (vr r1), some (vi x2)] [] M = r1.bind fun q_1 => (xgetR M q_1 8 4).bind fun r_2 => r_2.bind fun q_3 => (xaZ M q_3 x2).bind fun x_4 => if x_4 = 0 then xZ T0 MI 25 42 [some (vr (some th)), some (vr r1), some (vi x2)] [] M else xZ T0 MI 25 19 [some (vr (some th)), some (vr r1), some (vi x2)] [] M := (xZ_k T0 MI 5 _ _ _ _ _).trans rfl
set_option maxRecDepth 100000 in
theorem bq_25_19 (T0 MI : Nat) (th : Nat) (r1 : Option Nat) (x2 : Int32) (M : xM) : xZ T0 MI 25 19 [some (vr (some th)), some (vr r1), some (vi x2)] [] M = (xgetR M th 2 4).bind fun r_1 => r1.bind fun q_2 => (xgetR M q_2 8 3).bind fun r_3 => r_3.bind fun q_4 => (xaI M q_4 x2).bind fun x_5 => r1.bind fun q_6 => (xgetR M q_6 8 5).bind fun r_7 => r_7.bind fun q_8 => (xaL M q_8 x2).bind fun y_9 => r_1.bind fun q_10 => bif xcls M q_10 9 then (xZ T0 MI 56 0 [some (vr (some q_10)), some (vi x_5), some (vl y_9), none, none] [] M).bind fun z_11 => (xasI z_11.1).bind fun x_12 => xZ T0 MI 25 38 [some (vr (some th)), some (vr r1), some (vi x2)] [vi x_12] z_11.2 else none := (xZ_k T0 MI 11 _ _ _ _ _).trans rfl
set_option maxRecDepth 100000 in
theorem bq_25_38 (T0 MI : Nat) (th : Nat) (r1 : Option Nat) (x2 : Int32) (sx0 : Int32) (M : xM) : xZ T0 MI 25 38 [some (vr (some th)), some (vr r1), some (vi x2)] [vi sx0] M = xZ T0 MI 25 56 [some (vr (some th)), some (vr r1), some (vi x2)] [] M := (xZ_k T0 MI 2 _ _ _ _ _).trans rfl
set_option maxRecDepth 100000 in
theorem bq_25_42 (T0 MI : Nat) (th : Nat) (r1 : Option Nat) (x2 : Int32) (M : xM) : xZ T0 MI 25 42 [some (vr (some th)), some (vr r1), some (vi x2)] [] M = (xgetR M th 2 4).bind fun r_1 => r1.bind fun q_2 => (xgetR M q_2 8 3).bind fun r_3 => r_3.bind fun q_4 => (xaI M q_4 x2).bind fun x_5 => r_1.bind fun q_6 => bif xcls M q_6 9 then (xZ T0 MI 57 0 [some (vr (some q_6)), some (vi x_5), none, none] [] M).bind fun z_7 => (xasI z_7.1).bind fun x_8 => xZ T0 MI 25 55 [some (vr (some th)), some (vr r1), some (vi x2)] [vi x_8] z_7.2 else none := (xZ_k T0 MI 7 _ _ _ _ _).trans rfl
set_option maxRecDepth 100000 in
theorem bq_25_55 (T0 MI : Nat) (th : Nat) (r1 : Option Nat) (x2 : Int32) (sx0 : Int32) (M : xM) : xZ T0 MI 25 55 [some (vr (some th)), some (vr r1), some (vi x2)] [vi sx0] M = xZ T0 MI 25 56 [some (vr (some th)), some (vr r1), some (vi x2)] [] M := (xZ_k T0 MI 1 _ _ _ _ _).trans rfl
set_option maxRecDepth 100000 in
theorem bq_25_56 (T0 MI : Nat) (th : Nat) (r1 : Option Nat) (x2 : Int32) (M : xM) : xZ T0 MI 25 56 [some (vr (some th)), some (vr r1), some (vi x2)] [] M = xZ T0 MI 25 2 [some (vr (some th)), some (vr r1), some (vi (x2 + Int32.ofInt 1))] [] M := (xZ_k T0 MI 2 _ _ _ _ _).trans rfl
set_option maxRecDepth 100000 in
theorem bq_25_62 (T0 MI : Nat) (th : Nat) (r1 : Option Nat) (o2 : Option xV) (M : xM) : xZ T0 MI 25 62 [some (vr (some th)), some (vr r1), o2] [] M = (xgetI M th 2 10).bind fun x_1 => (xput M th 2 10 (vi (x_1 + (Int32.ofInt 1)))).bind fun M_2 => r1.bind fun q_3 => (xgetI M_2 q_3 8 2).bind fun x_4 => if x_4 = (Int32.ofInt (-1)) then xZ T0 MI 25 80 [some (vr (some th)), some (vr r1), o2] [] M_2 else xZ T0 MI 25 103 [some (vr (some th)), some (vr r1), o2] [] M_2 := (xZ_k T0 MI 10 _ _ _ _ _).trans rfl
set_option maxRecDepth 100000 in
theorem bq_25_80 (T0 MI : Nat) (th : Nat) (r1 : Option Nat) (o2 : Option xV) (M : xM) : xZ T0 MI 25 80 [some (vr (some th)), some (vr r1), o2] [] M = r1.bind fun q_1 => (xgetR M q_1 8 6).bind fun r_2 => bif r_2.isNone then xZ T0 MI 25 103 [some (vr (some th)), some (vr r1), o2] [] M else xZ T0 MI 25 87 [some (vr (some th)), some (vr r1), o2] [] M := (xZ_k T0 MI 3 _ _ _ _ _).trans rfl
set_option maxRecDepth 100000 in
theorem bq_25_87 (T0 MI : Nat) (th : Nat) (r1 : Option Nat) (o2 : Option xV) (M : xM) : xZ T0 MI 25 87 [some (vr (some th)), some (vr r1), o2] [] M = (xgetR M th 2 5).bind fun r_1 => r1.bind fun q_2 => (xgetR M q_2 8 6).bind fun r_3 => r_1.bind fun q_4 => bif xcls M q_4 4 then (xZ T0 MI 40 0 [some (vr (some q_4)), some (vr r_3)] [] M).bind fun z_5 => bif z_5.1.isNone then xZ T0 MI 25 98 [some (vr (some th)), some (vr r1), o2] [] z_5.2 else none else none := (xZ_k T0 MI 5 _ _ _ _ _).trans rfl
set_option maxRecDepth 100000 in
theorem bq_25_98 (T0 MI : Nat) (th : Nat) (o1 : Option xV) (o2 : Option xV) (M : xM) : xZ T0 MI 25 98 [some (vr (some th)), o1, o2] [] M = (xput M th 2 0 (vi (Int32.ofInt 5))).bind fun M_1 => xZ T0 MI 25 103 [some (vr (some th)), o1, o2] [] M_1 := (xZ_k T0 MI 3 _ _ _ _ _).trans rfl
set_option maxRecDepth 100000 in
theorem bq_25_103 (T0 MI : Nat) (o0 : Option xV) (o1 : Option xV) (o2 : Option xV) (M : xM) : xZ T0 MI 25 103 [o0, o1, o2] [] M = some (none, M) := (xZ_k T0 MI 1 _ _ _ _ _).trans rfl
-- 26 RangeHouse$Host.<init>(I)V
set_option maxRecDepth 100000 in
theorem bq_26_0 (T0 MI : Nat) (th : Nat) (x1 : Int32) (M : xM) : xZ T0 MI 26 0 [some (vr (some th)), some (vi x1)] [] M = bif xbool (Int32.ofInt 1) then (xput M th 3 1 (vi (Int32.ofInt 1))).bind fun M_1 => (xnewA M_1 6 (Int32.ofInt 40)).bind fun M_2 => (xput M_2 th 3 2 (vr (some M_1.1))).bind fun M_3 => (xZ T0 MI 203 0 [some (vr (some M_3.1))] [] (xnewO M_3 13)).bind fun z_4 => bif z_4.1.isNone then xZ T0 MI 26 26 [some (vr (some th)), some (vi x1)] [vr (some M_3.1), vr (some th)] z_4.2 else none else none := (xZ_k T0 MI 13 _ _ _ _ _).trans rfl
set_option maxRecDepth 100000 in
theorem bq_26_26 (T0 MI : Nat) (th : Nat) (x1 : Int32) (ts0 : Nat) (ts1 : Nat) (M : xM) : xZ T0 MI 26 26 [some (vr (some th)), some (vi x1)] [vr (some ts0), vr (some ts1)] M = (xput M ts1 3 3 (vr (some ts0))).bind fun M_1 => (xput M_1 th 3 0 (vi x1)).bind fun M_2 => some (none, M_2) := (xZ_k T0 MI 5 _ _ _ _ _).trans rfl
-- 27 RangeHouse$Host.look(I)LRangeHouse$Holding;
set_option maxRecDepth 100000 in
theorem bq_27_0 (T0 MI : Nat) (th : Nat) (x1 : Int32) (M : xM) : xZ T0 MI 27 0 [some (vr (some th)), some (vi x1)] [] M = if x1 < 0 then xZ T0 MI 27 10 [some (vr (some th)), some (vi x1)] [] M else xZ T0 MI 27 4 [some (vr (some th)), some (vi x1)] [] M := (xZ_k T0 MI 2 _ _ _ _ _).trans rfl
set_option maxRecDepth 100000 in
theorem bq_27_4 (T0 MI : Nat) (th : Nat) (x1 : Int32) (M : xM) : xZ T0 MI 27 4 [some (vr (some th)), some (vi x1)] [] M = if x1 < (Int32.ofInt 40) then xZ T0 MI 27 14 [some (vr (some th)), some (vi x1)] [] M else xZ T0 MI 27 10 [some (vr (some th)), some (vi x1)] [] M := (xZ_k T0 MI 3 _ _ _ _ _).trans rfl
set_option maxRecDepth 100000 in
theorem bq_27_10 (T0 MI : Nat) (o0 : Option xV) (o1 : Option xV) (M : xM) : xZ T0 MI 27 10 [o0, o1] [] M = xZ T0 MI 27 20 [o0, o1] [vr none] M := (xZ_k T0 MI 2 _ _ _ _ _).trans rfl
set_option maxRecDepth 100000 in
theorem bq_27_14 (T0 MI : Nat) (th : Nat) (x1 : Int32) (M : xM) : xZ T0 MI 27 14 [some (vr (some th)), some (vi x1)] [] M = (xgetR M th 3 2).bind fun r_1 => r_1.bind fun q_2 => (xaR M q_2 x1).bind fun r_3 => xZ T0 MI 27 20 [some (vr (some th)), some (vi x1)] [vr r_3] M := (xZ_k T0 MI 4 _ _ _ _ _).trans rfl
set_option maxRecDepth 100000 in
theorem bq_27_20 (T0 MI : Nat) (o0 : Option xV) (o1 : Option xV) (sr0 : Option Nat) (M : xM) : xZ T0 MI 27 20 [o0, o1] [vr sr0] M = some (some (vr sr0), M) := (xZ_k T0 MI 1 _ _ _ _ _).trans rfl
-- 28 RangeHouse$Host.hold(I)LRangeHouse$Holding;
set_option maxRecDepth 100000 in
theorem bq_28_0 (T0 MI : Nat) (th : Nat) (x1 : Int32) (M : xM) : xZ T0 MI 28 0 [some (vr (some th)), some (vi x1)] [] M = if x1 < 0 then xZ T0 MI 28 10 [some (vr (some th)), some (vi x1)] [] M else xZ T0 MI 28 4 [some (vr (some th)), some (vi x1)] [] M := (xZ_k T0 MI 2 _ _ _ _ _).trans rfl
set_option maxRecDepth 100000 in
theorem bq_28_4 (T0 MI : Nat) (th : Nat) (x1 : Int32) (M : xM) : xZ T0 MI 28 4 [some (vr (some th)), some (vi x1)] [] M = if x1 < (Int32.ofInt 40) then xZ T0 MI 28 12 [some (vr (some th)), some (vi x1)] [] M else xZ T0 MI 28 10 [some (vr (some th)), some (vi x1)] [] M := (xZ_k T0 MI 3 _ _ _ _ _).trans rfl
set_option maxRecDepth 100000 in
theorem bq_28_10 (T0 MI : Nat) (o0 : Option xV) (o1 : Option xV) (M : xM) : xZ T0 MI 28 10 [o0, o1] [] M = some (some (vr none), M) := (xZ_k T0 MI 2 _ _ _ _ _).trans rfl
set_option maxRecDepth 100000 in
theorem bq_28_12 (T0 MI : Nat) (th : Nat) (x1 : Int32) (M : xM) : xZ T0 MI 28 12 [some (vr (some th)), some (vi x1)] [] M = (xgetR M th 3 2).bind fun r_1 => r_1.bind fun q_2 => (xaR M q_2 x1).bind fun r_3 => bif r_3.isNone then xZ T0 MI 28 21 [some (vr (some th)), some (vi x1)] [] M else xZ T0 MI 28 34 [some (vr (some th)), some (vi x1)] [] M := (xZ_k T0 MI 5 _ _ _ _ _).trans rfl
set_option maxRecDepth 100000 in
theorem bq_28_21 (T0 MI : Nat) (th : Nat) (x1 : Int32) (M : xM) : xZ T0 MI 28 21 [some (vr (some th)), some (vi x1)] [] M = (xgetR M th 3 2).bind fun r_1 => (xZ T0 MI 7 0 [some (vr (some M.1))] [] (xnewO M 2)).bind fun z_2 => bif z_2.1.isNone then xZ T0 MI 28 33 [some (vr (some th)), some (vi x1)] [vr (some M.1), vi x1, vr r_1] z_2.2 else none := (xZ_k T0 MI 6 _ _ _ _ _).trans rfl
set_option maxRecDepth 100000 in
theorem bq_28_33 (T0 MI : Nat) (th : Nat) (x1 : Int32) (ts0 : Nat) (sx1 : Int32) (sr2 : Option Nat) (M : xM) : xZ T0 MI 28 33 [some (vr (some th)), some (vi x1)] [vr (some ts0), vi sx1, vr sr2] M = sr2.bind fun q_1 => (xsR M q_1 sx1 (some ts0)).bind fun M_2 => xZ T0 MI 28 34 [some (vr (some th)), some (vi x1)] [] M_2 := (xZ_k T0 MI 1 _ _ _ _ _).trans rfl
set_option maxRecDepth 100000 in
theorem bq_28_34 (T0 MI : Nat) (th : Nat) (x1 : Int32) (M : xM) : xZ T0 MI 28 34 [some (vr (some th)), some (vi x1)] [] M = (xgetR M th 3 2).bind fun r_1 => r_1.bind fun q_2 => (xaR M q_2 x1).bind fun r_3 => some (some (vr r_3), M) := (xZ_k T0 MI 5 _ _ _ _ _).trans rfl
-- 29 RangeHouse$Host.known(I)LRangeHouse$Spot;
set_option maxRecDepth 100000 in
theorem bq_29_0 (T0 MI : Nat) (th : Nat) (x1 : Int32) (o2 : Option xV) (o3 : Option xV) (M : xM) : xZ T0 MI 29 0 [some (vr (some th)), some (vi x1), o2, o3] [] M = xZ T0 MI 29 2 [some (vr (some th)), some (vi x1), some (vi (Int32.ofInt 0)), o3] [] M := (xZ_k T0 MI 2 _ _ _ _ _).trans rfl
set_option maxRecDepth 100000 in
theorem bq_29_2 (T0 MI : Nat) (th : Nat) (x1 : Int32) (x2 : Int32) (o3 : Option xV) (M : xM) : xZ T0 MI 29 2 [some (vr (some th)), some (vi x1), some (vi x2), o3] [] M = if (Int32.ofInt 40) ≤ x2 then xZ T0 MI 29 73 [some (vr (some th)), some (vi x1), some (vi x2), o3] [] M else xZ T0 MI 29 8 [some (vr (some th)), some (vi x1), some (vi x2), o3] [] M := (xZ_k T0 MI 3 _ _ _ _ _).trans rfl
set_option maxRecDepth 100000 in
theorem bq_29_8 (T0 MI : Nat) (th : Nat) (x1 : Int32) (x2 : Int32) (o3 : Option xV) (M : xM) : xZ T0 MI 29 8 [some (vr (some th)), some (vi x1), some (vi x2), o3] [] M = (xgetR M th 3 2).bind fun r_1 => r_1.bind fun q_2 => (xaR M q_2 x2).bind fun r_3 => bif r_3.isNone then xZ T0 MI 29 67 [some (vr (some th)), some (vi x1), some (vi x2), some (vr r_3)] [] M else xZ T0 MI 29 19 [some (vr (some th)), some (vi x1), some (vi x2), some (vr r_3)] [] M := (xZ_k T0 MI 7 _ _ _ _ _).trans rfl
set_option maxRecDepth 100000 in
theorem bq_29_19 (T0 MI : Nat) (th : Nat) (x1 : Int32) (x2 : Int32) (r3 : Option Nat) (M : xM) : xZ T0 MI 29 19 [some (vr (some th)), some (vi x1), some (vi x2), some (vr r3)] [] M = r3.bind fun q_1 => bif xcls M q_1 2 then (xZ T0 MI 8 0 [some (vr (some q_1))] [] M).bind fun z_2 => (xasI z_2.1).bind fun x_3 => xZ T0 MI 29 23 [some (vr (some th)), some (vi x1), some (vi x2), some (vr r3)] [vi x_3] z_2.2 else none := (xZ_k T0 MI 2 _ _ _ _ _).trans rfl
set_option maxRecDepth 100000 in
theorem bq_29_23 (T0 MI : Nat) (th : Nat) (x1 : Int32) (x2 : Int32) (r3 : Option Nat) (sx0 : Int32) (M : xM) : xZ T0 MI 29 23 [some (vr (some th)), some (vi x1), some (vi x2), some (vr r3)] [vi sx0] M = if sx0 = 0 then xZ T0 MI 29 67 [some (vr (some th)), some (vi x1), some (vi x2), some (vr r3)] [] M else xZ T0 MI 29 26 [some (vr (some th)), some (vi x1), some (vi x2), some (vr r3)] [] M := (xZ_k T0 MI 1 _ _ _ _ _).trans rfl
set_option maxRecDepth 100000 in
theorem bq_29_26 (T0 MI : Nat) (th : Nat) (x1 : Int32) (x2 : Int32) (r3 : Option Nat) (M : xM) : xZ T0 MI 29 26 [some (vr (some th)), some (vi x1), some (vi x2), some (vr r3)] [] M = r3.bind fun q_1 => (xgetI M q_1 2 1).bind fun x_2 => if x1 < x_2 then xZ T0 MI 29 67 [some (vr (some th)), some (vi x1), some (vi x2), some (vr r3)] [] M else xZ T0 MI 29 34 [some (vr (some th)), some (vi x1), some (vi x2), some (vr r3)] [] M := (xZ_k T0 MI 4 _ _ _ _ _).trans rfl
set_option maxRecDepth 100000 in
theorem bq_29_34 (T0 MI : Nat) (th : Nat) (x1 : Int32) (x2 : Int32) (r3 : Option Nat) (M : xM) : xZ T0 MI 29 34 [some (vr (some th)), some (vi x1), some (vi x2), some (vr r3)] [] M = r3.bind fun q_1 => (xgetI M q_1 2 2).bind fun x_2 => if x_2 ≤ x1 then xZ T0 MI 29 67 [some (vr (some th)), some (vi x1), some (vi x2), some (vr r3)] [] M else xZ T0 MI 29 42 [some (vr (some th)), some (vi x1), some (vi x2), some (vr r3)] [] M := (xZ_k T0 MI 4 _ _ _ _ _).trans rfl
set_option maxRecDepth 100000 in
theorem bq_29_42 (T0 MI : Nat) (th : Nat) (o1 : Option xV) (x2 : Int32) (r3 : Option Nat) (M : xM) : xZ T0 MI 29 42 [some (vr (some th)), o1, some (vi x2), some (vr r3)] [] M = r3.bind fun q_1 => (xgetI (xnewO M 10) q_1 2 1).bind fun x_2 => r3.bind fun q_3 => (xgetI (xnewO M 10) q_3 2 2).bind fun x_4 => r3.bind fun q_5 => (xgetI (xnewO M 10) q_5 2 3).bind fun x_6 => (xgetI (xnewO M 10) th 3 0).bind fun x_7 => (xZ T0 MI 59 0 [some (vr (some M.1)), some (vi x2), some (vi x_2), some (vi x_4), some (vi x_6), some (vi x_7)] [] (xnewO M 10)).bind fun z_8 => bif z_8.1.isNone then xZ T0 MI 29 66 [some (vr (some th)), o1, some (vi x2), some (vr r3)] [vr (some M.1)] z_8.2 else none := (xZ_k T0 MI 12 _ _ _ _ _).trans rfl
set_option maxRecDepth 100000 in
theorem bq_29_66 (T0 MI : Nat) (o0 : Option xV) (o1 : Option xV) (o2 : Option xV) (o3 : Option xV) (ts0 : Nat) (M : xM) : xZ T0 MI 29 66 [o0, o1, o2, o3] [vr (some ts0)] M = some (some (vr (some ts0)), M) := (xZ_k T0 MI 1 _ _ _ _ _).trans rfl
set_option maxRecDepth 100000 in
theorem bq_29_67 (T0 MI : Nat) (th : Nat) (x1 : Int32) (x2 : Int32) (o3 : Option xV) (M : xM) : xZ T0 MI 29 67 [some (vr (some th)), some (vi x1), some (vi x2), o3] [] M = xZ T0 MI 29 2 [some (vr (some th)), some (vi x1), some (vi (x2 + Int32.ofInt 1)), o3] [] M := (xZ_k T0 MI 2 _ _ _ _ _).trans rfl
set_option maxRecDepth 100000 in
theorem bq_29_73 (T0 MI : Nat) (th : Nat) (x1 : Int32) (o2 : Option xV) (o3 : Option xV) (M : xM) : xZ T0 MI 29 73 [some (vr (some th)), some (vi x1), o2, o3] [] M = (xgetR M th 3 3).bind fun r_1 => r_1.bind fun q_2 => bif xcls M q_2 13 then (xZ T0 MI 206 0 [some (vr (some q_2))] [] M).bind fun z_3 => (xasI z_3.1).bind fun x_4 => xZ T0 MI 29 80 [some (vr (some th)), some (vi x1), o2, o3] [vi x_4] z_3.2 else none := (xZ_k T0 MI 3 _ _ _ _ _).trans rfl
set_option maxRecDepth 100000 in
theorem bq_29_80 (T0 MI : Nat) (th : Nat) (x1 : Int32) (o2 : Option xV) (o3 : Option xV) (sx0 : Int32) (M : xM) : xZ T0 MI 29 80 [some (vr (some th)), some (vi x1), o2, o3] [vi sx0] M = xZ T0 MI 29 83 [some (vr (some th)), some (vi x1), some (vi (sx0 - (Int32.ofInt 1))), o3] [] M := (xZ_k T0 MI 3 _ _ _ _ _).trans rfl
set_option maxRecDepth 100000 in
theorem bq_29_83 (T0 MI : Nat) (th : Nat) (x1 : Int32) (x2 : Int32) (o3 : Option xV) (M : xM) : xZ T0 MI 29 83 [some (vr (some th)), some (vi x1), some (vi x2), o3] [] M = if x2 < 0 then xZ T0 MI 29 115 [some (vr (some th)), some (vi x1), some (vi x2), o3] [] M else xZ T0 MI 29 87 [some (vr (some th)), some (vi x1), some (vi x2), o3] [] M := (xZ_k T0 MI 2 _ _ _ _ _).trans rfl
set_option maxRecDepth 100000 in
theorem bq_29_87 (T0 MI : Nat) (th : Nat) (x1 : Int32) (x2 : Int32) (o3 : Option xV) (M : xM) : xZ T0 MI 29 87 [some (vr (some th)), some (vi x1), some (vi x2), o3] [] M = (xgetR M th 3 3).bind fun r_1 => r_1.bind fun q_2 => bif xcls M q_2 13 then (xZ T0 MI 208 0 [some (vr (some q_2)), some (vi x2)] [] M).bind fun z_3 => (xasR z_3.1).bind fun r_4 => xZ T0 MI 29 95 [some (vr (some th)), some (vi x1), some (vi x2), o3] [vr r_4] z_3.2 else none := (xZ_k T0 MI 4 _ _ _ _ _).trans rfl
set_option maxRecDepth 100000 in
theorem bq_29_95 (T0 MI : Nat) (th : Nat) (x1 : Int32) (x2 : Int32) (o3 : Option xV) (sr0 : Option Nat) (M : xM) : xZ T0 MI 29 95 [some (vr (some th)), some (vi x1), some (vi x2), o3] [vr sr0] M = (match sr0 with
    | none => none
    | some q_1 => bif xcls M q_1 10 then bif xcls M q_1 10 then (xZ T0 MI 60 0 [some (vr (some q_1)), some (vi x1)] [] M).bind fun z_2 => (xasI z_2.1).bind fun x_3 => xZ T0 MI 29 104 [some (vr (some th)), some (vi x1), some (vi x2), some (vr (some q_1))] [vi x_3] z_2.2 else none else none) := (xZ_k T0 MI 5 _ _ _ _ _).trans rfl
set_option maxRecDepth 100000 in
theorem bq_29_104 (T0 MI : Nat) (th : Nat) (x1 : Int32) (x2 : Int32) (r3 : Option Nat) (sx0 : Int32) (M : xM) : xZ T0 MI 29 104 [some (vr (some th)), some (vi x1), some (vi x2), some (vr r3)] [vi sx0] M = if sx0 = 0 then xZ T0 MI 29 109 [some (vr (some th)), some (vi x1), some (vi x2), some (vr r3)] [] M else xZ T0 MI 29 107 [some (vr (some th)), some (vi x1), some (vi x2), some (vr r3)] [] M := (xZ_k T0 MI 1 _ _ _ _ _).trans rfl
set_option maxRecDepth 100000 in
theorem bq_29_107 (T0 MI : Nat) (o0 : Option xV) (o1 : Option xV) (o2 : Option xV) (r3 : Option Nat) (M : xM) : xZ T0 MI 29 107 [o0, o1, o2, some (vr r3)] [] M = some (some (vr r3), M) := (xZ_k T0 MI 2 _ _ _ _ _).trans rfl
set_option maxRecDepth 100000 in
theorem bq_29_109 (T0 MI : Nat) (th : Nat) (x1 : Int32) (x2 : Int32) (o3 : Option xV) (M : xM) : xZ T0 MI 29 109 [some (vr (some th)), some (vi x1), some (vi x2), o3] [] M = xZ T0 MI 29 83 [some (vr (some th)), some (vi x1), some (vi (x2 + Int32.ofInt (-1))), o3] [] M := (xZ_k T0 MI 2 _ _ _ _ _).trans rfl
set_option maxRecDepth 100000 in
theorem bq_29_115 (T0 MI : Nat) (o0 : Option xV) (o1 : Option xV) (o2 : Option xV) (o3 : Option xV) (M : xM) : xZ T0 MI 29 115 [o0, o1, o2, o3] [] M = some (some (vr none), M) := (xZ_k T0 MI 2 _ _ _ _ _).trans rfl
-- 30 RangeHouse$Host.countRows()I
set_option maxRecDepth 100000 in
theorem bq_30_0 (T0 MI : Nat) (th : Nat) (o1 : Option xV) (o2 : Option xV) (o3 : Option xV) (M : xM) : xZ T0 MI 30 0 [some (vr (some th)), o1, o2, o3] [] M = xZ T0 MI 30 4 [some (vr (some th)), some (vi (Int32.ofInt 0)), some (vi (Int32.ofInt 0)), o3] [] M := (xZ_k T0 MI 4 _ _ _ _ _).trans rfl
set_option maxRecDepth 100000 in
theorem bq_30_4 (T0 MI : Nat) (th : Nat) (x1 : Int32) (x2 : Int32) (o3 : Option xV) (M : xM) : xZ T0 MI 30 4 [some (vr (some th)), some (vi x1), some (vi x2), o3] [] M = if (Int32.ofInt 40) ≤ x2 then xZ T0 MI 30 44 [some (vr (some th)), some (vi x1), some (vi x2), o3] [] M else xZ T0 MI 30 10 [some (vr (some th)), some (vi x1), some (vi x2), o3] [] M := (xZ_k T0 MI 3 _ _ _ _ _).trans rfl
set_option maxRecDepth 100000 in
theorem bq_30_10 (T0 MI : Nat) (th : Nat) (x1 : Int32) (x2 : Int32) (o3 : Option xV) (M : xM) : xZ T0 MI 30 10 [some (vr (some th)), some (vi x1), some (vi x2), o3] [] M = (xgetR M th 3 2).bind fun r_1 => r_1.bind fun q_2 => (xaR M q_2 x2).bind fun r_3 => bif r_3.isNone then xZ T0 MI 30 38 [some (vr (some th)), some (vi x1), some (vi x2), some (vr r_3)] [] M else xZ T0 MI 30 21 [some (vr (some th)), some (vi x1), some (vi x2), some (vr r_3)] [] M := (xZ_k T0 MI 7 _ _ _ _ _).trans rfl
set_option maxRecDepth 100000 in
theorem bq_30_21 (T0 MI : Nat) (th : Nat) (x1 : Int32) (x2 : Int32) (r3 : Option Nat) (M : xM) : xZ T0 MI 30 21 [some (vr (some th)), some (vi x1), some (vi x2), some (vr r3)] [] M = r3.bind fun q_1 => bif xcls M q_1 2 then (xZ T0 MI 10 0 [some (vr (some q_1))] [] M).bind fun z_2 => (xasI z_2.1).bind fun x_3 => xZ T0 MI 30 25 [some (vr (some th)), some (vi x1), some (vi x2), some (vr r3)] [vi x_3] z_2.2 else none := (xZ_k T0 MI 2 _ _ _ _ _).trans rfl
set_option maxRecDepth 100000 in
theorem bq_30_25 (T0 MI : Nat) (th : Nat) (x1 : Int32) (x2 : Int32) (r3 : Option Nat) (sx0 : Int32) (M : xM) : xZ T0 MI 30 25 [some (vr (some th)), some (vi x1), some (vi x2), some (vr r3)] [vi sx0] M = if sx0 = 0 then xZ T0 MI 30 38 [some (vr (some th)), some (vi x1), some (vi x2), some (vr r3)] [] M else xZ T0 MI 30 28 [some (vr (some th)), some (vi x1), some (vi x2), some (vr r3)] [] M := (xZ_k T0 MI 1 _ _ _ _ _).trans rfl
set_option maxRecDepth 100000 in
theorem bq_30_28 (T0 MI : Nat) (th : Nat) (x1 : Int32) (x2 : Int32) (r3 : Option Nat) (M : xM) : xZ T0 MI 30 28 [some (vr (some th)), some (vi x1), some (vi x2), some (vr r3)] [] M = r3.bind fun q_1 => (xgetR M q_1 2 4).bind fun r_2 => r_2.bind fun q_3 => (xgetI M q_3 9 0).bind fun x_4 => xZ T0 MI 30 38 [some (vr (some th)), some (vi (x1 + x_4)), some (vi x2), some (vr r3)] [] M := (xZ_k T0 MI 6 _ _ _ _ _).trans rfl
set_option maxRecDepth 100000 in
theorem bq_30_38 (T0 MI : Nat) (th : Nat) (x1 : Int32) (x2 : Int32) (o3 : Option xV) (M : xM) : xZ T0 MI 30 38 [some (vr (some th)), some (vi x1), some (vi x2), o3] [] M = xZ T0 MI 30 4 [some (vr (some th)), some (vi x1), some (vi (x2 + Int32.ofInt 1)), o3] [] M := (xZ_k T0 MI 2 _ _ _ _ _).trans rfl
set_option maxRecDepth 100000 in
theorem bq_30_44 (T0 MI : Nat) (o0 : Option xV) (x1 : Int32) (o2 : Option xV) (o3 : Option xV) (M : xM) : xZ T0 MI 30 44 [o0, some (vi x1), o2, o3] [] M = some (some (vi x1), M) := (xZ_k T0 MI 2 _ _ _ _ _).trans rfl
-- 31 RangeHouse$Host.countGiven()I
set_option maxRecDepth 100000 in
theorem bq_31_0 (T0 MI : Nat) (th : Nat) (o1 : Option xV) (o2 : Option xV) (o3 : Option xV) (M : xM) : xZ T0 MI 31 0 [some (vr (some th)), o1, o2, o3] [] M = xZ T0 MI 31 4 [some (vr (some th)), some (vi (Int32.ofInt 0)), some (vi (Int32.ofInt 0)), o3] [] M := (xZ_k T0 MI 4 _ _ _ _ _).trans rfl
set_option maxRecDepth 100000 in
theorem bq_31_4 (T0 MI : Nat) (th : Nat) (x1 : Int32) (x2 : Int32) (o3 : Option xV) (M : xM) : xZ T0 MI 31 4 [some (vr (some th)), some (vi x1), some (vi x2), o3] [] M = if (Int32.ofInt 40) ≤ x2 then xZ T0 MI 31 37 [some (vr (some th)), some (vi x1), some (vi x2), o3] [] M else xZ T0 MI 31 10 [some (vr (some th)), some (vi x1), some (vi x2), o3] [] M := (xZ_k T0 MI 3 _ _ _ _ _).trans rfl
set_option maxRecDepth 100000 in
theorem bq_31_10 (T0 MI : Nat) (th : Nat) (x1 : Int32) (x2 : Int32) (o3 : Option xV) (M : xM) : xZ T0 MI 31 10 [some (vr (some th)), some (vi x1), some (vi x2), o3] [] M = (xgetR M th 3 2).bind fun r_1 => r_1.bind fun q_2 => (xaR M q_2 x2).bind fun r_3 => bif r_3.isNone then xZ T0 MI 31 31 [some (vr (some th)), some (vi x1), some (vi x2), some (vr r_3)] [] M else xZ T0 MI 31 21 [some (vr (some th)), some (vi x1), some (vi x2), some (vr r_3)] [] M := (xZ_k T0 MI 7 _ _ _ _ _).trans rfl
set_option maxRecDepth 100000 in
theorem bq_31_21 (T0 MI : Nat) (th : Nat) (x1 : Int32) (x2 : Int32) (r3 : Option Nat) (M : xM) : xZ T0 MI 31 21 [some (vr (some th)), some (vi x1), some (vi x2), some (vr r3)] [] M = r3.bind fun q_1 => bif xcls M q_1 2 then (xZ T0 MI 9 0 [some (vr (some q_1))] [] M).bind fun z_2 => (xasI z_2.1).bind fun x_3 => xZ T0 MI 31 25 [some (vr (some th)), some (vi x1), some (vi x2), some (vr r3)] [vi x_3] z_2.2 else none := (xZ_k T0 MI 2 _ _ _ _ _).trans rfl
set_option maxRecDepth 100000 in
theorem bq_31_25 (T0 MI : Nat) (th : Nat) (x1 : Int32) (x2 : Int32) (o3 : Option xV) (sx0 : Int32) (M : xM) : xZ T0 MI 31 25 [some (vr (some th)), some (vi x1), some (vi x2), o3] [vi sx0] M = if sx0 = 0 then xZ T0 MI 31 31 [some (vr (some th)), some (vi x1), some (vi x2), o3] [] M else xZ T0 MI 31 28 [some (vr (some th)), some (vi x1), some (vi x2), o3] [] M := (xZ_k T0 MI 1 _ _ _ _ _).trans rfl
set_option maxRecDepth 100000 in
theorem bq_31_28 (T0 MI : Nat) (th : Nat) (x1 : Int32) (x2 : Int32) (o3 : Option xV) (M : xM) : xZ T0 MI 31 28 [some (vr (some th)), some (vi x1), some (vi x2), o3] [] M = xZ T0 MI 31 31 [some (vr (some th)), some (vi (x1 + Int32.ofInt 1)), some (vi x2), o3] [] M := (xZ_k T0 MI 1 _ _ _ _ _).trans rfl
set_option maxRecDepth 100000 in
theorem bq_31_31 (T0 MI : Nat) (th : Nat) (x1 : Int32) (x2 : Int32) (o3 : Option xV) (M : xM) : xZ T0 MI 31 31 [some (vr (some th)), some (vi x1), some (vi x2), o3] [] M = xZ T0 MI 31 4 [some (vr (some th)), some (vi x1), some (vi (x2 + Int32.ofInt 1)), o3] [] M := (xZ_k T0 MI 2 _ _ _ _ _).trans rfl
set_option maxRecDepth 100000 in
theorem bq_31_37 (T0 MI : Nat) (o0 : Option xV) (x1 : Int32) (o2 : Option xV) (o3 : Option xV) (M : xM) : xZ T0 MI 31 37 [o0, some (vi x1), o2, o3] [] M = some (some (vi x1), M) := (xZ_k T0 MI 2 _ _ _ _ _).trans rfl
-- 32 RangeHouse$Host.forgetTaken()I
set_option maxRecDepth 100000 in
theorem bq_32_0 (T0 MI : Nat) (th : Nat) (o1 : Option xV) (o2 : Option xV) (o3 : Option xV) (M : xM) : xZ T0 MI 32 0 [some (vr (some th)), o1, o2, o3] [] M = xZ T0 MI 32 4 [some (vr (some th)), some (vi (Int32.ofInt 0)), some (vi (Int32.ofInt 0)), o3] [] M := (xZ_k T0 MI 4 _ _ _ _ _).trans rfl
set_option maxRecDepth 100000 in
theorem bq_32_4 (T0 MI : Nat) (th : Nat) (x1 : Int32) (x2 : Int32) (o3 : Option xV) (M : xM) : xZ T0 MI 32 4 [some (vr (some th)), some (vi x1), some (vi x2), o3] [] M = if (Int32.ofInt 40) ≤ x2 then xZ T0 MI 32 42 [some (vr (some th)), some (vi x1), some (vi x2), o3] [] M else xZ T0 MI 32 10 [some (vr (some th)), some (vi x1), some (vi x2), o3] [] M := (xZ_k T0 MI 3 _ _ _ _ _).trans rfl
set_option maxRecDepth 100000 in
theorem bq_32_10 (T0 MI : Nat) (th : Nat) (x1 : Int32) (x2 : Int32) (o3 : Option xV) (M : xM) : xZ T0 MI 32 10 [some (vr (some th)), some (vi x1), some (vi x2), o3] [] M = (xgetR M th 3 2).bind fun r_1 => r_1.bind fun q_2 => (xaR M q_2 x2).bind fun r_3 => bif r_3.isNone then xZ T0 MI 32 36 [some (vr (some th)), some (vi x1), some (vi x2), some (vr r_3)] [] M else xZ T0 MI 32 21 [some (vr (some th)), some (vi x1), some (vi x2), some (vr r_3)] [] M := (xZ_k T0 MI 7 _ _ _ _ _).trans rfl
set_option maxRecDepth 100000 in
theorem bq_32_21 (T0 MI : Nat) (th : Nat) (x1 : Int32) (x2 : Int32) (r3 : Option Nat) (M : xM) : xZ T0 MI 32 21 [some (vr (some th)), some (vi x1), some (vi x2), some (vr r3)] [] M = r3.bind fun q_1 => (xgetI M q_1 2 0).bind fun x_2 => if x_2 = (Int32.ofInt 4) then xZ T0 MI 32 29 [some (vr (some th)), some (vi x1), some (vi x2), some (vr r3)] [] M else xZ T0 MI 32 36 [some (vr (some th)), some (vi x1), some (vi x2), some (vr r3)] [] M := (xZ_k T0 MI 4 _ _ _ _ _).trans rfl
set_option maxRecDepth 100000 in
theorem bq_32_29 (T0 MI : Nat) (th : Nat) (x1 : Int32) (x2 : Int32) (r3 : Option Nat) (M : xM) : xZ T0 MI 32 29 [some (vr (some th)), some (vi x1), some (vi x2), some (vr r3)] [] M = r3.bind fun q_1 => bif xcls M q_1 2 then (xZ T0 MI 13 0 [some (vr (some q_1))] [] M).bind fun z_2 => bif z_2.1.isNone then xZ T0 MI 32 33 [some (vr (some th)), some (vi x1), some (vi x2), some (vr r3)] [] z_2.2 else none else none := (xZ_k T0 MI 2 _ _ _ _ _).trans rfl
set_option maxRecDepth 100000 in
theorem bq_32_33 (T0 MI : Nat) (th : Nat) (x1 : Int32) (x2 : Int32) (o3 : Option xV) (M : xM) : xZ T0 MI 32 33 [some (vr (some th)), some (vi x1), some (vi x2), o3] [] M = xZ T0 MI 32 36 [some (vr (some th)), some (vi (x1 + Int32.ofInt 1)), some (vi x2), o3] [] M := (xZ_k T0 MI 1 _ _ _ _ _).trans rfl
set_option maxRecDepth 100000 in
theorem bq_32_36 (T0 MI : Nat) (th : Nat) (x1 : Int32) (x2 : Int32) (o3 : Option xV) (M : xM) : xZ T0 MI 32 36 [some (vr (some th)), some (vi x1), some (vi x2), o3] [] M = xZ T0 MI 32 4 [some (vr (some th)), some (vi x1), some (vi (x2 + Int32.ofInt 1)), o3] [] M := (xZ_k T0 MI 2 _ _ _ _ _).trans rfl
set_option maxRecDepth 100000 in
theorem bq_32_42 (T0 MI : Nat) (o0 : Option xV) (x1 : Int32) (o2 : Option xV) (o3 : Option xV) (M : xM) : xZ T0 MI 32 42 [o0, some (vi x1), o2, o3] [] M = some (some (vi x1), M) := (xZ_k T0 MI 2 _ _ _ _ _).trans rfl
-- 33 RangeHouse$Kept.<init>()V
set_option maxRecDepth 100000 in
theorem bq_33_0 (T0 MI : Nat) (th : Nat) (M : xM) : xZ T0 MI 33 0 [some (vr (some th))] [] M = (xnewA M 0 (Int32.ofInt 6)).bind fun M_1 => (xput M_1 th 4 0 (vr (some M.1))).bind fun M_2 => (xnewA M_2 0 (Int32.ofInt 24)).bind fun M_3 => (xput M_3 th 4 1 (vr (some M_2.1))).bind fun M_4 => (xnewA M_4 1 (Int32.ofInt 24)).bind fun M_5 => (xput M_5 th 4 2 (vr (some M_4.1))).bind fun M_6 => (xnewA M_6 0 (Int32.ofInt 24)).bind fun M_7 => (xput M_7 th 4 3 (vr (some M_6.1))).bind fun M_8 => some (none, M_8) := (xZ_k T0 MI 19 _ _ _ _ _).trans rfl
-- 34 RangeHouse$Kept.isCaller(I)Z
set_option maxRecDepth 100000 in
theorem bq_34_0 (T0 MI : Nat) (o0 : Option xV) (x1 : Int32) (M : xM) : xZ T0 MI 34 0 [o0, some (vi x1)] [] M = if x1 < 0 then xZ T0 MI 34 14 [o0, some (vi x1)] [] M else xZ T0 MI 34 4 [o0, some (vi x1)] [] M := (xZ_k T0 MI 2 _ _ _ _ _).trans rfl
set_option maxRecDepth 100000 in
theorem bq_34_4 (T0 MI : Nat) (o0 : Option xV) (x1 : Int32) (M : xM) : xZ T0 MI 34 4 [o0, some (vi x1)] [] M = if (Int32.ofInt 6) ≤ x1 then xZ T0 MI 34 14 [o0, some (vi x1)] [] M else xZ T0 MI 34 10 [o0, some (vi x1)] [] M := (xZ_k T0 MI 3 _ _ _ _ _).trans rfl
set_option maxRecDepth 100000 in
theorem bq_34_10 (T0 MI : Nat) (o0 : Option xV) (o1 : Option xV) (M : xM) : xZ T0 MI 34 10 [o0, o1] [] M = xZ T0 MI 34 15 [o0, o1] [vi (Int32.ofInt 1)] M := (xZ_k T0 MI 2 _ _ _ _ _).trans rfl
set_option maxRecDepth 100000 in
theorem bq_34_14 (T0 MI : Nat) (o0 : Option xV) (o1 : Option xV) (M : xM) : xZ T0 MI 34 14 [o0, o1] [] M = xZ T0 MI 34 15 [o0, o1] [vi (Int32.ofInt 0)] M := (xZ_k T0 MI 1 _ _ _ _ _).trans rfl
set_option maxRecDepth 100000 in
theorem bq_34_15 (T0 MI : Nat) (o0 : Option xV) (o1 : Option xV) (sx0 : Int32) (M : xM) : xZ T0 MI 34 15 [o0, o1] [vi sx0] M = bif xbool sx0 then some (some (vi sx0), M) else none := (xZ_k T0 MI 1 _ _ _ _ _).trans rfl
