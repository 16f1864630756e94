/-! block equations -/
-- 83 RangeHouse.deliver(I)I
set_option maxRecDepth 100000 in
theorem bq_83_0 (T0 MI : Nat) (th : Nat) (x1 : Int32) (o2 : Option xV) (o3 : Option xV) (M : xM) : xZ T0 MI 83 0 [some (vr (some th)), some (vi x1), o2, o3] [] M = bif xcls M th 11 then (xZ T0 MI 91 0 [some (vr (some th)), some (vi x1)] [] M).bind fun z_1 => (xasR z_1.1).bind fun r_2 => xZ T0 MI 83 5 [some (vr (some th)), some (vi x1), o2, o3] [vr r_2] z_1.2 else none := (xZ_k T0 MI 3 _ _ _ _ _).trans rfl
set_option maxRecDepth 100000 in
theorem bq_83_5 (T0 MI : Nat) (th : Nat) (o1 : Option xV) (o2 : Option xV) (o3 : Option xV) (sr0 : Option Nat) (M : xM) : xZ T0 MI 83 5 [some (vr (some th)), o1, o2, o3] [vr sr0] M = bif sr0.isNone then xZ T0 MI 83 10 [some (vr (some th)), xinv o1, some (vr sr0), o3] [] M else xZ T0 MI 83 16 [some (vr (some th)), xinv o1, some (vr sr0), o3] [] M := (xZ_k T0 MI 3 _ _ _ _ _).trans rfl
set_option maxRecDepth 100000 in
theorem bq_83_10 (T0 MI : Nat) (th : Nat) (o1 : Option xV) (o2 : Option xV) (o3 : Option xV) (M : xM) : xZ T0 MI 83 10 [some (vr (some th)), o1, o2, o3] [] M = bif xcls M th 11 then (xZ T0 MI 96 0 [some (vr (some th)), some (vi (Int32.ofInt (-1)))] [] M).bind fun z_1 => (xasI z_1.1).bind fun x_2 => xZ T0 MI 83 15 [some (vr (some th)), o1, o2, o3] [vi x_2] z_1.2 else none := (xZ_k T0 MI 3 _ _ _ _ _).trans rfl
set_option maxRecDepth 100000 in
theorem bq_83_15 (T0 MI : Nat) (o0 : Option xV) (o1 : Option xV) (o2 : Option xV) (o3 : Option xV) (sx0 : Int32) (M : xM) : xZ T0 MI 83 15 [o0, o1, o2, o3] [vi sx0] M = some (some (vi sx0), M) := (xZ_k T0 MI 1 _ _ _ _ _).trans rfl
set_option maxRecDepth 100000 in
theorem bq_83_16 (T0 MI : Nat) (th : Nat) (o1 : Option xV) (r2 : Option Nat) (o3 : Option xV) (M : xM) : xZ T0 MI 83 16 [some (vr (some th)), o1, some (vr r2), o3] [] M = r2.bind fun q_1 => (xgetI M q_1 6 14).bind fun x_2 => if x_2 = 0 then xZ T0 MI 83 30 [some (vr (some th)), o1, some (vr r2), o3] [] M else xZ T0 MI 83 23 [some (vr (some th)), o1, some (vr r2), o3] [] M := (xZ_k T0 MI 3 _ _ _ _ _).trans rfl
set_option maxRecDepth 100000 in
theorem bq_83_23 (T0 MI : Nat) (th : Nat) (o1 : Option xV) (o2 : Option xV) (o3 : Option xV) (M : xM) : xZ T0 MI 83 23 [some (vr (some th)), o1, o2, o3] [] M = bif xcls M th 11 then (xZ T0 MI 96 0 [some (vr (some th)), some (vi (Int32.ofInt (-5)))] [] M).bind fun z_1 => (xasI z_1.1).bind fun x_2 => xZ T0 MI 83 29 [some (vr (some th)), o1, o2, o3] [vi x_2] z_1.2 else none := (xZ_k T0 MI 3 _ _ _ _ _).trans rfl
set_option maxRecDepth 100000 in
theorem bq_83_29 (T0 MI : Nat) (o0 : Option xV) (o1 : Option xV) (o2 : Option xV) (o3 : Option xV) (sx0 : Int32) (M : xM) : xZ T0 MI 83 29 [o0, o1, o2, o3] [vi sx0] M = some (some (vi sx0), M) := (xZ_k T0 MI 1 _ _ _ _ _).trans rfl
set_option maxRecDepth 100000 in
theorem bq_83_30 (T0 MI : Nat) (th : Nat) (o1 : Option xV) (r2 : Option Nat) (o3 : Option xV) (M : xM) : xZ T0 MI 83 30 [some (vr (some th)), o1, some (vr r2), o3] [] M = bif xcls M th 11 then (xZ T0 MI 95 0 [some (vr (some th)), some (vi (Int32.ofInt 2))] [] M).bind fun z_1 => (xasI z_1.1).bind fun x_2 => xZ T0 MI 83 35 [some (vr (some th)), o1, some (vr r2), o3] [vi x_2] z_1.2 else none := (xZ_k T0 MI 3 _ _ _ _ _).trans rfl
set_option maxRecDepth 100000 in
theorem bq_83_35 (T0 MI : Nat) (th : Nat) (o1 : Option xV) (r2 : Option Nat) (o3 : Option xV) (sx0 : Int32) (M : xM) : xZ T0 MI 83 35 [some (vr (some th)), o1, some (vr r2), o3] [vi sx0] M = if sx0 = 0 then xZ T0 MI 83 38 [some (vr (some th)), o1, some (vr r2), o3] [] M else xZ T0 MI 83 45 [some (vr (some th)), o1, some (vr r2), o3] [] M := (xZ_k T0 MI 1 _ _ _ _ _).trans rfl
set_option maxRecDepth 100000 in
theorem bq_83_38 (T0 MI : Nat) (th : Nat) (o1 : Option xV) (o2 : Option xV) (o3 : Option xV) (M : xM) : xZ T0 MI 83 38 [some (vr (some th)), o1, o2, o3] [] M = bif xcls M th 11 then (xZ T0 MI 96 0 [some (vr (some th)), some (vi (Int32.ofInt (-6)))] [] M).bind fun z_1 => (xasI z_1.1).bind fun x_2 => xZ T0 MI 83 44 [some (vr (some th)), o1, o2, o3] [vi x_2] z_1.2 else none := (xZ_k T0 MI 3 _ _ _ _ _).trans rfl
set_option maxRecDepth 100000 in
theorem bq_83_44 (T0 MI : Nat) (o0 : Option xV) (o1 : Option xV) (o2 : Option xV) (o3 : Option xV) (sx0 : Int32) (M : xM) : xZ T0 MI 83 44 [o0, o1, o2, o3] [vi sx0] M = some (some (vi sx0), M) := (xZ_k T0 MI 1 _ _ _ _ _).trans rfl
set_option maxRecDepth 100000 in
theorem bq_83_45 (T0 MI : Nat) (th : Nat) (o1 : Option xV) (r2 : Option Nat) (o3 : Option xV) (M : xM) : xZ T0 MI 83 45 [some (vr (some th)), o1, some (vr r2), o3] [] M = r2.bind fun q_1 => (xgetI M q_1 6 15).bind fun x_2 => r2.bind fun q_3 => (xput M q_3 6 15 (vi (x_2 + (Int32.ofInt 1)))).bind fun M_4 => r2.bind fun q_5 => (xgetI M_4 q_5 6 0).bind fun x_6 => if x_6 = (Int32.ofInt 1) then xZ T0 MI 83 71 [some (vr (some th)), o1, some (vr r2), o3] [] M_4 else xZ T0 MI 83 63 [some (vr (some th)), o1, some (vr r2), o3] [] M_4 := (xZ_k T0 MI 10 _ _ _ _ _).trans rfl
set_option maxRecDepth 100000 in
theorem bq_83_63 (T0 MI : Nat) (th : Nat) (o1 : Option xV) (r2 : Option Nat) (o3 : Option xV) (M : xM) : xZ T0 MI 83 63 [some (vr (some th)), o1, some (vr r2), o3] [] M = r2.bind fun q_1 => (xgetI M q_1 6 0).bind fun x_2 => if x_2 = (Int32.ofInt 2) then xZ T0 MI 83 71 [some (vr (some th)), o1, some (vr r2), o3] [] M else xZ T0 MI 83 78 [some (vr (some th)), o1, some (vr r2), o3] [] M := (xZ_k T0 MI 4 _ _ _ _ _).trans rfl
set_option maxRecDepth 100000 in
theorem bq_83_71 (T0 MI : Nat) (th : Nat) (o1 : Option xV) (r2 : Option Nat) (o3 : Option xV) (M : xM) : xZ T0 MI 83 71 [some (vr (some th)), o1, some (vr r2), o3] [] M = bif xcls M th 11 then (xZ T0 MI 109 0 [some (vr (some th)), some (vr r2), none, none] [] M).bind fun z_1 => bif z_1.1.isNone then xZ T0 MI 83 76 [some (vr (some th)), o1, some (vr r2), o3] [] z_1.2 else none else none := (xZ_k T0 MI 3 _ _ _ _ _).trans rfl
set_option maxRecDepth 100000 in
theorem bq_83_76 (T0 MI : Nat) (o0 : Option xV) (o1 : Option xV) (o2 : Option xV) (o3 : Option xV) (M : xM) : xZ T0 MI 83 76 [o0, o1, o2, o3] [] M = some (some (vi (Int32.ofInt 1)), M) := (xZ_k T0 MI 2 _ _ _ _ _).trans rfl
set_option maxRecDepth 100000 in
theorem bq_83_78 (T0 MI : Nat) (th : Nat) (o1 : Option xV) (r2 : Option Nat) (o3 : Option xV) (M : xM) : xZ T0 MI 83 78 [some (vr (some th)), o1, some (vr r2), o3] [] M = r2.bind fun q_1 => (xgetI M q_1 6 2).bind fun x_2 => bif xcls M th 11 then (xZ T0 MI 88 0 [some (vr (some th)), some (vi x_2)] [] M).bind fun z_3 => (xasR z_3.1).bind fun r_4 => xZ T0 MI 83 86 [some (vr (some th)), o1, some (vr r2), o3] [vr r_4] z_3.2 else none := (xZ_k T0 MI 4 _ _ _ _ _).trans rfl
set_option maxRecDepth 100000 in
theorem bq_83_86 (T0 MI : Nat) (th : Nat) (o1 : Option xV) (r2 : Option Nat) (o3 : Option xV) (sr0 : Option Nat) (M : xM) : xZ T0 MI 83 86 [some (vr (some th)), o1, some (vr r2), o3] [vr sr0] M = bif sr0.isNone then xZ T0 MI 83 98 [some (vr (some th)), o1, some (vr r2), some (vr sr0)] [] M else xZ T0 MI 83 91 [some (vr (some th)), o1, some (vr r2), some (vr sr0)] [] M := (xZ_k T0 MI 3 _ _ _ _ _).trans rfl
set_option maxRecDepth 100000 in
theorem bq_83_91 (T0 MI : Nat) (th : Nat) (o1 : Option xV) (r2 : Option Nat) (r3 : Option Nat) (M : xM) : xZ T0 MI 83 91 [some (vr (some th)), o1, some (vr r2), some (vr r3)] [] M = r3.bind fun q_1 => (xgetI M q_1 3 1).bind fun x_2 => if x_2 = 0 then xZ T0 MI 83 98 [some (vr (some th)), o1, some (vr r2), some (vr r3)] [] M else xZ T0 MI 83 100 [some (vr (some th)), o1, some (vr r2), some (vr r3)] [] M := (xZ_k T0 MI 3 _ _ _ _ _).trans rfl
set_option maxRecDepth 100000 in
theorem bq_83_98 (T0 MI : Nat) (o0 : Option xV) (o1 : Option xV) (o2 : Option xV) (o3 : Option xV) (M : xM) : xZ T0 MI 83 98 [o0, o1, o2, o3] [] M = some (some (vi (Int32.ofInt 0)), M) := (xZ_k T0 MI 2 _ _ _ _ _).trans rfl
set_option maxRecDepth 100000 in
theorem bq_83_100 (T0 MI : Nat) (th : Nat) (o1 : Option xV) (r2 : Option Nat) (r3 : Option Nat) (M : xM) : xZ T0 MI 83 100 [some (vr (some th)), o1, some (vr r2), some (vr r3)] [] M = r2.bind fun q_1 => (xgetI M q_1 6 0).bind fun x_2 => if x_2 = 0 then xZ T0 MI 83 107 [some (vr (some th)), o1, some (vr r2), some (vr r3)] [] M else xZ T0 MI 83 116 [some (vr (some th)), o1, some (vr r2), some (vr r3)] [] M := (xZ_k T0 MI 3 _ _ _ _ _).trans rfl
set_option maxRecDepth 100000 in
theorem bq_83_107 (T0 MI : Nat) (th : Nat) (o1 : Option xV) (r2 : Option Nat) (r3 : Option Nat) (M : xM) : xZ T0 MI 83 107 [some (vr (some th)), o1, some (vr r2), some (vr r3)] [] M = bif xcls M th 11 then (xZ T0 MI 110 0 [some (vr (some th)), some (vr r3), some (vr r2), none, none, none, none] [] M).bind fun z_1 => bif z_1.1.isNone then xZ T0 MI 83 113 [some (vr (some th)), o1, some (vr r2), some (vr r3)] [] z_1.2 else none else none := (xZ_k T0 MI 4 _ _ _ _ _).trans rfl
set_option maxRecDepth 100000 in
theorem bq_83_113 (T0 MI : Nat) (o0 : Option xV) (o1 : Option xV) (o2 : Option xV) (o3 : Option xV) (M : xM) : xZ T0 MI 83 113 [o0, o1, o2, o3] [] M = xZ T0 MI 83 122 [o0, o1, o2, o3] [] M := (xZ_k T0 MI 1 _ _ _ _ _).trans rfl
set_option maxRecDepth 100000 in
theorem bq_83_116 (T0 MI : Nat) (th : Nat) (o1 : Option xV) (r2 : Option Nat) (r3 : Option Nat) (M : xM) : xZ T0 MI 83 116 [some (vr (some th)), o1, some (vr r2), some (vr r3)] [] M = bif xcls M th 11 then (xZ T0 MI 112 0 [some (vr (some th)), some (vr r3), some (vr r2)] [] M).bind fun z_1 => bif z_1.1.isNone then xZ T0 MI 83 122 [some (vr (some th)), o1, some (vr r2), some (vr r3)] [] z_1.2 else none else none := (xZ_k T0 MI 4 _ _ _ _ _).trans rfl
set_option maxRecDepth 100000 in
theorem bq_83_122 (T0 MI : Nat) (o0 : Option xV) (o1 : Option xV) (o2 : Option xV) (o3 : Option xV) (M : xM) : xZ T0 MI 83 122 [o0, o1, o2, o3] [] M = some (some (vi (Int32.ofInt 1)), M) := (xZ_k T0 MI 2 _ _ _ _ _).trans rfl
-- 84 RangeHouse.lose(I)I
set_option maxRecDepth 100000 in
theorem bq_84_0 (T0 MI : Nat) (th : Nat) (x1 : Int32) (o2 : Option xV) (M : xM) : xZ T0 MI 84 0 [some (vr (some th)), some (vi x1), o2] [] M = bif xcls M th 11 then (xZ T0 MI 91 0 [some (vr (some th)), some (vi x1)] [] M).bind fun z_1 => (xasR z_1.1).bind fun r_2 => xZ T0 MI 84 5 [some (vr (some th)), some (vi x1), o2] [vr r_2] z_1.2 else none := (xZ_k T0 MI 3 _ _ _ _ _).trans rfl
set_option maxRecDepth 100000 in
theorem bq_84_5 (T0 MI : Nat) (th : Nat) (o1 : Option xV) (o2 : Option xV) (sr0 : Option Nat) (M : xM) : xZ T0 MI 84 5 [some (vr (some th)), o1, o2] [vr sr0] M = bif sr0.isNone then xZ T0 MI 84 10 [some (vr (some th)), xinv o1, some (vr sr0)] [] M else xZ T0 MI 84 16 [some (vr (some th)), xinv o1, some (vr sr0)] [] M := (xZ_k T0 MI 3 _ _ _ _ _).trans rfl
set_option maxRecDepth 100000 in
theorem bq_84_10 (T0 MI : Nat) (th : Nat) (o1 : Option xV) (o2 : Option xV) (M : xM) : xZ T0 MI 84 10 [some (vr (some th)), o1, o2] [] M = bif xcls M th 11 then (xZ T0 MI 96 0 [some (vr (some th)), some (vi (Int32.ofInt (-1)))] [] M).bind fun z_1 => (xasI z_1.1).bind fun x_2 => xZ T0 MI 84 15 [some (vr (some th)), o1, o2] [vi x_2] z_1.2 else none := (xZ_k T0 MI 3 _ _ _ _ _).trans rfl
set_option maxRecDepth 100000 in
theorem bq_84_15 (T0 MI : Nat) (o0 : Option xV) (o1 : Option xV) (o2 : Option xV) (sx0 : Int32) (M : xM) : xZ T0 MI 84 15 [o0, o1, o2] [vi sx0] M = some (some (vi sx0), M) := (xZ_k T0 MI 1 _ _ _ _ _).trans rfl
set_option maxRecDepth 100000 in
theorem bq_84_16 (T0 MI : Nat) (th : Nat) (o1 : Option xV) (r2 : Option Nat) (M : xM) : xZ T0 MI 84 16 [some (vr (some th)), o1, some (vr r2)] [] M = r2.bind fun q_1 => (xgetI M q_1 6 14).bind fun x_2 => if x_2 = 0 then xZ T0 MI 84 30 [some (vr (some th)), o1, some (vr r2)] [] M else xZ T0 MI 84 23 [some (vr (some th)), o1, some (vr r2)] [] M := (xZ_k T0 MI 3 _ _ _ _ _).trans rfl
set_option maxRecDepth 100000 in
theorem bq_84_23 (T0 MI : Nat) (th : Nat) (o1 : Option xV) (o2 : Option xV) (M : xM) : xZ T0 MI 84 23 [some (vr (some th)), o1, o2] [] M = bif xcls M th 11 then (xZ T0 MI 96 0 [some (vr (some th)), some (vi (Int32.ofInt (-5)))] [] M).bind fun z_1 => (xasI z_1.1).bind fun x_2 => xZ T0 MI 84 29 [some (vr (some th)), o1, o2] [vi x_2] z_1.2 else none := (xZ_k T0 MI 3 _ _ _ _ _).trans rfl
set_option maxRecDepth 100000 in
theorem bq_84_29 (T0 MI : Nat) (o0 : Option xV) (o1 : Option xV) (o2 : Option xV) (sx0 : Int32) (M : xM) : xZ T0 MI 84 29 [o0, o1, o2] [vi sx0] M = some (some (vi sx0), M) := (xZ_k T0 MI 1 _ _ _ _ _).trans rfl
set_option maxRecDepth 100000 in
theorem bq_84_30 (T0 MI : Nat) (o0 : Option xV) (o1 : Option xV) (r2 : Option Nat) (M : xM) : xZ T0 MI 84 30 [o0, o1, some (vr r2)] [] M = r2.bind fun q_1 => bif xbool (Int32.ofInt 1) then (xput M q_1 6 14 (vi (Int32.ofInt 1))).bind fun M_2 => some (some (vi (Int32.ofInt 1)), M_2) else none := (xZ_k T0 MI 5 _ _ _ _ _).trans rfl
-- 85 RangeHouse.letter(II)I
set_option maxRecDepth 100000 in
theorem bq_85_0 (T0 MI : Nat) (th : Nat) (x1 : Int32) (x2 : Int32) (o3 : Option xV) (M : xM) : xZ T0 MI 85 0 [some (vr (some th)), some (vi x1), some (vi x2), o3] [] M = bif xcls M th 11 then (xZ T0 MI 91 0 [some (vr (some th)), some (vi x1)] [] M).bind fun z_1 => (xasR z_1.1).bind fun r_2 => xZ T0 MI 85 5 [some (vr (some th)), some (vi x1), some (vi x2), o3] [vr r_2] z_1.2 else none := (xZ_k T0 MI 3 _ _ _ _ _).trans rfl
set_option maxRecDepth 100000 in
theorem bq_85_5 (T0 MI : Nat) (o0 : Option xV) (o1 : Option xV) (x2 : Int32) (o3 : Option xV) (sr0 : Option Nat) (M : xM) : xZ T0 MI 85 5 [o0, o1, some (vi x2), o3] [vr sr0] M = bif sr0.isNone then xZ T0 MI 85 10 [o0, o1, some (vi x2), some (vr sr0)] [] M else xZ T0 MI 85 13 [o0, o1, some (vi x2), some (vr sr0)] [] M := (xZ_k T0 MI 3 _ _ _ _ _).trans rfl
set_option maxRecDepth 100000 in
theorem bq_85_10 (T0 MI : Nat) (o0 : Option xV) (o1 : Option xV) (o2 : Option xV) (o3 : Option xV) (M : xM) : xZ T0 MI 85 10 [o0, o1, o2, o3] [] M = some (some (vi (Int32.ofInt (-9))), M) := (xZ_k T0 MI 2 _ _ _ _ _).trans rfl
set_option maxRecDepth 100000 in
theorem bq_85_13 (T0 MI : Nat) (o0 : Option xV) (o1 : Option xV) (x2 : Int32) (r3 : Option Nat) (M : xM) : xZ T0 MI 85 13 [o0, o1, some (vi x2), some (vr r3)] [] M = if x2.toInt < 0 ∨ 10 < x2.toInt then xZ T0 MI 85 150 [o0, o1, some (vi x2), some (vr r3)] [] M else ((#[58, 63, 68, 73, 78, 83, 96, 101, 106, 111, 116] : Array Int)[(x2.toInt - 0).toNat]?).bind fun f_1 => xZ T0 MI 85 (((14 : Nat) : Int) + f_1).toNat [o0, o1, some (vi x2), some (vr r3)] [] M := (xZ_k T0 MI 2 _ _ _ _ _).trans rfl
set_option maxRecDepth 100000 in
theorem bq_85_72 (T0 MI : Nat) (o0 : Option xV) (o1 : Option xV) (o2 : Option xV) (r3 : Option Nat) (M : xM) : xZ T0 MI 85 72 [o0, o1, o2, some (vr r3)] [] M = r3.bind fun q_1 => (xgetI M q_1 6 0).bind fun x_2 => some (some (vi x_2), M) := (xZ_k T0 MI 3 _ _ _ _ _).trans rfl
set_option maxRecDepth 100000 in
theorem bq_85_77 (T0 MI : Nat) (o0 : Option xV) (o1 : Option xV) (o2 : Option xV) (r3 : Option Nat) (M : xM) : xZ T0 MI 85 77 [o0, o1, o2, some (vr r3)] [] M = r3.bind fun q_1 => (xgetI M q_1 6 2).bind fun x_2 => some (some (vi x_2), M) := (xZ_k T0 MI 3 _ _ _ _ _).trans rfl
set_option maxRecDepth 100000 in
theorem bq_85_82 (T0 MI : Nat) (o0 : Option xV) (o1 : Option xV) (o2 : Option xV) (r3 : Option Nat) (M : xM) : xZ T0 MI 85 82 [o0, o1, o2, some (vr r3)] [] M = r3.bind fun q_1 => (xgetI M q_1 6 1).bind fun x_2 => some (some (vi x_2), M) := (xZ_k T0 MI 3 _ _ _ _ _).trans rfl
set_option maxRecDepth 100000 in
theorem bq_85_87 (T0 MI : Nat) (o0 : Option xV) (o1 : Option xV) (o2 : Option xV) (r3 : Option Nat) (M : xM) : xZ T0 MI 85 87 [o0, o1, o2, some (vr r3)] [] M = r3.bind fun q_1 => (xgetI M q_1 6 3).bind fun x_2 => some (some (vi x_2), M) := (xZ_k T0 MI 3 _ _ _ _ _).trans rfl
set_option maxRecDepth 100000 in
theorem bq_85_92 (T0 MI : Nat) (o0 : Option xV) (o1 : Option xV) (o2 : Option xV) (r3 : Option Nat) (M : xM) : xZ T0 MI 85 92 [o0, o1, o2, some (vr r3)] [] M = r3.bind fun q_1 => (xgetI M q_1 6 4).bind fun x_2 => some (some (vi x_2), M) := (xZ_k T0 MI 3 _ _ _ _ _).trans rfl
set_option maxRecDepth 100000 in
theorem bq_85_97 (T0 MI : Nat) (o0 : Option xV) (o1 : Option xV) (o2 : Option xV) (r3 : Option Nat) (M : xM) : xZ T0 MI 85 97 [o0, o1, o2, some (vr r3)] [] M = r3.bind fun q_1 => (xgetI M q_1 6 14).bind fun x_2 => if x_2 = 0 then xZ T0 MI 85 108 [o0, o1, o2, some (vr r3)] [] M else xZ T0 MI 85 104 [o0, o1, o2, some (vr r3)] [] M := (xZ_k T0 MI 3 _ _ _ _ _).trans rfl
set_option maxRecDepth 100000 in
theorem bq_85_104 (T0 MI : Nat) (o0 : Option xV) (o1 : Option xV) (o2 : Option xV) (o3 : Option xV) (M : xM) : xZ T0 MI 85 104 [o0, o1, o2, o3] [] M = xZ T0 MI 85 109 [o0, o1, o2, o3] [vi (Int32.ofInt 1)] M := (xZ_k T0 MI 2 _ _ _ _ _).trans rfl
set_option maxRecDepth 100000 in
theorem bq_85_108 (T0 MI : Nat) (o0 : Option xV) (o1 : Option xV) (o2 : Option xV) (o3 : Option xV) (M : xM) : xZ T0 MI 85 108 [o0, o1, o2, o3] [] M = xZ T0 MI 85 109 [o0, o1, o2, o3] [vi (Int32.ofInt 0)] M := (xZ_k T0 MI 1 _ _ _ _ _).trans rfl
set_option maxRecDepth 100000 in
theorem bq_85_109 (T0 MI : Nat) (o0 : Option xV) (o1 : Option xV) (o2 : Option xV) (o3 : Option xV) (sx0 : Int32) (M : xM) : xZ T0 MI 85 109 [o0, o1, o2, o3] [vi sx0] M = some (some (vi sx0), M) := (xZ_k T0 MI 1 _ _ _ _ _).trans rfl
set_option maxRecDepth 100000 in
theorem bq_85_110 (T0 MI : Nat) (o0 : Option xV) (o1 : Option xV) (o2 : Option xV) (r3 : Option Nat) (M : xM) : xZ T0 MI 85 110 [o0, o1, o2, some (vr r3)] [] M = r3.bind fun q_1 => (xgetI M q_1 6 15).bind fun x_2 => some (some (vi x_2), M) := (xZ_k T0 MI 3 _ _ _ _ _).trans rfl
set_option maxRecDepth 100000 in
theorem bq_85_115 (T0 MI : Nat) (o0 : Option xV) (o1 : Option xV) (o2 : Option xV) (r3 : Option Nat) (M : xM) : xZ T0 MI 85 115 [o0, o1, o2, some (vr r3)] [] M = r3.bind fun q_1 => (xgetI M q_1 6 5).bind fun x_2 => some (some (vi x_2), M) := (xZ_k T0 MI 3 _ _ _ _ _).trans rfl
set_option maxRecDepth 100000 in
theorem bq_85_120 (T0 MI : Nat) (o0 : Option xV) (o1 : Option xV) (o2 : Option xV) (r3 : Option Nat) (M : xM) : xZ T0 MI 85 120 [o0, o1, o2, some (vr r3)] [] M = r3.bind fun q_1 => (xgetI M q_1 6 6).bind fun x_2 => some (some (vi x_2), M) := (xZ_k T0 MI 3 _ _ _ _ _).trans rfl
set_option maxRecDepth 100000 in
theorem bq_85_125 (T0 MI : Nat) (o0 : Option xV) (o1 : Option xV) (o2 : Option xV) (r3 : Option Nat) (M : xM) : xZ T0 MI 85 125 [o0, o1, o2, some (vr r3)] [] M = r3.bind fun q_1 => (xgetI M q_1 6 7).bind fun x_2 => some (some (vi x_2), M) := (xZ_k T0 MI 3 _ _ _ _ _).trans rfl
set_option maxRecDepth 100000 in
theorem bq_85_130 (T0 MI : Nat) (o0 : Option xV) (o1 : Option xV) (o2 : Option xV) (r3 : Option Nat) (M : xM) : xZ T0 MI 85 130 [o0, o1, o2, some (vr r3)] [] M = r3.bind fun q_1 => (xgetR M q_1 6 13).bind fun r_2 => bif r_2.isNone then xZ T0 MI 85 137 [o0, o1, o2, some (vr r3)] [] M else xZ T0 MI 85 142 [o0, o1, o2, some (vr r3)] [] M := (xZ_k T0 MI 3 _ _ _ _ _).trans rfl
set_option maxRecDepth 100000 in
theorem bq_85_137 (T0 MI : Nat) (o0 : Option xV) (o1 : Option xV) (o2 : Option xV) (o3 : Option xV) (M : xM) : xZ T0 MI 85 137 [o0, o1, o2, o3] [] M = xZ T0 MI 85 149 [o0, o1, o2, o3] [vi (Int32.ofInt (-9))] M := (xZ_k T0 MI 2 _ _ _ _ _).trans rfl
set_option maxRecDepth 100000 in
theorem bq_85_142 (T0 MI : Nat) (o0 : Option xV) (o1 : Option xV) (o2 : Option xV) (r3 : Option Nat) (M : xM) : xZ T0 MI 85 142 [o0, o1, o2, some (vr r3)] [] M = r3.bind fun q_1 => (xgetR M q_1 6 13).bind fun r_2 => r_2.bind fun q_3 => (xgetI M q_3 8 2).bind fun x_4 => xZ T0 MI 85 149 [o0, o1, o2, some (vr r3)] [vi x_4] M := (xZ_k T0 MI 3 _ _ _ _ _).trans rfl
set_option maxRecDepth 100000 in
theorem bq_85_149 (T0 MI : Nat) (o0 : Option xV) (o1 : Option xV) (o2 : Option xV) (o3 : Option xV) (sx0 : Int32) (M : xM) : xZ T0 MI 85 149 [o0, o1, o2, o3] [vi sx0] M = some (some (vi sx0), M) := (xZ_k T0 MI 1 _ _ _ _ _).trans rfl
set_option maxRecDepth 100000 in
theorem bq_85_150 (T0 MI : Nat) (o0 : Option xV) (o1 : Option xV) (o2 : Option xV) (o3 : Option xV) (M : xM) : xZ T0 MI 85 150 [o0, o1, o2, o3] [] M = some (some (vi (Int32.ofInt (-9))), M) := (xZ_k T0 MI 2 _ _ _ _ _).trans rfl
-- 86 RangeHouse.order(II)I
set_option maxRecDepth 100000 in
theorem bq_86_0 (T0 MI : Nat) (th : Nat) (x1 : Int32) (x2 : Int32) (o3 : Option xV) (M : xM) : xZ T0 MI 86 0 [some (vr (some th)), some (vi x1), some (vi x2), o3] [] M = if x1 < 0 then xZ T0 MI 86 15 [some (vr (some th)), some (vi x1), some (vi x2), o3] [] M else xZ T0 MI 86 4 [some (vr (some th)), some (vi x1), some (vi x2), o3] [] M := (xZ_k T0 MI 2 _ _ _ _ _).trans rfl
set_option maxRecDepth 100000 in
theorem bq_86_4 (T0 MI : Nat) (th : Nat) (x1 : Int32) (x2 : Int32) (o3 : Option xV) (M : xM) : xZ T0 MI 86 4 [some (vr (some th)), some (vi x1), some (vi x2), o3] [] M = (xgetR M th 11 4).bind fun r_1 => r_1.bind fun q_2 => bif xcls M q_2 13 then (xZ T0 MI 206 0 [some (vr (some q_2))] [] M).bind fun z_3 => (xasI z_3.1).bind fun x_4 => xZ T0 MI 86 12 [some (vr (some th)), some (vi x1), some (vi x2), o3] [vi x_4, vi x1] z_3.2 else none := (xZ_k T0 MI 4 _ _ _ _ _).trans rfl
set_option maxRecDepth 100000 in
theorem bq_86_12 (T0 MI : Nat) (th : Nat) (x1 : Int32) (x2 : Int32) (o3 : Option xV) (sx0 : Int32) (sx1 : Int32) (M : xM) : xZ T0 MI 86 12 [some (vr (some th)), some (vi x1), some (vi x2), o3] [vi sx0, vi sx1] M = if sx1 < sx0 then xZ T0 MI 86 18 [some (vr (some th)), some (vi x1), some (vi x2), o3] [] M else xZ T0 MI 86 15 [some (vr (some th)), some (vi x1), some (vi x2), o3] [] M := (xZ_k T0 MI 1 _ _ _ _ _).trans rfl
set_option maxRecDepth 100000 in
theorem bq_86_15 (T0 MI : Nat) (o0 : Option xV) (o1 : Option xV) (o2 : Option xV) (o3 : Option xV) (M : xM) : xZ T0 MI 86 15 [o0, o1, o2, o3] [] M = some (some (vi (Int32.ofInt (-9))), M) := (xZ_k T0 MI 2 _ _ _ _ _).trans rfl
set_option maxRecDepth 100000 in
theorem bq_86_18 (T0 MI : Nat) (th : Nat) (x1 : Int32) (x2 : Int32) (o3 : Option xV) (M : xM) : xZ T0 MI 86 18 [some (vr (some th)), some (vi x1), some (vi x2), o3] [] M = (xgetR M th 11 4).bind fun r_1 => r_1.bind fun q_2 => bif xcls M q_2 13 then (xZ T0 MI 208 0 [some (vr (some q_2)), some (vi x1)] [] M).bind fun z_3 => (xasR z_3.1).bind fun r_4 => xZ T0 MI 86 26 [some (vr (some th)), some (vi x1), some (vi x2), o3] [vr r_4] z_3.2 else none := (xZ_k T0 MI 4 _ _ _ _ _).trans rfl
set_option maxRecDepth 100000 in
theorem bq_86_26 (T0 MI : Nat) (o0 : Option xV) (o1 : Option xV) (x2 : Int32) (o3 : Option xV) (sr0 : Option Nat) (M : xM) : xZ T0 MI 86 26 [o0, o1, some (vi x2), o3] [vr sr0] M = (match sr0 with
    | none => if x2.toInt < 0 ∨ 4 < x2.toInt then xZ T0 MI 86 89 [o0, o1, some (vi x2), some (vr none)] [] M else ((#[33, 38, 43, 48, 53] : Array Int)[(x2.toInt - 0).toNat]?).bind fun f_2 => xZ T0 MI 86 (((31 : Nat) : Int) + f_2).toNat [o0, o1, some (vi x2), some (vr none)] [] M
    | some q_1 => bif xcls M q_1 6 then if x2.toInt < 0 ∨ 4 < x2.toInt then xZ T0 MI 86 89 [o0, o1, some (vi x2), some (vr (some q_1))] [] M else ((#[33, 38, 43, 48, 53] : Array Int)[(x2.toInt - 0).toNat]?).bind fun f_3 => xZ T0 MI 86 (((31 : Nat) : Int) + f_3).toNat [o0, o1, some (vi x2), some (vr (some q_1))] [] M else none) := (xZ_k T0 MI 4 _ _ _ _ _).trans rfl
set_option maxRecDepth 100000 in
theorem bq_86_64 (T0 MI : Nat) (o0 : Option xV) (o1 : Option xV) (o2 : Option xV) (r3 : Option Nat) (M : xM) : xZ T0 MI 86 64 [o0, o1, o2, some (vr r3)] [] M = r3.bind fun q_1 => (xgetI M q_1 6 1).bind fun x_2 => some (some (vi x_2), M) := (xZ_k T0 MI 3 _ _ _ _ _).trans rfl
set_option maxRecDepth 100000 in
theorem bq_86_69 (T0 MI : Nat) (o0 : Option xV) (o1 : Option xV) (o2 : Option xV) (r3 : Option Nat) (M : xM) : xZ T0 MI 86 69 [o0, o1, o2, some (vr r3)] [] M = r3.bind fun q_1 => (xgetI M q_1 6 5).bind fun x_2 => some (some (vi x_2), M) := (xZ_k T0 MI 3 _ _ _ _ _).trans rfl
set_option maxRecDepth 100000 in
theorem bq_86_74 (T0 MI : Nat) (o0 : Option xV) (o1 : Option xV) (o2 : Option xV) (r3 : Option Nat) (M : xM) : xZ T0 MI 86 74 [o0, o1, o2, some (vr r3)] [] M = r3.bind fun q_1 => (xgetI M q_1 6 2).bind fun x_2 => some (some (vi x_2), M) := (xZ_k T0 MI 3 _ _ _ _ _).trans rfl
set_option maxRecDepth 100000 in
theorem bq_86_79 (T0 MI : Nat) (o0 : Option xV) (o1 : Option xV) (o2 : Option xV) (r3 : Option Nat) (M : xM) : xZ T0 MI 86 79 [o0, o1, o2, some (vr r3)] [] M = r3.bind fun q_1 => (xgetI M q_1 6 3).bind fun x_2 => some (some (vi x_2), M) := (xZ_k T0 MI 3 _ _ _ _ _).trans rfl
set_option maxRecDepth 100000 in
theorem bq_86_84 (T0 MI : Nat) (o0 : Option xV) (o1 : Option xV) (o2 : Option xV) (r3 : Option Nat) (M : xM) : xZ T0 MI 86 84 [o0, o1, o2, some (vr r3)] [] M = r3.bind fun q_1 => (xgetI M q_1 6 4).bind fun x_2 => some (some (vi x_2), M) := (xZ_k T0 MI 3 _ _ _ _ _).trans rfl
set_option maxRecDepth 100000 in
theorem bq_86_89 (T0 MI : Nat) (o0 : Option xV) (o1 : Option xV) (o2 : Option xV) (o3 : Option xV) (M : xM) : xZ T0 MI 86 89 [o0, o1, o2, o3] [] M = some (some (vi (Int32.ofInt (-9))), M) := (xZ_k T0 MI 2 _ _ _ _ _).trans rfl
-- 87 RangeHouse.status(I)I
set_option maxRecDepth 100000 in
theorem bq_87_0 (T0 MI : Nat) (th : Nat) (x1 : Int32) (M : xM) : xZ T0 MI 87 0 [some (vr (some th)), some (vi x1)] [] M = if x1 < (Int32.ofInt 11) then xZ T0 MI 87 22 [some (vr (some th)), some (vi x1)] [] M else xZ T0 MI 87 6 [some (vr (some th)), some (vi x1)] [] M := (xZ_k T0 MI 3 _ _ _ _ _).trans rfl
set_option maxRecDepth 100000 in
theorem bq_87_6 (T0 MI : Nat) (th : Nat) (x1 : Int32) (M : xM) : xZ T0 MI 87 6 [some (vr (some th)), some (vi x1)] [] M = if (Int32.ofInt 16) < x1 then xZ T0 MI 87 22 [some (vr (some th)), some (vi x1)] [] M else xZ T0 MI 87 12 [some (vr (some th)), some (vi x1)] [] M := (xZ_k T0 MI 3 _ _ _ _ _).trans rfl
set_option maxRecDepth 100000 in
theorem bq_87_12 (T0 MI : Nat) (th : Nat) (x1 : Int32) (M : xM) : xZ T0 MI 87 12 [some (vr (some th)), some (vi x1)] [] M = (xgetR M th 11 5).bind fun r_1 => r_1.bind fun q_2 => (xaI M q_2 (x1 - (Int32.ofInt 10))).bind fun x_3 => some (some (vi x_3), M) := (xZ_k T0 MI 7 _ _ _ _ _).trans rfl
set_option maxRecDepth 100000 in
theorem bq_87_22 (T0 MI : Nat) (th : Nat) (x1 : Int32) (M : xM) : xZ T0 MI 87 22 [some (vr (some th)), some (vi x1)] [] M = if x1.toInt < 0 ∨ 7 < x1.toInt then xZ T0 MI 87 117 [some (vr (some th)), some (vi x1)] [] M else ((#[45, 50, 55, 63, 71, 79, 84, 89] : Array Int)[(x1.toInt - 0).toNat]?).bind fun f_1 => xZ T0 MI 87 (((23 : Nat) : Int) + f_1).toNat [some (vr (some th)), some (vi x1)] [] M := (xZ_k T0 MI 2 _ _ _ _ _).trans rfl
set_option maxRecDepth 100000 in
theorem bq_87_68 (T0 MI : Nat) (th : Nat) (o1 : Option xV) (M : xM) : xZ T0 MI 87 68 [some (vr (some th)), o1] [] M = bif xcls M th 11 then (xZ T0 MI 97 0 [some (vr (some th)), none, none] [] M).bind fun z_1 => (xasI z_1.1).bind fun x_2 => xZ T0 MI 87 72 [some (vr (some th)), o1] [vi x_2] z_1.2 else none := (xZ_k T0 MI 2 _ _ _ _ _).trans rfl
set_option maxRecDepth 100000 in
theorem bq_87_72 (T0 MI : Nat) (o0 : Option xV) (o1 : Option xV) (sx0 : Int32) (M : xM) : xZ T0 MI 87 72 [o0, o1] [vi sx0] M = some (some (vi sx0), M) := (xZ_k T0 MI 1 _ _ _ _ _).trans rfl
set_option maxRecDepth 100000 in
theorem bq_87_73 (T0 MI : Nat) (th : Nat) (o1 : Option xV) (M : xM) : xZ T0 MI 87 73 [some (vr (some th)), o1] [] M = (xgetI M th 11 6).bind fun x_1 => some (some (vi x_1), M) := (xZ_k T0 MI 3 _ _ _ _ _).trans rfl
set_option maxRecDepth 100000 in
theorem bq_87_78 (T0 MI : Nat) (th : Nat) (o1 : Option xV) (M : xM) : xZ T0 MI 87 78 [some (vr (some th)), o1] [] M = (xgetR M th 11 2).bind fun r_1 => r_1.bind fun q_2 => bif xcls M q_2 13 then (xZ T0 MI 206 0 [some (vr (some q_2))] [] M).bind fun z_3 => (xasI z_3.1).bind fun x_4 => xZ T0 MI 87 85 [some (vr (some th)), o1] [vi x_4] z_3.2 else none := (xZ_k T0 MI 3 _ _ _ _ _).trans rfl
set_option maxRecDepth 100000 in
theorem bq_87_85 (T0 MI : Nat) (o0 : Option xV) (o1 : Option xV) (sx0 : Int32) (M : xM) : xZ T0 MI 87 85 [o0, o1] [vi sx0] M = some (some (vi sx0), M) := (xZ_k T0 MI 1 _ _ _ _ _).trans rfl
set_option maxRecDepth 100000 in
theorem bq_87_86 (T0 MI : Nat) (th : Nat) (o1 : Option xV) (M : xM) : xZ T0 MI 87 86 [some (vr (some th)), o1] [] M = (xgetR M th 11 3).bind fun r_1 => r_1.bind fun q_2 => bif xcls M q_2 13 then (xZ T0 MI 206 0 [some (vr (some q_2))] [] M).bind fun z_3 => (xasI z_3.1).bind fun x_4 => xZ T0 MI 87 93 [some (vr (some th)), o1] [vi x_4] z_3.2 else none := (xZ_k T0 MI 3 _ _ _ _ _).trans rfl
set_option maxRecDepth 100000 in
theorem bq_87_93 (T0 MI : Nat) (o0 : Option xV) (o1 : Option xV) (sx0 : Int32) (M : xM) : xZ T0 MI 87 93 [o0, o1] [vi sx0] M = some (some (vi sx0), M) := (xZ_k T0 MI 1 _ _ _ _ _).trans rfl
set_option maxRecDepth 100000 in
theorem bq_87_94 (T0 MI : Nat) (th : Nat) (o1 : Option xV) (M : xM) : xZ T0 MI 87 94 [some (vr (some th)), o1] [] M = (xgetR M th 11 4).bind fun r_1 => r_1.bind fun q_2 => bif xcls M q_2 13 then (xZ T0 MI 206 0 [some (vr (some q_2))] [] M).bind fun z_3 => (xasI z_3.1).bind fun x_4 => xZ T0 MI 87 101 [some (vr (some th)), o1] [vi x_4] z_3.2 else none := (xZ_k T0 MI 3 _ _ _ _ _).trans rfl
set_option maxRecDepth 100000 in
theorem bq_87_101 (T0 MI : Nat) (o0 : Option xV) (o1 : Option xV) (sx0 : Int32) (M : xM) : xZ T0 MI 87 101 [o0, o1] [vi sx0] M = some (some (vi sx0), M) := (xZ_k T0 MI 1 _ _ _ _ _).trans rfl
set_option maxRecDepth 100000 in
theorem bq_87_102 (T0 MI : Nat) (th : Nat) (o1 : Option xV) (M : xM) : xZ T0 MI 87 102 [some (vr (some th)), o1] [] M = bif xcls M th 11 then (xZ T0 MI 98 0 [some (vr (some th)), none, none] [] M).bind fun z_1 => (xasI z_1.1).bind fun x_2 => xZ T0 MI 87 106 [some (vr (some th)), o1] [vi x_2] z_1.2 else none := (xZ_k T0 MI 2 _ _ _ _ _).trans rfl
set_option maxRecDepth 100000 in
theorem bq_87_106 (T0 MI : Nat) (o0 : Option xV) (o1 : Option xV) (sx0 : Int32) (M : xM) : xZ T0 MI 87 106 [o0, o1] [vi sx0] M = some (some (vi sx0), M) := (xZ_k T0 MI 1 _ _ _ _ _).trans rfl
set_option maxRecDepth 100000 in
theorem bq_87_107 (T0 MI : Nat) (th : Nat) (o1 : Option xV) (M : xM) : xZ T0 MI 87 107 [some (vr (some th)), o1] [] M = (xgetI M th 11 7).bind fun x_1 => some (some (vi x_1), M) := (xZ_k T0 MI 3 _ _ _ _ _).trans rfl
set_option maxRecDepth 100000 in
theorem bq_87_112 (T0 MI : Nat) (th : Nat) (o1 : Option xV) (M : xM) : xZ T0 MI 87 112 [some (vr (some th)), o1] [] M = (xgetI M th 11 8).bind fun x_1 => some (some (vi x_1), M) := (xZ_k T0 MI 3 _ _ _ _ _).trans rfl
set_option maxRecDepth 100000 in
theorem bq_87_117 (T0 MI : Nat) (o0 : Option xV) (o1 : Option xV) (M : xM) : xZ T0 MI 87 117 [o0, o1] [] M = some (some (vi (Int32.ofInt (-9))), M) := (xZ_k T0 MI 2 _ _ _ _ _).trans rfl
-- 88 RangeHouse.hostOf(I)LRangeHouse$Host;
set_option maxRecDepth 100000 in
theorem bq_88_0 (T0 MI : Nat) (th : Nat) (x1 : Int32) (M : xM) : xZ T0 MI 88 0 [some (vr (some th)), some (vi x1)] [] M = if x1 < 0 then xZ T0 MI 88 10 [some (vr (some th)), some (vi x1)] [] M else xZ T0 MI 88 4 [some (vr (some th)), some (vi x1)] [] M := (xZ_k T0 MI 2 _ _ _ _ _).trans rfl
set_option maxRecDepth 100000 in
theorem bq_88_4 (T0 MI : Nat) (th : Nat) (x1 : Int32) (M : xM) : xZ T0 MI 88 4 [some (vr (some th)), some (vi x1)] [] M = if x1 < (Int32.ofInt 6) then xZ T0 MI 88 14 [some (vr (some th)), some (vi x1)] [] M else xZ T0 MI 88 10 [some (vr (some th)), some (vi x1)] [] M := (xZ_k T0 MI 3 _ _ _ _ _).trans rfl
set_option maxRecDepth 100000 in
theorem bq_88_10 (T0 MI : Nat) (o0 : Option xV) (o1 : Option xV) (M : xM) : xZ T0 MI 88 10 [o0, o1] [] M = xZ T0 MI 88 20 [o0, o1] [vr none] M := (xZ_k T0 MI 2 _ _ _ _ _).trans rfl
set_option maxRecDepth 100000 in
theorem bq_88_14 (T0 MI : Nat) (th : Nat) (x1 : Int32) (M : xM) : xZ T0 MI 88 14 [some (vr (some th)), some (vi x1)] [] M = (xgetR M th 11 0).bind fun r_1 => r_1.bind fun q_2 => (xaR M q_2 x1).bind fun r_3 => xZ T0 MI 88 20 [some (vr (some th)), some (vi x1)] [vr r_3] M := (xZ_k T0 MI 4 _ _ _ _ _).trans rfl
set_option maxRecDepth 100000 in
theorem bq_88_20 (T0 MI : Nat) (o0 : Option xV) (o1 : Option xV) (sr0 : Option Nat) (M : xM) : xZ T0 MI 88 20 [o0, o1] [vr sr0] M = some (some (vr sr0), M) := (xZ_k T0 MI 1 _ _ _ _ _).trans rfl
-- 89 RangeHouse.pageOf(I)LRangeHouse$Page;
set_option maxRecDepth 100000 in
theorem bq_89_0 (T0 MI : Nat) (th : Nat) (x1 : Int32) (M : xM) : xZ T0 MI 89 0 [some (vr (some th)), some (vi x1)] [] M = if x1 < 0 then xZ T0 MI 89 10 [some (vr (some th)), some (vi x1)] [] M else xZ T0 MI 89 4 [some (vr (some th)), some (vi x1)] [] M := (xZ_k T0 MI 2 _ _ _ _ _).trans rfl
set_option maxRecDepth 100000 in
theorem bq_89_4 (T0 MI : Nat) (th : Nat) (x1 : Int32) (M : xM) : xZ T0 MI 89 4 [some (vr (some th)), some (vi x1)] [] M = if x1 < (Int32.ofInt 40) then xZ T0 MI 89 14 [some (vr (some th)), some (vi x1)] [] M else xZ T0 MI 89 10 [some (vr (some th)), some (vi x1)] [] M := (xZ_k T0 MI 3 _ _ _ _ _).trans rfl
set_option maxRecDepth 100000 in
theorem bq_89_10 (T0 MI : Nat) (o0 : Option xV) (o1 : Option xV) (M : xM) : xZ T0 MI 89 10 [o0, o1] [] M = xZ T0 MI 89 20 [o0, o1] [vr none] M := (xZ_k T0 MI 2 _ _ _ _ _).trans rfl
set_option maxRecDepth 100000 in
theorem bq_89_14 (T0 MI : Nat) (th : Nat) (x1 : Int32) (M : xM) : xZ T0 MI 89 14 [some (vr (some th)), some (vi x1)] [] M = (xgetR M th 11 1).bind fun r_1 => r_1.bind fun q_2 => (xaR M q_2 x1).bind fun r_3 => xZ T0 MI 89 20 [some (vr (some th)), some (vi x1)] [vr r_3] M := (xZ_k T0 MI 4 _ _ _ _ _).trans rfl
set_option maxRecDepth 100000 in
theorem bq_89_20 (T0 MI : Nat) (o0 : Option xV) (o1 : Option xV) (sr0 : Option Nat) (M : xM) : xZ T0 MI 89 20 [o0, o1] [vr sr0] M = some (some (vr sr0), M) := (xZ_k T0 MI 1 _ _ _ _ _).trans rfl
-- 90 RangeHouse.callerOf(I)LRangeHouse$Caller;
set_option maxRecDepth 100000 in
theorem bq_90_0 (T0 MI : Nat) (th : Nat) (x1 : Int32) (M : xM) : xZ T0 MI 90 0 [some (vr (some th)), some (vi x1)] [] M = if x1 < 0 then xZ T0 MI 90 15 [some (vr (some th)), some (vi x1)] [] M else xZ T0 MI 90 4 [some (vr (some th)), some (vi x1)] [] M := (xZ_k T0 MI 2 _ _ _ _ _).trans rfl
set_option maxRecDepth 100000 in
theorem bq_90_4 (T0 MI : Nat) (th : Nat) (x1 : Int32) (M : xM) : xZ T0 MI 90 4 [some (vr (some th)), some (vi x1)] [] M = (xgetR M th 11 2).bind fun r_1 => r_1.bind fun q_2 => bif xcls M q_2 13 then (xZ T0 MI 206 0 [some (vr (some q_2))] [] M).bind fun z_3 => (xasI z_3.1).bind fun x_4 => xZ T0 MI 90 12 [some (vr (some th)), some (vi x1)] [vi x_4, vi x1] z_3.2 else none := (xZ_k T0 MI 4 _ _ _ _ _).trans rfl
set_option maxRecDepth 100000 in
theorem bq_90_12 (T0 MI : Nat) (th : Nat) (x1 : Int32) (sx0 : Int32) (sx1 : Int32) (M : xM) : xZ T0 MI 90 12 [some (vr (some th)), some (vi x1)] [vi sx0, vi sx1] M = if sx1 < sx0 then xZ T0 MI 90 19 [some (vr (some th)), some (vi x1)] [] M else xZ T0 MI 90 15 [some (vr (some th)), some (vi x1)] [] M := (xZ_k T0 MI 1 _ _ _ _ _).trans rfl
set_option maxRecDepth 100000 in
theorem bq_90_15 (T0 MI : Nat) (o0 : Option xV) (o1 : Option xV) (M : xM) : xZ T0 MI 90 15 [o0, o1] [] M = xZ T0 MI 90 30 [o0, o1] [vr none] M := (xZ_k T0 MI 2 _ _ _ _ _).trans rfl
set_option maxRecDepth 100000 in
theorem bq_90_19 (T0 MI : Nat) (th : Nat) (x1 : Int32) (M : xM) : xZ T0 MI 90 19 [some (vr (some th)), some (vi x1)] [] M = (xgetR M th 11 2).bind fun r_1 => r_1.bind fun q_2 => bif xcls M q_2 13 then (xZ T0 MI 208 0 [some (vr (some q_2)), some (vi x1)] [] M).bind fun z_3 => (xasR z_3.1).bind fun r_4 => xZ T0 MI 90 27 [some (vr (some th)), some (vi x1)] [vr r_4] z_3.2 else none := (xZ_k T0 MI 4 _ _ _ _ _).trans rfl
set_option maxRecDepth 100000 in
theorem bq_90_27 (T0 MI : Nat) (o0 : Option xV) (o1 : Option xV) (sr0 : Option Nat) (M : xM) : xZ T0 MI 90 27 [o0, o1] [vr sr0] M = (match sr0 with
    | none => xZ T0 MI 90 30 [o0, o1] [vr none] M
    | some q_1 => bif xcls M q_1 1 then xZ T0 MI 90 30 [o0, o1] [vr (some q_1)] M else none) := (xZ_k T0 MI 1 _ _ _ _ _).trans rfl
set_option maxRecDepth 100000 in
theorem bq_90_30 (T0 MI : Nat) (o0 : Option xV) (o1 : Option xV) (sr0 : Option Nat) (M : xM) : xZ T0 MI 90 30 [o0, o1] [vr sr0] M = some (some (vr sr0), M) := (xZ_k T0 MI 1 _ _ _ _ _).trans rfl
-- 91 RangeHouse.letterOf(I)LRangeHouse$Letter;
set_option maxRecDepth 100000 in
theorem bq_91_0 (T0 MI : Nat) (th : Nat) (x1 : Int32) (M : xM) : xZ T0 MI 91 0 [some (vr (some th)), some (vi x1)] [] M = if x1 < 0 then xZ T0 MI 91 15 [some (vr (some th)), some (vi x1)] [] M else xZ T0 MI 91 4 [some (vr (some th)), some (vi x1)] [] M := (xZ_k T0 MI 2 _ _ _ _ _).trans rfl
set_option maxRecDepth 100000 in
theorem bq_91_4 (T0 MI : Nat) (th : Nat) (x1 : Int32) (M : xM) : xZ T0 MI 91 4 [some (vr (some th)), some (vi x1)] [] M = (xgetR M th 11 3).bind fun r_1 => r_1.bind fun q_2 => bif xcls M q_2 13 then (xZ T0 MI 206 0 [some (vr (some q_2))] [] M).bind fun z_3 => (xasI z_3.1).bind fun x_4 => xZ T0 MI 91 12 [some (vr (some th)), some (vi x1)] [vi x_4, vi x1] z_3.2 else none := (xZ_k T0 MI 4 _ _ _ _ _).trans rfl
set_option maxRecDepth 100000 in
theorem bq_91_12 (T0 MI : Nat) (th : Nat) (x1 : Int32) (sx0 : Int32) (sx1 : Int32) (M : xM) : xZ T0 MI 91 12 [some (vr (some th)), some (vi x1)] [vi sx0, vi sx1] M = if sx1 < sx0 then xZ T0 MI 91 19 [some (vr (some th)), some (vi x1)] [] M else xZ T0 MI 91 15 [some (vr (some th)), some (vi x1)] [] M := (xZ_k T0 MI 1 _ _ _ _ _).trans rfl
set_option maxRecDepth 100000 in
theorem bq_91_15 (T0 MI : Nat) (o0 : Option xV) (o1 : Option xV) (M : xM) : xZ T0 MI 91 15 [o0, o1] [] M = xZ T0 MI 91 30 [o0, o1] [vr none] M := (xZ_k T0 MI 2 _ _ _ _ _).trans rfl
set_option maxRecDepth 100000 in
theorem bq_91_19 (T0 MI : Nat) (th : Nat) (x1 : Int32) (M : xM) : xZ T0 MI 91 19 [some (vr (some th)), some (vi x1)] [] M = (xgetR M th 11 3).bind fun r_1 => r_1.bind fun q_2 => bif xcls M q_2 13 then (xZ T0 MI 208 0 [some (vr (some q_2)), some (vi x1)] [] M).bind fun z_3 => (xasR z_3.1).bind fun r_4 => xZ T0 MI 91 27 [some (vr (some th)), some (vi x1)] [vr r_4] z_3.2 else none := (xZ_k T0 MI 4 _ _ _ _ _).trans rfl
set_option maxRecDepth 100000 in
theorem bq_91_27 (T0 MI : Nat) (o0 : Option xV) (o1 : Option xV) (sr0 : Option Nat) (M : xM) : xZ T0 MI 91 27 [o0, o1] [vr sr0] M = (match sr0 with
    | none => xZ T0 MI 91 30 [o0, o1] [vr none] M
    | some q_1 => bif xcls M q_1 6 then xZ T0 MI 91 30 [o0, o1] [vr (some q_1)] M else none) := (xZ_k T0 MI 1 _ _ _ _ _).trans rfl
set_option maxRecDepth 100000 in
theorem bq_91_30 (T0 MI : Nat) (o0 : Option xV) (o1 : Option xV) (sr0 : Option Nat) (M : xM) : xZ T0 MI 91 30 [o0, o1] [vr sr0] M = some (some (vr sr0), M) := (xZ_k T0 MI 1 _ _ _ _ _).trans rfl
-- 92 RangeHouse.holdingAt(II)LRangeHouse$Holding;
set_option maxRecDepth 100000 in
theorem bq_92_0 (T0 MI : Nat) (th : Nat) (x1 : Int32) (x2 : Int32) (o3 : Option xV) (M : xM) : xZ T0 MI 92 0 [some (vr (some th)), some (vi x1), some (vi x2), o3] [] M = bif xcls M th 11 then (xZ T0 MI 88 0 [some (vr (some th)), some (vi x1)] [] M).bind fun z_1 => (xasR z_1.1).bind fun r_2 => xZ T0 MI 92 5 [some (vr (some th)), some (vi x1), some (vi x2), o3] [vr r_2] z_1.2 else none := (xZ_k T0 MI 3 _ _ _ _ _).trans rfl
set_option maxRecDepth 100000 in
theorem bq_92_5 (T0 MI : Nat) (o0 : Option xV) (o1 : Option xV) (x2 : Int32) (o3 : Option xV) (sr0 : Option Nat) (M : xM) : xZ T0 MI 92 5 [o0, o1, some (vi x2), o3] [vr sr0] M = bif sr0.isNone then xZ T0 MI 92 10 [o0, o1, some (vi x2), some (vr sr0)] [] M else xZ T0 MI 92 14 [o0, o1, some (vi x2), some (vr sr0)] [] M := (xZ_k T0 MI 3 _ _ _ _ _).trans rfl
set_option maxRecDepth 100000 in
theorem bq_92_10 (T0 MI : Nat) (o0 : Option xV) (o1 : Option xV) (o2 : Option xV) (o3 : Option xV) (M : xM) : xZ T0 MI 92 10 [o0, o1, o2, o3] [] M = xZ T0 MI 92 19 [o0, o1, o2, o3] [vr none] M := (xZ_k T0 MI 2 _ _ _ _ _).trans rfl
set_option maxRecDepth 100000 in
theorem bq_92_14 (T0 MI : Nat) (o0 : Option xV) (o1 : Option xV) (x2 : Int32) (r3 : Option Nat) (M : xM) : xZ T0 MI 92 14 [o0, o1, some (vi x2), some (vr r3)] [] M = r3.bind fun q_1 => bif xcls M q_1 3 then (xZ T0 MI 28 0 [some (vr (some q_1)), some (vi x2)] [] M).bind fun z_2 => (xasR z_2.1).bind fun r_3 => xZ T0 MI 92 19 [o0, o1, some (vi x2), some (vr r3)] [vr r_3] z_2.2 else none := (xZ_k T0 MI 3 _ _ _ _ _).trans rfl
set_option maxRecDepth 100000 in
theorem bq_92_19 (T0 MI : Nat) (o0 : Option xV) (o1 : Option xV) (o2 : Option xV) (o3 : Option xV) (sr0 : Option Nat) (M : xM) : xZ T0 MI 92 19 [o0, o1, o2, o3] [vr sr0] M = some (some (vr sr0), M) := (xZ_k T0 MI 1 _ _ _ _ _).trans rfl
-- 93 RangeHouse.isUp(I)Z
set_option maxRecDepth 100000 in
theorem bq_93_0 (T0 MI : Nat) (th : Nat) (x1 : Int32) (o2 : Option xV) (M : xM) : xZ T0 MI 93 0 [some (vr (some th)), some (vi x1), o2] [] M = bif xcls M th 11 then (xZ T0 MI 88 0 [some (vr (some th)), some (vi x1)] [] M).bind fun z_1 => (xasR z_1.1).bind fun r_2 => xZ T0 MI 93 5 [some (vr (some th)), some (vi x1), o2] [vr r_2] z_1.2 else none := (xZ_k T0 MI 3 _ _ _ _ _).trans rfl
set_option maxRecDepth 100000 in
theorem bq_93_5 (T0 MI : Nat) (o0 : Option xV) (o1 : Option xV) (o2 : Option xV) (sr0 : Option Nat) (M : xM) : xZ T0 MI 93 5 [o0, o1, o2] [vr sr0] M = bif sr0.isNone then xZ T0 MI 93 21 [o0, xinv o1, some (vr sr0)] [] M else xZ T0 MI 93 10 [o0, xinv o1, some (vr sr0)] [] M := (xZ_k T0 MI 3 _ _ _ _ _).trans rfl
set_option maxRecDepth 100000 in
theorem bq_93_10 (T0 MI : Nat) (o0 : Option xV) (o1 : Option xV) (r2 : Option Nat) (M : xM) : xZ T0 MI 93 10 [o0, o1, some (vr r2)] [] M = r2.bind fun q_1 => (xgetI M q_1 3 1).bind fun x_2 => if x_2 = 0 then xZ T0 MI 93 21 [o0, o1, some (vr r2)] [] M else xZ T0 MI 93 17 [o0, o1, some (vr r2)] [] M := (xZ_k T0 MI 3 _ _ _ _ _).trans rfl
set_option maxRecDepth 100000 in
theorem bq_93_17 (T0 MI : Nat) (o0 : Option xV) (o1 : Option xV) (o2 : Option xV) (M : xM) : xZ T0 MI 93 17 [o0, o1, o2] [] M = xZ T0 MI 93 22 [o0, o1, o2] [vi (Int32.ofInt 1)] M := (xZ_k T0 MI 2 _ _ _ _ _).trans rfl
set_option maxRecDepth 100000 in
theorem bq_93_21 (T0 MI : Nat) (o0 : Option xV) (o1 : Option xV) (o2 : Option xV) (M : xM) : xZ T0 MI 93 21 [o0, o1, o2] [] M = xZ T0 MI 93 22 [o0, o1, o2] [vi (Int32.ofInt 0)] M := (xZ_k T0 MI 1 _ _ _ _ _).trans rfl
set_option maxRecDepth 100000 in
theorem bq_93_22 (T0 MI : Nat) (o0 : Option xV) (o1 : Option xV) (o2 : Option xV) (sx0 : Int32) (M : xM) : xZ T0 MI 93 22 [o0, o1, o2] [vi sx0] M = bif xbool sx0 then some (some (vi sx0), M) else none := (xZ_k T0 MI 1 _ _ _ _ _).trans rfl
-- 94 RangeHouse.isFree(LRangeHouse$Page;)Z
set_option maxRecDepth 100000 in
theorem bq_94_0 (T0 MI : Nat) (th : Nat) (r1 : Option Nat) (o2 : Option xV) (o3 : Option xV) (M : xM) : xZ T0 MI 94 0 [some (vr (some th)), some (vr r1), o2, o3] [] M = r1.bind fun q_1 => (xgetI M q_1 7 4).bind fun x_2 => if x_2 = 0 then xZ T0 MI 94 7 [some (vr (some th)), some (vr r1), o2, o3] [] M else xZ T0 MI 94 14 [some (vr (some th)), some (vr r1), o2, o3] [] M := (xZ_k T0 MI 3 _ _ _ _ _).trans rfl
set_option maxRecDepth 100000 in
theorem bq_94_7 (T0 MI : Nat) (th : Nat) (r1 : Option Nat) (o2 : Option xV) (o3 : Option xV) (M : xM) : xZ T0 MI 94 7 [some (vr (some th)), some (vr r1), o2, o3] [] M = r1.bind fun q_1 => (xgetI M q_1 7 5).bind fun x_2 => if x_2 = 0 then xZ T0 MI 94 16 [some (vr (some th)), some (vr r1), o2, o3] [] M else xZ T0 MI 94 14 [some (vr (some th)), some (vr r1), o2, o3] [] M := (xZ_k T0 MI 3 _ _ _ _ _).trans rfl
set_option maxRecDepth 100000 in
theorem bq_94_14 (T0 MI : Nat) (o0 : Option xV) (o1 : Option xV) (o2 : Option xV) (o3 : Option xV) (M : xM) : xZ T0 MI 94 14 [o0, o1, o2, o3] [] M = bif xbool (Int32.ofInt 0) then some (some (vi (Int32.ofInt 0)), M) else none := (xZ_k T0 MI 2 _ _ _ _ _).trans rfl
set_option maxRecDepth 100000 in
theorem bq_94_16 (T0 MI : Nat) (th : Nat) (r1 : Option Nat) (o2 : Option xV) (o3 : Option xV) (M : xM) : xZ T0 MI 94 16 [some (vr (some th)), some (vr r1), o2, o3] [] M = r1.bind fun q_1 => (xgetR M q_1 7 0).bind fun r_2 => r_2.bind fun q_3 => (xgetI M q_3 10 4).bind fun x_4 => bif xcls M th 11 then (xZ T0 MI 88 0 [some (vr (some th)), some (vi x_4)] [] M).bind fun z_5 => (xasR z_5.1).bind fun r_6 => xZ T0 MI 94 27 [some (vr (some th)), some (vr r1), o2, o3] [vr r_6] z_5.2 else none := (xZ_k T0 MI 5 _ _ _ _ _).trans rfl
set_option maxRecDepth 100000 in
theorem bq_94_27 (T0 MI : Nat) (o0 : Option xV) (r1 : Option Nat) (o2 : Option xV) (o3 : Option xV) (sr0 : Option Nat) (M : xM) : xZ T0 MI 94 27 [o0, some (vr r1), o2, o3] [vr sr0] M = bif sr0.isNone then xZ T0 MI 94 32 [o0, some (vr r1), some (vr sr0), o3] [] M else xZ T0 MI 94 36 [o0, some (vr r1), some (vr sr0), o3] [] M := (xZ_k T0 MI 3 _ _ _ _ _).trans rfl
set_option maxRecDepth 100000 in
theorem bq_94_32 (T0 MI : Nat) (o0 : Option xV) (o1 : Option xV) (o2 : Option xV) (o3 : Option xV) (M : xM) : xZ T0 MI 94 32 [o0, o1, o2, o3] [] M = xZ T0 MI 94 47 [o0, o1, o2, o3] [vr none] M := (xZ_k T0 MI 2 _ _ _ _ _).trans rfl
set_option maxRecDepth 100000 in
theorem bq_94_36 (T0 MI : Nat) (o0 : Option xV) (r1 : Option Nat) (r2 : Option Nat) (o3 : Option xV) (M : xM) : xZ T0 MI 94 36 [o0, some (vr r1), some (vr r2), o3] [] M = r1.bind fun q_1 => (xgetR M q_1 7 0).bind fun r_2 => r_2.bind fun q_3 => (xgetI M q_3 10 0).bind fun x_4 => r2.bind fun q_5 => bif xcls M q_5 3 then (xZ T0 MI 27 0 [some (vr (some q_5)), some (vi x_4)] [] M).bind fun z_6 => (xasR z_6.1).bind fun r_7 => xZ T0 MI 94 47 [o0, some (vr r1), some (vr r2), o3] [vr r_7] z_6.2 else none := (xZ_k T0 MI 5 _ _ _ _ _).trans rfl
set_option maxRecDepth 100000 in
theorem bq_94_47 (T0 MI : Nat) (o0 : Option xV) (o1 : Option xV) (o2 : Option xV) (o3 : Option xV) (sr0 : Option Nat) (M : xM) : xZ T0 MI 94 47 [o0, o1, o2, o3] [vr sr0] M = bif sr0.isNone then xZ T0 MI 94 64 [o0, o1, xinv o2, some (vr sr0)] [] M else xZ T0 MI 94 52 [o0, o1, xinv o2, some (vr sr0)] [] M := (xZ_k T0 MI 3 _ _ _ _ _).trans rfl
set_option maxRecDepth 100000 in
theorem bq_94_52 (T0 MI : Nat) (o0 : Option xV) (o1 : Option xV) (o2 : Option xV) (r3 : Option Nat) (M : xM) : xZ T0 MI 94 52 [o0, o1, o2, some (vr r3)] [] M = r3.bind fun q_1 => (xgetI M q_1 2 0).bind fun x_2 => if x_2 = (Int32.ofInt 1) then xZ T0 MI 94 60 [o0, o1, o2, some (vr r3)] [] M else xZ T0 MI 94 64 [o0, o1, o2, some (vr r3)] [] M := (xZ_k T0 MI 4 _ _ _ _ _).trans rfl
set_option maxRecDepth 100000 in
theorem bq_94_60 (T0 MI : Nat) (o0 : Option xV) (o1 : Option xV) (o2 : Option xV) (o3 : Option xV) (M : xM) : xZ T0 MI 94 60 [o0, o1, o2, o3] [] M = xZ T0 MI 94 65 [o0, o1, o2, o3] [vi (Int32.ofInt 1)] M := (xZ_k T0 MI 2 _ _ _ _ _).trans rfl
set_option maxRecDepth 100000 in
theorem bq_94_64 (T0 MI : Nat) (o0 : Option xV) (o1 : Option xV) (o2 : Option xV) (o3 : Option xV) (M : xM) : xZ T0 MI 94 64 [o0, o1, o2, o3] [] M = xZ T0 MI 94 65 [o0, o1, o2, o3] [vi (Int32.ofInt 0)] M := (xZ_k T0 MI 1 _ _ _ _ _).trans rfl
set_option maxRecDepth 100000 in
theorem bq_94_65 (T0 MI : Nat) (o0 : Option xV) (o1 : Option xV) (o2 : Option xV) (o3 : Option xV) (sx0 : Int32) (M : xM) : xZ T0 MI 94 65 [o0, o1, o2, o3] [vi sx0] M = bif xbool sx0 then some (some (vi sx0), M) else none := (xZ_k T0 MI 1 _ _ _ _ _).trans rfl
-- 95 RangeHouse.hasRoom(I)Z
set_option maxRecDepth 100000 in
theorem bq_95_0 (T0 MI : Nat) (th : Nat) (x1 : Int32) (M : xM) : xZ T0 MI 95 0 [some (vr (some th)), some (vi x1)] [] M = (xgetR M th 11 3).bind fun r_1 => r_1.bind fun q_2 => bif xcls M q_2 13 then (xZ T0 MI 206 0 [some (vr (some q_2))] [] M).bind fun z_3 => (xasI z_3.1).bind fun x_4 => xZ T0 MI 95 7 [some (vr (some th)), some (vi x1)] [vi x_4] z_3.2 else none := (xZ_k T0 MI 3 _ _ _ _ _).trans rfl
set_option maxRecDepth 100000 in
theorem bq_95_7 (T0 MI : Nat) (o0 : Option xV) (x1 : Int32) (sx0 : Int32) (M : xM) : xZ T0 MI 95 7 [o0, some (vi x1)] [vi sx0] M = if (Int32.ofInt 1200) < (sx0 + x1) then xZ T0 MI 95 19 [o0, some (vi x1)] [] M else xZ T0 MI 95 15 [o0, some (vi x1)] [] M := (xZ_k T0 MI 4 _ _ _ _ _).trans rfl
set_option maxRecDepth 100000 in
theorem bq_95_15 (T0 MI : Nat) (o0 : Option xV) (o1 : Option xV) (M : xM) : xZ T0 MI 95 15 [o0, o1] [] M = xZ T0 MI 95 20 [o0, o1] [vi (Int32.ofInt 1)] M := (xZ_k T0 MI 2 _ _ _ _ _).trans rfl
set_option maxRecDepth 100000 in
theorem bq_95_19 (T0 MI : Nat) (o0 : Option xV) (o1 : Option xV) (M : xM) : xZ T0 MI 95 19 [o0, o1] [] M = xZ T0 MI 95 20 [o0, o1] [vi (Int32.ofInt 0)] M := (xZ_k T0 MI 1 _ _ _ _ _).trans rfl
set_option maxRecDepth 100000 in
theorem bq_95_20 (T0 MI : Nat) (o0 : Option xV) (o1 : Option xV) (sx0 : Int32) (M : xM) : xZ T0 MI 95 20 [o0, o1] [vi sx0] M = bif xbool sx0 then some (some (vi sx0), M) else none := (xZ_k T0 MI 1 _ _ _ _ _).trans rfl
-- 96 RangeHouse.refuse(I)I
set_option maxRecDepth 100000 in
theorem bq_96_0 (T0 MI : Nat) (th : Nat) (x1 : Int32) (M : xM) : xZ T0 MI 96 0 [some (vr (some th)), some (vi x1)] [] M = if (Int32.ofInt (-1)) < x1 then xZ T0 MI 96 22 [some (vr (some th)), some (vi x1)] [] M else xZ T0 MI 96 5 [some (vr (some th)), some (vi x1)] [] M := (xZ_k T0 MI 3 _ _ _ _ _).trans rfl
set_option maxRecDepth 100000 in
theorem bq_96_5 (T0 MI : Nat) (th : Nat) (x1 : Int32) (M : xM) : xZ T0 MI 96 5 [some (vr (some th)), some (vi x1)] [] M = if x1 < (Int32.ofInt (-6)) then xZ T0 MI 96 22 [some (vr (some th)), some (vi x1)] [] M else xZ T0 MI 96 11 [some (vr (some th)), some (vi x1)] [] M := (xZ_k T0 MI 3 _ _ _ _ _).trans rfl
set_option maxRecDepth 100000 in
theorem bq_96_11 (T0 MI : Nat) (th : Nat) (x1 : Int32) (M : xM) : xZ T0 MI 96 11 [some (vr (some th)), some (vi x1)] [] M = (xgetR M th 11 5).bind fun r_1 => r_1.bind fun q_2 => (xaI M q_2 (-x1)).bind fun x_3 => r_1.bind fun q_4 => (xsI M q_4 (-x1) (x_3 + (Int32.ofInt 1))).bind fun M_5 => xZ T0 MI 96 22 [some (vr (some th)), some (vi x1)] [] M_5 := (xZ_k T0 MI 9 _ _ _ _ _).trans rfl
set_option maxRecDepth 100000 in
theorem bq_96_22 (T0 MI : Nat) (o0 : Option xV) (x1 : Int32) (M : xM) : xZ T0 MI 96 22 [o0, some (vi x1)] [] M = some (some (vi x1), M) := (xZ_k T0 MI 2 _ _ _ _ _).trans rfl
-- 97 RangeHouse.countPages()I
set_option maxRecDepth 100000 in
theorem bq_97_0 (T0 MI : Nat) (th : Nat) (o1 : Option xV) (o2 : Option xV) (M : xM) : xZ T0 MI 97 0 [some (vr (some th)), o1, o2] [] M = xZ T0 MI 97 4 [some (vr (some th)), some (vi (Int32.ofInt 0)), some (vi (Int32.ofInt 0))] [] M := (xZ_k T0 MI 4 _ _ _ _ _).trans rfl
set_option maxRecDepth 100000 in
theorem bq_97_4 (T0 MI : Nat) (th : Nat) (x1 : Int32) (x2 : Int32) (M : xM) : xZ T0 MI 97 4 [some (vr (some th)), some (vi x1), some (vi x2)] [] M = (xgetI M th 11 6).bind fun x_1 => if x_1 ≤ x2 then xZ T0 MI 97 30 [some (vr (some th)), some (vi x1), some (vi x2)] [] M else xZ T0 MI 97 12 [some (vr (some th)), some (vi x1), some (vi x2)] [] M := (xZ_k T0 MI 4 _ _ _ _ _).trans rfl
set_option maxRecDepth 100000 in
theorem bq_97_12 (T0 MI : Nat) (th : Nat) (x1 : Int32) (x2 : Int32) (M : xM) : xZ T0 MI 97 12 [some (vr (some th)), some (vi x1), some (vi x2)] [] M = (xgetR M th 11 1).bind fun r_1 => r_1.bind fun q_2 => (xaR M q_2 x2).bind fun r_3 => bif r_3.isNone then xZ T0 MI 97 24 [some (vr (some th)), some (vi x1), some (vi x2)] [] M else xZ T0 MI 97 21 [some (vr (some th)), some (vi x1), some (vi x2)] [] M := (xZ_k T0 MI 5 _ _ _ _ _).trans rfl
set_option maxRecDepth 100000 in
theorem bq_97_21 (T0 MI : Nat) (th : Nat) (x1 : Int32) (x2 : Int32) (M : xM) : xZ T0 MI 97 21 [some (vr (some th)), some (vi x1), some (vi x2)] [] M = xZ T0 MI 97 24 [some (vr (some th)), some (vi (x1 + Int32.ofInt 1)), some (vi x2)] [] M := (xZ_k T0 MI 1 _ _ _ _ _).trans rfl
set_option maxRecDepth 100000 in
theorem bq_97_24 (T0 MI : Nat) (th : Nat) (x1 : Int32) (x2 : Int32) (M : xM) : xZ T0 MI 97 24 [some (vr (some th)), some (vi x1), some (vi x2)] [] M = xZ T0 MI 97 4 [some (vr (some th)), some (vi x1), some (vi (x2 + Int32.ofInt 1))] [] M := (xZ_k T0 MI 2 _ _ _ _ _).trans rfl
set_option maxRecDepth 100000 in
theorem bq_97_30 (T0 MI : Nat) (o0 : Option xV) (x1 : Int32) (o2 : Option xV) (M : xM) : xZ T0 MI 97 30 [o0, some (vi x1), o2] [] M = some (some (vi x1), M) := (xZ_k T0 MI 2 _ _ _ _ _).trans rfl
-- 98 RangeHouse.countUp()I
set_option maxRecDepth 100000 in
theorem bq_98_0 (T0 MI : Nat) (th : Nat) (o1 : Option xV) (o2 : Option xV) (M : xM) : xZ T0 MI 98 0 [some (vr (some th)), o1, o2] [] M = xZ T0 MI 98 4 [some (vr (some th)), some (vi (Int32.ofInt 0)), some (vi (Int32.ofInt 0))] [] M := (xZ_k T0 MI 4 _ _ _ _ _).trans rfl
set_option maxRecDepth 100000 in
theorem bq_98_4 (T0 MI : Nat) (th : Nat) (x1 : Int32) (x2 : Int32) (M : xM) : xZ T0 MI 98 4 [some (vr (some th)), some (vi x1), some (vi x2)] [] M = if (Int32.ofInt 6) ≤ x2 then xZ T0 MI 98 31 [some (vr (some th)), some (vi x1), some (vi x2)] [] M else xZ T0 MI 98 10 [some (vr (some th)), some (vi x1), some (vi x2)] [] M := (xZ_k T0 MI 3 _ _ _ _ _).trans rfl
set_option maxRecDepth 100000 in
theorem bq_98_10 (T0 MI : Nat) (th : Nat) (x1 : Int32) (x2 : Int32) (M : xM) : xZ T0 MI 98 10 [some (vr (some th)), some (vi x1), some (vi x2)] [] M = (xgetR M th 11 0).bind fun r_1 => r_1.bind fun q_2 => (xaR M q_2 x2).bind fun r_3 => r_3.bind fun q_4 => (xgetI M q_4 3 1).bind fun x_5 => if x_5 = 0 then xZ T0 MI 98 25 [some (vr (some th)), some (vi x1), some (vi x2)] [] M else xZ T0 MI 98 22 [some (vr (some th)), some (vi x1), some (vi x2)] [] M := (xZ_k T0 MI 6 _ _ _ _ _).trans rfl
set_option maxRecDepth 100000 in
theorem bq_98_22 (T0 MI : Nat) (th : Nat) (x1 : Int32) (x2 : Int32) (M : xM) : xZ T0 MI 98 22 [some (vr (some th)), some (vi x1), some (vi x2)] [] M = xZ T0 MI 98 25 [some (vr (some th)), some (vi (x1 + Int32.ofInt 1)), some (vi x2)] [] M := (xZ_k T0 MI 1 _ _ _ _ _).trans rfl
set_option maxRecDepth 100000 in
theorem bq_98_25 (T0 MI : Nat) (th : Nat) (x1 : Int32) (x2 : Int32) (M : xM) : xZ T0 MI 98 25 [some (vr (some th)), some (vi x1), some (vi x2)] [] M = xZ T0 MI 98 4 [some (vr (some th)), some (vi x1), some (vi (x2 + Int32.ofInt 1))] [] M := (xZ_k T0 MI 2 _ _ _ _ _).trans rfl
set_option maxRecDepth 100000 in
theorem bq_98_31 (T0 MI : Nat) (o0 : Option xV) (x1 : Int32) (o2 : Option xV) (M : xM) : xZ T0 MI 98 31 [o0, some (vi x1), o2] [] M = some (some (vi x1), M) := (xZ_k T0 MI 2 _ _ _ _ _).trans rfl
-- 99 RangeHouse.freeRowsAt(II)I
set_option maxRecDepth 100000 in
theorem bq_99_0 (T0 MI : Nat) (th : Nat) (x1 : Int32) (x2 : Int32) (o3 : Option xV) (o4 : Option xV) (M : xM) : xZ T0 MI 99 0 [some (vr (some th)), some (vi x1), some (vi x2), o3, o4] [] M = bif xcls M th 11 then (xZ T0 MI 89 0 [some (vr (some th)), some (vi x2)] [] M).bind fun z_1 => (xasR z_1.1).bind fun r_2 => xZ T0 MI 99 5 [some (vr (some th)), some (vi x1), some (vi x2), o3, o4] [vr r_2] z_1.2 else none := (xZ_k T0 MI 3 _ _ _ _ _).trans rfl
set_option maxRecDepth 100000 in
theorem bq_99_5 (T0 MI : Nat) (th : Nat) (x1 : Int32) (x2 : Int32) (o3 : Option xV) (o4 : Option xV) (sr0 : Option Nat) (M : xM) : xZ T0 MI 99 5 [some (vr (some th)), some (vi x1), some (vi x2), o3, o4] [vr sr0] M = bif sr0.isNone then xZ T0 MI 99 29 [some (vr (some th)), some (vi x1), some (vi x2), some (vr sr0), o4] [] M else xZ T0 MI 99 10 [some (vr (some th)), some (vi x1), some (vi x2), some (vr sr0), o4] [] M := (xZ_k T0 MI 3 _ _ _ _ _).trans rfl
set_option maxRecDepth 100000 in
theorem bq_99_10 (T0 MI : Nat) (th : Nat) (x1 : Int32) (x2 : Int32) (r3 : Option Nat) (o4 : Option xV) (M : xM) : xZ T0 MI 99 10 [some (vr (some th)), some (vi x1), some (vi x2), some (vr r3), o4] [] M = r3.bind fun q_1 => (xgetR M q_1 7 0).bind fun r_2 => r_2.bind fun q_3 => (xgetI M q_3 10 4).bind fun x_4 => if x_4 = x1 then xZ T0 MI 99 21 [some (vr (some th)), some (vi x1), some (vi x2), some (vr r3), o4] [] M else xZ T0 MI 99 29 [some (vr (some th)), some (vi x1), some (vi x2), some (vr r3), o4] [] M := (xZ_k T0 MI 5 _ _ _ _ _).trans rfl
set_option maxRecDepth 100000 in
theorem bq_99_21 (T0 MI : Nat) (th : Nat) (x1 : Int32) (x2 : Int32) (r3 : Option Nat) (o4 : Option xV) (M : xM) : xZ T0 MI 99 21 [some (vr (some th)), some (vi x1), some (vi x2), some (vr r3), o4] [] M = bif xcls M th 11 then (xZ T0 MI 94 0 [some (vr (some th)), some (vr r3), none, none] [] M).bind fun z_1 => (xasI z_1.1).bind fun x_2 => xZ T0 MI 99 26 [some (vr (some th)), some (vi x1), some (vi x2), some (vr r3), o4] [vi x_2] z_1.2 else none := (xZ_k T0 MI 3 _ _ _ _ _).trans rfl
set_option maxRecDepth 100000 in
theorem bq_99_26 (T0 MI : Nat) (th : Nat) (x1 : Int32) (x2 : Int32) (o3 : Option xV) (o4 : Option xV) (sx0 : Int32) (M : xM) : xZ T0 MI 99 26 [some (vr (some th)), some (vi x1), some (vi x2), o3, o4] [vi sx0] M = if sx0 = 0 then xZ T0 MI 99 29 [some (vr (some th)), some (vi x1), some (vi x2), o3, o4] [] M else xZ T0 MI 99 31 [some (vr (some th)), some (vi x1), some (vi x2), o3, o4] [] M := (xZ_k T0 MI 1 _ _ _ _ _).trans rfl
set_option maxRecDepth 100000 in
theorem bq_99_29 (T0 MI : Nat) (o0 : Option xV) (o1 : Option xV) (o2 : Option xV) (o3 : Option xV) (o4 : Option xV) (M : xM) : xZ T0 MI 99 29 [o0, o1, o2, o3, o4] [] M = some (some (vi (Int32.ofInt 0)), M) := (xZ_k T0 MI 2 _ _ _ _ _).trans rfl
set_option maxRecDepth 100000 in
theorem bq_99_31 (T0 MI : Nat) (th : Nat) (x1 : Int32) (x2 : Int32) (o3 : Option xV) (o4 : Option xV) (M : xM) : xZ T0 MI 99 31 [some (vr (some th)), some (vi x1), some (vi x2), o3, o4] [] M = bif xcls M th 11 then (xZ T0 MI 92 0 [some (vr (some th)), some (vi x1), some (vi x2), none] [] M).bind fun z_1 => (xasR z_1.1).bind fun r_2 => xZ T0 MI 99 37 [some (vr (some th)), some (vi x1), some (vi x2), o3, o4] [vr r_2] z_1.2 else none := (xZ_k T0 MI 4 _ _ _ _ _).trans rfl
set_option maxRecDepth 100000 in
theorem bq_99_37 (T0 MI : Nat) (o0 : Option xV) (o1 : Option xV) (o2 : Option xV) (o3 : Option xV) (o4 : Option xV) (sr0 : Option Nat) (M : xM) : xZ T0 MI 99 37 [o0, o1, o2, o3, o4] [vr sr0] M = bif sr0.isNone then xZ T0 MI 99 44 [o0, o1, o2, xinv o3, some (vr sr0)] [] M else xZ T0 MI 99 48 [o0, o1, o2, xinv o3, some (vr sr0)] [] M := (xZ_k T0 MI 3 _ _ _ _ _).trans rfl
set_option maxRecDepth 100000 in
theorem bq_99_44 (T0 MI : Nat) (o0 : Option xV) (o1 : Option xV) (o2 : Option xV) (o3 : Option xV) (o4 : Option xV) (M : xM) : xZ T0 MI 99 44 [o0, o1, o2, o3, o4] [] M = xZ T0 MI 99 56 [o0, o1, o2, o3, o4] [vi (Int32.ofInt 0)] M := (xZ_k T0 MI 2 _ _ _ _ _).trans rfl
set_option maxRecDepth 100000 in
theorem bq_99_48 (T0 MI : Nat) (o0 : Option xV) (o1 : Option xV) (o2 : Option xV) (o3 : Option xV) (r4 : Option Nat) (M : xM) : xZ T0 MI 99 48 [o0, o1, o2, o3, some (vr r4)] [] M = r4.bind fun q_1 => (xgetR M q_1 2 4).bind fun r_2 => r_2.bind fun q_3 => (xgetI M q_3 9 0).bind fun x_4 => xZ T0 MI 99 56 [o0, o1, o2, o3, some (vr r4)] [vi x_4] M := (xZ_k T0 MI 3 _ _ _ _ _).trans rfl
set_option maxRecDepth 100000 in
theorem bq_99_56 (T0 MI : Nat) (o0 : Option xV) (o1 : Option xV) (o2 : Option xV) (o3 : Option xV) (o4 : Option xV) (sx0 : Int32) (M : xM) : xZ T0 MI 99 56 [o0, o1, o2, o3, o4] [vi sx0] M = some (some (vi sx0), M) := (xZ_k T0 MI 1 _ _ _ _ _).trans rfl
-- 100 RangeHouse.tellBook(LRangeHouse$Caller;)V
set_option maxRecDepth 100000 in
theorem bq_100_0 (T0 MI : Nat) (th : Nat) (r1 : Option Nat) (o2 : Option xV) (o3 : Option xV) (M : xM) : xZ T0 MI 100 0 [some (vr (some th)), some (vr r1), o2, o3] [] M = r1.bind fun q_1 => (xgetR M q_1 1 1).bind fun r_2 => r_2.bind fun q_3 => bif xcls M q_3 13 then (xZ T0 MI 213 0 [some (vr (some q_3)), none, none, none] [] M).bind fun z_4 => bif z_4.1.isNone then xZ T0 MI 100 7 [some (vr (some th)), some (vr r1), o2, o3] [] z_4.2 else none else none := (xZ_k T0 MI 3 _ _ _ _ _).trans rfl
set_option maxRecDepth 100000 in
theorem bq_100_7 (T0 MI : Nat) (th : Nat) (r1 : Option Nat) (o2 : Option xV) (o3 : Option xV) (M : xM) : xZ T0 MI 100 7 [some (vr (some th)), some (vr r1), o2, o3] [] M = xZ T0 MI 100 9 [some (vr (some th)), some (vr r1), some (vi (Int32.ofInt 0)), o3] [] M := (xZ_k T0 MI 2 _ _ _ _ _).trans rfl
set_option maxRecDepth 100000 in
theorem bq_100_9 (T0 MI : Nat) (th : Nat) (r1 : Option Nat) (x2 : Int32) (o3 : Option xV) (M : xM) : xZ T0 MI 100 9 [some (vr (some th)), some (vr r1), some (vi x2), o3] [] M = (xgetI M th 11 6).bind fun x_1 => if x_1 ≤ x2 then xZ T0 MI 100 46 [some (vr (some th)), some (vr r1), some (vi x2), o3] [] M else xZ T0 MI 100 17 [some (vr (some th)), some (vr r1), some (vi x2), o3] [] M := (xZ_k T0 MI 4 _ _ _ _ _).trans rfl
set_option maxRecDepth 100000 in
theorem bq_100_17 (T0 MI : Nat) (th : Nat) (r1 : Option Nat) (x2 : Int32) (o3 : Option xV) (M : xM) : xZ T0 MI 100 17 [some (vr (some th)), some (vr r1), some (vi x2), o3] [] M = (xgetR M th 11 1).bind fun r_1 => r_1.bind fun q_2 => (xaR M q_2 x2).bind fun r_3 => bif r_3.isNone then xZ T0 MI 100 40 [some (vr (some th)), some (vr r1), some (vi x2), some (vr r_3)] [] M else xZ T0 MI 100 28 [some (vr (some th)), some (vr r1), some (vi x2), some (vr r_3)] [] M := (xZ_k T0 MI 7 _ _ _ _ _).trans rfl
set_option maxRecDepth 100000 in
theorem bq_100_28 (T0 MI : Nat) (th : Nat) (r1 : Option Nat) (x2 : Int32) (r3 : Option Nat) (M : xM) : xZ T0 MI 100 28 [some (vr (some th)), some (vr r1), some (vi x2), some (vr r3)] [] M = r1.bind fun q_1 => (xgetR M q_1 1 1).bind fun r_2 => r3.bind fun q_3 => (xgetR M q_3 7 0).bind fun r_4 => r_2.bind fun q_5 => bif xcls M q_5 13 then (xZ T0 MI 210 0 [some (vr (some q_5)), some (vr r_4)] [] M).bind fun z_6 => (xasI z_6.1).bind fun x_7 => xZ T0 MI 100 39 [some (vr (some th)), some (vr r1), some (vi x2), some (vr r3)] [vi x_7] z_6.2 else none := (xZ_k T0 MI 5 _ _ _ _ _).trans rfl
set_option maxRecDepth 100000 in
theorem bq_100_39 (T0 MI : Nat) (th : Nat) (r1 : Option Nat) (x2 : Int32) (o3 : Option xV) (sx0 : Int32) (M : xM) : xZ T0 MI 100 39 [some (vr (some th)), some (vr r1), some (vi x2), o3] [vi sx0] M = xZ T0 MI 100 40 [some (vr (some th)), some (vr r1), some (vi x2), o3] [] M := (xZ_k T0 MI 1 _ _ _ _ _).trans rfl
set_option maxRecDepth 100000 in
theorem bq_100_40 (T0 MI : Nat) (th : Nat) (r1 : Option Nat) (x2 : Int32) (o3 : Option xV) (M : xM) : xZ T0 MI 100 40 [some (vr (some th)), some (vr r1), some (vi x2), o3] [] M = xZ T0 MI 100 9 [some (vr (some th)), some (vr r1), some (vi (x2 + Int32.ofInt 1)), o3] [] M := (xZ_k T0 MI 2 _ _ _ _ _).trans rfl
set_option maxRecDepth 100000 in
theorem bq_100_46 (T0 MI : Nat) (o0 : Option xV) (o1 : Option xV) (o2 : Option xV) (o3 : Option xV) (M : xM) : xZ T0 MI 100 46 [o0, o1, o2, o3] [] M = some (none, M) := (xZ_k T0 MI 1 _ _ _ _ _).trans rfl
-- 101 RangeHouse.post(IIIII)LRangeHouse$Letter;
set_option maxRecDepth 100000 in
theorem bq_101_0 (T0 MI : Nat) (th : Nat) (x1 : Int32) (x2 : Int32) (x3 : Int32) (x4 : Int32) (x5 : Int32) (o6 : Option xV) (M : xM) : xZ T0 MI 101 0 [some (vr (some th)), some (vi x1), some (vi x2), some (vi x3), some (vi x4), some (vi x5), o6] [] M = (xZ T0 MI 46 0 [some (vr (some M.1)), some (vi x1), some (vi x2), some (vi x3), some (vi x4), some (vi x5)] [] (xnewO M 6)).bind fun z_1 => bif z_1.1.isNone then xZ T0 MI 101 14 [some (vr (some th)), some (vi x1), some (vi x2), some (vi x3), some (vi x4), some (vi x5), o6] [vr (some M.1)] z_1.2 else none := (xZ_k T0 MI 8 _ _ _ _ _).trans rfl
set_option maxRecDepth 100000 in
theorem bq_101_14 (T0 MI : Nat) (th : Nat) (o1 : Option xV) (o2 : Option xV) (o3 : Option xV) (o4 : Option xV) (o5 : Option xV) (o6 : Option xV) (ts0 : Nat) (M : xM) : xZ T0 MI 101 14 [some (vr (some th)), o1, o2, o3, o4, o5, o6] [vr (some ts0)] M = bif xcls M th 11 then (xZ T0 MI 95 0 [some (vr (some th)), some (vi (Int32.ofInt 1))] [] M).bind fun z_1 => (xasI z_1.1).bind fun x_2 => xZ T0 MI 101 21 [some (vr (some th)), o1, o2, o3, o4, xinv o5, some (vr (some ts0))] [vi x_2] z_1.2 else none := (xZ_k T0 MI 4 _ _ _ _ _).trans rfl
set_option maxRecDepth 100000 in
theorem bq_101_21 (T0 MI : Nat) (th : Nat) (o1 : Option xV) (o2 : Option xV) (o3 : Option xV) (o4 : Option xV) (o5 : Option xV) (r6 : Option Nat) (sx0 : Int32) (M : xM) : xZ T0 MI 101 21 [some (vr (some th)), o1, o2, o3, o4, o5, some (vr r6)] [vi sx0] M = if sx0 = 0 then xZ T0 MI 101 34 [some (vr (some th)), o1, o2, o3, o4, o5, some (vr r6)] [] M else xZ T0 MI 101 24 [some (vr (some th)), o1, o2, o3, o4, o5, some (vr r6)] [] M := (xZ_k T0 MI 1 _ _ _ _ _).trans rfl
set_option maxRecDepth 100000 in
theorem bq_101_24 (T0 MI : Nat) (th : Nat) (o1 : Option xV) (o2 : Option xV) (o3 : Option xV) (o4 : Option xV) (o5 : Option xV) (r6 : Option Nat) (M : xM) : xZ T0 MI 101 24 [some (vr (some th)), o1, o2, o3, o4, o5, some (vr r6)] [] M = (xgetR M th 11 3).bind fun r_1 => r_1.bind fun q_2 => bif xcls M q_2 13 then (xZ T0 MI 210 0 [some (vr (some q_2)), some (vr r6)] [] M).bind fun z_3 => (xasI z_3.1).bind fun x_4 => xZ T0 MI 101 33 [some (vr (some th)), o1, o2, o3, o4, o5, some (vr r6)] [vi x_4] z_3.2 else none := (xZ_k T0 MI 4 _ _ _ _ _).trans rfl
set_option maxRecDepth 100000 in
theorem bq_101_33 (T0 MI : Nat) (o0 : Option xV) (o1 : Option xV) (o2 : Option xV) (o3 : Option xV) (o4 : Option xV) (o5 : Option xV) (r6 : Option Nat) (sx0 : Int32) (M : xM) : xZ T0 MI 101 33 [o0, o1, o2, o3, o4, o5, some (vr r6)] [vi sx0] M = xZ T0 MI 101 34 [o0, o1, o2, o3, o4, o5, some (vr r6)] [] M := (xZ_k T0 MI 1 _ _ _ _ _).trans rfl
set_option maxRecDepth 100000 in
theorem bq_101_34 (T0 MI : Nat) (o0 : Option xV) (o1 : Option xV) (o2 : Option xV) (o3 : Option xV) (o4 : Option xV) (o5 : Option xV) (r6 : Option Nat) (M : xM) : xZ T0 MI 101 34 [o0, o1, o2, o3, o4, o5, some (vr r6)] [] M = some (some (vr r6), M) := (xZ_k T0 MI 2 _ _ _ _ _).trans rfl
-- 102 RangeHouse.postCall(LRangeHouse$Caller;LRangeHouse$Ask;LRangeHouse$Spot;)V
set_option maxRecDepth 100000 in
theorem bq_102_0 (T0 MI : Nat) (th : Nat) (r1 : Option Nat) (r2 : Option Nat) (r3 : Option Nat) (o4 : Option xV) (M : xM) : xZ T0 MI 102 0 [some (vr (some th)), some (vr r1), some (vr r2), some (vr r3), o4] [] M = r1.bind fun q_1 => (xgetI M q_1 1 0).bind fun x_2 => r3.bind fun q_3 => (xgetI M q_3 10 4).bind fun x_4 => r3.bind fun q_5 => (xgetI M q_5 10 0).bind fun x_6 => r3.bind fun q_7 => (xgetI M q_7 10 3).bind fun x_8 => bif xcls M th 11 then (xZ T0 MI 101 0 [some (vr (some th)), some (vi (Int32.ofInt 0)), some (vi x_2), some (vi x_4), some (vi x_6), some (vi x_8), none] [] M).bind fun z_9 => (xasR z_9.1).bind fun r_10 => xZ T0 MI 102 21 [some (vr (some th)), some (vr r1), some (vr r2), some (vr r3), o4] [vr r_10] z_9.2 else none := (xZ_k T0 MI 11 _ _ _ _ _).trans rfl
set_option maxRecDepth 100000 in
theorem bq_102_21 (T0 MI : Nat) (o0 : Option xV) (o1 : Option xV) (r2 : Option Nat) (o3 : Option xV) (o4 : Option xV) (sr0 : Option Nat) (M : xM) : xZ T0 MI 102 21 [o0, o1, some (vr r2), o3, o4] [vr sr0] M = r2.bind fun q_1 => (xgetI M q_1 0 0).bind fun x_2 => sr0.bind fun q_3 => (xput M q_3 6 5 (vi x_2)).bind fun M_4 => sr0.bind fun q_5 => (xput M_4 q_5 6 11 (vr r2)).bind fun M_6 => r2.bind fun q_7 => (xgetI M_6 q_7 0 8).bind fun x_8 => r2.bind fun q_9 => (xput M_6 q_9 0 8 (vi (x_8 + (Int32.ofInt 1)))).bind fun M_10 => some (none, M_10) := (xZ_k T0 MI 15 _ _ _ _ _).trans rfl
-- 103 RangeHouse.postBegin(LRangeHouse$Page;)V
set_option maxRecDepth 100000 in
theorem bq_103_0 (T0 MI : Nat) (th : Nat) (r1 : Option Nat) (o2 : Option xV) (M : xM) : xZ T0 MI 103 0 [some (vr (some th)), some (vr r1), o2] [] M = r1.bind fun q_1 => (xgetI M q_1 7 1).bind fun x_2 => r1.bind fun q_3 => (xgetR M q_3 7 0).bind fun r_4 => r_4.bind fun q_5 => (xgetI M q_5 10 0).bind fun x_6 => r1.bind fun q_7 => (xgetI M q_7 7 3).bind fun x_8 => bif xcls M th 11 then (xZ T0 MI 101 0 [some (vr (some th)), some (vi (Int32.ofInt 3)), some (vi (Int32.ofInt 0)), some (vi x_2), some (vi x_6), some (vi x_8), none] [] M).bind fun z_9 => (xasR z_9.1).bind fun r_10 => xZ T0 MI 103 21 [some (vr (some th)), some (vr r1), o2] [vr r_10] z_9.2 else none := (xZ_k T0 MI 11 _ _ _ _ _).trans rfl
set_option maxRecDepth 100000 in
theorem bq_103_21 (T0 MI : Nat) (o0 : Option xV) (r1 : Option Nat) (o2 : Option xV) (sr0 : Option Nat) (M : xM) : xZ T0 MI 103 21 [o0, some (vr r1), o2] [vr sr0] M = r1.bind fun q_1 => (xgetI M q_1 7 2).bind fun x_2 => sr0.bind fun q_3 => (xput M q_3 6 8 (vi x_2)).bind fun M_4 => some (none, M_4) := (xZ_k T0 MI 6 _ _ _ _ _).trans rfl
-- 104 RangeHouse.postOwed(LRangeHouse$Page;)V
set_option maxRecDepth 100000 in
theorem bq_104_0 (T0 MI : Nat) (th : Nat) (r1 : Option Nat) (M : xM) : xZ T0 MI 104 0 [some (vr (some th)), some (vr r1)] [] M = r1.bind fun q_1 => (xgetI M q_1 7 2).bind fun x_2 => bif xcls M th 11 then (xZ T0 MI 105 0 [some (vr (some th)), some (vr r1), some (vi (Int32.ofInt 1)), some (vi (Int32.ofInt 7)), some (vi x_2)] [] M).bind fun z_3 => bif z_3.1.isNone then xZ T0 MI 104 12 [some (vr (some th)), some (vr r1)] [] z_3.2 else none else none := (xZ_k T0 MI 7 _ _ _ _ _).trans rfl
set_option maxRecDepth 100000 in
theorem bq_104_12 (T0 MI : Nat) (th : Nat) (r1 : Option Nat) (M : xM) : xZ T0 MI 104 12 [some (vr (some th)), some (vr r1)] [] M = r1.bind fun q_1 => (xgetI M q_1 7 1).bind fun x_2 => bif xcls M th 11 then (xZ T0 MI 105 0 [some (vr (some th)), some (vr r1), some (vi (Int32.ofInt 2)), some (vi (Int32.ofInt 9)), some (vi x_2)] [] M).bind fun z_3 => bif z_3.1.isNone then xZ T0 MI 104 24 [some (vr (some th)), some (vr r1)] [] z_3.2 else none else none := (xZ_k T0 MI 7 _ _ _ _ _).trans rfl
set_option maxRecDepth 100000 in
theorem bq_104_24 (T0 MI : Nat) (th : Nat) (r1 : Option Nat) (M : xM) : xZ T0 MI 104 24 [some (vr (some th)), some (vr r1)] [] M = r1.bind fun q_1 => (xgetI M q_1 7 1).bind fun x_2 => bif xcls M th 11 then (xZ T0 MI 105 0 [some (vr (some th)), some (vr r1), some (vi (Int32.ofInt 4)), some (vi (Int32.ofInt 11)), some (vi x_2)] [] M).bind fun z_3 => bif z_3.1.isNone then xZ T0 MI 104 36 [some (vr (some th)), some (vr r1)] [] z_3.2 else none else none := (xZ_k T0 MI 7 _ _ _ _ _).trans rfl
set_option maxRecDepth 100000 in
theorem bq_104_36 (T0 MI : Nat) (th : Nat) (r1 : Option Nat) (M : xM) : xZ T0 MI 104 36 [some (vr (some th)), some (vr r1)] [] M = r1.bind fun q_1 => (xgetI M q_1 7 2).bind fun x_2 => bif xcls M th 11 then (xZ T0 MI 105 0 [some (vr (some th)), some (vr r1), some (vi (Int32.ofInt 8)), some (vi (Int32.ofInt 13)), some (vi x_2)] [] M).bind fun z_3 => bif z_3.1.isNone then xZ T0 MI 104 49 [some (vr (some th)), some (vr r1)] [] z_3.2 else none else none := (xZ_k T0 MI 7 _ _ _ _ _).trans rfl
set_option maxRecDepth 100000 in
theorem bq_104_49 (T0 MI : Nat) (o0 : Option xV) (o1 : Option xV) (M : xM) : xZ T0 MI 104 49 [o0, o1] [] M = some (none, M) := (xZ_k T0 MI 1 _ _ _ _ _).trans rfl
-- 105 RangeHouse.postIfOwed(LRangeHouse$Page;III)V
set_option maxRecDepth 100000 in
theorem bq_105_0 (T0 MI : Nat) (th : Nat) (r1 : Option Nat) (x2 : Int32) (x3 : Int32) (x4 : Int32) (M : xM) : xZ T0 MI 105 0 [some (vr (some th)), some (vr r1), some (vi x2), some (vi x3), some (vi x4)] [] M = r1.bind fun q_1 => (xgetI M q_1 7 5).bind fun x_2 => if (x_2 &&& x2) = 0 then xZ T0 MI 105 29 [some (vr (some th)), some (vr r1), some (vi x2), some (vi x3), some (vi x4)] [] M else xZ T0 MI 105 9 [some (vr (some th)), some (vr r1), some (vi x2), some (vi x3), some (vi x4)] [] M := (xZ_k T0 MI 5 _ _ _ _ _).trans rfl
set_option maxRecDepth 100000 in
theorem bq_105_9 (T0 MI : Nat) (th : Nat) (r1 : Option Nat) (o2 : Option xV) (x3 : Int32) (x4 : Int32) (M : xM) : xZ T0 MI 105 9 [some (vr (some th)), some (vr r1), o2, some (vi x3), some (vi x4)] [] M = r1.bind fun q_1 => (xgetR M q_1 7 0).bind fun r_2 => r_2.bind fun q_3 => (xgetI M q_3 10 0).bind fun x_4 => r1.bind fun q_5 => (xgetI M q_5 7 3).bind fun x_6 => bif xcls M th 11 then (xZ T0 MI 101 0 [some (vr (some th)), some (vi x3), some (vi (Int32.ofInt 0)), some (vi x4), some (vi x_4), some (vi x_6), none] [] M).bind fun z_7 => (xasR z_7.1).bind fun r_8 => xZ T0 MI 105 28 [some (vr (some th)), some (vr r1), o2, some (vi x3), some (vi x4)] [vr r_8] z_7.2 else none := (xZ_k T0 MI 10 _ _ _ _ _).trans rfl
set_option maxRecDepth 100000 in
theorem bq_105_28 (T0 MI : Nat) (o0 : Option xV) (o1 : Option xV) (o2 : Option xV) (o3 : Option xV) (o4 : Option xV) (sr0 : Option Nat) (M : xM) : xZ T0 MI 105 28 [o0, o1, o2, o3, o4] [vr sr0] M = xZ T0 MI 105 29 [o0, o1, o2, o3, o4] [] M := (xZ_k T0 MI 1 _ _ _ _ _).trans rfl
set_option maxRecDepth 100000 in
theorem bq_105_29 (T0 MI : Nat) (o0 : Option xV) (o1 : Option xV) (o2 : Option xV) (o3 : Option xV) (o4 : Option xV) (M : xM) : xZ T0 MI 105 29 [o0, o1, o2, o3, o4] [] M = some (none, M) := (xZ_k T0 MI 1 _ _ _ _ _).trans rfl
-- 106 RangeHouse.countBookLetters()I
set_option maxRecDepth 100000 in
theorem bq_106_0 (T0 MI : Nat) (th : Nat) (o1 : Option xV) (o2 : Option xV) (o3 : Option xV) (M : xM) : xZ T0 MI 106 0 [some (vr (some th)), o1, o2, o3] [] M = xZ T0 MI 106 4 [some (vr (some th)), some (vi (Int32.ofInt 0)), some (vi (Int32.ofInt 0)), o3] [] M := (xZ_k T0 MI 4 _ _ _ _ _).trans rfl
set_option maxRecDepth 100000 in
theorem bq_106_4 (T0 MI : Nat) (th : Nat) (x1 : Int32) (x2 : Int32) (o3 : Option xV) (M : xM) : xZ T0 MI 106 4 [some (vr (some th)), some (vi x1), some (vi x2), o3] [] M = (xgetI M th 11 6).bind fun x_1 => if x_1 ≤ x2 then xZ T0 MI 106 52 [some (vr (some th)), some (vi x1), some (vi x2), o3] [] M else xZ T0 MI 106 12 [some (vr (some th)), some (vi x1), some (vi x2), o3] [] M := (xZ_k T0 MI 4 _ _ _ _ _).trans rfl
set_option maxRecDepth 100000 in
theorem bq_106_12 (T0 MI : Nat) (th : Nat) (x1 : Int32) (x2 : Int32) (o3 : Option xV) (M : xM) : xZ T0 MI 106 12 [some (vr (some th)), some (vi x1), some (vi x2), o3] [] M = (xgetR M th 11 1).bind fun r_1 => r_1.bind fun q_2 => (xaR M q_2 x2).bind fun r_3 => bif r_3.isNone then xZ T0 MI 106 46 [some (vr (some th)), some (vi x1), some (vi x2), some (vr r_3)] [] M else xZ T0 MI 106 23 [some (vr (some th)), some (vi x1), some (vi x2), some (vr r_3)] [] M := (xZ_k T0 MI 7 _ _ _ _ _).trans rfl
set_option maxRecDepth 100000 in
theorem bq_106_23 (T0 MI : Nat) (th : Nat) (x1 : Int32) (x2 : Int32) (r3 : Option Nat) (M : xM) : xZ T0 MI 106 23 [some (vr (some th)), some (vi x1), some (vi x2), some (vr r3)] [] M = r3.bind fun q_1 => (xgetI M q_1 7 5).bind fun x_2 => (xZ T0 MI 198 0 [some (vi x_2)] [] M).bind fun z_3 => (xasI z_3.1).bind fun x_4 => xZ T0 MI 106 31 [some (vr (some th)), some (vi x1), some (vi x2), some (vr r3)] [vi x_4, vi x1] z_3.2 := (xZ_k T0 MI 4 _ _ _ _ _).trans rfl
set_option maxRecDepth 100000 in
theorem bq_106_31 (T0 MI : Nat) (th : Nat) (o1 : Option xV) (x2 : Int32) (r3 : Option Nat) (sx0 : Int32) (sx1 : Int32) (M : xM) : xZ T0 MI 106 31 [some (vr (some th)), o1, some (vi x2), some (vr r3)] [vi sx0, vi sx1] M = r3.bind fun q_1 => (xgetI M q_1 7 4).bind fun x_2 => if x_2 = 0 then xZ T0 MI 106 42 [some (vr (some th)), o1, some (vi x2), some (vr r3)] [vi sx0, vi sx1] M else xZ T0 MI 106 38 [some (vr (some th)), o1, some (vi x2), some (vr r3)] [vi sx0, vi sx1] M := (xZ_k T0 MI 3 _ _ _ _ _).trans rfl
set_option maxRecDepth 100000 in
theorem bq_106_38 (T0 MI : Nat) (th : Nat) (o1 : Option xV) (x2 : Int32) (o3 : Option xV) (sx0 : Int32) (sx1 : Int32) (M : xM) : xZ T0 MI 106 38 [some (vr (some th)), o1, some (vi x2), o3] [vi sx0, vi sx1] M = xZ T0 MI 106 43 [some (vr (some th)), o1, some (vi x2), o3] [vi (Int32.ofInt 1), vi sx0, vi sx1] M := (xZ_k T0 MI 2 _ _ _ _ _).trans rfl
set_option maxRecDepth 100000 in
theorem bq_106_42 (T0 MI : Nat) (th : Nat) (o1 : Option xV) (x2 : Int32) (o3 : Option xV) (sx0 : Int32) (sx1 : Int32) (M : xM) : xZ T0 MI 106 42 [some (vr (some th)), o1, some (vi x2), o3] [vi sx0, vi sx1] M = xZ T0 MI 106 43 [some (vr (some th)), o1, some (vi x2), o3] [vi (Int32.ofInt 0), vi sx0, vi sx1] M := (xZ_k T0 MI 1 _ _ _ _ _).trans rfl
set_option maxRecDepth 100000 in
theorem bq_106_43 (T0 MI : Nat) (th : Nat) (o1 : Option xV) (x2 : Int32) (o3 : Option xV) (sx0 : Int32) (sx1 : Int32) (sx2 : Int32) (M : xM) : xZ T0 MI 106 43 [some (vr (some th)), o1, some (vi x2), o3] [vi sx0, vi sx1, vi sx2] M = xZ T0 MI 106 46 [some (vr (some th)), some (vi (sx2 + (sx1 + sx0))), some (vi x2), o3] [] M := (xZ_k T0 MI 3 _ _ _ _ _).trans rfl
set_option maxRecDepth 100000 in
theorem bq_106_46 (T0 MI : Nat) (th : Nat) (x1 : Int32) (x2 : Int32) (o3 : Option xV) (M : xM) : xZ T0 MI 106 46 [some (vr (some th)), some (vi x1), some (vi x2), o3] [] M = xZ T0 MI 106 4 [some (vr (some th)), some (vi x1), some (vi (x2 + Int32.ofInt 1)), o3] [] M := (xZ_k T0 MI 2 _ _ _ _ _).trans rfl
set_option maxRecDepth 100000 in
theorem bq_106_52 (T0 MI : Nat) (o0 : Option xV) (x1 : Int32) (o2 : Option xV) (o3 : Option xV) (M : xM) : xZ T0 MI 106 52 [o0, some (vi x1), o2, o3] [] M = some (some (vi x1), M) := (xZ_k T0 MI 2 _ _ _ _ _).trans rfl
-- 107 RangeHouse.postBook()V
set_option maxRecDepth 100000 in
theorem bq_107_0 (T0 MI : Nat) (th : Nat) (o1 : Option xV) (o2 : Option xV) (M : xM) : xZ T0 MI 107 0 [some (vr (some th)), o1, o2] [] M = xZ T0 MI 107 2 [some (vr (some th)), some (vi (Int32.ofInt 0)), o2] [] M := (xZ_k T0 MI 2 _ _ _ _ _).trans rfl
set_option maxRecDepth 100000 in
theorem bq_107_2 (T0 MI : Nat) (th : Nat) (x1 : Int32) (o2 : Option xV) (M : xM) : xZ T0 MI 107 2 [some (vr (some th)), some (vi x1), o2] [] M = (xgetI M th 11 6).bind fun x_1 => if x_1 ≤ x1 then xZ T0 MI 107 47 [some (vr (some th)), some (vi x1), o2] [] M else xZ T0 MI 107 10 [some (vr (some th)), some (vi x1), o2] [] M := (xZ_k T0 MI 4 _ _ _ _ _).trans rfl
set_option maxRecDepth 100000 in
theorem bq_107_10 (T0 MI : Nat) (th : Nat) (x1 : Int32) (o2 : Option xV) (M : xM) : xZ T0 MI 107 10 [some (vr (some th)), some (vi x1), o2] [] M = (xgetR M th 11 1).bind fun r_1 => r_1.bind fun q_2 => (xaR M q_2 x1).bind fun r_3 => bif r_3.isNone then xZ T0 MI 107 21 [some (vr (some th)), some (vi x1), some (vr r_3)] [] M else xZ T0 MI 107 24 [some (vr (some th)), some (vi x1), some (vr r_3)] [] M := (xZ_k T0 MI 7 _ _ _ _ _).trans rfl
set_option maxRecDepth 100000 in
theorem bq_107_21 (T0 MI : Nat) (th : Nat) (x1 : Int32) (o2 : Option xV) (M : xM) : xZ T0 MI 107 21 [some (vr (some th)), some (vi x1), o2] [] M = xZ T0 MI 107 41 [some (vr (some th)), some (vi x1), o2] [] M := (xZ_k T0 MI 1 _ _ _ _ _).trans rfl
set_option maxRecDepth 100000 in
theorem bq_107_24 (T0 MI : Nat) (th : Nat) (x1 : Int32) (r2 : Option Nat) (M : xM) : xZ T0 MI 107 24 [some (vr (some th)), some (vi x1), some (vr r2)] [] M = r2.bind fun q_1 => (xgetI M q_1 7 4).bind fun x_2 => if x_2 = 0 then xZ T0 MI 107 36 [some (vr (some th)), some (vi x1), some (vr r2)] [] M else xZ T0 MI 107 31 [some (vr (some th)), some (vi x1), some (vr r2)] [] M := (xZ_k T0 MI 3 _ _ _ _ _).trans rfl
set_option maxRecDepth 100000 in
theorem bq_107_31 (T0 MI : Nat) (th : Nat) (x1 : Int32) (r2 : Option Nat) (M : xM) : xZ T0 MI 107 31 [some (vr (some th)), some (vi x1), some (vr r2)] [] M = bif xcls M th 11 then (xZ T0 MI 103 0 [some (vr (some th)), some (vr r2), none] [] M).bind fun z_1 => bif z_1.1.isNone then xZ T0 MI 107 36 [some (vr (some th)), some (vi x1), some (vr r2)] [] z_1.2 else none else none := (xZ_k T0 MI 3 _ _ _ _ _).trans rfl
set_option maxRecDepth 100000 in
theorem bq_107_36 (T0 MI : Nat) (th : Nat) (x1 : Int32) (r2 : Option Nat) (M : xM) : xZ T0 MI 107 36 [some (vr (some th)), some (vi x1), some (vr r2)] [] M = bif xcls M th 11 then (xZ T0 MI 104 0 [some (vr (some th)), some (vr r2)] [] M).bind fun z_1 => bif z_1.1.isNone then xZ T0 MI 107 41 [some (vr (some th)), some (vi x1), some (vr r2)] [] z_1.2 else none else none := (xZ_k T0 MI 3 _ _ _ _ _).trans rfl
set_option maxRecDepth 100000 in
theorem bq_107_41 (T0 MI : Nat) (th : Nat) (x1 : Int32) (o2 : Option xV) (M : xM) : xZ T0 MI 107 41 [some (vr (some th)), some (vi x1), o2] [] M = xZ T0 MI 107 2 [some (vr (some th)), some (vi (x1 + Int32.ofInt 1)), o2] [] M := (xZ_k T0 MI 2 _ _ _ _ _).trans rfl
set_option maxRecDepth 100000 in
theorem bq_107_47 (T0 MI : Nat) (o0 : Option xV) (o1 : Option xV) (o2 : Option xV) (M : xM) : xZ T0 MI 107 47 [o0, o1, o2] [] M = some (none, M) := (xZ_k T0 MI 1 _ _ _ _ _).trans rfl
-- 108 RangeHouse.giveOn(LRangeHouse$Host;I)V
set_option maxRecDepth 100000 in
theorem bq_108_0 (T0 MI : Nat) (th : Nat) (r1 : Option Nat) (x2 : Int32) (o3 : Option xV) (o4 : Option xV) (M : xM) : xZ T0 MI 108 0 [some (vr (some th)), some (vr r1), some (vi x2), o3, o4] [] M = r1.bind fun q_1 => bif xcls M q_1 3 then (xZ T0 MI 27 0 [some (vr (some q_1)), some (vi x2)] [] M).bind fun z_2 => (xasR z_2.1).bind fun r_3 => xZ T0 MI 108 5 [some (vr (some th)), some (vr r1), some (vi x2), o3, o4] [vr r_3] z_2.2 else none := (xZ_k T0 MI 3 _ _ _ _ _).trans rfl
set_option maxRecDepth 100000 in
theorem bq_108_5 (T0 MI : Nat) (th : Nat) (r1 : Option Nat) (x2 : Int32) (o3 : Option xV) (o4 : Option xV) (sr0 : Option Nat) (M : xM) : xZ T0 MI 108 5 [some (vr (some th)), some (vr r1), some (vi x2), o3, o4] [vr sr0] M = bif sr0.isNone then xZ T0 MI 108 17 [some (vr (some th)), some (vr r1), some (vi x2), some (vr sr0), o4] [] M else xZ T0 MI 108 10 [some (vr (some th)), some (vr r1), some (vi x2), some (vr sr0), o4] [] M := (xZ_k T0 MI 3 _ _ _ _ _).trans rfl
set_option maxRecDepth 100000 in
theorem bq_108_10 (T0 MI : Nat) (th : Nat) (r1 : Option Nat) (x2 : Int32) (r3 : Option Nat) (o4 : Option xV) (M : xM) : xZ T0 MI 108 10 [some (vr (some th)), some (vr r1), some (vi x2), some (vr r3), o4] [] M = r3.bind fun q_1 => bif xcls M q_1 2 then (xZ T0 MI 9 0 [some (vr (some q_1))] [] M).bind fun z_2 => (xasI z_2.1).bind fun x_3 => xZ T0 MI 108 14 [some (vr (some th)), some (vr r1), some (vi x2), some (vr r3), o4] [vi x_3] z_2.2 else none := (xZ_k T0 MI 2 _ _ _ _ _).trans rfl
set_option maxRecDepth 100000 in
theorem bq_108_14 (T0 MI : Nat) (th : Nat) (r1 : Option Nat) (x2 : Int32) (r3 : Option Nat) (o4 : Option xV) (sx0 : Int32) (M : xM) : xZ T0 MI 108 14 [some (vr (some th)), some (vr r1), some (vi x2), some (vr r3), o4] [vi sx0] M = if sx0 = 0 then xZ T0 MI 108 17 [some (vr (some th)), some (vr r1), some (vi x2), some (vr r3), o4] [] M else xZ T0 MI 108 18 [some (vr (some th)), some (vr r1), some (vi x2), some (vr r3), o4] [] M := (xZ_k T0 MI 1 _ _ _ _ _).trans rfl
set_option maxRecDepth 100000 in
theorem bq_108_17 (T0 MI : Nat) (o0 : Option xV) (o1 : Option xV) (o2 : Option xV) (o3 : Option xV) (o4 : Option xV) (M : xM) : xZ T0 MI 108 17 [o0, o1, o2, o3, o4] [] M = some (none, M) := (xZ_k T0 MI 1 _ _ _ _ _).trans rfl
set_option maxRecDepth 100000 in
theorem bq_108_18 (T0 MI : Nat) (th : Nat) (r1 : Option Nat) (x2 : Int32) (r3 : Option Nat) (o4 : Option xV) (M : xM) : xZ T0 MI 108 18 [some (vr (some th)), some (vr r1), some (vi x2), some (vr r3), o4] [] M = r3.bind fun q_1 => (xgetI M q_1 2 12).bind fun x_2 => if x_2 = 0 then xZ T0 MI 108 43 [some (vr (some th)), some (vr r1), some (vi x2), some (vr r3), o4] [] M else xZ T0 MI 108 25 [some (vr (some th)), some (vr r1), some (vi x2), some (vr r3), o4] [] M := (xZ_k T0 MI 3 _ _ _ _ _).trans rfl
set_option maxRecDepth 100000 in
theorem bq_108_25 (T0 MI : Nat) (th : Nat) (r1 : Option Nat) (x2 : Int32) (r3 : Option Nat) (o4 : Option xV) (M : xM) : xZ T0 MI 108 25 [some (vr (some th)), some (vr r1), some (vi x2), some (vr r3), o4] [] M = r1.bind fun q_1 => (xgetI M q_1 3 0).bind fun x_2 => r3.bind fun q_3 => bif xcls M q_3 2 then (xZ T0 MI 12 0 [some (vr (some q_3))] [] M).bind fun z_4 => (xasI z_4.1).bind fun x_5 => xZ T0 MI 108 38 [some (vr (some th)), some (vr r1), some (vi x2), some (vr r3), o4] [vi x_5, vi x2, vi (Int32.ofInt 0), vi x_2, vi (Int32.ofInt 6), vr (some th)] z_4.2 else none := (xZ_k T0 MI 8 _ _ _ _ _).trans rfl
set_option maxRecDepth 100000 in
theorem bq_108_38 (T0 MI : Nat) (o0 : Option xV) (o1 : Option xV) (o2 : Option xV) (o3 : Option xV) (o4 : Option xV) (sx0 : Int32) (sx1 : Int32) (sx2 : Int32) (sx3 : Int32) (sx4 : Int32) (ts5 : Nat) (M : xM) : xZ T0 MI 108 38 [o0, o1, o2, o3, o4] [vi sx0, vi sx1, vi sx2, vi sx3, vi sx4, vr (some ts5)] M = bif xcls M ts5 11 then (xZ T0 MI 101 0 [some (vr (some ts5)), some (vi sx4), some (vi sx3), some (vi sx2), some (vi sx1), some (vi sx0), none] [] M).bind fun z_1 => (xasR z_1.1).bind fun r_2 => xZ T0 MI 108 41 [o0, o1, o2, o3, o4] [vr r_2] z_1.2 else none := (xZ_k T0 MI 1 _ _ _ _ _).trans rfl
set_option maxRecDepth 100000 in
theorem bq_108_41 (T0 MI : Nat) (o0 : Option xV) (o1 : Option xV) (o2 : Option xV) (o3 : Option xV) (o4 : Option xV) (sr0 : Option Nat) (M : xM) : xZ T0 MI 108 41 [o0, o1, o2, o3, o4] [vr sr0] M = some (none, M) := (xZ_k T0 MI 2 _ _ _ _ _).trans rfl
set_option maxRecDepth 100000 in
theorem bq_108_43 (T0 MI : Nat) (th : Nat) (r1 : Option Nat) (x2 : Int32) (r3 : Option Nat) (o4 : Option xV) (M : xM) : xZ T0 MI 108 43 [some (vr (some th)), some (vr r1), some (vi x2), some (vr r3), o4] [] M = r3.bind fun q_1 => (xgetR M q_1 2 11).bind fun r_2 => bif r_2.isNone then xZ T0 MI 108 50 [some (vr (some th)), some (vr r1), some (vi x2), some (vr r3), o4] [] M else xZ T0 MI 108 54 [some (vr (some th)), some (vr r1), some (vi x2), some (vr r3), o4] [] M := (xZ_k T0 MI 3 _ _ _ _ _).trans rfl
set_option maxRecDepth 100000 in
theorem bq_108_50 (T0 MI : Nat) (th : Nat) (r1 : Option Nat) (x2 : Int32) (r3 : Option Nat) (o4 : Option xV) (M : xM) : xZ T0 MI 108 50 [some (vr (some th)), some (vr r1), some (vi x2), some (vr r3), o4] [] M = r3.bind fun q_1 => bif xcls M q_1 2 then (xZ T0 MI 20 0 [some (vr (some q_1)), none] [] M).bind fun z_2 => bif z_2.1.isNone then xZ T0 MI 108 54 [some (vr (some th)), some (vr r1), some (vi x2), some (vr r3), o4] [] z_2.2 else none else none := (xZ_k T0 MI 2 _ _ _ _ _).trans rfl
set_option maxRecDepth 100000 in
theorem bq_108_54 (T0 MI : Nat) (th : Nat) (r1 : Option Nat) (x2 : Int32) (r3 : Option Nat) (o4 : Option xV) (M : xM) : xZ T0 MI 108 54 [some (vr (some th)), some (vr r1), some (vi x2), some (vr r3), o4] [] M = r1.bind fun q_1 => (xgetI M q_1 3 0).bind fun x_2 => r3.bind fun q_3 => (xgetI M q_3 2 8).bind fun x_4 => r3.bind fun q_5 => bif xcls M q_5 2 then (xZ T0 MI 12 0 [some (vr (some q_5))] [] M).bind fun z_6 => (xasI z_6.1).bind fun x_7 => xZ T0 MI 108 69 [some (vr (some th)), some (vr r1), some (vi x2), some (vr r3), o4] [vi x_7, vi x2, vi x_4, vi x_2, vi (Int32.ofInt 4), vr (some th)] z_6.2 else none := (xZ_k T0 MI 9 _ _ _ _ _).trans rfl
set_option maxRecDepth 100000 in
theorem bq_108_69 (T0 MI : Nat) (o0 : Option xV) (o1 : Option xV) (o2 : Option xV) (r3 : Option Nat) (o4 : Option xV) (sx0 : Int32) (sx1 : Int32) (sx2 : Int32) (sx3 : Int32) (sx4 : Int32) (ts5 : Nat) (M : xM) : xZ T0 MI 108 69 [o0, o1, o2, some (vr r3), o4] [vi sx0, vi sx1, vi sx2, vi sx3, vi sx4, vr (some ts5)] M = bif xcls M ts5 11 then (xZ T0 MI 101 0 [some (vr (some ts5)), some (vi sx4), some (vi sx3), some (vi sx2), some (vi sx1), some (vi sx0), none] [] M).bind fun z_1 => (xasR z_1.1).bind fun r_2 => xZ T0 MI 108 72 [o0, o1, o2, some (vr r3), o4] [vr r_2] z_1.2 else none := (xZ_k T0 MI 1 _ _ _ _ _).trans rfl
set_option maxRecDepth 100000 in
theorem bq_108_72 (T0 MI : Nat) (o0 : Option xV) (o1 : Option xV) (o2 : Option xV) (r3 : Option Nat) (o4 : Option xV) (sr0 : Option Nat) (M : xM) : xZ T0 MI 108 72 [o0, o1, o2, some (vr r3), o4] [vr sr0] M = r3.bind fun q_1 => (xgetI M q_1 2 9).bind fun x_2 => sr0.bind fun q_3 => (xput M q_3 6 6 (vi x_2)).bind fun M_4 => r3.bind fun q_5 => (xgetI M_4 q_5 2 10).bind fun x_6 => sr0.bind fun q_7 => (xput M_4 q_7 6 7 (vi x_6)).bind fun M_8 => r3.bind fun q_9 => (xgetR M_8 q_9 2 11).bind fun r_10 => sr0.bind fun q_11 => (xput M_8 q_11 6 13 (vr r_10)).bind fun M_12 => some (none, M_12) := (xZ_k T0 MI 14 _ _ _ _ _).trans rfl
-- 109 RangeHouse.hearBack(LRangeHouse$Letter;)V
set_option maxRecDepth 100000 in
theorem bq_109_0 (T0 MI : Nat) (th : Nat) (r1 : Option Nat) (o2 : Option xV) (o3 : Option xV) (M : xM) : xZ T0 MI 109 0 [some (vr (some th)), some (vr r1), o2, o3] [] M = r1.bind fun q_1 => (xgetI M q_1 6 2).bind fun x_2 => bif xcls M th 11 then (xZ T0 MI 90 0 [some (vr (some th)), some (vi x_2)] [] M).bind fun z_3 => (xasR z_3.1).bind fun r_4 => xZ T0 MI 109 8 [some (vr (some th)), some (vr r1), o2, o3] [vr r_4] z_3.2 else none := (xZ_k T0 MI 4 _ _ _ _ _).trans rfl
set_option maxRecDepth 100000 in
theorem bq_109_8 (T0 MI : Nat) (o0 : Option xV) (r1 : Option Nat) (o2 : Option xV) (o3 : Option xV) (sr0 : Option Nat) (M : xM) : xZ T0 MI 109 8 [o0, some (vr r1), o2, o3] [vr sr0] M = bif sr0.isNone then xZ T0 MI 109 13 [o0, some (vr r1), some (vr sr0), o3] [] M else xZ T0 MI 109 14 [o0, some (vr r1), some (vr sr0), o3] [] M := (xZ_k T0 MI 3 _ _ _ _ _).trans rfl
set_option maxRecDepth 100000 in
theorem bq_109_13 (T0 MI : Nat) (o0 : Option xV) (o1 : Option xV) (o2 : Option xV) (o3 : Option xV) (M : xM) : xZ T0 MI 109 13 [o0, o1, o2, o3] [] M = some (none, M) := (xZ_k T0 MI 1 _ _ _ _ _).trans rfl
set_option maxRecDepth 100000 in
theorem bq_109_14 (T0 MI : Nat) (o0 : Option xV) (r1 : Option Nat) (r2 : Option Nat) (o3 : Option xV) (M : xM) : xZ T0 MI 109 14 [o0, some (vr r1), some (vr r2), o3] [] M = r1.bind fun q_1 => (xgetI M q_1 6 0).bind fun x_2 => if x_2 = (Int32.ofInt 2) then xZ T0 MI 109 22 [o0, some (vr r1), some (vr r2), o3] [] M else xZ T0 MI 109 38 [o0, some (vr r1), some (vr r2), o3] [] M := (xZ_k T0 MI 4 _ _ _ _ _).trans rfl
set_option maxRecDepth 100000 in
theorem bq_109_22 (T0 MI : Nat) (o0 : Option xV) (r1 : Option Nat) (r2 : Option Nat) (o3 : Option xV) (M : xM) : xZ T0 MI 109 22 [o0, some (vr r1), some (vr r2), o3] [] M = r1.bind fun q_1 => (xgetR M q_1 6 12).bind fun r_2 => bif r_2.isNone then xZ T0 MI 109 37 [o0, some (vr r1), some (vr r2), o3] [] M else xZ T0 MI 109 29 [o0, some (vr r1), some (vr r2), o3] [] M := (xZ_k T0 MI 3 _ _ _ _ _).trans rfl
set_option maxRecDepth 100000 in
theorem bq_109_29 (T0 MI : Nat) (o0 : Option xV) (r1 : Option Nat) (r2 : Option Nat) (o3 : Option xV) (M : xM) : xZ T0 MI 109 29 [o0, some (vr r1), some (vr r2), o3] [] M = r1.bind fun q_1 => (xgetR M q_1 6 12).bind fun r_2 => r2.bind fun q_3 => bif xcls M q_3 1 then (xZ T0 MI 5 0 [some (vr (some q_3)), some (vr r_2), none, none] [] M).bind fun z_4 => bif z_4.1.isNone then xZ T0 MI 109 37 [o0, some (vr r1), some (vr r2), o3] [] z_4.2 else none else none := (xZ_k T0 MI 4 _ _ _ _ _).trans rfl
set_option maxRecDepth 100000 in
theorem bq_109_37 (T0 MI : Nat) (o0 : Option xV) (o1 : Option xV) (o2 : Option xV) (o3 : Option xV) (M : xM) : xZ T0 MI 109 37 [o0, o1, o2, o3] [] M = some (none, M) := (xZ_k T0 MI 1 _ _ _ _ _).trans rfl
set_option maxRecDepth 100000 in
theorem bq_109_38 (T0 MI : Nat) (o0 : Option xV) (r1 : Option Nat) (r2 : Option Nat) (o3 : Option xV) (M : xM) : xZ T0 MI 109 38 [o0, some (vr r1), some (vr r2), o3] [] M = r1.bind fun q_1 => (xgetI M q_1 6 5).bind fun x_2 => r2.bind fun q_3 => bif xcls M q_3 1 then (xZ T0 MI 3 0 [some (vr (some q_3)), some (vi x_2)] [] M).bind fun z_4 => (xasR z_4.1).bind fun r_5 => xZ T0 MI 109 46 [o0, some (vr r1), some (vr r2), o3] [vr r_5] z_4.2 else none := (xZ_k T0 MI 4 _ _ _ _ _).trans rfl
set_option maxRecDepth 100000 in
theorem bq_109_46 (T0 MI : Nat) (o0 : Option xV) (r1 : Option Nat) (o2 : Option xV) (o3 : Option xV) (sr0 : Option Nat) (M : xM) : xZ T0 MI 109 46 [o0, some (vr r1), o2, o3] [vr sr0] M = bif sr0.isNone then xZ T0 MI 109 63 [o0, some (vr r1), xinv o2, some (vr sr0)] [] M else xZ T0 MI 109 51 [o0, some (vr r1), xinv o2, some (vr sr0)] [] M := (xZ_k T0 MI 3 _ _ _ _ _).trans rfl
set_option maxRecDepth 100000 in
theorem bq_109_51 (T0 MI : Nat) (o0 : Option xV) (r1 : Option Nat) (o2 : Option xV) (r3 : Option Nat) (M : xM) : xZ T0 MI 109 51 [o0, some (vr r1), o2, some (vr r3)] [] M = r1.bind fun q_1 => (xgetL M q_1 6 9).bind fun y_2 => r1.bind fun q_3 => (xgetI M q_3 6 10).bind fun x_4 => r3.bind fun q_5 => bif xcls M q_5 0 then (xZ T0 MI 1 0 [some (vr (some q_5)), some (vl y_2), none, some (vi x_4)] [] M).bind fun z_6 => bif z_6.1.isNone then xZ T0 MI 109 63 [o0, some (vr r1), o2, some (vr r3)] [] z_6.2 else none else none := (xZ_k T0 MI 6 _ _ _ _ _).trans rfl
set_option maxRecDepth 100000 in
theorem bq_109_63 (T0 MI : Nat) (o0 : Option xV) (o1 : Option xV) (o2 : Option xV) (o3 : Option xV) (M : xM) : xZ T0 MI 109 63 [o0, o1, o2, o3] [] M = some (none, M) := (xZ_k T0 MI 1 _ _ _ _ _).trans rfl
-- 110 RangeHouse.takeCall(LRangeHouse$Host;LRangeHouse$Letter;)V
set_option maxRecDepth 100000 in
theorem bq_110_0 (T0 MI : Nat) (th : Nat) (r1 : Option Nat) (r2 : Option Nat) (o3 : Option xV) (o4 : Option xV) (o5 : Option xV) (o6 : Option xV) (M : xM) : xZ T0 MI 110 0 [some (vr (some th)), some (vr r1), some (vr r2), o3, o4, o5, o6] [] M = r2.bind fun q_1 => (xgetR M q_1 6 11).bind fun r_2 => bif r_2.isNone then xZ T0 MI 110 9 [some (vr (some th)), some (vr r1), some (vr r2), some (vr r_2), o4, o5, o6] [] M else xZ T0 MI 110 10 [some (vr (some th)), some (vr r1), some (vr r2), some (vr r_2), o4, o5, o6] [] M := (xZ_k T0 MI 5 _ _ _ _ _).trans rfl
set_option maxRecDepth 100000 in
theorem bq_110_9 (T0 MI : Nat) (o0 : Option xV) (o1 : Option xV) (o2 : Option xV) (o3 : Option xV) (o4 : Option xV) (o5 : Option xV) (o6 : Option xV) (M : xM) : xZ T0 MI 110 9 [o0, o1, o2, o3, o4, o5, o6] [] M = some (none, M) := (xZ_k T0 MI 1 _ _ _ _ _).trans rfl
set_option maxRecDepth 100000 in
theorem bq_110_10 (T0 MI : Nat) (th : Nat) (r1 : Option Nat) (r2 : Option Nat) (r3 : Option Nat) (o4 : Option xV) (o5 : Option xV) (o6 : Option xV) (M : xM) : xZ T0 MI 110 10 [some (vr (some th)), some (vr r1), some (vr r2), some (vr r3), o4, o5, o6] [] M = r2.bind fun q_1 => (xgetI M q_1 6 3).bind fun x_2 => r1.bind fun q_3 => bif xcls M q_3 3 then (xZ T0 MI 27 0 [some (vr (some q_3)), some (vi x_2)] [] M).bind fun z_4 => (xasR z_4.1).bind fun r_5 => xZ T0 MI 110 18 [some (vr (some th)), some (vr r1), some (vr r2), some (vr r3), o4, o5, o6] [vr r_5] z_4.2 else none := (xZ_k T0 MI 4 _ _ _ _ _).trans rfl
set_option maxRecDepth 100000 in
theorem bq_110_18 (T0 MI : Nat) (th : Nat) (r1 : Option Nat) (r2 : Option Nat) (r3 : Option Nat) (o4 : Option xV) (o5 : Option xV) (o6 : Option xV) (sr0 : Option Nat) (M : xM) : xZ T0 MI 110 18 [some (vr (some th)), some (vr r1), some (vr r2), some (vr r3), o4, o5, o6] [vr sr0] M = bif sr0.isNone then xZ T0 MI 110 54 [some (vr (some th)), some (vr r1), some (vr r2), some (vr r3), some (vr sr0), o5, o6] [] M else xZ T0 MI 110 25 [some (vr (some th)), some (vr r1), some (vr r2), some (vr r3), some (vr sr0), o5, o6] [] M := (xZ_k T0 MI 3 _ _ _ _ _).trans rfl
set_option maxRecDepth 100000 in
theorem bq_110_25 (T0 MI : Nat) (th : Nat) (r1 : Option Nat) (r2 : Option Nat) (r3 : Option Nat) (r4 : Option Nat) (o5 : Option xV) (o6 : Option xV) (M : xM) : xZ T0 MI 110 25 [some (vr (some th)), some (vr r1), some (vr r2), some (vr r3), some (vr r4), o5, o6] [] M = r4.bind fun q_1 => bif xcls M q_1 2 then (xZ T0 MI 8 0 [some (vr (some q_1))] [] M).bind fun z_2 => (xasI z_2.1).bind fun x_3 => xZ T0 MI 110 30 [some (vr (some th)), some (vr r1), some (vr r2), some (vr r3), some (vr r4), o5, o6] [vi x_3] z_2.2 else none := (xZ_k T0 MI 2 _ _ _ _ _).trans rfl
set_option maxRecDepth 100000 in
theorem bq_110_30 (T0 MI : Nat) (th : Nat) (r1 : Option Nat) (r2 : Option Nat) (r3 : Option Nat) (r4 : Option Nat) (o5 : Option xV) (o6 : Option xV) (sx0 : Int32) (M : xM) : xZ T0 MI 110 30 [some (vr (some th)), some (vr r1), some (vr r2), some (vr r3), some (vr r4), o5, o6] [vi sx0] M = if sx0 = 0 then xZ T0 MI 110 54 [some (vr (some th)), some (vr r1), some (vr r2), some (vr r3), some (vr r4), o5, o6] [] M else xZ T0 MI 110 33 [some (vr (some th)), some (vr r1), some (vr r2), some (vr r3), some (vr r4), o5, o6] [] M := (xZ_k T0 MI 1 _ _ _ _ _).trans rfl
set_option maxRecDepth 100000 in
theorem bq_110_33 (T0 MI : Nat) (th : Nat) (r1 : Option Nat) (r2 : Option Nat) (r3 : Option Nat) (r4 : Option Nat) (o5 : Option xV) (o6 : Option xV) (M : xM) : xZ T0 MI 110 33 [some (vr (some th)), some (vr r1), some (vr r2), some (vr r3), some (vr r4), o5, o6] [] M = r4.bind fun q_1 => (xgetI M q_1 2 3).bind fun x_2 => r2.bind fun q_3 => (xgetI M q_3 6 4).bind fun x_4 => if x_2 = x_4 then xZ T0 MI 110 45 [some (vr (some th)), some (vr r1), some (vr r2), some (vr r3), some (vr r4), o5, o6] [] M else xZ T0 MI 110 54 [some (vr (some th)), some (vr r1), some (vr r2), some (vr r3), some (vr r4), o5, o6] [] M := (xZ_k T0 MI 5 _ _ _ _ _).trans rfl
set_option maxRecDepth 100000 in
theorem bq_110_45 (T0 MI : Nat) (th : Nat) (o1 : Option xV) (r2 : Option Nat) (r3 : Option Nat) (r4 : Option Nat) (o5 : Option xV) (o6 : Option xV) (M : xM) : xZ T0 MI 110 45 [some (vr (some th)), o1, some (vr r2), some (vr r3), some (vr r4), o5, o6] [] M = bif xcls M th 11 then (xZ T0 MI 111 0 [some (vr (some th)), some (vr r4), some (vr r2), some (vr r3), none, none] [] M).bind fun z_1 => bif z_1.1.isNone then xZ T0 MI 110 53 [some (vr (some th)), o1, some (vr r2), some (vr r3), some (vr r4), o5, o6] [] z_1.2 else none else none := (xZ_k T0 MI 5 _ _ _ _ _).trans rfl
set_option maxRecDepth 100000 in
theorem bq_110_53 (T0 MI : Nat) (o0 : Option xV) (o1 : Option xV) (o2 : Option xV) (o3 : Option xV) (o4 : Option xV) (o5 : Option xV) (o6 : Option xV) (M : xM) : xZ T0 MI 110 53 [o0, o1, o2, o3, o4, o5, o6] [] M = some (none, M) := (xZ_k T0 MI 1 _ _ _ _ _).trans rfl
set_option maxRecDepth 100000 in
theorem bq_110_54 (T0 MI : Nat) (th : Nat) (r1 : Option Nat) (r2 : Option Nat) (r3 : Option Nat) (o4 : Option xV) (o5 : Option xV) (o6 : Option xV) (M : xM) : xZ T0 MI 110 54 [some (vr (some th)), some (vr r1), some (vr r2), some (vr r3), o4, o5, o6] [] M = r3.bind fun q_1 => (xgetI M q_1 0 2).bind fun x_2 => r1.bind fun q_3 => bif xcls M q_3 3 then (xZ T0 MI 29 0 [some (vr (some q_3)), some (vi x_2), none, none] [] M).bind fun z_4 => (xasR z_4.1).bind fun r_5 => xZ T0 MI 110 62 [some (vr (some th)), some (vr r1), some (vr r2), some (vr r3), o4, o5, o6] [vr r_5] z_4.2 else none := (xZ_k T0 MI 4 _ _ _ _ _).trans rfl
set_option maxRecDepth 100000 in
theorem bq_110_62 (T0 MI : Nat) (th : Nat) (r1 : Option Nat) (r2 : Option Nat) (o3 : Option xV) (o4 : Option xV) (o5 : Option xV) (o6 : Option xV) (sr0 : Option Nat) (M : xM) : xZ T0 MI 110 62 [some (vr (some th)), some (vr r1), some (vr r2), o3, o4, o5, o6] [vr sr0] M = r1.bind fun q_1 => (xgetI M q_1 3 0).bind fun x_2 => r2.bind fun q_3 => (xgetI M q_3 6 1).bind fun x_4 => bif xcls M th 11 then (xZ T0 MI 101 0 [some (vr (some th)), some (vi (Int32.ofInt 2)), some (vi x_2), some (vi x_4), some (vi (Int32.ofInt (-9))), some (vi (Int32.ofInt (-9))), none] [] M).bind fun z_5 => (xasR z_5.1).bind fun r_6 => xZ T0 MI 110 81 [some (vr (some th)), some (vr r1), some (vr r2), o3, xinv o4, some (vr sr0), o6] [vr r_6] z_5.2 else none := (xZ_k T0 MI 10 _ _ _ _ _).trans rfl
set_option maxRecDepth 100000 in
theorem bq_110_81 (T0 MI : Nat) (o0 : Option xV) (o1 : Option xV) (r2 : Option Nat) (o3 : Option xV) (o4 : Option xV) (r5 : Option Nat) (o6 : Option xV) (sr0 : Option Nat) (M : xM) : xZ T0 MI 110 81 [o0, o1, some (vr r2), o3, o4, some (vr r5), o6] [vr sr0] M = r2.bind fun q_1 => (xgetI M q_1 6 5).bind fun x_2 => sr0.bind fun q_3 => (xput M q_3 6 5 (vi x_2)).bind fun M_4 => bif r5.isNone then xZ T0 MI 110 124 [o0, o1, some (vr r2), o3, o4, some (vr r5), some (vr sr0)] [] M_4 else xZ T0 MI 110 97 [o0, o1, some (vr r2), o3, o4, some (vr r5), some (vr sr0)] [] M_4 := (xZ_k T0 MI 7 _ _ _ _ _).trans rfl
set_option maxRecDepth 100000 in
theorem bq_110_97 (T0 MI : Nat) (o0 : Option xV) (o1 : Option xV) (o2 : Option xV) (o3 : Option xV) (o4 : Option xV) (r5 : Option Nat) (r6 : Option Nat) (M : xM) : xZ T0 MI 110 97 [o0, o1, o2, o3, o4, some (vr r5), some (vr r6)] [] M = r5.bind fun q_1 => (xgetI M q_1 10 0).bind fun x_2 => r6.bind fun q_3 => (xput M q_3 6 3 (vi x_2)).bind fun M_4 => r5.bind fun q_5 => (xgetI M_4 q_5 10 3).bind fun x_6 => r6.bind fun q_7 => (xput M_4 q_7 6 4 (vi x_6)).bind fun M_8 => r6.bind fun q_9 => (xput M_8 q_9 6 12 (vr r5)).bind fun M_10 => xZ T0 MI 110 124 [o0, o1, o2, o3, o4, some (vr r5), some (vr r6)] [] M_10 := (xZ_k T0 MI 11 _ _ _ _ _).trans rfl
set_option maxRecDepth 100000 in
theorem bq_110_124 (T0 MI : Nat) (o0 : Option xV) (o1 : Option xV) (o2 : Option xV) (o3 : Option xV) (o4 : Option xV) (o5 : Option xV) (o6 : Option xV) (M : xM) : xZ T0 MI 110 124 [o0, o1, o2, o3, o4, o5, o6] [] M = some (none, M) := (xZ_k T0 MI 1 _ _ _ _ _).trans rfl
-- 111 RangeHouse.serve(LRangeHouse$Holding;LRangeHouse$Letter;LRangeHouse$Ask;)V
set_option maxRecDepth 100000 in
theorem bq_111_0 (T0 MI : Nat) (th : Nat) (r1 : Option Nat) (r2 : Option Nat) (r3 : Option Nat) (o4 : Option xV) (o5 : Option xV) (M : xM) : xZ T0 MI 111 0 [some (vr (some th)), some (vr r1), some (vr r2), some (vr r3), o4, o5] [] M = r1.bind fun q_1 => (xgetR M q_1 2 5).bind fun r_2 => r2.bind fun q_3 => (xgetI M q_3 6 1).bind fun x_4 => r2.bind fun q_5 => (xgetI M q_5 6 5).bind fun x_6 => r_2.bind fun q_7 => bif xcls M q_7 4 then (xZ T0 MI 35 0 [some (vr (some q_7)), some (vi x_4), some (vi x_6), none, none] [] M).bind fun z_8 => (xasI z_8.1).bind fun x_9 => xZ T0 MI 111 15 [some (vr (some th)), some (vr r1), some (vr r2), some (vr r3), o4, o5] [vi x_9] z_8.2 else none := (xZ_k T0 MI 7 _ _ _ _ _).trans rfl
set_option maxRecDepth 100000 in
theorem bq_111_15 (T0 MI : Nat) (th : Nat) (r1 : Option Nat) (r2 : Option Nat) (r3 : Option Nat) (o4 : Option xV) (o5 : Option xV) (sx0 : Int32) (M : xM) : xZ T0 MI 111 15 [some (vr (some th)), some (vr r1), some (vr r2), some (vr r3), o4, o5] [vi sx0] M = if 0 ≤ sx0 then xZ T0 MI 111 55 [some (vr (some th)), some (vr r1), some (vr r2), some (vr r3), o4, o5] [] M else xZ T0 MI 111 18 [some (vr (some th)), some (vr r1), some (vr r2), some (vr r3), o4, o5] [] M := (xZ_k T0 MI 1 _ _ _ _ _).trans rfl
set_option maxRecDepth 100000 in
theorem bq_111_18 (T0 MI : Nat) (th : Nat) (r1 : Option Nat) (r2 : Option Nat) (r3 : Option Nat) (o4 : Option xV) (o5 : Option xV) (M : xM) : xZ T0 MI 111 18 [some (vr (some th)), some (vr r1), some (vr r2), some (vr r3), o4, o5] [] M = r1.bind fun q_1 => (xgetR M q_1 2 5).bind fun r_2 => r2.bind fun q_3 => (xgetI M q_3 6 1).bind fun x_4 => r2.bind fun q_5 => (xgetI M q_5 6 5).bind fun x_6 => r_2.bind fun q_7 => bif xcls M q_7 4 then (xZ T0 MI 36 0 [some (vr (some q_7)), some (vi x_4), some (vi x_6)] [] M).bind fun z_8 => (xasI z_8.1).bind fun x_9 => xZ T0 MI 111 33 [some (vr (some th)), some (vr r1), some (vr r2), some (vr r3), o4, o5] [vi x_9] z_8.2 else none := (xZ_k T0 MI 7 _ _ _ _ _).trans rfl
set_option maxRecDepth 100000 in
theorem bq_111_33 (T0 MI : Nat) (th : Nat) (r1 : Option Nat) (r2 : Option Nat) (r3 : Option Nat) (o4 : Option xV) (o5 : Option xV) (sx0 : Int32) (M : xM) : xZ T0 MI 111 33 [some (vr (some th)), some (vr r1), some (vr r2), some (vr r3), o4, o5] [vi sx0] M = if sx0 = 0 then xZ T0 MI 111 37 [some (vr (some th)), some (vr r1), some (vr r2), some (vr r3), o4, o5] [] M else xZ T0 MI 111 36 [some (vr (some th)), some (vr r1), some (vr r2), some (vr r3), o4, o5] [] M := (xZ_k T0 MI 1 _ _ _ _ _).trans rfl
set_option maxRecDepth 100000 in
theorem bq_111_36 (T0 MI : Nat) (o0 : Option xV) (o1 : Option xV) (o2 : Option xV) (o3 : Option xV) (o4 : Option xV) (o5 : Option xV) (M : xM) : xZ T0 MI 111 36 [o0, o1, o2, o3, o4, o5] [] M = some (none, M) := (xZ_k T0 MI 1 _ _ _ _ _).trans rfl
set_option maxRecDepth 100000 in
theorem bq_111_37 (T0 MI : Nat) (th : Nat) (r1 : Option Nat) (r2 : Option Nat) (r3 : Option Nat) (o4 : Option xV) (o5 : Option xV) (M : xM) : xZ T0 MI 111 37 [some (vr (some th)), some (vr r1), some (vr r2), some (vr r3), o4, o5] [] M = r2.bind fun q_1 => (xgetI M q_1 6 1).bind fun x_2 => r1.bind fun q_3 => bif xcls M q_3 2 then (xZ T0 MI 18 0 [some (vr (some q_3)), some (vi x_2), some (vr r3), none, none, none, none, none, none, none] [] M).bind fun z_4 => bif z_4.1.isNone then xZ T0 MI 111 46 [some (vr (some th)), some (vr r1), some (vr r2), some (vr r3), o4, o5] [] z_4.2 else none else none := (xZ_k T0 MI 5 _ _ _ _ _).trans rfl
set_option maxRecDepth 100000 in
theorem bq_111_46 (T0 MI : Nat) (th : Nat) (r1 : Option Nat) (r2 : Option Nat) (o3 : Option xV) (o4 : Option xV) (o5 : Option xV) (M : xM) : xZ T0 MI 111 46 [some (vr (some th)), some (vr r1), some (vr r2), o3, o4, o5] [] M = (xgetR M th 11 4).bind fun r_1 => r_1.bind fun q_2 => bif xcls M q_2 13 then (xZ T0 MI 210 0 [some (vr (some q_2)), some (vr r2)] [] M).bind fun z_3 => (xasI z_3.1).bind fun x_4 => xZ T0 MI 111 54 [some (vr (some th)), some (vr r1), some (vr r2), o3, o4, o5] [vi x_4] z_3.2 else none := (xZ_k T0 MI 4 _ _ _ _ _).trans rfl
set_option maxRecDepth 100000 in
theorem bq_111_54 (T0 MI : Nat) (th : Nat) (r1 : Option Nat) (r2 : Option Nat) (o3 : Option xV) (o4 : Option xV) (o5 : Option xV) (sx0 : Int32) (M : xM) : xZ T0 MI 111 54 [some (vr (some th)), some (vr r1), some (vr r2), o3, o4, o5] [vi sx0] M = xZ T0 MI 111 55 [some (vr (some th)), some (vr r1), some (vr r2), o3, o4, o5] [] M := (xZ_k T0 MI 1 _ _ _ _ _).trans rfl
set_option maxRecDepth 100000 in
theorem bq_111_55 (T0 MI : Nat) (th : Nat) (r1 : Option Nat) (r2 : Option Nat) (o3 : Option xV) (o4 : Option xV) (o5 : Option xV) (M : xM) : xZ T0 MI 111 55 [some (vr (some th)), some (vr r1), some (vr r2), o3, o4, o5] [] M = r1.bind fun q_1 => (xgetR M q_1 2 5).bind fun r_2 => r2.bind fun q_3 => (xgetI M q_3 6 1).bind fun x_4 => r2.bind fun q_5 => (xgetI M q_5 6 5).bind fun x_6 => r_2.bind fun q_7 => bif xcls M q_7 4 then (xZ T0 MI 35 0 [some (vr (some q_7)), some (vi x_4), some (vi x_6), none, none] [] M).bind fun z_8 => (xasI z_8.1).bind fun x_9 => xZ T0 MI 111 70 [some (vr (some th)), some (vr r1), some (vr r2), o3, o4, o5] [vi x_9] z_8.2 else none := (xZ_k T0 MI 7 _ _ _ _ _).trans rfl
set_option maxRecDepth 100000 in
theorem bq_111_70 (T0 MI : Nat) (th : Nat) (r1 : Option Nat) (r2 : Option Nat) (o3 : Option xV) (o4 : Option xV) (o5 : Option xV) (sx0 : Int32) (M : xM) : xZ T0 MI 111 70 [some (vr (some th)), some (vr r1), some (vr r2), o3, o4, o5] [vi sx0] M = if 0 ≤ sx0 then xZ T0 MI 111 78 [some (vr (some th)), some (vr r1), some (vr r2), xinv o3, some (vi sx0), o5] [] M else xZ T0 MI 111 77 [some (vr (some th)), some (vr r1), some (vr r2), xinv o3, some (vi sx0), o5] [] M := (xZ_k T0 MI 3 _ _ _ _ _).trans rfl
set_option maxRecDepth 100000 in
theorem bq_111_77 (T0 MI : Nat) (o0 : Option xV) (o1 : Option xV) (o2 : Option xV) (o3 : Option xV) (o4 : Option xV) (o5 : Option xV) (M : xM) : xZ T0 MI 111 77 [o0, o1, o2, o3, o4, o5] [] M = some (none, M) := (xZ_k T0 MI 1 _ _ _ _ _).trans rfl
set_option maxRecDepth 100000 in
theorem bq_111_78 (T0 MI : Nat) (th : Nat) (r1 : Option Nat) (r2 : Option Nat) (o3 : Option xV) (x4 : Int32) (o5 : Option xV) (M : xM) : xZ T0 MI 111 78 [some (vr (some th)), some (vr r1), some (vr r2), o3, some (vi x4), o5] [] M = r2.bind fun q_1 => (xgetI M q_1 6 2).bind fun x_2 => r2.bind fun q_3 => (xgetI M q_3 6 1).bind fun x_4 => bif xcls M th 11 then (xZ T0 MI 101 0 [some (vr (some th)), some (vi (Int32.ofInt 1)), some (vi x_2), some (vi x_4), some (vi (Int32.ofInt (-9))), some (vi (Int32.ofInt (-9))), none] [] M).bind fun z_5 => (xasR z_5.1).bind fun r_6 => xZ T0 MI 111 95 [some (vr (some th)), some (vr r1), some (vr r2), o3, some (vi x4), o5] [vr r_6] z_5.2 else none := (xZ_k T0 MI 9 _ _ _ _ _).trans rfl
set_option maxRecDepth 100000 in
theorem bq_111_95 (T0 MI : Nat) (o0 : Option xV) (r1 : Option Nat) (r2 : Option Nat) (o3 : Option xV) (x4 : Int32) (o5 : Option xV) (sr0 : Option Nat) (M : xM) : xZ T0 MI 111 95 [o0, some (vr r1), some (vr r2), o3, some (vi x4), o5] [vr sr0] M = r2.bind fun q_1 => (xgetI M q_1 6 5).bind fun x_2 => sr0.bind fun q_3 => (xput M q_3 6 5 (vi x_2)).bind fun M_4 => r1.bind fun q_5 => (xgetR M_4 q_5 2 5).bind fun r_6 => r_6.bind fun q_7 => (xgetR M_4 q_7 4 2).bind fun r_8 => r_8.bind fun q_9 => (xaL M_4 q_9 x4).bind fun y_10 => sr0.bind fun q_11 => (xput M_4 q_11 6 9 (vl y_10)).bind fun M_12 => r1.bind fun q_13 => (xgetR M_12 q_13 2 5).bind fun r_14 => r_14.bind fun q_15 => (xgetR M_12 q_15 4 3).bind fun r_16 => r_16.bind fun q_17 => (xaI M_12 q_17 x4).bind fun x_18 => sr0.bind fun q_19 => (xput M_12 q_19 6 10 (vi x_18)).bind fun M_20 => some (none, M_20) := (xZ_k T0 MI 20 _ _ _ _ _).trans rfl
-- 112 RangeHouse.takeMoveLetter(LRangeHouse$Host;LRangeHouse$Letter;)V
set_option maxRecDepth 100000 in
theorem bq_112_0 (T0 MI : Nat) (th : Nat) (r1 : Option Nat) (r2 : Option Nat) (M : xM) : xZ T0 MI 112 0 [some (vr (some th)), some (vr r1), some (vr r2)] [] M = r2.bind fun q_1 => (xgetI M q_1 6 0).bind fun x_2 => if x_2.toInt < 3 ∨ 14 < x_2.toInt then xZ T0 MI 112 176 [some (vr (some th)), some (vr r1), some (vr r2)] [] M else ((#[64, 73, 82, 91, 99, 108, 117, 126, 135, 144, 153, 162] : Array Int)[(x_2.toInt - 3).toNat]?).bind fun f_3 => xZ T0 MI 112 (((4 : Nat) : Int) + f_3).toNat [some (vr (some th)), some (vr r1), some (vr r2)] [] M := (xZ_k T0 MI 3 _ _ _ _ _).trans rfl
set_option maxRecDepth 100000 in
theorem bq_112_68 (T0 MI : Nat) (th : Nat) (r1 : Option Nat) (r2 : Option Nat) (M : xM) : xZ T0 MI 112 68 [some (vr (some th)), some (vr r1), some (vr r2)] [] M = bif xcls M th 11 then (xZ T0 MI 113 0 [some (vr (some th)), some (vr r1), some (vr r2), none] [] M).bind fun z_1 => bif z_1.1.isNone then xZ T0 MI 112 74 [some (vr (some th)), some (vr r1), some (vr r2)] [] z_1.2 else none else none := (xZ_k T0 MI 4 _ _ _ _ _).trans rfl
set_option maxRecDepth 100000 in
theorem bq_112_74 (T0 MI : Nat) (o0 : Option xV) (o1 : Option xV) (o2 : Option xV) (M : xM) : xZ T0 MI 112 74 [o0, o1, o2] [] M = xZ T0 MI 112 176 [o0, o1, o2] [] M := (xZ_k T0 MI 1 _ _ _ _ _).trans rfl
set_option maxRecDepth 100000 in
theorem bq_112_77 (T0 MI : Nat) (th : Nat) (r1 : Option Nat) (r2 : Option Nat) (M : xM) : xZ T0 MI 112 77 [some (vr (some th)), some (vr r1), some (vr r2)] [] M = bif xcls M th 11 then (xZ T0 MI 114 0 [some (vr (some th)), some (vr r1), some (vr r2), none, none, none] [] M).bind fun z_1 => bif z_1.1.isNone then xZ T0 MI 112 83 [some (vr (some th)), some (vr r1), some (vr r2)] [] z_1.2 else none else none := (xZ_k T0 MI 4 _ _ _ _ _).trans rfl
set_option maxRecDepth 100000 in
theorem bq_112_83 (T0 MI : Nat) (o0 : Option xV) (o1 : Option xV) (o2 : Option xV) (M : xM) : xZ T0 MI 112 83 [o0, o1, o2] [] M = xZ T0 MI 112 176 [o0, o1, o2] [] M := (xZ_k T0 MI 1 _ _ _ _ _).trans rfl
set_option maxRecDepth 100000 in
theorem bq_112_86 (T0 MI : Nat) (th : Nat) (r1 : Option Nat) (r2 : Option Nat) (M : xM) : xZ T0 MI 112 86 [some (vr (some th)), some (vr r1), some (vr r2)] [] M = bif xcls M th 11 then (xZ T0 MI 115 0 [some (vr (some th)), some (vr r1), some (vr r2), none] [] M).bind fun z_1 => bif z_1.1.isNone then xZ T0 MI 112 92 [some (vr (some th)), some (vr r1), some (vr r2)] [] z_1.2 else none else none := (xZ_k T0 MI 4 _ _ _ _ _).trans rfl
set_option maxRecDepth 100000 in
theorem bq_112_92 (T0 MI : Nat) (o0 : Option xV) (o1 : Option xV) (o2 : Option xV) (M : xM) : xZ T0 MI 112 92 [o0, o1, o2] [] M = xZ T0 MI 112 176 [o0, o1, o2] [] M := (xZ_k T0 MI 1 _ _ _ _ _).trans rfl
set_option maxRecDepth 100000 in
theorem bq_112_95 (T0 MI : Nat) (th : Nat) (o1 : Option xV) (r2 : Option Nat) (M : xM) : xZ T0 MI 112 95 [some (vr (some th)), o1, some (vr r2)] [] M = bif xcls M th 11 then (xZ T0 MI 116 0 [some (vr (some th)), some (vr r2), none] [] M).bind fun z_1 => bif z_1.1.isNone then xZ T0 MI 112 100 [some (vr (some th)), o1, some (vr r2)] [] z_1.2 else none else none := (xZ_k T0 MI 3 _ _ _ _ _).trans rfl
set_option maxRecDepth 100000 in
theorem bq_112_100 (T0 MI : Nat) (o0 : Option xV) (o1 : Option xV) (o2 : Option xV) (M : xM) : xZ T0 MI 112 100 [o0, o1, o2] [] M = xZ T0 MI 112 176 [o0, o1, o2] [] M := (xZ_k T0 MI 1 _ _ _ _ _).trans rfl
set_option maxRecDepth 100000 in
theorem bq_112_103 (T0 MI : Nat) (th : Nat) (r1 : Option Nat) (r2 : Option Nat) (M : xM) : xZ T0 MI 112 103 [some (vr (some th)), some (vr r1), some (vr r2)] [] M = bif xcls M th 11 then (xZ T0 MI 117 0 [some (vr (some th)), some (vr r1), some (vr r2), none] [] M).bind fun z_1 => bif z_1.1.isNone then xZ T0 MI 112 109 [some (vr (some th)), some (vr r1), some (vr r2)] [] z_1.2 else none else none := (xZ_k T0 MI 4 _ _ _ _ _).trans rfl
set_option maxRecDepth 100000 in
theorem bq_112_109 (T0 MI : Nat) (o0 : Option xV) (o1 : Option xV) (o2 : Option xV) (M : xM) : xZ T0 MI 112 109 [o0, o1, o2] [] M = xZ T0 MI 112 176 [o0, o1, o2] [] M := (xZ_k T0 MI 1 _ _ _ _ _).trans rfl
set_option maxRecDepth 100000 in
theorem bq_112_112 (T0 MI : Nat) (th : Nat) (o1 : Option xV) (r2 : Option Nat) (M : xM) : xZ T0 MI 112 112 [some (vr (some th)), o1, some (vr r2)] [] M = bif xcls M th 11 then (xZ T0 MI 122 0 [some (vr (some th)), some (vr r2), some (vi (Int32.ofInt 1)), none] [] M).bind fun z_1 => bif z_1.1.isNone then xZ T0 MI 112 118 [some (vr (some th)), o1, some (vr r2)] [] z_1.2 else none else none := (xZ_k T0 MI 4 _ _ _ _ _).trans rfl
set_option maxRecDepth 100000 in
theorem bq_112_118 (T0 MI : Nat) (o0 : Option xV) (o1 : Option xV) (o2 : Option xV) (M : xM) : xZ T0 MI 112 118 [o0, o1, o2] [] M = xZ T0 MI 112 176 [o0, o1, o2] [] M := (xZ_k T0 MI 1 _ _ _ _ _).trans rfl
set_option maxRecDepth 100000 in
theorem bq_112_121 (T0 MI : Nat) (th : Nat) (r1 : Option Nat) (r2 : Option Nat) (M : xM) : xZ T0 MI 112 121 [some (vr (some th)), some (vr r1), some (vr r2)] [] M = bif xcls M th 11 then (xZ T0 MI 118 0 [some (vr (some th)), some (vr r1), some (vr r2), none] [] M).bind fun z_1 => bif z_1.1.isNone then xZ T0 MI 112 127 [some (vr (some th)), some (vr r1), some (vr r2)] [] z_1.2 else none else none := (xZ_k T0 MI 4 _ _ _ _ _).trans rfl
set_option maxRecDepth 100000 in
theorem bq_112_127 (T0 MI : Nat) (o0 : Option xV) (o1 : Option xV) (o2 : Option xV) (M : xM) : xZ T0 MI 112 127 [o0, o1, o2] [] M = xZ T0 MI 112 176 [o0, o1, o2] [] M := (xZ_k T0 MI 1 _ _ _ _ _).trans rfl
set_option maxRecDepth 100000 in
theorem bq_112_130 (T0 MI : Nat) (th : Nat) (o1 : Option xV) (r2 : Option Nat) (M : xM) : xZ T0 MI 112 130 [some (vr (some th)), o1, some (vr r2)] [] M = bif xcls M th 11 then (xZ T0 MI 122 0 [some (vr (some th)), some (vr r2), some (vi (Int32.ofInt 2)), none] [] M).bind fun z_1 => bif z_1.1.isNone then xZ T0 MI 112 136 [some (vr (some th)), o1, some (vr r2)] [] z_1.2 else none else none := (xZ_k T0 MI 4 _ _ _ _ _).trans rfl
set_option maxRecDepth 100000 in
theorem bq_112_136 (T0 MI : Nat) (o0 : Option xV) (o1 : Option xV) (o2 : Option xV) (M : xM) : xZ T0 MI 112 136 [o0, o1, o2] [] M = xZ T0 MI 112 176 [o0, o1, o2] [] M := (xZ_k T0 MI 1 _ _ _ _ _).trans rfl
set_option maxRecDepth 100000 in
theorem bq_112_139 (T0 MI : Nat) (th : Nat) (r1 : Option Nat) (r2 : Option Nat) (M : xM) : xZ T0 MI 112 139 [some (vr (some th)), some (vr r1), some (vr r2)] [] M = bif xcls M th 11 then (xZ T0 MI 119 0 [some (vr (some th)), some (vr r1), some (vr r2), none, none] [] M).bind fun z_1 => bif z_1.1.isNone then xZ T0 MI 112 145 [some (vr (some th)), some (vr r1), some (vr r2)] [] z_1.2 else none else none := (xZ_k T0 MI 4 _ _ _ _ _).trans rfl
set_option maxRecDepth 100000 in
theorem bq_112_145 (T0 MI : Nat) (o0 : Option xV) (o1 : Option xV) (o2 : Option xV) (M : xM) : xZ T0 MI 112 145 [o0, o1, o2] [] M = xZ T0 MI 112 176 [o0, o1, o2] [] M := (xZ_k T0 MI 1 _ _ _ _ _).trans rfl
set_option maxRecDepth 100000 in
theorem bq_112_148 (T0 MI : Nat) (th : Nat) (o1 : Option xV) (r2 : Option Nat) (M : xM) : xZ T0 MI 112 148 [some (vr (some th)), o1, some (vr r2)] [] M = bif xcls M th 11 then (xZ T0 MI 122 0 [some (vr (some th)), some (vr r2), some (vi (Int32.ofInt 4)), none] [] M).bind fun z_1 => bif z_1.1.isNone then xZ T0 MI 112 154 [some (vr (some th)), o1, some (vr r2)] [] z_1.2 else none else none := (xZ_k T0 MI 4 _ _ _ _ _).trans rfl
set_option maxRecDepth 100000 in
theorem bq_112_154 (T0 MI : Nat) (o0 : Option xV) (o1 : Option xV) (o2 : Option xV) (M : xM) : xZ T0 MI 112 154 [o0, o1, o2] [] M = xZ T0 MI 112 176 [o0, o1, o2] [] M := (xZ_k T0 MI 1 _ _ _ _ _).trans rfl
set_option maxRecDepth 100000 in
theorem bq_112_157 (T0 MI : Nat) (th : Nat) (r1 : Option Nat) (r2 : Option Nat) (M : xM) : xZ T0 MI 112 157 [some (vr (some th)), some (vr r1), some (vr r2)] [] M = bif xcls M th 11 then (xZ T0 MI 120 0 [some (vr (some th)), some (vr r1), some (vr r2), none] [] M).bind fun z_1 => bif z_1.1.isNone then xZ T0 MI 112 163 [some (vr (some th)), some (vr r1), some (vr r2)] [] z_1.2 else none else none := (xZ_k T0 MI 4 _ _ _ _ _).trans rfl
set_option maxRecDepth 100000 in
theorem bq_112_163 (T0 MI : Nat) (o0 : Option xV) (o1 : Option xV) (o2 : Option xV) (M : xM) : xZ T0 MI 112 163 [o0, o1, o2] [] M = xZ T0 MI 112 176 [o0, o1, o2] [] M := (xZ_k T0 MI 1 _ _ _ _ _).trans rfl
set_option maxRecDepth 100000 in
theorem bq_112_166 (T0 MI : Nat) (th : Nat) (o1 : Option xV) (r2 : Option Nat) (M : xM) : xZ T0 MI 112 166 [some (vr (some th)), o1, some (vr r2)] [] M = bif xcls M th 11 then (xZ T0 MI 122 0 [some (vr (some th)), some (vr r2), some (vi (Int32.ofInt 8)), none] [] M).bind fun z_1 => bif z_1.1.isNone then xZ T0 MI 112 173 [some (vr (some th)), o1, some (vr r2)] [] z_1.2 else none else none := (xZ_k T0 MI 4 _ _ _ _ _).trans rfl
set_option maxRecDepth 100000 in
theorem bq_112_173 (T0 MI : Nat) (o0 : Option xV) (o1 : Option xV) (o2 : Option xV) (M : xM) : xZ T0 MI 112 173 [o0, o1, o2] [] M = xZ T0 MI 112 176 [o0, o1, o2] [] M := (xZ_k T0 MI 1 _ _ _ _ _).trans rfl
set_option maxRecDepth 100000 in
theorem bq_112_176 (T0 MI : Nat) (o0 : Option xV) (o1 : Option xV) (o2 : Option xV) (M : xM) : xZ T0 MI 112 176 [o0, o1, o2] [] M = some (none, M) := (xZ_k T0 MI 1 _ _ _ _ _).trans rfl
-- 113 RangeHouse.takeBegin(LRangeHouse$Host;LRangeHouse$Letter;)V
set_option maxRecDepth 100000 in
theorem bq_113_0 (T0 MI : Nat) (o0 : Option xV) (r1 : Option Nat) (r2 : Option Nat) (o3 : Option xV) (M : xM) : xZ T0 MI 113 0 [o0, some (vr r1), some (vr r2), o3] [] M = r2.bind fun q_1 => (xgetI M q_1 6 3).bind fun x_2 => r1.bind fun q_3 => bif xcls M q_3 3 then (xZ T0 MI 27 0 [some (vr (some q_3)), some (vi x_2)] [] M).bind fun z_4 => (xasR z_4.1).bind fun r_5 => xZ T0 MI 113 8 [o0, some (vr r1), some (vr r2), o3] [vr r_5] z_4.2 else none := (xZ_k T0 MI 4 _ _ _ _ _).trans rfl
set_option maxRecDepth 100000 in
theorem bq_113_8 (T0 MI : Nat) (o0 : Option xV) (o1 : Option xV) (r2 : Option Nat) (o3 : Option xV) (sr0 : Option Nat) (M : xM) : xZ T0 MI 113 8 [o0, o1, some (vr r2), o3] [vr sr0] M = bif sr0.isNone then xZ T0 MI 113 45 [o0, o1, some (vr r2), some (vr sr0)] [] M else xZ T0 MI 113 13 [o0, o1, some (vr r2), some (vr sr0)] [] M := (xZ_k T0 MI 3 _ _ _ _ _).trans rfl
set_option maxRecDepth 100000 in
theorem bq_113_13 (T0 MI : Nat) (o0 : Option xV) (o1 : Option xV) (r2 : Option Nat) (r3 : Option Nat) (M : xM) : xZ T0 MI 113 13 [o0, o1, some (vr r2), some (vr r3)] [] M = r3.bind fun q_1 => (xgetI M q_1 2 0).bind fun x_2 => if x_2 = (Int32.ofInt 1) then xZ T0 MI 113 21 [o0, o1, some (vr r2), some (vr r3)] [] M else xZ T0 MI 113 45 [o0, o1, some (vr r2), some (vr r3)] [] M := (xZ_k T0 MI 4 _ _ _ _ _).trans rfl
set_option maxRecDepth 100000 in
theorem bq_113_21 (T0 MI : Nat) (o0 : Option xV) (o1 : Option xV) (r2 : Option Nat) (r3 : Option Nat) (M : xM) : xZ T0 MI 113 21 [o0, o1, some (vr r2), some (vr r3)] [] M = r3.bind fun q_1 => bif xcls M q_1 2 then (xZ T0 MI 12 0 [some (vr (some q_1))] [] M).bind fun z_2 => (xasI z_2.1).bind fun x_3 => xZ T0 MI 113 25 [o0, o1, some (vr r2), some (vr r3)] [vi x_3] z_2.2 else none := (xZ_k T0 MI 2 _ _ _ _ _).trans rfl
set_option maxRecDepth 100000 in
theorem bq_113_25 (T0 MI : Nat) (o0 : Option xV) (o1 : Option xV) (r2 : Option Nat) (r3 : Option Nat) (sx0 : Int32) (M : xM) : xZ T0 MI 113 25 [o0, o1, some (vr r2), some (vr r3)] [vi sx0] M = r2.bind fun q_1 => (xgetI M q_1 6 4).bind fun x_2 => if sx0 = x_2 then xZ T0 MI 113 32 [o0, o1, some (vr r2), some (vr r3)] [] M else xZ T0 MI 113 45 [o0, o1, some (vr r2), some (vr r3)] [] M := (xZ_k T0 MI 3 _ _ _ _ _).trans rfl
set_option maxRecDepth 100000 in
theorem bq_113_32 (T0 MI : Nat) (o0 : Option xV) (o1 : Option xV) (r2 : Option Nat) (r3 : Option Nat) (M : xM) : xZ T0 MI 113 32 [o0, o1, some (vr r2), some (vr r3)] [] M = r2.bind fun q_1 => (xgetI M q_1 6 8).bind fun x_2 => r3.bind fun q_3 => (xput M q_3 2 8 (vi x_2)).bind fun M_4 => r3.bind fun q_5 => bif xcls M_4 q_5 2 then (xZ T0 MI 19 0 [some (vr (some q_5)), some (vi (Int32.ofInt 1)), none] [] M_4).bind fun z_6 => bif z_6.1.isNone then xZ T0 MI 113 45 [o0, o1, some (vr r2), some (vr r3)] [] z_6.2 else none else none := (xZ_k T0 MI 7 _ _ _ _ _).trans rfl
set_option maxRecDepth 100000 in
theorem bq_113_45 (T0 MI : Nat) (o0 : Option xV) (o1 : Option xV) (o2 : Option xV) (o3 : Option xV) (M : xM) : xZ T0 MI 113 45 [o0, o1, o2, o3] [] M = some (none, M) := (xZ_k T0 MI 1 _ _ _ _ _).trans rfl
