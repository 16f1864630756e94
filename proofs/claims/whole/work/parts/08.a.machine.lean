/-! THE ABSTRACT MACHINE: values, memory, one step of a method's rows, a run -/
abbrev xV : Type := Int32 ⊕ (Int64 ⊕ Option Nat)
abbrev vi (x : Int32) : xV := Sum.inl x
abbrev vl (x : Int64) : xV := Sum.inr (Sum.inl x)
abbrev vr (r : Option Nat) : xV := Sum.inr (Sum.inr r)
def xval (v : xV) : Value := match v with
  | .inl x => .int x
  | .inr (.inl x) => .long x
  | .inr (.inr r) => va_rf r
def xcat (v : xV) : Nat := match v with
  | .inr (.inl _) => 2
  | _ => 1
abbrev xA : Type := (Nat → Int32) ⊕ ((Nat → Int64) ⊕ (Nat → Option Nat))
/-- a cell: an array (number of its type, length, contents), or an object (number of its class, fields) -/
abbrev xE : Type := (Nat × Nat × xA) ⊕ (Nat × List xV)
/-- the memory: the next address, the slots that were made, the cells -/
abbrev xM : Type := Nat × Nat × (Nat → xE)
def xnth : List (List xRow) → Nat → List xRow
  | [], _ => []
  | a :: _, 0 => a
  | _ :: r, n + 1 => xnth r n
def xfind : List xRow → Nat → Option (Instr × Nat × Nat × Nat)
  | [], _ => none
  | (q, ins, _, a, b, c) :: r, pc => bif Nat.beq q pc then some (ins, a, b, c) else xfind r pc
def xfetch (mi pc : Nat) : Option (Instr × Nat × Nat × Nat) := xfind (xnth (xcode mi) (pc / 16)) pc
/-- is the index i in a row of n -/
def xin (i : Int32) (n : Nat) : Bool := (!decide (i < 0)) && Nat.blt i.toNatClampNeg n
/-! memory: reads -/
def xgetV (M : xM) (a ci k : Nat) : Option xV := match M.2.2 a with
  | .inr (c, fs) => bif Nat.beq c ci then fs[k]? else none
  | _ => none
def xasI (v : Option xV) : Option Int32 := match v with
  | some (.inl x) => some x
  | _ => none
def xasL (v : Option xV) : Option Int64 := match v with
  | some (.inr (.inl x)) => some x
  | _ => none
def xasR (v : Option xV) : Option (Option Nat) := match v with
  | some (.inr (.inr x)) => some x
  | _ => none
def xgetI (M : xM) (a ci k : Nat) : Option Int32 := xasI (xgetV M a ci k)
def xgetL (M : xM) (a ci k : Nat) : Option Int64 := xasL (xgetV M a ci k)
def xgetR (M : xM) (a ci k : Nat) : Option (Option Nat) := xasR (xgetV M a ci k)
def xcls (M : xM) (a ci : Nat) : Bool := match M.2.2 a with
  | .inr (c, _) => Nat.beq c ci
  | _ => false
def xaI (M : xM) (a : Nat) (i : Int32) : Option Int32 := match M.2.2 a with
  | .inl (t, n, .inl f) => bif (Nat.beq t 0 || Nat.beq t 9) && xin i n then some (f i.toNatClampNeg) else none
  | _ => none
def xaZ (M : xM) (a : Nat) (i : Int32) : Option Int32 := match M.2.2 a with
  | .inl (t, n, .inl f) => bif Nat.beq t 2 && xin i n then some (f i.toNatClampNeg) else none
  | _ => none
def xaL (M : xM) (a : Nat) (i : Int32) : Option Int64 := match M.2.2 a with
  | .inl (t, n, .inr (.inl f)) => bif Nat.beq t 1 && xin i n then some (f i.toNatClampNeg) else none
  | _ => none
def xaR (M : xM) (a : Nat) (i : Int32) : Option (Option Nat) := match M.2.2 a with
  | .inl (t, n, .inr (.inr f)) => bif xtR t && xin i n then some (f i.toNatClampNeg) else none
  | _ => none
def xlenA (M : xM) (a : Nat) : Option Int32 := match M.2.2 a with
  | .inl (t, n, .inl _) => bif Nat.beq t 0 || (Nat.beq t 9 || Nat.beq t 2) then some (Int32.ofNat n) else none
  | .inl (t, n, .inr (.inl _)) => bif Nat.beq t 1 then some (Int32.ofNat n) else none
  | .inl (t, n, .inr (.inr _)) => bif xtR t then some (Int32.ofNat n) else none
  | _ => none
/-! memory: writes -/
def xset (M : xM) (a : Nat) (e : xE) : xM := (M.1, M.2.1, va_up M.2.2 a e)
def xput (M : xM) (a ci k : Nat) (v : xV) : Option xM := match M.2.2 a with
  | .inr (c, fs) => bif Nat.beq c ci && Nat.blt k fs.length then some (xset M a (.inr (c, fs.set k v))) else none
  | _ => none
/-- 0 or 1 -/
def xbool (x : Int32) : Bool := decide (x = 0) || decide (x = 1)
def xsI (M : xM) (a : Nat) (i x : Int32) : Option xM := match M.2.2 a with
  | .inl (t, n, .inl f) => bif Nat.beq t 0 && xin i n then some (xset M a (.inl (t, n, .inl (upd f i.toNatClampNeg x)))) else none
  | _ => none
def xsZ (M : xM) (a : Nat) (i x : Int32) : Option xM := match M.2.2 a with
  | .inl (t, n, .inl f) => bif Nat.beq t 2 && (xin i n && xbool x) then some (xset M a (.inl (t, n, .inl (upd f i.toNatClampNeg x)))) else none
  | _ => none
def xsL (M : xM) (a : Nat) (i : Int32) (x : Int64) : Option xM := match M.2.2 a with
  | .inl (t, n, .inr (.inl f)) => bif Nat.beq t 1 && xin i n then some (xset M a (.inl (t, n, .inr (.inl (vp_updL f i.toNatClampNeg x))))) else none
  | _ => none
/-- may an object of class ci lie in a row of type t -/
def xfitR (t ci : Nat) : Bool := Nat.blt ci 14 && (Nat.beq t 3 || ((Nat.beq t 4 && Nat.beq ci 3) || ((Nat.beq t 5 && Nat.beq ci 7) || (Nat.beq t 6 && Nat.beq ci 2))))
def xclsO (M : xM) (a : Nat) : Option Nat := match M.2.2 a with
  | .inr (c, _) => some c
  | _ => none
def xmayR (M : xM) (t : Nat) (r : Option Nat) : Bool := match r with
  | none => true
  | some v => match xclsO M v with
    | some c => xfitR t c
    | none => false
def xsR (M : xM) (a : Nat) (i : Int32) (r : Option Nat) : Option xM := match M.2.2 a with
  | .inl (t, n, .inr (.inr f)) => bif xtR t && (xin i n && xmayR M t r) then some (xset M a (.inl (t, n, .inr (.inr (va_up f i.toNatClampNeg r))))) else none
  | _ => none
/-! memory: makings -/
def xdefV (ty : FieldType) : xV := match ty with
  | .long => vl 0
  | .object _ => vr none
  | .array _ => vr none
  | _ => vi 0
def xdef (ci : Nat) : List xV := (List.range (xnf ci)).map (fun k => xdefV (xtyX ci k))
def xnewO (M : xM) (ci : Nat) : xM := (M.1 + 1, M.2.1 + xnf ci, va_up M.2.2 M.1 (.inr (ci, xdef ci)))
def xA0 (t : Nat) : xA := match t with
  | 0 => .inl (fun _ => 0)
  | 1 => .inr (.inl (fun _ => 0))
  | 2 => .inl (fun _ => 0)
  | _ => .inr (.inr (fun _ => none))
def xnewA (M : xM) (t : Nat) (i : Int32) : Option xM := bif (!decide (i < 0)) && Nat.ble i.toNatClampNeg 1000000 then some (M.1 + 1, M.2.1 + i.toNatClampNeg, va_up M.2.2 M.1 (.inl (t, i.toNatClampNeg, xA0 t))) else none
/-- System.arraycopy -/
def xcpyOk (sp dp n : Int32) (n0 n1 : Nat) : Bool := (!decide (sp < 0)) && ((!decide (dp < 0)) && ((!decide (n < 0)) && (Nat.ble (sp.toNatClampNeg + n.toNatClampNeg) n0 && Nat.ble (dp.toNatClampNeg + n.toNatClampNeg) n1)))
def xcpyR (M : xM) (t : Nat) (f : Nat → Option Nat) (sp n : Nat) : Bool := (List.range n).all (fun i => xmayR M t (f (sp + i)))
def xcopy (M : xM) (a0 : Nat) (sp : Int32) (a1 : Nat) (dp n : Int32) : Option xM := match M.2.2 a0, M.2.2 a1 with
  | .inl (t0, n0, .inl f), .inl (t1, n1, .inl g) => bif Nat.beq t0 0 && (Nat.beq t1 0 && (Nat.blt 0 n1 && xcpyOk sp dp n n0 n1)) then some (xset M a1 (.inl (t1, n1, .inl (va_cpy f g sp.toNatClampNeg dp.toNatClampNeg n.toNatClampNeg)))) else none
  | .inl (t0, n0, .inr (.inl f)), .inl (t1, n1, .inr (.inl g)) => bif Nat.beq t0 1 && (Nat.beq t1 1 && (Nat.blt 0 n1 && xcpyOk sp dp n n0 n1)) then some (xset M a1 (.inl (t1, n1, .inr (.inl (va_cpy f g sp.toNatClampNeg dp.toNatClampNeg n.toNatClampNeg))))) else none
  | .inl (t0, n0, .inr (.inr f)), .inl (t1, n1, .inr (.inr g)) => bif Nat.beq t0 3 && (Nat.beq t1 3 && (Nat.blt 0 n0 && Nat.blt 0 n1 && xcpyOk sp dp n n0 n1 && xcpyR M 3 f sp.toNatClampNeg n.toNatClampNeg)) then some (xset M a1 (.inl (t1, n1, .inr (.inr (va_cpy f g sp.toNatClampNeg dp.toNatClampNeg n.toNatClampNeg))))) else none
  | _, _ => none
/-- is there a row of Objects at a -/
def xisOA (M : xM) (a : Nat) : Bool := match M.2.2 a with
  | .inl (t, n, .inr (.inr _)) => Nat.beq t 3 && Nat.blt 0 n
  | _ => false
/-! locals and the stack -/
abbrev xL : Type := List (Option xV)
def xlk (lv : xL) (i : Nat) : Option xV := match lv[i]? with
  | some (some v) => some v
  | _ => none
/-- a long whose second word is written over is gone -/
def xinv (o : Option xV) : Option xV := match o with
  | some (.inr (.inl _)) => none
  | o => o
def xinvAt : xL → Nat → xL
  | [], _ => []
  | o :: r, 0 => xinv o :: r
  | o :: r, i + 1 => o :: xinvAt r i
def xst1 (lv : xL) (i : Nat) (v : xV) : xL := match i with
  | 0 => lv.set 0 (some v)
  | j + 1 => (xinvAt lv j).set (j + 1) (some v)
def xst2 (lv : xL) (i : Nat) (v : xV) : xL := (xst1 lv i v).set (i + 1) none
def xfill : List xV → xL
  | [] => []
  | v :: vs => match v with
    | .inr (.inl x) => some (vl x) :: none :: xfill vs
    | v => some v :: xfill vs
/-- the locals with which a method of n words begins -/
def xlocs (n : Nat) (As : List xV) : xL := xfill As ++ List.replicate (n - (xfill As).length) none
def xcats (st : List xV) : Nat := (st.map xcat).sum
def xp1I {β : Type} (st : List xV) (k : Int32 → List xV → Option β) : Option β := match st with
  | .inl x :: r => k x r
  | _ => none
def xp2I {β : Type} (st : List xV) (k : Int32 → Int32 → List xV → Option β) : Option β := match st with
  | .inl y :: .inl x :: r => k x y r
  | _ => none
def xp1L {β : Type} (st : List xV) (k : Int64 → List xV → Option β) : Option β := match st with
  | .inr (.inl x) :: r => k x r
  | _ => none
def xp2L {β : Type} (st : List xV) (k : Int64 → Int64 → List xV → Option β) : Option β := match st with
  | .inr (.inl y) :: .inr (.inl x) :: r => k x y r
  | _ => none
def xp1R {β : Type} (st : List xV) (k : Option Nat → List xV → Option β) : Option β := match st with
  | .inr (.inr x) :: r => k x r
  | _ => none
def xpA {β : Type} (st : List xV) (k : Option Nat → Int32 → List xV → Option β) : Option β := match st with
  | .inl i :: .inr (.inr a) :: r => k a i r
  | _ => none
abbrev xR : Type := Option (Option xV × xM)
abbrev xK : Type := Nat → Nat → xL → List xV → xM → xR
def xbr (op : ClassFile.Cond) (x y : Int32) (t f : xR) : xR := match op with
  | .eq => if x = y then t else f
  | .ne => if x = y then f else t
  | .lt => if x < y then t else f
  | .ge => if y ≤ x then t else f
  | .gt => if y < x then t else f
  | .le => if x ≤ y then t else f
/-- behind a call: the answer, by its kind, on the stack -/
def xback (K : xK) (mi pc : Nat) (lv : xL) (rest : List xV) (rt : Nat) (q : Option xV × xM) : xR := match rt with
  | 1 => (xasL q.1).bind fun x => K mi pc lv (vl x :: rest) q.2
  | 2 => (xasR q.1).bind fun x => K mi pc lv (vr x :: rest) q.2
  | 4 => bif q.1.isNone then K mi pc lv rest q.2 else none
  | _ => (xasI q.1).bind fun x => K mi pc lv (vi x :: rest) q.2
/-- a call of method a with the arguments As -/
def xcall (K : xK) (mi pc : Nat) (lv : xL) (rest : List xV) (M : xM) (a rt : Nat) (As : List xV) : xR :=
  bif Nat.ble (xcats rest) 8 && Nat.ble (xcats As) (xnums a).1 then (K a 0 (xlocs (xnums a).1 As) [] M).bind (xback K mi (pc + 3) lv rest rt) else none
def xexec (T0 MI : Nat) (K : xK) (mi pc : Nat) (lv : xL) (st : List xV) (M : xM) (ins : Instr) (a b c : Nat) : xR :=
  match ins with
  | .aconst_null => K mi (pc + 1) lv (vr none :: st) M
  | .iconst n => K mi (pc + 1) lv (vi (Int32.ofInt n) :: st) M
  | .lconst n => K mi (pc + 1) lv (vl (Int64.ofNat n) :: st) M
  | .bipush n => K mi (pc + 2) lv (vi (Int32.ofInt n) :: st) M
  | .sipush n => K mi (pc + 3) lv (vi (Int32.ofInt n) :: st) M
  | .ldc _ => bif Nat.beq c 0 then K mi (pc + 2) lv (vi (xcI a) :: st) M else bif Nat.beq c 98 then K mi (pc + 2) lv (vr (some MI) :: st) M else none
  | .ldc_w _ => bif Nat.beq c 0 then K mi (pc + 3) lv (vi (xcI a) :: st) M else none
  | .ldc2_w _ => bif Nat.beq c 0 then K mi (pc + 3) lv (vl (xcL a) :: st) M else none
  | .iload_n i => (xasI (xlk lv i)).bind fun x => K mi (pc + 1) lv (vi x :: st) M
  | .iload i => (xasI (xlk lv i)).bind fun x => K mi (pc + 2) lv (vi x :: st) M
  | .lload_n i => (xasL (xlk lv i)).bind fun x => K mi (pc + 1) lv (vl x :: st) M
  | .lload i => (xasL (xlk lv i)).bind fun x => K mi (pc + 2) lv (vl x :: st) M
  | .aload_n i => (xasR (xlk lv i)).bind fun x => K mi (pc + 1) lv (vr x :: st) M
  | .aload i => (xasR (xlk lv i)).bind fun x => K mi (pc + 2) lv (vr x :: st) M
  | .istore_n i => xp1I st fun x r => K mi (pc + 1) (xst1 lv i (vi x)) r M
  | .istore i => xp1I st fun x r => K mi (pc + 2) (xst1 lv i (vi x)) r M
  | .astore_n i => xp1R st fun x r => K mi (pc + 1) (xst1 lv i (vr x)) r M
  | .astore i => xp1R st fun x r => K mi (pc + 2) (xst1 lv i (vr x)) r M
  | .lstore i => xp1L st fun x r => K mi (pc + 2) (xst2 lv i (vl x)) r M
  | .iinc i n => (xasI (xlk lv i)).bind fun x => K mi (pc + 3) (xst1 lv i (vi (x + Int32.ofInt n))) st M
  | .iadd => xp2I st fun x y r => K mi (pc + 1) lv (vi (x + y) :: r) M
  | .isub => xp2I st fun x y r => K mi (pc + 1) lv (vi (x - y) :: r) M
  | .imul => xp2I st fun x y r => K mi (pc + 1) lv (vi (x * y) :: r) M
  | .iand => xp2I st fun x y r => K mi (pc + 1) lv (vi (x &&& y) :: r) M
  | .ixor => xp2I st fun x y r => K mi (pc + 1) lv (vi (x ^^^ y) :: r) M
  | .ishl => xp2I st fun x y r => K mi (pc + 1) lv (vi (x <<< (y &&& 31)) :: r) M
  | .ishr => xp2I st fun x y r => K mi (pc + 1) lv (vi (x >>> (y &&& 31)) :: r) M
  | .iushr => xp2I st fun x y r => K mi (pc + 1) lv (vi ((x.toUInt32 >>> (y.toUInt32 &&& Int32.toUInt32 31)).toInt32) :: r) M
  | .ineg => xp1I st fun x r => K mi (pc + 1) lv (vi (-x) :: r) M
  | .ladd => xp2L st fun x y r => K mi (pc + 1) lv (vl (x + y) :: r) M
  | .land => xp2L st fun x y r => K mi (pc + 1) lv (vl (x &&& y) :: r) M
  | .lor => xp2L st fun x y r => K mi (pc + 1) lv (vl (x ||| y) :: r) M
  | .lshl => xp1I st fun y r => xp1L r fun x r => K mi (pc + 1) lv (vl (x <<< (y.toInt64 &&& 63)) :: r) M
  | .i2l => xp1I st fun x r => K mi (pc + 1) lv (vl x.toInt64 :: r) M
  | .lcmp => xp2L st fun x y r => K mi (pc + 1) lv (vi (lg_cmp x y) :: r) M
  | .dup => match st with
    | v :: r => bif Nat.beq (xcat v) 1 then K mi (pc + 1) lv (v :: v :: r) M else none
    | [] => none
  | .pop => match st with
    | v :: r => bif Nat.beq (xcat v) 1 then K mi (pc + 1) lv r M else none
    | [] => none
  | .dup_x1 => match st with
    | v :: w :: r => bif Nat.beq (xcat v) 1 && Nat.beq (xcat w) 1 then K mi (pc + 1) lv (v :: w :: v :: r) M else none
    | _ => none
  | .dup2 => match st with
    | v :: w :: r => bif Nat.beq (xcat v) 1 && Nat.beq (xcat w) 1 then K mi (pc + 1) lv (v :: w :: v :: w :: r) M else none
    | _ => none
  | .ifCond op _ => xp1I st fun x r => xbr op x 0 (K mi a lv r M) (K mi (pc + 3) lv r M)
  | .if_icmp op _ => xp2I st fun x y r => xbr op x y (K mi a lv r M) (K mi (pc + 3) lv r M)
  | .if_acmp op _ => xp1R st fun y r => xp1R r fun x r => match op with
    | .eq => if x = y then K mi a lv r M else K mi (pc + 3) lv r M
    | .ne => if x = y then K mi (pc + 3) lv r M else K mi a lv r M
  | .ifnull _ => xp1R st fun x r => bif x.isNone then K mi a lv r M else K mi (pc + 3) lv r M
  | .ifnonnull _ => xp1R st fun x r => bif x.isNone then K mi (pc + 3) lv r M else K mi a lv r M
  | .goto _ => K mi a lv st M
  | .tableswitch d lo hi offs => xp1I st fun x r => if x.toInt < lo ∨ hi < x.toInt then K mi ((pc : Int) + d).toNat lv r M else (offs[(x.toInt - lo).toNat]?).bind fun o => K mi ((pc : Int) + o).toNat lv r M
  | .getfield _ => xp1R st fun p r => p.bind fun q => match c with
    | 1 => (xgetL M q a b).bind fun x => K mi (pc + 3) lv (vl x :: r) M
    | 2 => (xgetR M q a b).bind fun x => K mi (pc + 3) lv (vr x :: r) M
    | _ => (xgetI M q a b).bind fun x => K mi (pc + 3) lv (vi x :: r) M
  | .putfield _ => match c with
    | 1 => xp1L st fun x r => xp1R r fun p r => p.bind fun q => (xput M q a b (vl x)).bind fun M => K mi (pc + 3) lv r M
    | 2 => xp1R st fun x r => xp1R r fun p r => p.bind fun q => (xput M q a b (vr x)).bind fun M => K mi (pc + 3) lv r M
    | 3 => xp1I st fun x r => xp1R r fun p r => p.bind fun q => bif xbool x then (xput M q a b (vi x)).bind fun M => K mi (pc + 3) lv r M else none
    | _ => xp1I st fun x r => xp1R r fun p r => p.bind fun q => (xput M q a b (vi x)).bind fun M => K mi (pc + 3) lv r M
  | .getstatic _ => K mi (pc + 3) lv (vr (some T0) :: st) M
  | .iaload => xpA st fun p i r => p.bind fun q => (xaI M q i).bind fun x => K mi (pc + 1) lv (vi x :: r) M
  | .baload => xpA st fun p i r => p.bind fun q => (xaZ M q i).bind fun x => K mi (pc + 1) lv (vi x :: r) M
  | .laload => xpA st fun p i r => p.bind fun q => (xaL M q i).bind fun x => K mi (pc + 1) lv (vl x :: r) M
  | .aaload => xpA st fun p i r => p.bind fun q => (xaR M q i).bind fun x => K mi (pc + 1) lv (vr x :: r) M
  | .iastore => xp1I st fun x r => xpA r fun p i r => p.bind fun q => (xsI M q i x).bind fun M => K mi (pc + 1) lv r M
  | .bastore => xp1I st fun x r => xpA r fun p i r => p.bind fun q => (xsZ M q i x).bind fun M => K mi (pc + 1) lv r M
  | .lastore => xp1L st fun x r => xpA r fun p i r => p.bind fun q => (xsL M q i x).bind fun M => K mi (pc + 1) lv r M
  | .aastore => xp1R st fun x r => xpA r fun p i r => p.bind fun q => (xsR M q i x).bind fun M => K mi (pc + 1) lv r M
  | .arraylength => xp1R st fun p r => p.bind fun q => (xlenA M q).bind fun x => K mi (pc + 1) lv (vi x :: r) M
  | .new _ => bif Nat.beq c 0 then K mi (pc + 3) lv (vr (some M.1) :: st) (xnewO M a) else none
  | .newarray _ => xp1I st fun n r => (xnewA M a n).bind fun M1 => K mi (pc + 2) lv (vr (some M.1) :: r) M1
  | .anewarray _ => xp1I st fun n r => (xnewA M a n).bind fun M1 => K mi (pc + 3) lv (vr (some M.1) :: r) M1
  | .checkcast _ => bif Nat.beq c 0 then xp1R st fun p r => match p with
      | none => K mi (pc + 3) lv (vr none :: r) M
      | some q => bif xcls M q a then K mi (pc + 3) lv (vr (some q) :: r) M else none
    else none
  | .invokevirtual _ => bif Nat.beq c 52 then (xp1R st fun p r => p.bind fun q => bif xisOA M q && Nat.ble (xcats r) 8 then K mi (pc + 3) lv (vr (some MI) :: r) M else none)
    else bif Nat.blt c 10 then (xp1R (st.drop b) fun p r => p.bind fun q => bif xcls M q (xnums a).2.1 then xcall K mi pc lv r M a c (vr (some q) :: (st.take b).reverse) else none)
    else none
  | .invokespecial _ => bif Nat.beq c 50 then (xp1R st fun p r => p.bind fun _ => bif Nat.ble (xcats r) 8 then K mi (pc + 3) lv r M else none)
    else bif Nat.beq c 24 || Nat.beq c 34 then (xp1R (st.drop b) fun p r => p.bind fun q => xcall K mi pc lv r M a 4 (vr (some q) :: (st.take b).reverse))
    else none
  | .invokestatic _ => bif Nat.beq c 51 then (xp1I st fun n r => xpA r fun p1 dp r => p1.bind fun a1 => xpA r fun p0 sp r => p0.bind fun a0 => bif Nat.ble (xcats r) 8 then (xcopy M a0 sp a1 dp n).bind fun M => K mi (pc + 3) lv r M else none)
    else bif Nat.beq c 53 then (xp2I st fun x y r => bif Nat.ble (xcats r) 8 then K mi (pc + 3) lv (vi (if x < y then y else x) :: r) M else none)
    else bif Nat.beq c 54 then (xp2I st fun x y r => bif Nat.ble (xcats r) 8 then K mi (pc + 3) lv (vi (if y < x then y else x) :: r) M else none)
    else bif Nat.ble 10 c && (Nat.blt c 20 && Nat.ble b st.length) then xcall K mi pc lv (st.drop b) M a (c - 10) (st.take b).reverse
    else none
  | .ireturn => match st with
    | [.inl x] => bif Nat.beq c 3 then (bif xbool x then some (some (vi x), M) else none) else some (some (vi x), M)
    | _ => none
  | .lreturn => match st with
    | [.inr (.inl x)] => some (some (vl x), M)
    | _ => none
  | .areturn => match st with
    | [.inr (.inr x)] => some (some (vr x), M)
    | _ => none
  | .return_ => match st with
    | [] => some (none, M)
    | _ => none
  | _ => none
def xstep (T0 MI : Nat) (K : xK) (mi pc : Nat) (lv : xL) (st : List xV) (M : xM) : xR := match xfetch mi pc with
  | none => none
  | some (ins, a, b, c) => xexec T0 MI K mi pc lv st M ins a b c
/-- n steps at most -/
def xrun (T0 MI : Nat) : Nat → xK := fun n => Nat.rec (motive := fun _ => xK) (fun _ _ _ _ _ => none) (fun _ K => xstep T0 MI K) n
theorem xrun_succ (T0 MI n : Nat) : xrun T0 MI (n + 1) = xstep T0 MI (xrun T0 MI n) := rfl
