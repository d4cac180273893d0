/-! A SMALL MACHINE OVER A PURE HEAP: cells by their numbers; steps as a function with handlers; its fixed point 'ex'; what 'unr' unrolls is 'ex'. -/
abbrev MCell : Type := Nat × List Value
abbrev MHeap : Type := List MCell
abbrev MSl : Type := Option (Value ⊕ Int64)
abbrev MLoc : Type := List MSl
abbrev MIns : Type := Nat × Instr × List Nat × List Value
abbrev MRes : Type := Option (Option Value × MHeap)
abbrev sv (v : Value) : MSl := some (.inl v)
abbrev sy (y : Int64) : MSl := some (.inr y)
def mlg : MLoc → Nat → MSl
  | [], _ => none
  | x :: _, 0 => x
  | _ :: r, n + 1 => mlg r n
def clr (s : MSl) : MSl := match s with
  | some (.inr _) => none
  | s => s
def mst : MLoc → Nat → Value → MLoc
  | [], _, _ => []
  | _ :: r, 0, v => sv v :: r
  | x :: r, n + 1, v => (match n with
    | 0 => clr x
    | _ + 1 => x) :: mst r n v
def mhd : MLoc → MLoc
  | [] => []
  | _ :: r => none :: r
def mstL : MLoc → Nat → Int64 → MLoc
  | [], _, _ => []
  | _ :: r, 0, y => sy y :: mhd r
  | x :: r, n + 1, y => (match n with
    | 0 => clr x
    | _ + 1 => x) :: mstL r n y
section CMB
variable {α : Type}
def dI (no : α) (v : Value) (k : Int32 → α) : α := match v with
  | .int x => k x
  | _ => no
def dL (no : α) (v : Value) (k : Int64 → α) : α := match v with
  | .long x => k x
  | _ => no
def dR (no : α) (v : Value) (k : Nat → α) : α := match v with
  | .ref a => k a
  | _ => no
def dA (no : α) (v : Value) (k : α) : α := match v with
  | .null => k
  | .ref _ => k
  | _ => no
def dN (no : α) (v : Value) (kn kr : α) : α := match v with
  | .null => kn
  | .ref _ => kr
  | _ => no
def dD (no : α) (v : Value) (k : α) : α := match v with
  | .long _ => no
  | .double _ => no
  | _ => k
def dv (no : α) (y : Int32) (k : α) : α := if y = 0 then no else k
def dvL (no : α) (y : Int64) (k : α) : α := if y = 0 then no else k
def zr (no : α) (x : Int32) (k : α) : α := if x = 0 ∨ x = 1 then k else no
def gS (no : α) (s : MSl) (k : Value → α) : α := match s with
  | some (.inl v) => k v
  | _ => no
def gSL (no : α) (s : MSl) (k : Int64 → α) : α := match s with
  | some (.inr y) => k y
  | _ => no
def gfI (no : α) (h : MHeap) (o : Nat) (ts : List Nat) (j : Nat) (k : Int32 → α) : α := match h[o]? with
  | some (t, fs) => if ts.contains t then (match fs[j]? with
    | some (.int x) => k x
    | _ => no) else no
  | none => no
def gfV (no : α) (h : MHeap) (o : Nat) (ts : List Nat) (j : Nat) (k : Value → α) : α := match h[o]? with
  | some (t, fs) => if ts.contains t then (match fs[j]? with
    | some v => dA no v (k v)
    | _ => no) else no
  | none => no
/-- a field is set: of ints, of truths, of references -/
def pfI (no : α) (h : MHeap) (o : Nat) (ts : List Nat) (j : Nat) (x : Int32) (k : MHeap → α) : α := match h[o]? with
  | some (t, fs) => if ts.contains t ∧ j < fs.length then k (h.set o (t, fs.set j (.int x))) else no
  | none => no
def pfV (no : α) (h : MHeap) (o : Nat) (ts : List Nat) (j : Nat) (v : Value) (k : MHeap → α) : α := match h[o]? with
  | some (t, fs) => if ts.contains t ∧ j < fs.length then dA no v (k (h.set o (t, fs.set j v))) else no
  | none => no
def aln (no : α) (h : MHeap) (o : Nat) (k : Int32 → α) : α := match h[o]? with
  | some (t, vs) => if (t = 99 ∧ o = 0) ∨ (100 ≤ t ∧ t ≤ 103) then k (nI vs.length) else no
  | none => no
def alI (no : α) (h : MHeap) (o : Nat) (i : Int32) (k : Int32 → α) : α := match h[o]? with
  | some (t, vs) => if ((t = 99 ∧ o = 0) ∨ t = 100) ∧ ¬ i < 0 then (match vs[i.toNatClampNeg]? with
    | some (.int x) => k x
    | _ => no) else no
  | none => no
def asI (no : α) (h : MHeap) (o : Nat) (i : Int32) (x : Int32) (k : MHeap → α) : α := match h[o]? with
  | some (t, vs) => if t = 100 ∧ ¬ i < 0 ∧ i.toNatClampNeg < vs.length then k (h.set o (t, vs.set i.toNatClampNeg (.int x))) else no
  | none => no
def alV (no : α) (h : MHeap) (o : Nat) (i : Int32) (k : Value → α) : α := match h[o]? with
  | some (t, vs) => if (101 ≤ t ∧ t ≤ 103) ∧ ¬ i < 0 then (match vs[i.toNatClampNeg]? with
    | some v => dA no v (k v)
    | _ => no) else no
  | none => no
/-- which objects an array of references takes -/
def mok (t t2 : Nat) : Bool := match t with
  | 101 => [1, 2, 3, 6, 8, 10].contains t2
  | 102 => Nat.beq t2 5
  | 103 => Nat.beq t2 7
  | _ => false
def asV (no : α) (h : MHeap) (o : Nat) (i : Int32) (v : Value) (k : MHeap → α) : α := match h[o]? with
  | some (t, vs) => if (101 ≤ t ∧ t ≤ 103) ∧ ¬ i < 0 ∧ i.toNatClampNeg < vs.length then (match v with
    | .null => k (h.set o (t, vs.set i.toNatClampNeg .null))
    | .ref o2 => (match h[o2]? with
      | some (t2, _) => if mok t t2 then k (h.set o (t, vs.set i.toNatClampNeg (.ref o2))) else no
      | none => no)
    | _ => no) else no
  | none => no
def nwA (no : α) (h : MHeap) (t : Nat) (n : Int32) (v : Value) (k : Nat → MHeap → α) : α := if n < 0 ∨ 100000 < n.toNatClampNeg then no else k h.length (h ++ [(t, List.replicate n.toNatClampNeg v)])
def nwO (h : MHeap) (t : Nat) (cs : List Value) (k : Nat → MHeap → α) : α := k h.length (h ++ [(t, cs)])
def inO (no : α) (h : MHeap) (o : Nat) (ts nts : List Nat) (k : Int32 → α) : α := match h[o]? with
  | some (t, _) => if ts.contains t then k 1 else if nts.contains t then k 0 else no
  | none => no
def vdP : List Nat → Nat → Option Nat
  | t :: m :: r, x => bif Nat.beq t x then some m else vdP r x
  | _, _ => none
def vd (no : α) (h : MHeap) (o : Nat) (ps : List Nat) (k : Nat → α) : α := match h[o]? with
  | some (t, _) => (match vdP ps t with
    | some m => k m
    | none => no)
  | none => no
def slen (no : α) (h : MHeap) (o : Nat) (k : Int32 → α) : α := match h[o]? with
  | some (t, vs) => if t = 98 ∧ (o = 1 ∨ o = 2) then k (nI vs.length) else no
  | none => no
def sch (no : α) (h : MHeap) (o : Nat) (i : Int32) (k : Int32 → α) : α := match h[o]? with
  | some (t, vs) => if (t = 98 ∧ (o = 1 ∨ o = 2)) ∧ ¬ i < 0 then (match vs[i.toNatClampNeg]? with
    | some (.int x) => k x
    | _ => no) else no
  | none => no
def cpyL (vs ws : List Value) (sp dp n : Nat) : List Value := ws.take dp ++ ((vs.drop sp).take n ++ ws.drop (dp + n))
def acp (no : α) (h : MHeap) (o1 : Nat) (sp : Int32) (o2 : Nat) (dp n : Int32) (k : MHeap → α) : α := match h[o1]?, h[o2]? with
  | some (t1, vs), some (t2, ws) => if t1 = 100 ∧ t2 = 100 ∧ ¬ sp < 0 ∧ ¬ dp < 0 ∧ ¬ n < 0 ∧ sp.toNatClampNeg + n.toNatClampNeg ≤ vs.length ∧ dp.toNatClampNeg + n.toNatClampNeg ≤ ws.length then k (h.set o2 (100, cpyL vs ws sp.toNatClampNeg dp.toNatClampNeg n.toNatClampNeg)) else no
  | _, _ => no
def swc (x : Int32) (kd : α) (k : Nat → α) : List Value → List Nat → α
  | .int y :: ys, t :: ts => if x = y then k t else swc x kd k ys ts
  | _, _ => kd
end CMB
def pops : Nat → List Value → List Value → Option (List Value × List Value)
  | 0, acc, S => some (acc, S)
  | n + 1, acc, v :: S => pops n (v :: acc) S
  | _ + 1, _, [] => none
section STEP
variable {α : Type}
/-- one instruction: 'no' stuck, 'rt' a return, 'kn' on to the next, 'kj' a jump, 'cl' a call (method, values, kind of answer, the stack below) -/
def stK (no : α) (rt : Option Value → MHeap → α) (kn : MLoc → List Value → MHeap → α) (kj : Nat → MLoc → List Value → MHeap → α) (cl : Nat → List Value → Nat → List Value → MHeap → α) (i : Instr) (rs : List Nat) (cs : List Value) (L : MLoc) (S : List Value) (h : MHeap) : α :=
  match i with
  | .aconst_null => kn L (.null :: S) h
  | .iconst _ | .bipush _ | .sipush _ | .lconst _ | .ldc _ | .ldc_w _ | .ldc2_w _ => (match cs with
    | v :: _ => kn L (v :: S) h
    | [] => no)
  | .iload n => gS no (mlg L n) fun v => dI no v fun x => kn L (.int x :: S) h
  | .iload_n n => gS no (mlg L n.val) fun v => dI no v fun x => kn L (.int x :: S) h
  | .aload n => gS no (mlg L n) fun v => dA no v (kn L (v :: S) h)
  | .aload_n n => gS no (mlg L n.val) fun v => dA no v (kn L (v :: S) h)
  | .lload n => gSL no (mlg L n) fun y => kn L (.long y :: S) h
  | .lload_n n => gSL no (mlg L n.val) fun y => kn L (.long y :: S) h
  | .istore n => (match S with
    | v :: S => dI no v fun x => kn (mst L n (.int x)) S h
    | _ => no)
  | .istore_n n => (match S with
    | v :: S => dI no v fun x => kn (mst L n.val (.int x)) S h
    | _ => no)
  | .astore n => (match S with
    | v :: S => dA no v (kn (mst L n v) S h)
    | _ => no)
  | .astore_n n => (match S with
    | v :: S => dA no v (kn (mst L n.val v) S h)
    | _ => no)
  | .lstore n => (match S with
    | v :: S => dL no v fun x => kn (mstL L n x) S h
    | _ => no)
  | .lstore_n n => (match S with
    | v :: S => dL no v fun x => kn (mstL L n.val x) S h
    | _ => no)
  | .iinc n _ => (match cs with
    | .int z :: _ => gS no (mlg L n) fun v => dI no v fun x => kn (mst L n (.int (x + z))) S h
    | _ => no)
  | .dup => (match S with
    | v :: S => dD no v (kn L (v :: v :: S) h)
    | _ => no)
  | .pop => (match S with
    | v :: S => dI no v fun _ => kn L S h
    | _ => no)
  | .iadd => (match S with
    | v :: w :: S => dI no v fun y => dI no w fun x => kn L (.int (x + y) :: S) h
    | _ => no)
  | .isub => (match S with
    | v :: w :: S => dI no v fun y => dI no w fun x => kn L (.int (x - y) :: S) h
    | _ => no)
  | .imul => (match S with
    | v :: w :: S => dI no v fun y => dI no w fun x => kn L (.int (x * y) :: S) h
    | _ => no)
  | .iand => (match S with
    | v :: w :: S => dI no v fun y => dI no w fun x => kn L (.int (x &&& y) :: S) h
    | _ => no)
  | .ior => (match S with
    | v :: w :: S => dI no v fun y => dI no w fun x => kn L (.int (x ||| y) :: S) h
    | _ => no)
  | .ixor => (match S with
    | v :: w :: S => dI no v fun y => dI no w fun x => kn L (.int (x ^^^ y) :: S) h
    | _ => no)
  | .ishl => (match S with
    | v :: w :: S => dI no v fun y => dI no w fun x => kn L (.int (x <<< (y &&& 31)) :: S) h
    | _ => no)
  | .ishr => (match S with
    | v :: w :: S => dI no v fun y => dI no w fun x => kn L (.int (x >>> (y &&& 31)) :: S) h
    | _ => no)
  | .iushr => (match S with
    | v :: w :: S => dI no v fun y => dI no w fun x => kn L (.int (x.toUInt32 >>> (y.toUInt32 &&& Int32.toUInt32 31)).toInt32 :: S) h
    | _ => no)
  | .idiv => (match S with
    | v :: w :: S => dI no v fun y => dI no w fun x => dv no y (kn L (.int (x / y) :: S) h)
    | _ => no)
  | .irem => (match S with
    | v :: w :: S => dI no v fun y => dI no w fun x => dv no y (kn L (.int (x - x / y * y) :: S) h)
    | _ => no)
  | .ineg => (match S with
    | v :: S => dI no v fun x => kn L (.int (-x) :: S) h
    | _ => no)
  | .i2l => (match S with
    | v :: S => dI no v fun x => kn L (.long x.toInt64 :: S) h
    | _ => no)
  | .i2b => (match S with
    | v :: S => dI no v fun x => kn L (.int x.toInt8.toInt32 :: S) h
    | _ => no)
  | .i2s => (match S with
    | v :: S => dI no v fun x => kn L (.int x.toInt16.toInt32 :: S) h
    | _ => no)
  | .l2i => (match S with
    | v :: S => dL no v fun x => kn L (.int x.toInt32 :: S) h
    | _ => no)
  | .ladd => (match S with
    | v :: w :: S => dL no v fun y => dL no w fun x => kn L (.long (x + y) :: S) h
    | _ => no)
  | .lmul => (match S with
    | v :: w :: S => dL no v fun y => dL no w fun x => kn L (.long (x * y) :: S) h
    | _ => no)
  | .ldiv => (match S with
    | v :: w :: S => dL no v fun y => dL no w fun x => dvL no y (kn L (.long (x / y) :: S) h)
    | _ => no)
  | .lrem => (match S with
    | v :: w :: S => dL no v fun y => dL no w fun x => dvL no y (kn L (.long (x - x / y * y) :: S) h)
    | _ => no)
  | .lcmp => (match S with
    | v :: w :: S => dL no v fun y => dL no w fun x => kn L (.int (if x = y then 0 else if x < y then -1 else 1) :: S) h
    | _ => no)
  | .ifCond c _ => (match S, rs with
    | v :: S, t :: _ => dI no v fun x => (match c with
      | .eq => if x = 0 then kj t L S h else kn L S h
      | .ne => if x = 0 then kn L S h else kj t L S h
      | .lt => if x < 0 then kj t L S h else kn L S h
      | .ge => if x < 0 then kn L S h else kj t L S h
      | .gt => if 0 < x then kj t L S h else kn L S h
      | .le => if 0 < x then kn L S h else kj t L S h)
    | _, _ => no)
  | .if_icmp c _ => (match S, rs with
    | v :: w :: S, t :: _ => dI no v fun y => dI no w fun x => (match c with
      | .eq => if x = y then kj t L S h else kn L S h
      | .ne => if x = y then kn L S h else kj t L S h
      | .lt => if x < y then kj t L S h else kn L S h
      | .ge => if x < y then kn L S h else kj t L S h
      | .gt => if y < x then kj t L S h else kn L S h
      | .le => if y < x then kn L S h else kj t L S h)
    | _, _ => no)
  | .ifnull _ => (match S, rs with
    | v :: S, t :: _ => dN no v (kj t L S h) (kn L S h)
    | _, _ => no)
  | .ifnonnull _ => (match S, rs with
    | v :: S, t :: _ => dN no v (kn L S h) (kj t L S h)
    | _, _ => no)
  | .goto _ => (match rs with
    | t :: _ => kj t L S h
    | _ => no)
  | .tableswitch _ _ _ _ | .lookupswitch _ _ => (match S, rs with
    | v :: S, t :: ts => dI no v fun x => swc x (kj t L S h) (fun t => kj t L S h) cs ts
    | _, _ => no)
  | .ireturn => (match S, rs with
    | [v], 0 :: _ => dI no v fun x => rt (some (.int x)) h
    | [v], _ => dI no v fun x => zr no x (rt (some (.int x)) h)
    | _, _ => no)
  | .lreturn => (match S with
    | [v] => dL no v fun x => rt (some (.long x)) h
    | _ => no)
  | .areturn => (match S with
    | [v] => dA no v (rt (some v) h)
    | _ => no)
  | .return_ => (match S with
    | [] => rt none h
    | _ => no)
  | .getfield _ => (match S, rs with
    | v :: S, 0 :: j :: ts => dR no v fun o => gfI no h o ts j fun x => kn L (.int x :: S) h
    | v :: S, _ :: j :: ts => dR no v fun o => gfV no h o ts j fun x => kn L (x :: S) h
    | _, _ => no)
  | .putfield _ => (match S, rs with
    | w :: v :: S, 0 :: j :: ts => dI no w fun x => dR no v fun o => pfI no h o ts j x fun h => kn L S h
    | w :: v :: S, 1 :: j :: ts => dI no w fun x => zr no x (dR no v fun o => pfI no h o ts j x fun h => kn L S h)
    | w :: v :: S, _ :: j :: ts => dR no v fun o => pfV no h o ts j w fun h => kn L S h
    | _, _ => no)
  | .arraylength => (match S with
    | v :: S => dR no v fun o => aln no h o fun x => kn L (.int x :: S) h
    | _ => no)
  | .iaload => (match S with
    | w :: v :: S => dI no w fun i => dR no v fun o => alI no h o i fun x => kn L (.int x :: S) h
    | _ => no)
  | .iastore => (match S with
    | u :: w :: v :: S => dI no u fun x => dI no w fun i => dR no v fun o => asI no h o i x fun h => kn L S h
    | _ => no)
  | .aaload => (match S with
    | w :: v :: S => dI no w fun i => dR no v fun o => alV no h o i fun x => kn L (x :: S) h
    | _ => no)
  | .aastore => (match S with
    | u :: w :: v :: S => dI no w fun i => dR no v fun o => asV no h o i u fun h => kn L S h
    | _ => no)
  | .newarray _ => (match S with
    | v :: S => dI no v fun n => nwA no h 100 n (.int 0) fun o h => kn L (.ref o :: S) h
    | _ => no)
  | .anewarray _ => (match S, rs with
    | v :: S, t :: _ => dI no v fun n => nwA no h t n .null fun o h => kn L (.ref o :: S) h
    | _, _ => no)
  | .new _ => (match rs with
    | t :: _ => nwO h t cs fun o h => kn L (.ref o :: S) h
    | _ => no)
  | .instanceof _ => (match S, rs with
    | v :: S, n :: ts => dN no v (kn L (.int 0 :: S) h) (dR no v fun o => inO no h o (ts.take n) (ts.drop n) fun x => kn L (.int x :: S) h)
    | _, _ => no)
  | .invokestatic _ => (match rs with
    | m :: n :: k :: _ => (match pops n [] S with
      | some (as, S) => bif Nat.ble S.length 4 then cl m as k S h else no
      | none => no)
    | _ => no)
  | .invokespecial _ => (match rs with
    | m :: n :: k :: ts => (match pops n [] S with
      | some (as, v :: S) => dR no v fun o => (match ts with
        | [] => bif Nat.ble S.length 4 then cl m (.ref o :: as) k S h else no
        | t :: _ => inO no h o [t] [] fun _ => bif Nat.ble S.length 4 then cl m (.ref o :: as) k S h else no)
      | _ => no)
    | _ => no)
  | .invokevirtual _ => (match rs with
    | n :: k :: ps => (match pops n [] S with
      | some (as, v :: S) => dR no v fun o => vd no h o ps fun m => bif Nat.ble S.length 4 then cl m (.ref o :: as) k S h else no
      | _ => no)
    | _ => no)
  | _ => no
end STEP
/-- what isn't walked here: max, min, arraycopy, Object's constructor, a text's length and chars -/
def prm (m : Nat) (as : List Value) (h : MHeap) : MRes := match m with
  | 0 => (match as with
    | [.int x, .int y] => some (some (.int (if x < y then y else x)), h)
    | _ => none)
  | 1 => (match as with
    | [.int x, .int y] => some (some (.int (if y < x then y else x)), h)
    | _ => none)
  | 2 => (match as with
    | [.ref o1, .int sp, .ref o2, .int dp, .int n] => acp none h o1 sp o2 dp n fun h => some (none, h)
    | _ => none)
  | 3 => (match as with
    | [.ref _] => some (none, h)
    | _ => none)
  | 4 => (match as with
    | [.ref o] => slen none h o fun x => some (some (.int x), h)
    | _ => none)
  | 5 => (match as with
    | [.ref o, .int i] => sch none h o i fun x => some (some (.int x), h)
    | _ => none)
  | _ => none
/-- how many calls stand open in them at once -/
def prd (m : Nat) : Nat := match m with
  | 4 => 3
  | 5 => 6
  | _ => 0
def prx (d m : Nat) (as : List Value) (h : MHeap) : MRes := bif Nat.ble (prd m) d then prm m as h else none
