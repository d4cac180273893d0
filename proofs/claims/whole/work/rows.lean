section
/-! A SMALL MACHINE OVER A PURE HEAP: cells by their numbers; steps as a function with handlers; its fixed point 'ex'; what 'unr' unrolls is 'ex'. -/
abbrev MCell : Type := Nat × List Value
abbrev MHeap : Type := List MCell
abbrev MSl : Type := Option (Value ⊕ Int64)
abbrev MLoc : Type := List MSl
abbrev MIns : Type := Nat × Instr × List Nat × List Value
abbrev MRes : Type := Option (Option Value × MHeap)
abbrev sv (v : Value) : MSl := some (.inl v)
abbrev sy (y : Int64) : MSl := some (.inr y)
def mlg : MLoc → Nat → MSl
  | [], _ => none
  | x :: _, 0 => x
  | _ :: r, n + 1 => mlg r n
def mls : MLoc → Nat → MSl → MLoc
  | [], _, _ => []
  | _ :: r, 0, v => v :: r
  | x :: r, n + 1, v => x :: mls r n v
def mcl : MLoc → Nat → MLoc
  | L, 0 => L
  | L, i + 1 => match mlg L i with
    | some (.inr _) => mls L i none
    | _ => L
def mst (L : MLoc) (i : Nat) (v : Value) : MLoc := mls (mcl L i) i (some (.inl v))
def mstL (L : MLoc) (i : Nat) (y : Int64) : MLoc := mls (mls (mcl L i) i (some (.inr y))) (i + 1) none
section CMB
variable {α : Type}
def dI (no : α) (v : Value) (k : Int32 → α) : α := match v with
  | .int x => k x
  | _ => no
def dL (no : α) (v : Value) (k : Int64 → α) : α := match v with
  | .long x => k x
  | _ => no
def dR (no : α) (v : Value) (k : Nat → α) : α := match v with
  | .ref a => k a
  | _ => no
def dA (no : α) (v : Value) (k : α) : α := match v with
  | .null => k
  | .ref _ => k
  | _ => no
def dN (no : α) (v : Value) (kn kr : α) : α := match v with
  | .null => kn
  | .ref _ => kr
  | _ => no
def dD (no : α) (v : Value) (k : α) : α := match v with
  | .long _ => no
  | .double _ => no
  | _ => k
def dv (no : α) (y : Int32) (k : α) : α := if y = 0 then no else k
def dvL (no : α) (y : Int64) (k : α) : α := if y = 0 then no else k
def zr (no : α) (x : Int32) (k : α) : α := if x &&& 1 = x then k else no
def gS (no : α) (s : MSl) (k : Value → α) : α := match s with
  | some (.inl v) => k v
  | _ => no
def gSL (no : α) (s : MSl) (k : Int64 → α) : α := match s with
  | some (.inr y) => k y
  | _ => no
def gfI (no : α) (h : MHeap) (o : Nat) (ts : List Nat) (j : Nat) (k : Int32 → α) : α := match h[o]? with
  | some (t, fs) => if ts.contains t then (match fs[j]? with
    | some (.int x) => k x
    | _ => no) else no
  | none => no
def gfV (no : α) (h : MHeap) (o : Nat) (ts : List Nat) (j : Nat) (k : Value → α) : α := match h[o]? with
  | some (t, fs) => if ts.contains t then (match fs[j]? with
    | some v => dA no v (k v)
    | _ => no) else no
  | none => no
/-- a field is set: of ints, of truths, of references -/
def pfI (no : α) (h : MHeap) (o : Nat) (ts : List Nat) (j : Nat) (x : Int32) (k : MHeap → α) : α := match h[o]? with
  | some (t, fs) => if ts.contains t ∧ j < fs.length then k (h.set o (t, fs.set j (.int x))) else no
  | none => no
def pfV (no : α) (h : MHeap) (o : Nat) (ts : List Nat) (j : Nat) (v : Value) (k : MHeap → α) : α := match h[o]? with
  | some (t, fs) => if ts.contains t ∧ j < fs.length then dA no v (k (h.set o (t, fs.set j v))) else no
  | none => no
def aln (no : α) (h : MHeap) (o : Nat) (k : Int32 → α) : α := match h[o]? with
  | some (t, vs) => if 99 ≤ t then k (nI vs.length) else no
  | none => no
def alI (no : α) (h : MHeap) (o : Nat) (i : Int32) (k : Int32 → α) : α := match h[o]? with
  | some (t, vs) => if (t = 99 ∨ t = 100) ∧ ¬ i < 0 then (match vs[i.toNatClampNeg]? with
    | some (.int x) => k x
    | _ => no) else no
  | none => no
def asI (no : α) (h : MHeap) (o : Nat) (i : Int32) (x : Int32) (k : MHeap → α) : α := match h[o]? with
  | some (t, vs) => if t = 100 ∧ ¬ i < 0 ∧ i.toNatClampNeg < vs.length then k (h.set o (t, vs.set i.toNatClampNeg (.int x))) else no
  | none => no
def alV (no : α) (h : MHeap) (o : Nat) (i : Int32) (k : Value → α) : α := match h[o]? with
  | some (t, vs) => if 101 ≤ t ∧ ¬ i < 0 then (match vs[i.toNatClampNeg]? with
    | some v => dA no v (k v)
    | _ => no) else no
  | none => no
/-- which objects an array of references takes -/
def mok (t t2 : Nat) : Bool := match t with
  | 101 => [1, 2, 3, 6, 8, 10].contains t2
  | 102 => Nat.beq t2 5
  | 103 => Nat.beq t2 7
  | _ => false
def asV (no : α) (h : MHeap) (o : Nat) (i : Int32) (v : Value) (k : MHeap → α) : α := match h[o]? with
  | some (t, vs) => if 101 ≤ t ∧ ¬ i < 0 ∧ i.toNatClampNeg < vs.length then (match v with
    | .null => k (h.set o (t, vs.set i.toNatClampNeg .null))
    | .ref o2 => (match h[o2]? with
      | some (t2, _) => if mok t t2 then k (h.set o (t, vs.set i.toNatClampNeg (.ref o2))) else no
      | none => no)
    | _ => no) else no
  | none => no
def nwA (no : α) (h : MHeap) (t : Nat) (n : Int32) (v : Value) (k : Nat → MHeap → α) : α := if n < 0 ∨ 100000 < n.toNatClampNeg then no else k h.length (h ++ [(t, List.replicate n.toNatClampNeg v)])
def nwO (h : MHeap) (t : Nat) (cs : List Value) (k : Nat → MHeap → α) : α := k h.length (h ++ [(t, cs)])
def inO (no : α) (h : MHeap) (o : Nat) (ts nts : List Nat) (k : Int32 → α) : α := match h[o]? with
  | some (t, _) => if ts.contains t then k 1 else if nts.contains t then k 0 else no
  | none => no
def vdP : List Nat → Nat → Option Nat
  | t :: m :: r, x => bif Nat.beq t x then some m else vdP r x
  | _, _ => none
def vd (no : α) (h : MHeap) (o : Nat) (ps : List Nat) (k : Nat → α) : α := match h[o]? with
  | some (t, _) => (match vdP ps t with
    | some m => k m
    | none => no)
  | none => no
def slen (no : α) (h : MHeap) (o : Nat) (k : Int32 → α) : α := match h[o]? with
  | some (t, vs) => if t = 98 then k (nI vs.length) else no
  | none => no
def sch (no : α) (h : MHeap) (o : Nat) (i : Int32) (k : Int32 → α) : α := match h[o]? with
  | some (t, vs) => if t = 98 ∧ ¬ i < 0 then (match vs[i.toNatClampNeg]? with
    | some (.int x) => k x
    | _ => no) else no
  | none => no
def cpyL (vs ws : List Value) (sp dp n : Nat) : List Value := ws.take dp ++ ((vs.drop sp).take n ++ ws.drop (dp + n))
def acp (no : α) (h : MHeap) (o1 : Nat) (sp : Int32) (o2 : Nat) (dp n : Int32) (k : MHeap → α) : α := match h[o1]?, h[o2]? with
  | some (t1, vs), some (t2, ws) => if t1 = 100 ∧ t2 = 100 ∧ ¬ sp < 0 ∧ ¬ dp < 0 ∧ ¬ n < 0 ∧ sp.toNatClampNeg + n.toNatClampNeg ≤ vs.length ∧ dp.toNatClampNeg + n.toNatClampNeg ≤ ws.length then k (h.set o2 (100, cpyL vs ws sp.toNatClampNeg dp.toNatClampNeg n.toNatClampNeg)) else no
  | _, _ => no
def swc (x : Int32) (kd : α) (k : Nat → α) : List Value → List Nat → α
  | .int y :: ys, t :: ts => if x = y then k t else swc x kd k ys ts
  | _, _ => kd
end CMB
def pops : Nat → List Value → List Value → Option (List Value × List Value)
  | 0, acc, S => some (acc, S)
  | n + 1, acc, v :: S => pops n (v :: acc) S
  | _ + 1, _, [] => none
section STEP
variable {α : Type}
/-- one instruction: 'no' stuck, 'rt' a return, 'kn' on to the next, 'kj' a jump, 'cl' a call (method, values, kind of answer, the stack below) -/
def stK (no : α) (rt : Option Value → MHeap → α) (kn : MLoc → List Value → MHeap → α) (kj : Nat → MLoc → List Value → MHeap → α) (cl : Nat → List Value → Nat → List Value → MHeap → α) (i : Instr) (rs : List Nat) (cs : List Value) (L : MLoc) (S : List Value) (h : MHeap) : α :=
  match i with
  | .aconst_null => kn L (.null :: S) h
  | .iconst _ | .bipush _ | .sipush _ | .lconst _ | .ldc _ | .ldc_w _ | .ldc2_w _ => (match cs with
    | v :: _ => kn L (v :: S) h
    | [] => no)
  | .iload n | .aload n => gS no (mlg L n) fun v => kn L (v :: S) h
  | .iload_n n | .aload_n n => gS no (mlg L n.val) fun v => kn L (v :: S) h
  | .lload n => gSL no (mlg L n) fun y => kn L (.long y :: S) h
  | .lload_n n => gSL no (mlg L n.val) fun y => kn L (.long y :: S) h
  | .istore n => (match S with
    | v :: S => dI no v fun x => kn (mst L n (.int x)) S h
    | _ => no)
  | .istore_n n => (match S with
    | v :: S => dI no v fun x => kn (mst L n.val (.int x)) S h
    | _ => no)
  | .astore n => (match S with
    | v :: S => dA no v (kn (mst L n v) S h)
    | _ => no)
  | .astore_n n => (match S with
    | v :: S => dA no v (kn (mst L n.val v) S h)
    | _ => no)
  | .lstore n => (match S with
    | v :: S => dL no v fun x => kn (mstL L n x) S h
    | _ => no)
  | .lstore_n n => (match S with
    | v :: S => dL no v fun x => kn (mstL L n.val x) S h
    | _ => no)
  | .iinc n _ => (match cs with
    | .int z :: _ => gS no (mlg L n) fun v => dI no v fun x => kn (mst L n (.int (x + z))) S h
    | _ => no)
  | .dup => (match S with
    | v :: S => dD no v (kn L (v :: v :: S) h)
    | _ => no)
  | .pop => (match S with
    | v :: S => dI no v fun _ => kn L S h
    | _ => no)
  | .iadd => (match S with
    | v :: w :: S => dI no v fun y => dI no w fun x => kn L (.int (x + y) :: S) h
    | _ => no)
  | .isub => (match S with
    | v :: w :: S => dI no v fun y => dI no w fun x => kn L (.int (x - y) :: S) h
    | _ => no)
  | .imul => (match S with
    | v :: w :: S => dI no v fun y => dI no w fun x => kn L (.int (x * y) :: S) h
    | _ => no)
  | .iand => (match S with
    | v :: w :: S => dI no v fun y => dI no w fun x => kn L (.int (x &&& y) :: S) h
    | _ => no)
  | .ior => (match S with
    | v :: w :: S => dI no v fun y => dI no w fun x => kn L (.int (x ||| y) :: S) h
    | _ => no)
  | .ixor => (match S with
    | v :: w :: S => dI no v fun y => dI no w fun x => kn L (.int (x ^^^ y) :: S) h
    | _ => no)
  | .ishl => (match S with
    | v :: w :: S => dI no v fun y => dI no w fun x => kn L (.int (x <<< (y &&& 31)) :: S) h
    | _ => no)
  | .ishr => (match S with
    | v :: w :: S => dI no v fun y => dI no w fun x => kn L (.int (x >>> (y &&& 31)) :: S) h
    | _ => no)
  | .iushr => (match S with
    | v :: w :: S => dI no v fun y => dI no w fun x => kn L (.int (x.toUInt32 >>> (y &&& 31).toUInt32).toInt32 :: S) h
    | _ => no)
  | .idiv => (match S with
    | v :: w :: S => dI no v fun y => dI no w fun x => dv no y (kn L (.int (x / y) :: S) h)
    | _ => no)
  | .irem => (match S with
    | v :: w :: S => dI no v fun y => dI no w fun x => dv no y (kn L (.int (x % y) :: S) h)
    | _ => no)
  | .ineg => (match S with
    | v :: S => dI no v fun x => kn L (.int (-x) :: S) h
    | _ => no)
  | .i2l => (match S with
    | v :: S => dI no v fun x => kn L (.long x.toInt64 :: S) h
    | _ => no)
  | .i2b => (match S with
    | v :: S => dI no v fun x => kn L (.int x.toInt8.toInt32 :: S) h
    | _ => no)
  | .i2s => (match S with
    | v :: S => dI no v fun x => kn L (.int x.toInt16.toInt32 :: S) h
    | _ => no)
  | .l2i => (match S with
    | v :: S => dL no v fun x => kn L (.int x.toInt32 :: S) h
    | _ => no)
  | .ladd => (match S with
    | v :: w :: S => dL no v fun y => dL no w fun x => kn L (.long (x + y) :: S) h
    | _ => no)
  | .lmul => (match S with
    | v :: w :: S => dL no v fun y => dL no w fun x => kn L (.long (x * y) :: S) h
    | _ => no)
  | .ldiv => (match S with
    | v :: w :: S => dL no v fun y => dL no w fun x => dvL no y (kn L (.long (x / y) :: S) h)
    | _ => no)
  | .lrem => (match S with
    | v :: w :: S => dL no v fun y => dL no w fun x => dvL no y (kn L (.long (x % y) :: S) h)
    | _ => no)
  | .lcmp => (match S with
    | v :: w :: S => dL no v fun y => dL no w fun x => kn L (.int (if x = y then 0 else if x < y then -1 else 1) :: S) h
    | _ => no)
  | .ifCond c _ => (match S, rs with
    | v :: S, t :: _ => dI no v fun x => (match c with
      | .eq => if x = 0 then kj t L S h else kn L S h
      | .ne => if x = 0 then kn L S h else kj t L S h
      | .lt => if x < 0 then kj t L S h else kn L S h
      | .ge => if x < 0 then kn L S h else kj t L S h
      | .gt => if 0 < x then kj t L S h else kn L S h
      | .le => if 0 < x then kn L S h else kj t L S h)
    | _, _ => no)
  | .if_icmp c _ => (match S, rs with
    | v :: w :: S, t :: _ => dI no v fun y => dI no w fun x => (match c with
      | .eq => if x = y then kj t L S h else kn L S h
      | .ne => if x = y then kn L S h else kj t L S h
      | .lt => if x < y then kj t L S h else kn L S h
      | .ge => if x < y then kn L S h else kj t L S h
      | .gt => if y < x then kj t L S h else kn L S h
      | .le => if y < x then kn L S h else kj t L S h)
    | _, _ => no)
  | .ifnull _ => (match S, rs with
    | v :: S, t :: _ => dN no v (kj t L S h) (kn L S h)
    | _, _ => no)
  | .ifnonnull _ => (match S, rs with
    | v :: S, t :: _ => dN no v (kn L S h) (kj t L S h)
    | _, _ => no)
  | .goto _ => (match rs with
    | t :: _ => kj t L S h
    | _ => no)
  | .tableswitch _ _ _ _ | .lookupswitch _ _ => (match S, rs with
    | v :: S, t :: ts => dI no v fun x => swc x (kj t L S h) (fun t => kj t L S h) cs ts
    | _, _ => no)
  | .ireturn => (match S, rs with
    | v :: _, 0 :: _ => dI no v fun x => rt (some (.int x)) h
    | v :: _, _ => dI no v fun x => zr no x (rt (some (.int x)) h)
    | _, _ => no)
  | .lreturn => (match S with
    | v :: _ => dL no v fun x => rt (some (.long x)) h
    | _ => no)
  | .areturn => (match S with
    | v :: _ => dA no v (rt (some v) h)
    | _ => no)
  | .return_ => rt none h
  | .getfield _ => (match S, rs with
    | v :: S, 0 :: j :: ts => dR no v fun o => gfI no h o ts j fun x => kn L (.int x :: S) h
    | v :: S, _ :: j :: ts => dR no v fun o => gfV no h o ts j fun x => kn L (x :: S) h
    | _, _ => no)
  | .putfield _ => (match S, rs with
    | w :: v :: S, 0 :: j :: ts => dI no w fun x => dR no v fun o => pfI no h o ts j x fun h => kn L S h
    | w :: v :: S, 1 :: j :: ts => dI no w fun x => zr no x (dR no v fun o => pfI no h o ts j x fun h => kn L S h)
    | w :: v :: S, _ :: j :: ts => dR no v fun o => pfV no h o ts j w fun h => kn L S h
    | _, _ => no)
  | .arraylength => (match S with
    | v :: S => dR no v fun o => aln no h o fun x => kn L (.int x :: S) h
    | _ => no)
  | .iaload => (match S with
    | w :: v :: S => dI no w fun i => dR no v fun o => alI no h o i fun x => kn L (.int x :: S) h
    | _ => no)
  | .iastore => (match S with
    | u :: w :: v :: S => dI no u fun x => dI no w fun i => dR no v fun o => asI no h o i x fun h => kn L S h
    | _ => no)
  | .aaload => (match S with
    | w :: v :: S => dI no w fun i => dR no v fun o => alV no h o i fun x => kn L (x :: S) h
    | _ => no)
  | .aastore => (match S with
    | u :: w :: v :: S => dI no w fun i => dR no v fun o => asV no h o i u fun h => kn L S h
    | _ => no)
  | .newarray _ => (match S with
    | v :: S => dI no v fun n => nwA no h 100 n (.int 0) fun o h => kn L (.ref o :: S) h
    | _ => no)
  | .anewarray _ => (match S, rs with
    | v :: S, t :: _ => dI no v fun n => nwA no h t n .null fun o h => kn L (.ref o :: S) h
    | _, _ => no)
  | .new _ => (match rs with
    | t :: _ => nwO h t cs fun o h => kn L (.ref o :: S) h
    | _ => no)
  | .instanceof _ => (match S, rs with
    | v :: S, n :: ts => dN no v (kn L (.int 0 :: S) h) (dR no v fun o => inO no h o (ts.take n) (ts.drop n) fun x => kn L (.int x :: S) h)
    | _, _ => no)
  | .invokestatic _ => (match rs with
    | 0 :: m :: n :: k :: _ => (match pops n [] S with
      | some (as, S) => cl m as k S h
      | none => no)
    | 1 :: _ => (match S with
      | v :: w :: S => dI no v fun y => dI no w fun x => kn L (.int (if x < y then y else x) :: S) h
      | _ => no)
    | 2 :: _ => (match S with
      | v :: w :: S => dI no v fun y => dI no w fun x => kn L (.int (if y < x then y else x) :: S) h
      | _ => no)
    | 3 :: _ => (match S with
      | v1 :: v2 :: v3 :: v4 :: v5 :: S => dI no v1 fun n => dI no v2 fun dp => dR no v3 fun o2 => dI no v4 fun sp => dR no v5 fun o1 => acp no h o1 sp o2 dp n fun h => kn L S h
      | _ => no)
    | _ => no)
  | .invokespecial _ => (match rs with
    | 0 :: m :: n :: k :: _ => (match pops n [] S with
      | some (as, v :: S) => dR no v fun o => cl m (.ref o :: as) k S h
      | _ => no)
    | _ => (match S with
      | v :: S => dR no v fun _ => kn L S h
      | _ => no))
  | .invokevirtual _ => (match rs with
    | 0 :: n :: k :: ps => (match pops n [] S with
      | some (as, v :: S) => dR no v fun o => vd no h o ps fun m => cl m (.ref o :: as) k S h
      | _ => no)
    | 1 :: _ => (match S with
      | v :: S => dR no v fun o => slen no h o fun x => kn L (.int x :: S) h
      | _ => no)
    | 2 :: _ => (match S with
      | w :: v :: S => dI no w fun i => dR no v fun o => sch no h o i fun x => kn L (.int x :: S) h
      | _ => no)
    | _ => no)
  | _ => no
end STEP
end
section
def k_0 : List MIns := [(0, .iload_n 0, [], []), (1, .ireturn, [0], [])]
def prg (m : Nat) : List MIns × Nat := [(k_0, 1)].getD m ([], 0)
end
section
/-! the step's shape, the machine's runs, the fixed point -/
abbrev MOut : Type := Option ((Option Value × MHeap) ⊕ (MLoc × List Value × MHeap) ⊕ (Nat × MLoc × List Value × MHeap) ⊕ (Nat × List Value × Nat × List Value × MHeap))
def st1 (i : Instr) (rs : List Nat) (cs : List Value) (L : MLoc) (S : List Value) (h : MHeap) : MOut :=
  stK none (fun v h => some (.inl (v, h))) (fun L S h => some (.inr (.inl (L, S, h)))) (fun j L S h => some (.inr (.inr (.inl (j, L, S, h))))) (fun m as k S h => some (.inr (.inr (.inr (m, as, k, S, h))))) i rs cs L S h
section ITP
variable {α : Type} (no : α) (rt : Option Value → MHeap → α) (kn : MLoc → List Value → MHeap → α) (kj : Nat → MLoc → List Value → MHeap → α) (cl : Nat → List Value → Nat → List Value → MHeap → α)
def itp : MOut → α
  | none => no
  | some (.inl (v, h)) => rt v h
  | some (.inr (.inl (L, S, h))) => kn L S h
  | some (.inr (.inr (.inl (j, L, S, h)))) => kj j L S h
  | some (.inr (.inr (.inr (m, as, k, S, h)))) => cl m as k S h
theorem itp_dI (n : MOut) (v : Value) (k : Int32 → MOut) : itp no rt kn kj cl (dI n v k) = dI (itp no rt kn kj cl n) v (fun x => itp no rt kn kj cl (k x)) := by
  cases v <;> rfl
theorem itp_dL (n : MOut) (v : Value) (k : Int64 → MOut) : itp no rt kn kj cl (dL n v k) = dL (itp no rt kn kj cl n) v (fun x => itp no rt kn kj cl (k x)) := by
  cases v <;> rfl
theorem itp_dR (n : MOut) (v : Value) (k : Nat → MOut) : itp no rt kn kj cl (dR n v k) = dR (itp no rt kn kj cl n) v (fun x => itp no rt kn kj cl (k x)) := by
  cases v <;> rfl
theorem itp_dA (n : MOut) (v : Value) (k : MOut) : itp no rt kn kj cl (dA n v k) = dA (itp no rt kn kj cl n) v (itp no rt kn kj cl k) := by
  cases v <;> rfl
theorem itp_dN (n : MOut) (v : Value) (k1 k2 : MOut) : itp no rt kn kj cl (dN n v k1 k2) = dN (itp no rt kn kj cl n) v (itp no rt kn kj cl k1) (itp no rt kn kj cl k2) := by
  cases v <;> rfl
theorem itp_dD (n : MOut) (v : Value) (k : MOut) : itp no rt kn kj cl (dD n v k) = dD (itp no rt kn kj cl n) v (itp no rt kn kj cl k) := by
  cases v <;> rfl
theorem itp_dv (n : MOut) (y : Int32) (k : MOut) : itp no rt kn kj cl (dv n y k) = dv (itp no rt kn kj cl n) y (itp no rt kn kj cl k) := by
  unfold dv; split <;> rfl
theorem itp_dvL (n : MOut) (y : Int64) (k : MOut) : itp no rt kn kj cl (dvL n y k) = dvL (itp no rt kn kj cl n) y (itp no rt kn kj cl k) := by
  unfold dvL; split <;> rfl
theorem itp_zr (n : MOut) (y : Int32) (k : MOut) : itp no rt kn kj cl (zr n y k) = zr (itp no rt kn kj cl n) y (itp no rt kn kj cl k) := by
  unfold zr; split <;> rfl
theorem itp_gS (n : MOut) (s : MSl) (k : Value → MOut) : itp no rt kn kj cl (gS n s k) = gS (itp no rt kn kj cl n) s (fun x => itp no rt kn kj cl (k x)) := by
  rcases s with _ | (v | y) <;> rfl
theorem itp_gSL (n : MOut) (s : MSl) (k : Int64 → MOut) : itp no rt kn kj cl (gSL n s k) = gSL (itp no rt kn kj cl n) s (fun x => itp no rt kn kj cl (k x)) := by
  rcases s with _ | (v | y) <;> rfl
theorem itp_gfI (n : MOut) (h : MHeap) (o : Nat) (ts : List Nat) (j : Nat) (k : Int32 → MOut) : itp no rt kn kj cl (gfI n h o ts j k) = gfI (itp no rt kn kj cl n) h o ts j (fun x => itp no rt kn kj cl (k x)) := by
  unfold gfI; repeat' split <;> try rfl
theorem itp_gfV (n : MOut) (h : MHeap) (o : Nat) (ts : List Nat) (j : Nat) (k : Value → MOut) : itp no rt kn kj cl (gfV n h o ts j k) = gfV (itp no rt kn kj cl n) h o ts j (fun x => itp no rt kn kj cl (k x)) := by
  unfold gfV; (repeat' split) <;> first | rfl | exact itp_dA no rt kn kj cl _ _ _
theorem itp_pfI (n : MOut) (h : MHeap) (o : Nat) (ts : List Nat) (j : Nat) (x : Int32) (k : MHeap → MOut) : itp no rt kn kj cl (pfI n h o ts j x k) = pfI (itp no rt kn kj cl n) h o ts j x (fun x => itp no rt kn kj cl (k x)) := by
  unfold pfI; repeat' split <;> try rfl
theorem itp_pfV (n : MOut) (h : MHeap) (o : Nat) (ts : List Nat) (j : Nat) (x : Value) (k : MHeap → MOut) : itp no rt kn kj cl (pfV n h o ts j x k) = pfV (itp no rt kn kj cl n) h o ts j x (fun x => itp no rt kn kj cl (k x)) := by
  unfold pfV; (repeat' split) <;> first | rfl | exact itp_dA no rt kn kj cl _ _ _
theorem itp_aln (n : MOut) (h : MHeap) (o : Nat) (k : Int32 → MOut) : itp no rt kn kj cl (aln n h o k) = aln (itp no rt kn kj cl n) h o (fun x => itp no rt kn kj cl (k x)) := by
  unfold aln; repeat' split <;> try rfl
theorem itp_alI (n : MOut) (h : MHeap) (o : Nat) (i : Int32) (k : Int32 → MOut) : itp no rt kn kj cl (alI n h o i k) = alI (itp no rt kn kj cl n) h o i (fun x => itp no rt kn kj cl (k x)) := by
  unfold alI; repeat' split <;> try rfl
theorem itp_asI (n : MOut) (h : MHeap) (o : Nat) (i x : Int32) (k : MHeap → MOut) : itp no rt kn kj cl (asI n h o i x k) = asI (itp no rt kn kj cl n) h o i x (fun x => itp no rt kn kj cl (k x)) := by
  unfold asI; repeat' split <;> try rfl
theorem itp_alV (n : MOut) (h : MHeap) (o : Nat) (i : Int32) (k : Value → MOut) : itp no rt kn kj cl (alV n h o i k) = alV (itp no rt kn kj cl n) h o i (fun x => itp no rt kn kj cl (k x)) := by
  unfold alV; (repeat' split) <;> first | rfl | exact itp_dA no rt kn kj cl _ _ _
theorem itp_asV (n : MOut) (h : MHeap) (o : Nat) (i : Int32) (v : Value) (k : MHeap → MOut) : itp no rt kn kj cl (asV n h o i v k) = asV (itp no rt kn kj cl n) h o i v (fun x => itp no rt kn kj cl (k x)) := by
  unfold asV; repeat' split <;> try rfl
theorem itp_nwA (n : MOut) (h : MHeap) (t : Nat) (i : Int32) (v : Value) (k : Nat → MHeap → MOut) : itp no rt kn kj cl (nwA n h t i v k) = nwA (itp no rt kn kj cl n) h t i v (fun x y => itp no rt kn kj cl (k x y)) := by
  unfold nwA; repeat' split <;> try rfl
theorem itp_inO (n : MOut) (h : MHeap) (o : Nat) (ts us : List Nat) (k : Int32 → MOut) : itp no rt kn kj cl (inO n h o ts us k) = inO (itp no rt kn kj cl n) h o ts us (fun x => itp no rt kn kj cl (k x)) := by
  unfold inO; repeat' split <;> try rfl
theorem itp_vd (n : MOut) (h : MHeap) (o : Nat) (ps : List Nat) (k : Nat → MOut) : itp no rt kn kj cl (vd n h o ps k) = vd (itp no rt kn kj cl n) h o ps (fun x => itp no rt kn kj cl (k x)) := by
  unfold vd; repeat' split <;> try rfl
theorem itp_slen (n : MOut) (h : MHeap) (o : Nat) (k : Int32 → MOut) : itp no rt kn kj cl (slen n h o k) = slen (itp no rt kn kj cl n) h o (fun x => itp no rt kn kj cl (k x)) := by
  unfold slen; repeat' split <;> try rfl
theorem itp_sch (n : MOut) (h : MHeap) (o : Nat) (i : Int32) (k : Int32 → MOut) : itp no rt kn kj cl (sch n h o i k) = sch (itp no rt kn kj cl n) h o i (fun x => itp no rt kn kj cl (k x)) := by
  unfold sch; repeat' split <;> try rfl
theorem itp_acp (n : MOut) (h : MHeap) (o1 : Nat) (sp : Int32) (o2 : Nat) (dp l : Int32) (k : MHeap → MOut) : itp no rt kn kj cl (acp n h o1 sp o2 dp l k) = acp (itp no rt kn kj cl n) h o1 sp o2 dp l (fun x => itp no rt kn kj cl (k x)) := by
  unfold acp; repeat' split <;> try rfl
theorem itp_ite (c : Prop) [Decidable c] (a b : MOut) : itp no rt kn kj cl (if c then a else b) = if c then itp no rt kn kj cl a else itp no rt kn kj cl b := by
  split <;> rfl
theorem itp_swc (x : Int32) (kd : MOut) (k : Nat → MOut) : ∀ (cs : List Value) (ts : List Nat), itp no rt kn kj cl (swc x kd k cs ts) = swc x (itp no rt kn kj cl kd) (fun t => itp no rt kn kj cl (k t)) cs ts
  | [], _ => by unfold swc; rfl
  | .int y :: cs, [] => by unfold swc; rfl
  | .int y :: cs, t :: ts => by
    unfold swc
    split
    · rfl
    · exact itp_swc x kd k cs ts
  | .long _ :: _, _ => by unfold swc; rfl
  | .float _ :: _, _ => by unfold swc; rfl
  | .double _ :: _, _ => by unfold swc; rfl
  | .null :: _, _ => by unfold swc; rfl
  | .ref _ :: _, _ => by unfold swc; rfl
  | .retAddr _ :: _, _ => by unfold swc; rfl
theorem itp_nwO (h : MHeap) (t : Nat) (cs : List Value) (k : Nat → MHeap → MOut) : itp no rt kn kj cl (nwO h t cs k) = nwO h t cs (fun x y => itp no rt kn kj cl (k x y)) := rfl
theorem stK_itp (i : Instr) (rs : List Nat) (cs : List Value) (L : MLoc) (S : List Value) (h : MHeap) : stK no rt kn kj cl i rs cs L S h = itp no rt kn kj cl (st1 i rs cs L S h) := by
  unfold st1
  cases i <;> simp only [stK] <;> first
    | rfl
    | (simp only [itp_nwO, itp_dI, itp_dL, itp_dR, itp_dA, itp_dN, itp_dD, itp_dv, itp_dvL, itp_zr, itp_gS, itp_gSL, itp_gfI, itp_gfV, itp_pfI, itp_pfV, itp_aln, itp_alI, itp_asI, itp_alV, itp_asV, itp_nwA, itp_inO, itp_vd, itp_slen, itp_sch, itp_acp, itp_swc, itp_ite]; done)
    | (simp only [itp_nwO, itp_dI, itp_dL, itp_dR, itp_dA, itp_dN, itp_dD, itp_dv, itp_dvL, itp_zr, itp_gS, itp_gSL, itp_gfI, itp_gfV, itp_pfI, itp_pfV, itp_aln, itp_alI, itp_asI, itp_alV, itp_asV, itp_nwA, itp_inO, itp_vd, itp_slen, itp_sch, itp_acp, itp_swc, itp_ite]; rfl)
    | (repeat' split) <;> first
      | rfl
      | (simp only [itp_nwO, itp_dI, itp_dL, itp_dR, itp_dA, itp_dN, itp_dD, itp_dv, itp_dvL, itp_zr, itp_gS, itp_gSL, itp_gfI, itp_gfV, itp_pfI, itp_pfV, itp_aln, itp_alI, itp_asI, itp_alV, itp_asV, itp_nwA, itp_inO, itp_vd, itp_slen, itp_sch, itp_acp, itp_swc, itp_ite]; done)
      | (simp only [itp_nwO, itp_dI, itp_dL, itp_dR, itp_dA, itp_dN, itp_dD, itp_dv, itp_dvL, itp_zr, itp_gS, itp_gSL, itp_gfI, itp_gfV, itp_pfI, itp_pfV, itp_aln, itp_alI, itp_asI, itp_alV, itp_asV, itp_nwA, itp_inO, itp_vd, itp_slen, itp_sch, itp_acp, itp_swc, itp_ite]; rfl)
      | (simp only [itp_nwO, itp_dI, itp_dL, itp_dR, itp_dA, itp_dN, itp_dD, itp_dv, itp_dvL, itp_zr, itp_gS, itp_gSL, itp_gfI, itp_gfV, itp_pfI, itp_pfV, itp_aln, itp_alI, itp_asI, itp_alV, itp_asV, itp_nwA, itp_inO, itp_vd, itp_slen, itp_sch, itp_acp, itp_swc, itp_ite]; (repeat' split) <;> rfl)
end ITP
end
section
/-! runs with a bound, their limit, unrolling -/
def seek : List MIns → Nat → List MIns
  | [], _ => []
  | i :: r, p => bif Nat.beq i.1 p then i :: r else seek r p
def nxt : List MIns → Nat
  | [] => 0
  | i :: _ => i.1
def entL : List Value → MLoc
  | [] => []
  | .long y :: r => sy y :: none :: entL r
  | v :: r => sv v :: entL r
def padL : Nat → MLoc → MLoc
  | 0, L => L
  | n + 1, [] => none :: padL n []
  | n + 1, x :: r => x :: padL n r
def cV (r : MRes) (k : MHeap → MRes) : MRes := match r with
  | some (none, h) => k h
  | _ => none
def cI (r : MRes) (k : Int32 → MHeap → MRes) : MRes := match r with
  | some (some (.int x), h) => k x h
  | _ => none
def cR (r : MRes) (k : Value → MHeap → MRes) : MRes := match r with
  | some (some v, h) => dA none v (k v h)
  | _ => none
def cJ (r : MRes) (k : Int64 → MHeap → MRes) : MRes := match r with
  | some (some (.long x), h) => k x h
  | _ => none
def cK (q : Nat) (r : MRes) (k : List Value → MHeap → MRes) : MRes := match q with
  | 0 => cV r fun h => k [] h
  | 1 => cI r fun x h => k [.int x] h
  | 2 => cR r fun v h => k [v] h
  | _ => cJ r fun y h => k [.long y] h
/-- within n steps; d calls may stand open below this one -/
def run : Nat → Nat → Nat → Nat → MLoc → List Value → MHeap → MRes
  | 0, _, _, _, _, _, _ => none
  | n + 1, d, m, pc, L, S, h => match seek (prg m).1 pc with
    | [] => none
    | i :: r => stK none (fun v h => some (v, h)) (fun L S h => run n d m (nxt r) L S h) (fun j L S h => run n d m j L S h)
        (fun m' as q S h => cK q (match d with
          | 0 => none
          | d + 1 => run n d m' 0 (padL (prg m').2 (entL as)) [] h) fun vs h => run n d m (nxt r) L (vs ++ S) h) i.2.1 i.2.2.1 i.2.2.2 L S h
def rcall (n d m' : Nat) (as : List Value) (h : MHeap) : MRes := match d with
  | 0 => none
  | d + 1 => run n d m' 0 (padL (prg m').2 (entL as)) [] h
theorem run_itp (n d m pc : Nat) (L : MLoc) (S : List Value) (h : MHeap) : run (n + 1) d m pc L S h = match seek (prg m).1 pc with
    | [] => none
    | i :: r => itp none (fun v h => some (v, h)) (fun L S h => run n d m (nxt r) L S h) (fun j L S h => run n d m j L S h)
        (fun m' as q S h => cK q (rcall n d m' as h) fun vs h => run n d m (nxt r) L (vs ++ S) h) (st1 i.2.1 i.2.2.1 i.2.2.2 L S h) := by
  rw [run]
  split
  · rfl
  · rw [stK_itp]; rfl
theorem cK_some {q : Nat} {r : MRes} {k : List Value → MHeap → MRes} {x : Option Value × MHeap} (h : cK q r k = some x) : ∃ vs h1, (∀ k2, cK q r k2 = k2 vs h1) ∧ k vs h1 = some x ∧ ∃ v, r = some (v, h1) := by
  unfold cK at h ⊢
  split at h
  · unfold cV at h ⊢
    split at h
    · exact ⟨_, _, fun _ => rfl, h, _, rfl⟩
    · cases h
  · unfold cI at h ⊢
    split at h
    · exact ⟨_, _, fun _ => rfl, h, _, rfl⟩
    · cases h
  · unfold cR at h ⊢
    split at h
    · rename_i v h1
      unfold dA at h ⊢
      split at h
      · exact ⟨_, _, fun _ => rfl, h, _, rfl⟩
      · exact ⟨_, _, fun _ => rfl, h, _, rfl⟩
      · cases h
    · cases h
  · unfold cJ at h ⊢
    split at h
    · exact ⟨_, _, fun _ => rfl, h, _, rfl⟩
    · cases h
theorem run_mono1 : ∀ (n d m pc : Nat) (L : MLoc) (S : List Value) (h : MHeap) (x : Option Value × MHeap), run n d m pc L S h = some x → run (n + 1) d m pc L S h = some x := by
  intro n
  induction n with
  | zero => intro d m pc L S h x e; simp [run] at e
  | succ n ih =>
    intro d m pc L S h x e
    rw [run_itp] at e ⊢
    split at e
    · cases e
    · rename_i i r hs
      cases ho : st1 i.2.1 i.2.2.1 i.2.2.2 L S h with
      | none => rw [ho] at e; cases e
      | some o =>
        rw [ho] at e
        rcases o with ⟨v, h1⟩ | ⟨L1, S1, h1⟩ | ⟨j, L1, S1, h1⟩ | ⟨m', as, q, S1, h1⟩
        · exact e
        · exact ih _ _ _ _ _ _ _ e
        · exact ih _ _ _ _ _ _ _ e
        · have e : cK q (rcall n d m' as h1) (fun vs h => run n d m (nxt r) L (vs ++ S1) h) = some x := e
          obtain ⟨vs, h2, hk, e2, v, hr⟩ := cK_some e
          have hr2 : rcall (n + 1) d m' as h1 = rcall n d m' as h1 := by
            unfold rcall at hr ⊢
            cases d with
            | zero => rfl
            | succ d => exact (ih _ _ _ _ _ _ _ hr).trans hr.symm
          show cK q (rcall (n + 1) d m' as h1) (fun vs h => run (n + 1) d m (nxt r) L (vs ++ S1) h) = some x
          rw [hr2, hk]
          exact ih _ _ _ _ _ _ _ e2
theorem run_mono {n k d m pc : Nat} {L : MLoc} {S : List Value} {h : MHeap} {x : Option Value × MHeap} (e : run n d m pc L S h = some x) : run (n + k) d m pc L S h = some x := by
  induction k with
  | zero => exact e
  | succ k ih => exact run_mono1 _ _ _ _ _ _ _ _ ih
theorem run_det {n k d m pc : Nat} {L : MLoc} {S : List Value} {h : MHeap} {x y : Option Value × MHeap} (e : run n d m pc L S h = some x) (f : run k d m pc L S h = some y) : x = y := by
  have e1 := run_mono (k := k) e
  have f1 := run_mono (k := n) f
  rw [Nat.add_comm] at f1
  exact Option.some.inj (e1.symm.trans f1)
noncomputable def ex (d m pc : Nat) (L : MLoc) (S : List Value) (h : MHeap) : MRes :=
  match Classical.propDecidable (∃ q : Nat × (Option Value × MHeap), run q.1 d m pc L S h = some q.2) with
  | .isTrue H => some (Classical.choose H).2
  | .isFalse _ => none
theorem ex_of {n d m pc : Nat} {L : MLoc} {S : List Value} {h : MHeap} {x : Option Value × MHeap} (e : run n d m pc L S h = some x) : ex d m pc L S h = some x := by
  have H : ∃ q : Nat × (Option Value × MHeap), run q.1 d m pc L S h = some q.2 := ⟨(n, x), e⟩
  unfold ex
  split
  · rename_i H' _
    exact congrArg some (run_det (Classical.choose_spec H') e)
  · rename_i H' _
    exact absurd H H'
theorem ex_run {d m pc : Nat} {L : MLoc} {S : List Value} {h : MHeap} {x : Option Value × MHeap} (e : ex d m pc L S h = some x) : ∃ n, run n d m pc L S h = some x := by
  unfold ex at e
  split at e
  · rename_i H _
    exact ⟨_, (Classical.choose_spec H).trans (by rw [← Option.some.inj e])⟩
  · cases e
theorem ex_iff {d m pc : Nat} {L : MLoc} {S : List Value} {h : MHeap} {x : Option Value × MHeap} : ex d m pc L S h = some x ↔ ∃ n, run n d m pc L S h = some x := ⟨ex_run, fun ⟨_, e⟩ => ex_of e⟩
noncomputable def call (d m' : Nat) (as : List Value) (h : MHeap) : MRes := match d with
  | 0 => none
  | d + 1 => ex d m' 0 (padL (prg m').2 (entL as)) [] h
theorem call_run {d m' : Nat} {as : List Value} {h : MHeap} {x : Option Value × MHeap} (e : call d m' as h = some x) : ∃ n, rcall n d m' as h = some x := by
  cases d with
  | zero => cases e
  | succ d => exact ex_run e
theorem call_of {n d m' : Nat} {as : List Value} {h : MHeap} {x : Option Value × MHeap} (e : rcall n d m' as h = some x) : call d m' as h = some x := by
  cases d with
  | zero => cases e
  | succ d => exact ex_of e
theorem rcall_mono {n k d m' : Nat} {as : List Value} {h : MHeap} {x : Option Value × MHeap} (e : rcall n d m' as h = some x) : rcall (n + k) d m' as h = some x := by
  cases d with
  | zero => cases e
  | succ d => exact run_mono e
/-- two answers that are 'some' of the same are equal -/
theorem res_ext {a b : MRes} (h : ∀ x, a = some x ↔ b = some x) : a = b := by
  cases a with
  | none =>
    cases b with
    | none => rfl
    | some y => exact absurd ((h y).mpr rfl) (by simp)
  | some x => exact ((h x).mp rfl).symm
theorem ex_fix (d m pc : Nat) (L : MLoc) (S : List Value) (h : MHeap) : ex d m pc L S h = match seek (prg m).1 pc with
    | [] => none
    | i :: r => stK none (fun v h => some (v, h)) (fun L S h => ex d m (nxt r) L S h) (fun j L S h => ex d m j L S h)
        (fun m' as q S h => cK q (call d m' as h) fun vs h => ex d m (nxt r) L (vs ++ S) h) i.2.1 i.2.2.1 i.2.2.2 L S h := by
  apply res_ext
  intro x
  rw [ex_iff]
  have A : (∃ n, run n d m pc L S h = some x) ↔ ∃ n, run (n + 1) d m pc L S h = some x := ⟨fun ⟨n, e⟩ => ⟨n, run_mono1 _ _ _ _ _ _ _ _ e⟩, fun ⟨n, e⟩ => ⟨n + 1, e⟩⟩
  rw [A]
  cases hs : seek (prg m).1 pc with
  | nil =>
    constructor
    · rintro ⟨n, e⟩
      rw [run_itp, hs] at e
      cases e
    · intro e
      cases e
  | cons i r =>
    simp only [run_itp, hs, stK_itp]
    cases ho : st1 i.2.1 i.2.2.1 i.2.2.2 L S h with
    | none => exact ⟨fun ⟨_, e⟩ => (by cases e), fun e => (by cases e)⟩
    | some o =>
      rcases o with ⟨v, h1⟩ | ⟨L1, S1, h1⟩ | ⟨j, L1, S1, h1⟩ | ⟨m', as, q, S1, h1⟩
      · exact ⟨fun ⟨_, e⟩ => e, fun e => ⟨0, e⟩⟩
      · exact ex_iff.symm
      · exact ex_iff.symm
      · show (∃ n, cK q (rcall n d m' as h1) (fun vs h => run n d m (nxt r) L (vs ++ S1) h) = some x) ↔ cK q (call d m' as h1) (fun vs h => ex d m (nxt r) L (vs ++ S1) h) = some x
        constructor
        · rintro ⟨n, e⟩
          obtain ⟨vs, h2, hk, e2, v, hr⟩ := cK_some e
          rw [call_of hr, ← hr, hk]
          exact ex_of e2
        · intro e
          obtain ⟨vs, h2, hk, e2, v, hr⟩ := cK_some e
          obtain ⟨n1, r1⟩ := call_run hr
          obtain ⟨n2, r2⟩ := ex_run e2
          refine ⟨n1 + n2, ?_⟩
          rw [rcall_mono r1, ← hr, hk]
          have r3 := run_mono (k := n1) r2
          rw [Nat.add_comm] at r3
          exact r3
def memN : List Nat → Nat → Bool
  | [], _ => false
  | a :: r, x => bif Nat.beq a x then true else memN r x
/-- k steps unrolled, up to the places 'cuts' -/
def unr (EX : Nat → MLoc → List Value → MHeap → MRes) (CL : Nat → List Value → MHeap → MRes) (cuts : List Nat) (c : List MIns) : Nat → List MIns → MLoc → List Value → MHeap → MRes
  | 0, r, L, S, h => EX (nxt r) L S h
  | _ + 1, [], L, S, h => EX 0 L S h
  | k + 1, i :: r, L, S, h => stK none (fun v h => some (v, h)) (fun L S h => bif memN cuts (nxt r) then EX (nxt r) L S h else unr EX CL cuts c k r L S h)
      (fun j L S h => bif memN cuts j then EX j L S h else match seek c j with
        | [] => none
        | i2 :: r2 => unr EX CL cuts c k (i2 :: r2) L S h)
      (fun m' as q S h => cK q (CL m' as h) fun vs h => bif memN cuts (nxt r) then EX (nxt r) L (vs ++ S) h else unr EX CL cuts c k r L (vs ++ S) h) i.2.1 i.2.2.1 i.2.2.2 L S h
def okc : List MIns → Bool
  | [] => true
  | i :: r => (match r with
    | [] => true
    | j :: _ => Nat.blt i.1 j.1) && okc r
theorem okc_lt : ∀ (c : List MIns) (i : MIns), okc (i :: c) = true → ∀ j ∈ c, i.1 < j.1 := by
  intro c
  induction c with
  | nil => intro i _ j hj; cases hj
  | cons a c ih =>
    intro i h j hj
    have h1 : Nat.blt i.1 a.1 = true ∧ okc (a :: c) = true := by simpa [okc] using h
    have h2 : i.1 < a.1 := by simpa [Nat.blt_eq] using h1.1
    rcases List.mem_cons.mp hj with rfl | hj
    · exact h2
    · exact Nat.lt_trans h2 (ih a h1.2 j hj)
theorem seek_suffix : ∀ (a : List MIns) (i : MIns) (r : List MIns), okc (a ++ i :: r) = true → seek (a ++ i :: r) i.1 = i :: r := by
  intro a
  induction a with
  | nil => intro i r _; simp [seek]
  | cons b a ih =>
    intro i r h
    have h1 := okc_lt _ _ h i (by simp)
    have h2 : okc (a ++ i :: r) = true := by
      have : okc (b :: (a ++ i :: r)) = true := h
      unfold okc at this
      simp only [Bool.and_eq_true] at this
      exact this.2
    have h3 : Nat.beq b.1 i.1 = false := by
      cases hb : Nat.beq b.1 i.1 with
      | false => rfl
      | true => have := Nat.eq_of_beq_eq_true hb; omega
    show (bif Nat.beq b.1 i.1 then _ else _) = _
    rw [h3]
    exact ih i r h2
theorem seek_split : ∀ (c : List MIns) (p : Nat) (i : MIns) (r : List MIns), seek c p = i :: r → (∃ a, c = a ++ i :: r) ∧ i.1 = p := by
  intro c
  induction c with
  | nil => intro p i r h; cases h
  | cons b c ih =>
    intro p i r h
    cases hb : Nat.beq b.1 p with
    | true =>
      have : b :: c = i :: r := by simpa [seek, hb] using h
      exact ⟨⟨[], this⟩, by rw [← (List.cons.inj this).1]; exact Nat.eq_of_beq_eq_true hb⟩
    | false =>
      have h2 : seek c p = i :: r := by simpa [seek, hb] using h
      obtain ⟨⟨a, e⟩, e2⟩ := ih p i r h2
      exact ⟨⟨b :: a, by rw [e]; rfl⟩, e2⟩
theorem unr_ok {d m : Nat} {c : List MIns} (hc : (prg m).1 = c) (ho : okc c = true) (cuts : List Nat) : ∀ (k : Nat) (a r : List MIns) (L : MLoc) (S : List Value) (h : MHeap), c = a ++ r → unr (ex d m) (call d) cuts c k r L S h = ex d m (nxt r) L S h := by
  intro k
  induction k with
  | zero => intro a r L S h _; rfl
  | succ k ih =>
    intro a r L S h hr
    cases r with
    | nil => rfl
    | cons i r =>
      have hs : seek (prg m).1 i.1 = i :: r := by rw [hc, hr]; exact seek_suffix a i r (by rw [← hr]; exact ho)
      have hr' : c = (a ++ [i]) ++ r := by rw [hr]; simp
      have kn : ∀ L S h, (bif memN cuts (nxt r) then ex d m (nxt r) L S h else unr (ex d m) (call d) cuts c k r L S h) = ex d m (nxt r) L S h := by
        intro L S h
        rw [ih _ r L S h hr']
        cases memN cuts (nxt r) <;> rfl
      have kj : ∀ j L S h, (bif memN cuts j then ex d m j L S h else match seek c j with
        | [] => none
        | i2 :: r2 => unr (ex d m) (call d) cuts c k (i2 :: r2) L S h) = ex d m j L S h := by
        intro j L S h
        cases memN cuts j with
        | true => rfl
        | false =>
          show (match seek c j with
            | [] => none
            | i2 :: r2 => unr (ex d m) (call d) cuts c k (i2 :: r2) L S h) = _
          cases hj : seek c j with
          | nil => rw [ex_fix, hc, hj]
          | cons i2 r2 =>
            obtain ⟨⟨a2, e2⟩, e3⟩ := seek_split c j i2 r2 hj
            show unr (ex d m) (call d) cuts c k (i2 :: r2) L S h = _
            rw [ih a2 (i2 :: r2) L S h e2]
            show ex d m i2.1 L S h = _
            rw [e3]
      show _ = ex d m i.1 L S h
      rw [ex_fix, hs]
      show stK _ _ _ _ _ _ _ _ _ _ _ = stK _ _ _ _ _ _ _ _ _ _ _
      simp only [kn, kj]
/-- from a method's first instruction on -/
theorem call_unr {d m nl : Nat} {c : List MIns} (hc : prg m = (c, nl)) (ho : okc c = true) (h0 : nxt c = 0) (cuts : List Nat) (k : Nat) (as : List Value) (h : MHeap) : call (d + 1) m as h = unr (ex d m) (call d) cuts c k c (padL nl (entL as)) [] h := by
  rw [unr_ok (a := []) (by rw [hc]) ho cuts k c _ _ _ rfl, h0]
  show ex d m 0 (padL (prg m).2 (entL as)) [] h = _
  rw [hc]
theorem ex_unr {d m nl : Nat} {c : List MIns} (hc : prg m = (c, nl)) (ho : okc c = true) (cuts : List Nat) (k : Nat) {pc : Nat} {i : MIns} {r : List MIns} (hs : seek c pc = i :: r) (L : MLoc) (S : List Value) (h : MHeap) : ex d m pc L S h = unr (ex d m) (call d) cuts c k (i :: r) L S h := by
  obtain ⟨⟨a, e⟩, e3⟩ := seek_split c pc i r hs
  rw [unr_ok (a := a) (by rw [hc]) ho cuts k (i :: r) _ _ _ e]
  show _ = ex d m i.1 L S h
  rw [e3]
end
