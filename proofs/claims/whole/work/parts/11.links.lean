/-! what an instruction links, held against the tables by places -/
def tch (k : Nat) : List Cond := match k with
  | 0 => k2_sels lw_privs
  | 1 => tables_1_1
  | 2 => tables_1_2
  | 3 => tables_1_3
  | 4 => tables_1_4
  | 5 => tables_1_5
  | 6 => tables_1_6
  | 7 => tables_1_7
  | _ => []
theorem tch_ok (k : Nat) : ∀ w ∈ tch k, w ∈ lw_tbl := by
  intro w h
  unfold lw_tbl tables_1
  simp only [List.mem_append]
  match k, h with
  | 0, h => exact Or.inl h
  | 1, h => exact Or.inr (Or.inl h)
  | 2, h => exact Or.inr (Or.inr (Or.inl h))
  | 3, h => exact Or.inr (Or.inr (Or.inr (Or.inl h)))
  | 4, h => exact Or.inr (Or.inr (Or.inr (Or.inr (Or.inl h))))
  | 5, h => exact Or.inr (Or.inr (Or.inr (Or.inr (Or.inr (Or.inl h)))))
  | 6, h => exact Or.inr (Or.inr (Or.inr (Or.inr (Or.inr (Or.inr (Or.inl h))))))
  | 7, h => exact Or.inr (Or.inr (Or.inr (Or.inr (Or.inr (Or.inr (Or.inr h))))))
  | k + 8, h => exact absurd h (by simp [tch])
def tn (k : Nat) (w : Cond) : Bool := decide ((tch (k / 1000))[k % 1000]? = some w)
def tb (k : Nat) (w : Cond) : Bool := goodWord w && tn k w
theorem tn_ok {k : Nat} {w : Cond} (h : tn k w = true) : w ∈ lw_tbl := by
  unfold tn at h
  simp only [decide_eq_true_eq] at h
  exact tch_ok _ _ (List.mem_of_getElem? h)
theorem tb_ok {k : Nat} {w : Cond} (h : tb k w = true) : w ∈ gtbl := by
  unfold tb at h
  simp only [Bool.and_eq_true] at h
  exact List.mem_filter.mpr ⟨tn_ok h.2, h.1⟩
theorem tc_ok (k : Nat) {w : Cond} (h : (tch (k / 1000))[k % 1000]? = some w) (hg : goodWord w = true) : w ∈ gtbl := List.mem_filter.mpr ⟨tch_ok _ _ (List.mem_of_getElem? h), hg⟩
def mhN (y : MethodName) : Bool := decide (y.cls ≠ "java/lang/invoke/MethodHandle") && decide (y.cls ≠ "java/lang/invoke/VarHandle")
def mnp (y : MethodName) (n : Nat) : Bool := decide ((parseMethodDescriptor y.desc).map (fun d => d.parameters.length) = some n)
/-- a called method's own words -/
def mcw (m : Nat) : Bool := mhN (mtd m).1 && Nat.ble (prg m).2 40 && Nat.blt m 263
def lkV (own : String) (i n : Nat) : List Nat → List Nat → Bool
  | t :: m :: ps, a1 :: a2 :: a3 :: a4 :: a5 :: a6 :: a7 :: a8 :: ax => (bif Nat.ble 1000 m then Nat.beq t 98 && (bif Nat.beq m 1004 then Nat.beq n 0 && tb a1 (.methodLink own i ⟨"java/lang/String", "length", "()I"⟩) else Nat.beq m 1005 && Nat.beq n 1 && tb a1 (.methodLink own i ⟨"java/lang/String", "charAt", "(I)C"⟩))
      else mcw m && mnp (mtd m).1 n && Nat.blt t 13 && tb a2 (.instanceMethod (mtd m).1) && tb a3 (.initialized (mtd m).1.cls) &&
        (bif Nat.beq a4 0 then decide (cnm t = (mtd m).1.cls) && tb a5 (.methodLink own i (mtd m).1) && tb a6 (.selects (cnm t) (mtd m).1 (mtd m).1)
          else tb a5 (.methodLink own i ⟨cnm 3, (mtd m).1.name, (mtd m).1.desc⟩) && tb a6 (.selects (cnm t) ⟨cnm 3, (mtd m).1.name, (mtd m).1.desc⟩ (mtd m).1) && tb a7 (.sameMethod (cnm 3) (cnm 3) (mtd m).1.name (mtd m).1.desc) &&
            decide ((mtd a4).1 = ⟨cnm 3, (mtd m).1.name, (mtd m).1.desc⟩) && tb a8 (.instanceMethod (mtd a4).1) && mcw a4)) && lkV own i n ps (ax.drop 1)
  | [], _ => true
  | _, _ => false
/-- kinds of heaps that aren't of another kind -/
def ncP : List (Nat × Nat) := [(3, 6), (3, 2), (3, 1), (3, 8), (3, 10), (6, 2), (6, 1), (6, 8), (6, 10), (2, 6), (2, 1), (2, 8), (2, 10), (1, 2), (1, 8), (1, 10), (8, 6), (8, 2), (8, 1), (8, 10), (10, 6), (10, 1), (10, 8)]
def jok (pc : Nat) (off : Int) (t : Nat) : Bool := decide ((pc : Int) + off = (t : Int))
/-- keys and targets of a switch -/
def swO (pc : Nat) : List (Int × Int) → List Value → List Nat → Bool
  | (k, o) :: ps, .int v :: cs, t :: ts => decide (v.toInt = k) && jok pc o t && swO pc ps cs ts
  | [], [], [] => true
  | _, _, _ => false
def lkB (mn : MethodName) (rt : Option FieldType) (pc : Nat) (i : Instr) (len : Nat) (rs : List Nat) (cs : List Value) (ax : List Nat) : Bool :=
  match i with
  | .iconst n => Nat.beq len 1 && decide (cs = [.int (Int32.ofInt n)])
  | .bipush n => Nat.beq len 2 && decide (cs = [.int (Int8.ofInt n).toInt32])
  | .sipush n => Nat.beq len 3 && decide (cs = [.int (Int16.ofInt n).toInt32])
  | .lconst n => Nat.beq len 1 && decide (cs = [.long (Int64.ofNat n.val)])
  | .ldc k => Nat.beq len 2 && (match cs, ax with
    | [.int v], [a] => tb a (.constant mn.cls k v)
    | [.ref 1], [] => decide (mn.cls = "OneTurned") && Nat.beq k 56
    | [.ref 2], [] => decide (mn.cls = "OneTurned$Tape") && Nat.beq k 117
    | _, _ => false)
  | .ldc_w k => Nat.beq len 3 && (match cs, ax with
    | [.int v], [a] => tb a (.constant mn.cls k v)
    | _, _ => false)
  | .ldc2_w k => Nat.beq len 3 && (match cs, ax with
    | [.long v], [a] => tb a (.constantLong mn.cls k v)
    | _, _ => false)
  | .iinc _ z => Nat.beq len 3 && decide (cs = [.int (Int32.ofInt z)])
  | .iload _ | .aload _ | .istore _ | .astore _ | .lload _ | .lstore _ => Nat.beq len 2
  | .goto off | .ifCond _ off | .if_icmp _ off | .ifnull off | .ifnonnull off => Nat.beq len 3 && (match rs with
    | [t] => jok pc off t
    | _ => false)
  | .tableswitch df lo hi offs => (match rs with
    | t :: ts => jok pc df t && decide (hi = lo + (offs.size : Int) - 1) && swO pc (offs.toList.mapIdx fun k o => (lo + (k : Int), o)) cs ts
    | _ => false)
  | .lookupswitch df ps => (match rs with
    | t :: ts => jok pc df t && (ps.toList.zip (ps.toList.drop 1)).all (fun (a, next) => a.1 < next.1) && swO pc ps.toList cs ts
    | _ => false)
  | .ireturn => Nat.beq len 1 && (match rs with
    | [0] => decide (rt = some .int)
    | [1] => decide (rt = some .boolean)
    | _ => false)
  | .lreturn => Nat.beq len 1 && decide (rt = some .long)
  | .areturn => Nat.beq len 1 && (match rt with
    | some (.object _) => true
    | some (.array _) => true
    | _ => false)
  | .return_ => Nat.beq len 1 && decide (rt = none)
  | .getfield k => Nat.beq len 3 && (match rs, ax with
    | _ :: j :: ts, a0 :: rc :: a2 :: _ => ts.all fun t => (match clsL[t]? with
      | some (_, T, N) => Nat.blt j N && tb a0 (.fieldLink mn.cls k (cnm rc) (T j).2.1 (T j).2.2.1) && (decide (cnm rc = (T j).1) || tb a2 (.sameField (cnm rc) (T j).1 (T j).2.1 (T j).2.2.1))
      | none => false)
    | _, _ => false)
  | .putfield k => Nat.beq len 3 && (match rs, ax with
    | q :: j :: ts, a0 :: rc :: a2 :: _ => ts.all fun t => (match clsL[t]? with
      | some (_, T, N) => Nat.blt j N && tb a0 (.fieldLink mn.cls k (cnm rc) (T j).2.1 (T j).2.2.1) && (decide (cnm rc = (T j).1) || tb a2 (.sameField (cnm rc) (T j).1 (T j).2.1 (T j).2.2.1)) &&
        (match q with
          | 0 => decide (parseFieldDescriptor (T j).2.2.1 = some .int)
          | 1 => decide (parseFieldDescriptor (T j).2.2.1 = some .boolean)
          | _ => (match parseFieldDescriptor (T j).2.2.1 with
            | some (.object _) => true
            | some (.array _) => true
            | _ => false)) && (!(T j).2.2.2 || (decide (mn.name = "<init>") && decide ((T j).1 = mn.cls)))
      | none => false)
    | _, _ => false)
  | .checkcast _ => true
  | .newarray a => Nat.beq len 2 && decide (a = .int)
  | .anewarray k => Nat.beq len 3 && (match rs, ax with
    | [101], [a] => tb a (.classLink mn.cls k (cnm 3))
    | [102], [a] => tb a (.classLink mn.cls k (cnm 5))
    | [103], [a] => tb a (.classLink mn.cls k (cnm 7))
    | _, _ => false)
  | .new k => Nat.beq len 3 && (match rs, ax with
    | [t], [a1, a2, a3] => (match clsL[t]? with
      | some (C, T, N) => tb a1 (.classLink mn.cls k C) && tb a2 (.instantiable C N) && tb a3 (.initialized C) && decide (cs.length = N) && (List.range N).all fun j => (match parseFieldDescriptor (T j).2.2.1 with
        | some ty => decide (cs[j]? = some (defaultValue ty))
        | none => false)
      | none => false)
    | _, _ => false)
  | .instanceof k => Nat.beq len 3 && (match rs, ax with
    | n :: ts, a :: rc :: bs => tb a (.classLink mn.cls k (cnm rc)) && (ts.all fun t => Nat.blt t 13) && ((ts.take n).zip bs).all (fun q => Nat.beq q.1 rc || tn q.2 (.castable (cnm q.1) (cnm rc))) && Nat.beq bs.length n && (ts.drop n).all (fun t => ncP.contains (t, rc))
    | _, _ => false)
  | .invokestatic k => Nat.beq len 3 && (match rs, ax with
    | m :: n :: _ :: _, a1 :: a2 :: a3 :: a4 :: a5 :: _ => (bif Nat.ble 1000 m then (match m - 1000 with
        | 0 => Nat.beq n 2 && tb a1 (.methodLink mn.cls k Lib.Math.max.name)
        | 1 => Nat.beq n 2 && tb a1 (.methodLink mn.cls k Lib.Math.min.name)
        | 2 => Nat.beq n 5 && tb a1 (.methodLink mn.cls k arraycopyName)
        | _ => false)
      else mcw m && mnp (mtd m).1 n && tb a2 (.static (mtd m).1) && tb a3 (.initialized (mtd m).1.cls) && (bif Nat.beq a4 0 then tb a5 (.methodLink mn.cls k (mtd m).1) else tn a5 (.methodLinkNest mn.cls k (mtd m).1 "OneTurned")))
    | _, _ => false)
  | .invokespecial k => Nat.beq len 3 && (match rs, ax with
    | m :: n :: _ :: tS, a1 :: a2 :: a3 :: a4 :: a5 :: a6 :: a7 :: _ => (bif Nat.ble 1000 m then Nat.beq m 1003 && Nat.beq n 0 && tb a1 (.methodLink mn.cls k objectInit)
      else mcw m && mnp (mtd m).1 n && tb a2 (.instanceMethod (mtd m).1) && tb a3 (.initialized (mtd m).1.cls) && (match a4 with
        | 0 => decide ((mtd m).1.name = "<init>") && decide ((mtd m).2.2 = none) && tb a5 (.methodLink mn.cls k (mtd m).1)
        | 1 => decide ((mtd m).1.name = "<init>") && decide ((mtd m).2.2 = none) && tn a5 (.methodLinkNest mn.cls k (mtd m).1 "OneTurned")
        | _ => decide (tS = [10]) && decide ((mtd m).1.name ≠ "<init>") && tb a5 (.methodLink mn.cls k ⟨cnm 2, (mtd m).1.name, (mtd m).1.desc⟩) && tb a6 (.sameMethod (cnm 2) (mtd m).1.cls (mtd m).1.name (mtd m).1.desc) && tb a7 (.superclass mn.cls (cnm 2)) && (decide ((mtd m).1.cls = cnm 2) || decide ((mtd m).1.cls = cnm 3))))
    | _, _ => false)
  | .invokevirtual k => Nat.beq len 3 && (match rs with
    | n :: _ :: ps => lkV mn.cls k n ps ax
    | _ => false)
  | _ => Nat.beq len 1
/-- an instruction of a method's code: decoded as it stands, its links held -/
def chk1 (mn : MethodName) (rt : Option FieldType) (bs : ByteArray) (nl : Nat) (q : MIns × Nat × List Nat) : Bool := decide (decode bs q.1.1 = .ok (q.1.2.1, q.2.1)) && lkB mn rt q.1.1 q.1.2.1 q.2.1 q.1.2.2.1 q.1.2.2.2 q.2.2 && (match q.1.2.1 with
  | .istore n | .astore n | .iinc n _ => Nat.blt n nl
  | .istore_n n | .astore_n n => Nat.blt n.val nl
  | .lstore n => Nat.blt (n + 1) nl
  | .lstore_n n => Nat.blt (n.val + 1) nl
  | _ => true)
/-- an instruction that nothing follows -/
def nft (i : Instr) : Bool := match i with
  | .ireturn | .areturn | .lreturn | .return_ | .goto _ | .tableswitch _ _ _ _ | .lookupswitch _ _ => true
  | _ => false
/-- one instruction behind the other -/
def sqo : List MIns → List (Nat × List Nat) → Bool
  | i :: r, (len, _) :: hs => (match r with
      | [] => nft i.2.1
      | j :: _ => Nat.beq j.1 (i.1 + len)) && sqo r hs
  | [], [] => true
  | _, _ => false
theorem all_chunks {α : Type} (p : α → Bool) (n : Nat) : ∀ (J : Nat) (l : List α), l.length ≤ n * J → (∀ j, j < J → ((l.drop (n * j)).take n).all p = true) → l.all p = true := by
  intro J
  induction J with
  | zero =>
    intro l hl _
    cases l with
    | nil => rfl
    | cons a r => simp at hl
  | succ J ih =>
    intro l hl h
    rw [← List.take_append_drop n l, List.all_append, Bool.and_eq_true]
    refine ⟨by simpa using h 0 (Nat.succ_pos _), ih (l.drop n) (by rw [List.length_drop]; rw [Nat.mul_succ] at hl; omega) fun j hj => ?_⟩
    have := h (j + 1) (Nat.succ_lt_succ hj)
    rw [List.drop_drop]
    rwa [Nat.mul_succ, Nat.add_comm] at this
/-- what holds of a method's code -/
def ckM (m : Nat) (hn : List (Nat × List Nat)) : Prop := ((prg m).1.zip hn).all (chk1 (mtd m).1 (mtd m).2.2 (mtd m).2.1 (prg m).2) = true ∧ sqo (prg m).1 hn = true ∧ okc (prg m).1 = true ∧ plainName (mtd m).1.cls = true
