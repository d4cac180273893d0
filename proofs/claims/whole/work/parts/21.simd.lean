/-! the calls' instructions -/
theorem good_g {w : Cond} (h : w ∈ gtbl) : (w.onTables && w.keeps) = true ∨ ∃ ty, w = .arrayClass ty := good_of_word (List.mem_filter.mp h).2
theorem good_wsm {m : Nat} (h : Cond.code (mtd m).1 (mtd m).2.1 (prg m).2 (mtd m).2.2 ∈ gtbl) : GoodIn gtbl (wsm m) := by
  intro w hw
  rcases List.mem_cons.mp hw with rfl | hw
  · exact ⟨h, good_g h⟩
  · exact ⟨hw, good_g hw⟩
theorem mcw_ok {m : Nat} (h : mcw m = true) : ((mtd m).1.cls ≠ "java/lang/invoke/MethodHandle" ∧ (mtd m).1.cls ≠ "java/lang/invoke/VarHandle") ∧ (prg m).2 ≤ 40 ∧ m < 263 := by
  simp only [mcw, mhN, Bool.and_eq_true, decide_eq_true_eq] at h
  exact ⟨h.1.1, Nat.le_of_ble_eq_true h.1.2, Nat.le_of_ble_eq_true h.2⟩
theorem mnp_ok {y : MethodName} {n : Nat} (h : mnp y n = true) : (parseMethodDescriptor y.desc).map (fun d => d.parameters.length) = some n := of_decide_eq_true h
section SUPR
variable {p : Program} {l : Launch} {e : Env} {R : Room} {s : State} {m : MethodId} {args : Array Value} {below : List Frame} {meth : Method} {c : Code} {H : Heap} {locs : List Loc} {cells slots : Nat}
/-- a call of a method of the class above, which it may have from the one above it -/
theorem vz_runSP {y : MethodName} {bytes cc : ByteArray} {maxL nL mc ms n index : Nat} {ret : Option FieldType} {ws : List Cond} {rm : Room} {Pc : Array Value → State → Prop} {Qc : Array Value → State → Outcome → State → Prop} {free : Addr → Prop} {own C sup : String} {b : Addr} {As rest : List Value} {g : JFrame}
    (S : CallFix p m c cc nL s args gtbl own) (hM : Met l y ws rm Pc Qc mc ms free) (hG : GoodIn gtbl ws) (hcw : Cond.code y bytes maxL ret ∈ ws) (hrc : rm.cells = mc) (hrs : rm.slots = ms) (hfr : rm.frames + 1 ≤ R.frames) (hlo : 8 + (maxL + 11) + rm.locals ≤ R.locals)
    (hlink : (Cond.methodLink own index ⟨sup, y.name, y.desc⟩).before args s = true) (hsame : (Cond.sameMethod sup y.cls y.name y.desc).before args s = true) (hsup : (Cond.superclass own sup).before args s = true) (hinst : (Cond.instanceMethod y).before args s = true) (hini : (Cond.initialized y.cls).before args s = true) (hno : y.name ≠ "<init>") (hlen : (parseMethodDescriptor y.desc).map (fun d => d.parameters.length) = some n)
    (hsub : y.cls = sup ∨ (Cond.superclass sup y.cls).before args s = true) (hp : PreV s H C b Pc As)
    (hg : g.method = m) (hn : As.length = n) (hsize : g.locals.size = nL) (hstack : g.stack = As.reverse ++ .ref b :: rest) (hW : 2 * g.monitorRoom + (rest.map fun v => v.category).sum ≤ 8) (hdg : decode cc g.pc = .ok (.invokespecial index, 3)) (hf : cells + mc ≤ R.cells ∧ slots + ms ≤ R.slots) :
    va_Run p l e R s m args below meth c H locs cells slots mc ms g rest (Qc (Value.ref b :: As).toArray) (free) := by
  obtain ⟨hx, hb, hml, ho, hts⟩ := S
  have hK : Back l R p e below s args y 3 8 (PreOf R mc ms Pc) (PostOf Qc mc ms free) := back_of (bytes := bytes) (maxL := maxL) (ret := ret) hM hp.1 hrc hrs hfr hlo (pay_in hts hG) hcw (fun a' U hW => word_at hW (Or.inl (by first | rfl | simp [Cond.onTables, Cond.keeps, Cond.steady])) hini)
  have hcode := hts _ (hG _ hcw).1
  obtain ⟨-, ⟨cellB, hcB, hoB, hclB⟩, hPc⟩ := hp
  obtain ⟨kB, hkB, -⟩ := Vm.findClass_spec hclB
  obtain ⟨mk, methM, hnamed, hmethM, hstM, habM⟩ := Cond.instanceMethod_spec hinst
  obtain ⟨methM', cM, hmethM', -, -, -, -, -, -, hsigM⟩ := Cond.code_spec hnamed hcode
  cases hmethM.symm.trans hmethM'
  obtain ⟨ps, dk, kp, hps, hdk, hkp, hsuper, -, -, hnid⟩ := Cond.superclass_spec ho hsup
  have hmk := findClass_of_methodNamed hnamed
  have hsb : s.vm.isSubclass ps mk.cls = true := by
    rcases hsub with q | q
    · rw [q] at hmk
      have hpm : ps = mk.cls := Option.some.inj (hps.symm.trans hmk)
      rw [hpm]
      simp [Vm.isSubclass, Vm.isSubclassAux]
    · obtain ⟨ps2, dk2, kp2, hps2, hdk2, hkp2, hsuper2, -, -, -⟩ := Cond.superclass_spec hps q
      have hpm : ps2 = mk.cls := Option.some.inj (hps2.symm.trans hmk)
      subst hpm
      have hlt : ps < s.vm.classes.size := (Array.getElem?_eq_some_iff.mp hdk2).1
      cases hz : s.vm.classes.size with
      | zero => rw [hz] at hlt; exact absurd hlt (Nat.not_lt_zero _)
      | succ z => simp [Vm.isSubclass, Vm.isSubclassAux, hz, hdk2, hsuper2]
  intro T hT X
  have hlen2 : ∀ sig, parseMethodDescriptor y.desc = some sig → As.length = sig.parameters.length := by
    intro sig hs
    rw [hs] at hlen
    rw [hn]
    exact (Option.some.inj hlen).symm
  obtain ⟨vm₁, X₁, hstep₁⟩ := X.invokespecialUp hx (x := ⟨sup, y.name, y.desc⟩) (owner := y.cls) ho hlink hsame hnamed hmethM hstM habM hno hdk hnid hps hsuper hsb (a := b) (cell := cellB) (by rw [hT]; exact hcB)
    (fun z h => by rw [h] at hoB; cases hoB) hkB (g := g) hg (argsL := As) (rest := rest) (hlen2 _ hsigM) hstack (by rw [hb]; exact hdg)
  obtain ⟨v, ⟨U', l2, c2, s2⟩, X', hpost, hsteps⟩ := hK m meth c ⟨T.setVm vm₁, locs, cells, slots⟩ { g with stack := rest } (.invokespecial index) mk (Value.ref b :: As).toArray X₁ hg (hsize.trans hml.symm) (by rw [hb]; exact hdg) hW (X₁.named hnamed) ⟨hf.1, hf.2, hPc (T.setVm vm₁) hT X₁.warmed⟩
  obtain ⟨g', mk', t, L, e1, e2, hq, h1, hL, h2, h3⟩ := hpost
  dsimp only [Pt.U, Pt.locs, Pt.cells, Pt.slots] at X' e1 e2 h1 h2 h3
  subst h1; subst h2; subst h3
  exact ⟨v, (T.setVm vm₁).calling g' mk' (Value.ref b :: As).toArray, t, U', L, hT, X', hL, e1, e2, hq, fun target h => hstep₁ _ (by rw [doInvoke_state]; exact hsteps.trans h)⟩
end SUPR
/-- what a call is, on the small machine's side -/
def CLp (l : Launch) (R : Room) (SX : State → Heap → Prop) (D : va_G) (cA : Nat → ClassId) (ad : Nat → Nat) (B : Nat) (xs : List Int32) (t1 t2 : List Value) (KNp : List Value → MHeap → Prop) (m' : Nat) (as : List Value) (_ : Nat) (S1 : List Value) (h1 : MHeap) : Prop :=
  ∃ (d1 : Nat) (v : Option Value) (h2 : MHeap), d1 + 1 ≤ R.frames ∧ 64 * (d1 + 1) ≤ R.locals ∧ okS v.toList ∧ gr h1 h2 ∧ (1000 ≤ m' → prx d1 (m' - 1000) as h1 = some (v, h2)) ∧ (m' < 1000 → MetS l SX D cA ad B xs t1 t2 d1 m' as h1 v h2) ∧ KNp (v.toList ++ S1) h2
def grC (i : Instr) : Bool := match i with
  | .invokestatic _ | .invokespecial _ | .invokevirtual _ => true
  | _ => false
theorem vdP_lk {own : String} {i n t m : Nat} : ∀ (ps ax : List Nat), lkV own i n ps ax = true → vdP ps t = some m → ∃ a1 a2 a3 a4 a5 a6 a7 a8, (bif Nat.ble 1000 m then Nat.beq t 98 && (bif Nat.beq m 1004 then Nat.beq n 0 && tb a1 (.methodLink own i ⟨"java/lang/String", "length", "()I"⟩) else Nat.beq m 1005 && Nat.beq n 1 && tb a1 (.methodLink own i ⟨"java/lang/String", "charAt", "(I)C"⟩))
      else mcw m && mnp (mtd m).1 n && Nat.blt t 13 && tb a2 (.instanceMethod (mtd m).1) && tb a3 (.initialized (mtd m).1.cls) &&
        (bif Nat.beq a4 0 then decide (cnm t = (mtd m).1.cls) && tb a5 (.methodLink own i (mtd m).1) && tb a6 (.selects (cnm t) (mtd m).1 (mtd m).1)
          else tb a5 (.methodLink own i ⟨cnm 3, (mtd m).1.name, (mtd m).1.desc⟩) && tb a6 (.selects (cnm t) ⟨cnm 3, (mtd m).1.name, (mtd m).1.desc⟩ (mtd m).1) && tb a7 (.sameMethod (cnm 3) (cnm 3) (mtd m).1.name (mtd m).1.desc) &&
            decide ((mtd a4).1 = ⟨cnm 3, (mtd m).1.name, (mtd m).1.desc⟩) && tb a8 (.instanceMethod (mtd a4).1) && mcw a4)) = true
  | [], _, _, h2 => by cases h2
  | [_], _, _, h2 => by cases h2
  | t0 :: m0 :: ps, ax, h1, h2 => by
    match ax, h1 with
    | a1 :: a2 :: a3 :: a4 :: a5 :: a6 :: a7 :: a8 :: ax, h1 =>
      unfold lkV at h1
      rw [Bool.and_eq_true] at h1
      cases hb : Nat.beq t0 t with
      | true =>
        have ht : t0 = t := Nat.eq_of_beq_eq_true hb
        have hm : m0 = m := by simpa [vdP, hb] using h2
        subst ht; subst hm
        exact ⟨a1, a2, a3, a4, a5, a6, a7, a8, h1.1⟩
      | false =>
        have h2 : vdP ps t = some m := by simpa [vdP, hb] using h2
        exact vdP_lk ps (ax.drop 1) h1.2 h2
