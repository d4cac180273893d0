/-! one step of the small machine is one of the real one: what touches no cell -/
def okS (S : List Value) : Prop := ∀ v ∈ S, okV v = true
theorem okS.tl {v : Value} {S : List Value} (h : okS (v :: S)) : okS S := fun w hw => h w (List.mem_cons_of_mem _ hw)
theorem okS.cons {v : Value} {S : List Value} (hv : okV v = true) (h : okS S) : okS (v :: S) := fun w hw => by
  rcases List.mem_cons.mp hw with rfl | hw
  · exact hv
  · exact h w hw
theorem okV_nr {v : Value} (h : v = .null ∨ ∃ x, v = .ref x) : okV v = true := by
  rcases h with rfl | ⟨x, rfl⟩ <;> rfl
section RL
variable (D : va_G) (cA : Nat → ClassId) (ad : Nat → Nat) (B : Nat) (xs : List Int32) (t1 t2 : List Value) (H0 : Heap) (n0 s0 nL : Nat)
/-- the real state holds the small one -/
def Rl (L : MLoc) (S : List Value) (h : MHeap) (ls : Array Slot) (H : Heap) (locs : List Loc) (cells slots : Nat) : Prop :=
  LR ad ls nL L ∧ okS S ∧ va_P D clsL (toW ad cA h) H ∧ H.size = B + (h.length - 3) ∧ h.take 3 = prF xs t1 t2 ∧ 3 ≤ h.length ∧ va_S (fun q => B ≤ q) H0 H locs ∧ cells + n0 = h.length ∧ slots + s0 = hsl h
variable {D cA ad B xs t1 t2 H0 n0 s0 nL}
theorem Rl.re {L L' : MLoc} {S S' : List Value} {h : MHeap} {ls ls' : Array Slot} {H : Heap} {locs : List Loc} {cells slots : Nat} (hR : Rl D cA ad B xs t1 t2 H0 n0 s0 nL L S h ls H locs cells slots) (hl : LR ad ls' nL L') (hs : okS S') : Rl D cA ad B xs t1 t2 H0 n0 s0 nL L' S' h ls' H locs cells slots := ⟨hl, hs, hR.2.2⟩
end RL
/-- on from a place, up to the method's end -/
def KN (Wp : Heap → List Loc → Nat → Nat → JFrame → Prop) (rl : MLoc → List Value → MHeap → Array Slot → Heap → List Loc → Nat → Nat → Prop) (h' : MHeap) (m : MethodId) (ad : Nat → Nat) (pc : Nat) (L : MLoc) (S : List Value) (h : MHeap) : Prop :=
  (h.length ≤ h'.length ∧ hsl h ≤ hsl h') ∧ ∀ ls H locs cells slots, rl L S h ls H locs cells slots → Wp H locs cells slots (F0 m pc ls (S.map (shv ad)))
def Cx (p : Program) (s : State) (m : MethodId) (args : Array Value) (meth : Method) (c : Code) (SX : State → Heap → Prop) (D : va_G) (cA : Nat → ClassId) (ad : Nat → Nat) (B : Nat) (xs : List Int32) (mi : Nat) : Prop :=
  p.tables.exec = Jvm.exec ∧ c.code = (mtd mi).2.1 ∧ c.maxLocals = (prg mi).2 ∧ s.vm.findClass (mtd mi).1.cls = some m.cls ∧ (∀ w ∈ gtbl, w.before args s = true) ∧ KS SX D cA ad B xs s s.heap ∧ meth.sig.returnType = (mtd mi).2.2 ∧ meth.locks = false ∧ meth.name = (mtd mi).1.name ∧ ∀ k, ad (k + 3) = B + k
/-- which instructions touch no cell and call nothing -/
def grA (i : Instr) : Bool := match i with
  | .aconst_null | .iconst _ | .bipush _ | .sipush _ | .lconst _ | .ldc _ | .ldc_w _ | .ldc2_w _ | .iload _ | .iload_n _ | .aload _ | .aload_n _ | .lload _ | .lload_n _ | .istore _ | .istore_n _ | .astore _ | .astore_n _ | .lstore _ | .lstore_n _ | .iinc _ _ | .dup | .pop
  | .iadd | .isub | .imul | .iand | .ior | .ixor | .ishl | .ishr | .iushr | .idiv | .irem | .ineg | .i2l | .i2b | .i2s | .l2i | .ladd | .lmul | .ldiv | .lrem | .lcmp | .ifCond _ _ | .if_icmp _ _ | .ifnull _ | .ifnonnull _ | .goto _ => true
  | _ => false

theorem lg_cmp_if (x y : Int64) : lg_cmp x y = (if x = y then 0 else if x < y then -1 else 1) := by
  unfold lg_cmp
  simp only [gt_iff_lt, Int64.lt_iff_toInt_lt, ← Int64.toInt_inj]
  repeat' split
  all_goals first | rfl | omega
section SIMA
variable {p : Program} {l : Launch} {e : Env} {R : Room} {s : State} {m : MethodId} {args : Array Value} {below : List Frame} {meth : Method} {c : Code} {Q : State → Prop}
variable {SX : State → Heap → Prop} {D : va_G} {cA : Nat → ClassId} {ad : Nat → Nat} {B : Nat} {xs : List Int32} {t1 t2 : List Value} {n0 s0 mi : Nat} {h' : MHeap}
set_option maxHeartbeats 4000000 in
theorem sim_a {rt : Option Value → MHeap → Prop} {cl : Nat → List Value → Nat → List Value → MHeap → Prop} (C : Cx p s m args meth c SX D cA ad B xs mi) {pc len : Nat} {i : Instr} {rs : List Nat} {cs : List Value} {ax : List Nat} (hck : chk1 (mtd mi).1 (mtd mi).2.2 (mtd mi).2.1 (prg mi).2 ((pc, i, rs, cs), len, ax) = true) (hi : grA i = true)
    {L : MLoc} {S : List Value} {h : MHeap}
    (hst : stK False rt (KN (fun H locs cells slots g => W p l e R s m args below meth c H locs cells slots Q g) (Rl D cA ad B xs t1 t2 s.heap n0 s0 (prg mi).2) h' m ad (pc + len)) (KN (fun H locs cells slots g => W p l e R s m args below meth c H locs cells slots Q g) (Rl D cA ad B xs t1 t2 s.heap n0 s0 (prg mi).2) h' m ad) cl i rs cs L S h)
    {ls : Array Slot} {H : Heap} {locs : List Loc} {cells slots : Nat} (hR : Rl D cA ad B xs t1 t2 s.heap n0 s0 (prg mi).2 L S h ls H locs cells slots) : W p l e R s m args below meth c H locs cells slots Q (F0 m pc ls (S.map (shv ad))) := by
  obtain ⟨hx, hb, hml, hown, hts, hKS, hret, hlocks, hnm, had⟩ := C
  obtain ⟨hLR, hok, hrest⟩ := id hR
  simp only [chk1, Bool.and_eq_true, decide_eq_true_eq] at hck
  obtain ⟨⟨hdec, hlk⟩, hloc⟩ := hck
  cases i
  case aconst_null =>
    have hl : len = 1 := Nat.eq_of_beq_eq_true hlk
    subst hl
    refine lv_null hx hb hdec ?_
    exact hst.2 ls H locs cells slots (hR.re hLR (okS.cons rfl hok))
  case iconst n =>
    simp only [lkB, Bool.and_eq_true, decide_eq_true_eq] at hlk
    obtain ⟨hl, rfl⟩ := hlk
    have hl : len = 1 := Nat.eq_of_beq_eq_true hl
    subst hl
    refine lv_iconst hx hb hdec rfl ?_
    exact hst.2 ls H locs cells slots (hR.re hLR (okS.cons rfl hok))
  case bipush n =>
    simp only [lkB, Bool.and_eq_true, decide_eq_true_eq] at hlk
    obtain ⟨hl, rfl⟩ := hlk
    have hl : len = 2 := Nat.eq_of_beq_eq_true hl
    subst hl
    refine lv_bipush hx hb hdec rfl ?_
    exact hst.2 ls H locs cells slots (hR.re hLR (okS.cons rfl hok))
  case sipush n =>
    simp only [lkB, Bool.and_eq_true, decide_eq_true_eq] at hlk
    obtain ⟨hl, rfl⟩ := hlk
    have hl : len = 3 := Nat.eq_of_beq_eq_true hl
    subst hl
    refine lv_sipush hx hb hdec rfl ?_
    exact hst.2 ls H locs cells slots (hR.re hLR (okS.cons rfl hok))
  case lconst n =>
    simp only [lkB, Bool.and_eq_true, decide_eq_true_eq] at hlk
    obtain ⟨hl, rfl⟩ := hlk
    have hl : len = 1 := Nat.eq_of_beq_eq_true hl
    subst hl
    refine lv_lconst hx hb hdec rfl ?_
    exact hst.2 ls H locs cells slots (hR.re hLR (okS.cons rfl hok))
  case ldc k =>
    simp only [lkB, Bool.and_eq_true] at hlk
    obtain ⟨hl, hk⟩ := hlk
    have hl : len = 2 := Nat.eq_of_beq_eq_true hl
    subst hl
    split at hk
    · refine lv_ldc hx hb hown (hts _ (tb_ok hk)) hdec ?_
      exact hst.2 ls H locs cells slots (hR.re hLR (okS.cons rfl hok))
    · simp only [Bool.and_eq_true, decide_eq_true_eq] at hk
      obtain ⟨h1, h2⟩ := hk
      have h2 : k = 56 := Nat.eq_of_beq_eq_true h2
      subst h2
      have hZ := hKS.1.2.2.2.2.2.1
      rw [← h1] at hZ
      refine va_ldcS hx hb hown hZ hdec ?_
      exact hst.2 ls H locs cells slots (hR.re hLR (okS.cons rfl hok))
    · simp only [Bool.and_eq_true, decide_eq_true_eq] at hk
      obtain ⟨h1, h2⟩ := hk
      have h2 : k = 117 := Nat.eq_of_beq_eq_true h2
      subst h2
      have hZ := hKS.1.2.2.2.2.2.2
      rw [← h1] at hZ
      refine va_ldcS hx hb hown hZ hdec ?_
      exact hst.2 ls H locs cells slots (hR.re hLR (okS.cons rfl hok))
    · cases hk
  case ldc_w k =>
    simp only [lkB, Bool.and_eq_true] at hlk
    obtain ⟨hl, hk⟩ := hlk
    have hl : len = 3 := Nat.eq_of_beq_eq_true hl
    subst hl
    split at hk
    · refine lv_ldcw hx hb hown (hts _ (tb_ok hk)) hdec ?_
      exact hst.2 ls H locs cells slots (hR.re hLR (okS.cons rfl hok))
    · cases hk
  case ldc2_w k =>
    simp only [lkB, Bool.and_eq_true] at hlk
    obtain ⟨hl, hk⟩ := hlk
    have hl : len = 3 := Nat.eq_of_beq_eq_true hl
    subst hl
    split at hk
    · refine lv_ldc2 hx hb hown (hts _ (tb_ok hk)) hdec ?_
      exact hst.2 ls H locs cells slots (hR.re hLR (okS.cons rfl hok))
    · cases hk
  case iload n =>
    have hl : len = 2 := Nat.eq_of_beq_eq_true hlk
    subst hl
    obtain ⟨v, hv, hst⟩ := gS_F hst
    obtain ⟨x, rfl, hst⟩ := dI_F hst
    refine lv_iload hx hb hdec (hLR.at hv) ?_
    exact hst.2 ls H locs cells slots (hR.re hLR (okS.cons rfl hok))
  case iload_n n =>
    have hl : len = 1 := Nat.eq_of_beq_eq_true hlk
    subst hl
    obtain ⟨v, hv, hst⟩ := gS_F hst
    obtain ⟨x, rfl, hst⟩ := dI_F hst
    refine lv_iload_n hx hb hdec rfl (hLR.at hv) ?_
    exact hst.2 ls H locs cells slots (hR.re hLR (okS.cons rfl hok))
  case aload n =>
    have hl : len = 2 := Nat.eq_of_beq_eq_true hlk
    subst hl
    obtain ⟨v, hv, hst⟩ := gS_F hst
    obtain ⟨hv2, hst⟩ := dA_F hst
    rcases hv2 with rfl | ⟨x, rfl⟩
    · refine lv_aloadN hx hb hdec (hLR.at hv) ?_
      exact hst.2 ls H locs cells slots (hR.re hLR (okS.cons rfl hok))
    · refine lv_aload hx hb hdec (hLR.at hv) ?_
      exact hst.2 ls H locs cells slots (hR.re hLR (okS.cons rfl hok))
  case aload_n n =>
    have hl : len = 1 := Nat.eq_of_beq_eq_true hlk
    subst hl
    obtain ⟨v, hv, hst⟩ := gS_F hst
    obtain ⟨hv2, hst⟩ := dA_F hst
    rcases hv2 with rfl | ⟨x, rfl⟩
    · refine lv_aload_nN hx hb hdec rfl (hLR.at hv) ?_
      exact hst.2 ls H locs cells slots (hR.re hLR (okS.cons rfl hok))
    · refine lv_aload_n hx hb hdec rfl (hLR.at hv) ?_
      exact hst.2 ls H locs cells slots (hR.re hLR (okS.cons rfl hok))
  case lload n =>
    have hl : len = 2 := Nat.eq_of_beq_eq_true hlk
    subst hl
    obtain ⟨y, hv, hst⟩ := gSL_F hst
    refine lv_lload hx hb hdec (hLR.atL hv) ?_
    exact hst.2 ls H locs cells slots (hR.re hLR (okS.cons rfl hok))
  case lload_n n =>
    have hl : len = 1 := Nat.eq_of_beq_eq_true hlk
    subst hl
    obtain ⟨y, hv, hst⟩ := gSL_F hst
    refine lv_lload_n hx hb hdec rfl (hLR.atL hv) ?_
    exact hst.2 ls H locs cells slots (hR.re hLR (okS.cons rfl hok))
  case istore n =>
    have hl : len = 2 := Nat.eq_of_beq_eq_true hlk
    subst hl
    have hloc := Nat.le_of_ble_eq_true hloc
    rcases S with _ | ⟨v, S⟩
    · exact absurd hst id
    · obtain ⟨x, rfl, hst⟩ := dI_F hst
      refine lv_istore hx hb hdec hLR.1 hloc rfl (fun ls hl => ?_)
      exact hst.2 ls H locs cells slots (hR.re (hLR.st rfl hl) hok.tl)
  case istore_n n =>
    have hl : len = 1 := Nat.eq_of_beq_eq_true hlk
    subst hl
    have hloc := Nat.le_of_ble_eq_true hloc
    rcases S with _ | ⟨v, S⟩
    · exact absurd hst id
    · obtain ⟨x, rfl, hst⟩ := dI_F hst
      refine lv_istore_n hx hb hdec rfl hLR.1 hloc rfl (fun ls hl => ?_)
      exact hst.2 ls H locs cells slots (hR.re (hLR.st rfl hl) hok.tl)
  case astore n =>
    have hl : len = 2 := Nat.eq_of_beq_eq_true hlk
    subst hl
    have hloc := Nat.le_of_ble_eq_true hloc
    rcases S with _ | ⟨v, S⟩
    · exact absurd hst id
    · obtain ⟨hv2, hst⟩ := dA_F hst
      rcases hv2 with rfl | ⟨x, rfl⟩
      · refine lv_astoreN hx hb hdec hLR.1 hloc rfl (fun ls hl => ?_)
        exact hst.2 ls H locs cells slots (hR.re (hLR.st rfl hl) hok.tl)
      · refine lv_astore hx hb hdec hLR.1 hloc rfl (fun ls hl => ?_)
        exact hst.2 ls H locs cells slots (hR.re (hLR.st rfl hl) hok.tl)
  case astore_n n =>
    have hl : len = 1 := Nat.eq_of_beq_eq_true hlk
    subst hl
    have hloc := Nat.le_of_ble_eq_true hloc
    rcases S with _ | ⟨v, S⟩
    · exact absurd hst id
    · obtain ⟨hv2, hst⟩ := dA_F hst
      rcases hv2 with rfl | ⟨x, rfl⟩
      · refine lv_astore_nN hx hb hdec rfl hLR.1 hloc rfl (fun ls hl => ?_)
        exact hst.2 ls H locs cells slots (hR.re (hLR.st rfl hl) hok.tl)
      · refine lv_astore_n hx hb hdec rfl hLR.1 hloc rfl (fun ls hl => ?_)
        exact hst.2 ls H locs cells slots (hR.re (hLR.st rfl hl) hok.tl)
  case lstore n =>
    have hl : len = 2 := Nat.eq_of_beq_eq_true hlk
    subst hl
    have hloc := Nat.le_of_ble_eq_true hloc
    rcases S with _ | ⟨v, S⟩
    · exact absurd hst id
    · obtain ⟨x, rfl, hst⟩ := dL_F hst
      refine lv_lstore hx hb hdec hLR.1 hloc rfl (fun ls hl => ?_)
      exact hst.2 ls H locs cells slots (hR.re (hLR.stL hl) hok.tl)
  case lstore_n n =>
    have hl : len = 1 := Nat.eq_of_beq_eq_true hlk
    subst hl
    have hloc := Nat.le_of_ble_eq_true hloc
    rcases S with _ | ⟨v, S⟩
    · exact absurd hst id
    · obtain ⟨x, rfl, hst⟩ := dL_F hst
      refine lv_lstore_n hx hb hdec rfl hLR.1 hloc rfl (fun ls hl => ?_)
      exact hst.2 ls H locs cells slots (hR.re (hLR.stL hl) hok.tl)
  case iinc n z =>
    simp only [lkB, Bool.and_eq_true, decide_eq_true_eq] at hlk
    obtain ⟨hl, rfl⟩ := hlk
    have hl : len = 3 := Nat.eq_of_beq_eq_true hl
    subst hl
    have hloc := Nat.le_of_ble_eq_true hloc
    obtain ⟨v, hv, hst⟩ := gS_F hst
    obtain ⟨x, rfl, hst⟩ := dI_F hst
    have hm := mlg_prs (ad := ad) L 0 n _ hv
    rw [Nat.zero_add] at hm
    obtain ⟨k, hk⟩ := List.getElem?_of_mem hm
    refine lv_iinc hx hb hdec hLR.1 hk rfl hloc rfl (fun ls hl => ?_)
    exact hst.2 ls H locs cells slots (hR.re (hLR.st rfl hl) hok)
  case dup =>
    have hl : len = 1 := Nat.eq_of_beq_eq_true hlk
    subst hl
    rcases S with _ | ⟨v, S⟩
    · exact absurd hst id
    · obtain ⟨hv, hst⟩ := dD_F hst
      refine lv_dup hx hb hdec (by rw [shv_cat]; exact hv) ?_
      exact hst.2 ls H locs cells slots (hR.re hLR (okS.cons (hok v List.mem_cons_self) hok))
  case pop =>
    have hl : len = 1 := Nat.eq_of_beq_eq_true hlk
    subst hl
    rcases S with _ | ⟨v, S⟩
    · exact absurd hst id
    · obtain ⟨x, rfl, hst⟩ := dI_F hst
      refine lv_pop hx hb hdec rfl ?_
      exact hst.2 ls H locs cells slots (hR.re hLR (hok.tl))
  case iadd =>
    have hl : len = 1 := Nat.eq_of_beq_eq_true hlk
    subst hl
    rcases S with _ | ⟨v, _ | ⟨w, S⟩⟩
    · exact absurd hst id
    · exact absurd hst id
    · obtain ⟨y, rfl, hst⟩ := dI_F hst
      obtain ⟨x, rfl, hst⟩ := dI_F hst
      refine lv_iadd hx hb hdec ?_
      exact hst.2 ls H locs cells slots (hR.re hLR (okS.cons rfl hok.tl.tl))
  case isub =>
    have hl : len = 1 := Nat.eq_of_beq_eq_true hlk
    subst hl
    rcases S with _ | ⟨v, _ | ⟨w, S⟩⟩
    · exact absurd hst id
    · exact absurd hst id
    · obtain ⟨y, rfl, hst⟩ := dI_F hst
      obtain ⟨x, rfl, hst⟩ := dI_F hst
      refine lv_isub hx hb hdec ?_
      exact hst.2 ls H locs cells slots (hR.re hLR (okS.cons rfl hok.tl.tl))
  case imul =>
    have hl : len = 1 := Nat.eq_of_beq_eq_true hlk
    subst hl
    rcases S with _ | ⟨v, _ | ⟨w, S⟩⟩
    · exact absurd hst id
    · exact absurd hst id
    · obtain ⟨y, rfl, hst⟩ := dI_F hst
      obtain ⟨x, rfl, hst⟩ := dI_F hst
      refine lv_imul hx hb hdec ?_
      exact hst.2 ls H locs cells slots (hR.re hLR (okS.cons rfl hok.tl.tl))
  case iand =>
    have hl : len = 1 := Nat.eq_of_beq_eq_true hlk
    subst hl
    rcases S with _ | ⟨v, _ | ⟨w, S⟩⟩
    · exact absurd hst id
    · exact absurd hst id
    · obtain ⟨y, rfl, hst⟩ := dI_F hst
      obtain ⟨x, rfl, hst⟩ := dI_F hst
      refine lv_iand hx hb hdec ?_
      exact hst.2 ls H locs cells slots (hR.re hLR (okS.cons rfl hok.tl.tl))
  case ior =>
    have hl : len = 1 := Nat.eq_of_beq_eq_true hlk
    subst hl
    rcases S with _ | ⟨v, _ | ⟨w, S⟩⟩
    · exact absurd hst id
    · exact absurd hst id
    · obtain ⟨y, rfl, hst⟩ := dI_F hst
      obtain ⟨x, rfl, hst⟩ := dI_F hst
      refine lv_ior hx hb hdec ?_
      exact hst.2 ls H locs cells slots (hR.re hLR (okS.cons rfl hok.tl.tl))
  case ixor =>
    have hl : len = 1 := Nat.eq_of_beq_eq_true hlk
    subst hl
    rcases S with _ | ⟨v, _ | ⟨w, S⟩⟩
    · exact absurd hst id
    · exact absurd hst id
    · obtain ⟨y, rfl, hst⟩ := dI_F hst
      obtain ⟨x, rfl, hst⟩ := dI_F hst
      refine lv_ixor hx hb hdec ?_
      exact hst.2 ls H locs cells slots (hR.re hLR (okS.cons rfl hok.tl.tl))
  case ishl =>
    have hl : len = 1 := Nat.eq_of_beq_eq_true hlk
    subst hl
    rcases S with _ | ⟨v, _ | ⟨w, S⟩⟩
    · exact absurd hst id
    · exact absurd hst id
    · obtain ⟨y, rfl, hst⟩ := dI_F hst
      obtain ⟨x, rfl, hst⟩ := dI_F hst
      refine lv_ishl hx hb hdec ?_
      exact hst.2 ls H locs cells slots (hR.re hLR (okS.cons rfl hok.tl.tl))
  case ishr =>
    have hl : len = 1 := Nat.eq_of_beq_eq_true hlk
    subst hl
    rcases S with _ | ⟨v, _ | ⟨w, S⟩⟩
    · exact absurd hst id
    · exact absurd hst id
    · obtain ⟨y, rfl, hst⟩ := dI_F hst
      obtain ⟨x, rfl, hst⟩ := dI_F hst
      refine lv_ishr hx hb hdec ?_
      exact hst.2 ls H locs cells slots (hR.re hLR (okS.cons rfl hok.tl.tl))
  case iushr =>
    have hl : len = 1 := Nat.eq_of_beq_eq_true hlk
    subst hl
    rcases S with _ | ⟨v, _ | ⟨w, S⟩⟩
    · exact absurd hst id
    · exact absurd hst id
    · obtain ⟨y, rfl, hst⟩ := dI_F hst
      obtain ⟨x, rfl, hst⟩ := dI_F hst
      refine lv_iushr hx hb hdec rfl ?_
      exact hst.2 ls H locs cells slots (hR.re hLR (okS.cons rfl hok.tl.tl))
  case idiv =>
    have hl : len = 1 := Nat.eq_of_beq_eq_true hlk
    subst hl
    rcases S with _ | ⟨v, _ | ⟨w, S⟩⟩
    · exact absurd hst id
    · exact absurd hst id
    · obtain ⟨y, rfl, hst⟩ := dI_F hst
      obtain ⟨x, rfl, hst⟩ := dI_F hst
      obtain ⟨hy, hst⟩ := dv_F hst
      refine lv_idiv hx hb hdec hy ?_
      exact hst.2 ls H locs cells slots (hR.re hLR (okS.cons rfl hok.tl.tl))
  case irem =>
    have hl : len = 1 := Nat.eq_of_beq_eq_true hlk
    subst hl
    rcases S with _ | ⟨v, _ | ⟨w, S⟩⟩
    · exact absurd hst id
    · exact absurd hst id
    · obtain ⟨y, rfl, hst⟩ := dI_F hst
      obtain ⟨x, rfl, hst⟩ := dI_F hst
      obtain ⟨hy, hst⟩ := dv_F hst
      refine lv_irem hx hb hdec hy ?_
      exact hst.2 ls H locs cells slots (hR.re hLR (okS.cons rfl hok.tl.tl))
  case ladd =>
    have hl : len = 1 := Nat.eq_of_beq_eq_true hlk
    subst hl
    rcases S with _ | ⟨v, _ | ⟨w, S⟩⟩
    · exact absurd hst id
    · exact absurd hst id
    · obtain ⟨y, rfl, hst⟩ := dL_F hst
      obtain ⟨x, rfl, hst⟩ := dL_F hst
      refine lv_ladd hx hb hdec ?_
      exact hst.2 ls H locs cells slots (hR.re hLR (okS.cons rfl hok.tl.tl))
  case lmul =>
    have hl : len = 1 := Nat.eq_of_beq_eq_true hlk
    subst hl
    rcases S with _ | ⟨v, _ | ⟨w, S⟩⟩
    · exact absurd hst id
    · exact absurd hst id
    · obtain ⟨y, rfl, hst⟩ := dL_F hst
      obtain ⟨x, rfl, hst⟩ := dL_F hst
      refine lv_lmul hx hb hdec ?_
      exact hst.2 ls H locs cells slots (hR.re hLR (okS.cons rfl hok.tl.tl))
  case ldiv =>
    have hl : len = 1 := Nat.eq_of_beq_eq_true hlk
    subst hl
    rcases S with _ | ⟨v, _ | ⟨w, S⟩⟩
    · exact absurd hst id
    · exact absurd hst id
    · obtain ⟨y, rfl, hst⟩ := dL_F hst
      obtain ⟨x, rfl, hst⟩ := dL_F hst
      obtain ⟨hy, hst⟩ := dvL_F hst
      refine lv_ldiv hx hb hdec hy ?_
      exact hst.2 ls H locs cells slots (hR.re hLR (okS.cons rfl hok.tl.tl))
  case lrem =>
    have hl : len = 1 := Nat.eq_of_beq_eq_true hlk
    subst hl
    rcases S with _ | ⟨v, _ | ⟨w, S⟩⟩
    · exact absurd hst id
    · exact absurd hst id
    · obtain ⟨y, rfl, hst⟩ := dL_F hst
      obtain ⟨x, rfl, hst⟩ := dL_F hst
      obtain ⟨hy, hst⟩ := dvL_F hst
      refine lv_lrem hx hb hdec hy ?_
      exact hst.2 ls H locs cells slots (hR.re hLR (okS.cons rfl hok.tl.tl))
  case lcmp =>
    have hl : len = 1 := Nat.eq_of_beq_eq_true hlk
    subst hl
    rcases S with _ | ⟨v, _ | ⟨w, S⟩⟩
    · exact absurd hst id
    · exact absurd hst id
    · obtain ⟨y, rfl, hst⟩ := dL_F hst
      obtain ⟨x, rfl, hst⟩ := dL_F hst
      refine W.lcmp hx hb hdec (by rw [lg_cmp_if]; exact hst.2 ls H locs cells slots (hR.re hLR (okS.cons rfl hok.tl.tl)))
  case ineg =>
    have hl : len = 1 := Nat.eq_of_beq_eq_true hlk
    subst hl
    rcases S with _ | ⟨v, S⟩
    · exact absurd hst id
    · obtain ⟨x, rfl, hst⟩ := dI_F hst
      refine lv_ineg hx hb hdec ?_
      exact hst.2 ls H locs cells slots (hR.re hLR (okS.cons rfl hok.tl))
  case i2l =>
    have hl : len = 1 := Nat.eq_of_beq_eq_true hlk
    subst hl
    rcases S with _ | ⟨v, S⟩
    · exact absurd hst id
    · obtain ⟨x, rfl, hst⟩ := dI_F hst
      refine lv_i2l hx hb hdec rfl ?_
      exact hst.2 ls H locs cells slots (hR.re hLR (okS.cons rfl hok.tl))
  case i2b =>
    have hl : len = 1 := Nat.eq_of_beq_eq_true hlk
    subst hl
    rcases S with _ | ⟨v, S⟩
    · exact absurd hst id
    · obtain ⟨x, rfl, hst⟩ := dI_F hst
      refine lv_i2b hx hb hdec rfl ?_
      exact hst.2 ls H locs cells slots (hR.re hLR (okS.cons rfl hok.tl))
  case i2s =>
    have hl : len = 1 := Nat.eq_of_beq_eq_true hlk
    subst hl
    rcases S with _ | ⟨v, S⟩
    · exact absurd hst id
    · obtain ⟨x, rfl, hst⟩ := dI_F hst
      refine lv_i2s hx hb hdec rfl ?_
      exact hst.2 ls H locs cells slots (hR.re hLR (okS.cons rfl hok.tl))
  case l2i =>
    have hl : len = 1 := Nat.eq_of_beq_eq_true hlk
    subst hl
    rcases S with _ | ⟨v, S⟩
    · exact absurd hst id
    · obtain ⟨x, rfl, hst⟩ := dL_F hst
      refine lv_l2i hx hb hdec rfl ?_
      exact hst.2 ls H locs cells slots (hR.re hLR (okS.cons rfl hok.tl))
  case goto off =>
    simp only [lkB, Bool.and_eq_true] at hlk
    obtain ⟨hl, hk⟩ := hlk
    have hl : len = 3 := Nat.eq_of_beq_eq_true hl
    subst hl
    split at hk
    rotate_left
    · cases hk
    rename_i t
    have ht := of_decide_eq_true hk
    refine lv_goto hx hb hdec ht ?_
    exact hst.2 ls H locs cells slots (hR.re hLR (hok))
  case ifCond cc off =>
    simp only [lkB, Bool.and_eq_true] at hlk
    obtain ⟨hl, hk⟩ := hlk
    have hl : len = 3 := Nat.eq_of_beq_eq_true hl
    subst hl
    split at hk
    rotate_left
    · cases hk
    rename_i t
    have ht := of_decide_eq_true hk
    rcases S with _ | ⟨v, S⟩
    · exact absurd hst id
    obtain ⟨x, rfl, hst⟩ := dI_F hst
    cases cc
    case eq =>
      have hst : if x = 0 then KN _ _ h' m ad t L S h else KN _ _ h' m ad (pc + 3) L S h := hst
      refine lv_if_eq hx hb hdec ht (fun q => ?_) (fun q => ?_)
      · rw [if_pos q] at hst
        exact hst.2 ls H locs cells slots (hR.re hLR hok.tl)
      · rw [if_neg q] at hst
        exact hst.2 ls H locs cells slots (hR.re hLR hok.tl)
    case ne =>
      have hst : if x = 0 then KN _ _ h' m ad (pc + 3) L S h else KN _ _ h' m ad t L S h := hst
      refine lv_if_ne hx hb hdec ht (fun q => ?_) (fun q => ?_)
      · rw [if_neg q] at hst
        exact hst.2 ls H locs cells slots (hR.re hLR hok.tl)
      · rw [if_pos q] at hst
        exact hst.2 ls H locs cells slots (hR.re hLR hok.tl)
    case lt =>
      have hst : if x < 0 then KN _ _ h' m ad t L S h else KN _ _ h' m ad (pc + 3) L S h := hst
      refine lv_if_lt hx hb hdec ht (fun q => ?_) (fun q => ?_)
      · rw [if_pos q] at hst
        exact hst.2 ls H locs cells slots (hR.re hLR hok.tl)
      · rw [if_neg q] at hst
        exact hst.2 ls H locs cells slots (hR.re hLR hok.tl)
    case ge =>
      have hst : if x < 0 then KN _ _ h' m ad (pc + 3) L S h else KN _ _ h' m ad t L S h := hst
      refine lv_if_ge hx hb hdec ht (fun q => ?_) (fun q => ?_)
      · rw [if_neg (Int32.not_lt.mpr q)] at hst
        exact hst.2 ls H locs cells slots (hR.re hLR hok.tl)
      · rw [if_pos (Int32.not_le.mp q)] at hst
        exact hst.2 ls H locs cells slots (hR.re hLR hok.tl)
    case gt =>
      have hst : if 0 < x then KN _ _ h' m ad t L S h else KN _ _ h' m ad (pc + 3) L S h := hst
      refine lv_if_gt hx hb hdec ht (fun q => ?_) (fun q => ?_)
      · rw [if_pos q] at hst
        exact hst.2 ls H locs cells slots (hR.re hLR hok.tl)
      · rw [if_neg q] at hst
        exact hst.2 ls H locs cells slots (hR.re hLR hok.tl)
    case le =>
      have hst : if 0 < x then KN _ _ h' m ad (pc + 3) L S h else KN _ _ h' m ad t L S h := hst
      refine lv_if_le hx hb hdec ht (fun q => ?_) (fun q => ?_)
      · rw [if_neg (Int32.not_lt.mpr q)] at hst
        exact hst.2 ls H locs cells slots (hR.re hLR hok.tl)
      · rw [if_pos (Int32.not_le.mp q)] at hst
        exact hst.2 ls H locs cells slots (hR.re hLR hok.tl)
  case if_icmp cc off =>
    simp only [lkB, Bool.and_eq_true] at hlk
    obtain ⟨hl, hk⟩ := hlk
    have hl : len = 3 := Nat.eq_of_beq_eq_true hl
    subst hl
    split at hk
    rotate_left
    · cases hk
    rename_i t
    have ht := of_decide_eq_true hk
    rcases S with _ | ⟨v, _ | ⟨w, S⟩⟩
    · exact absurd hst id
    · exact absurd hst id
    obtain ⟨y, rfl, hst⟩ := dI_F hst
    obtain ⟨x, rfl, hst⟩ := dI_F hst
    cases cc
    case eq =>
      have hst : if x = y then KN _ _ h' m ad t L S h else KN _ _ h' m ad (pc + 3) L S h := hst
      refine lv_icmp_eq hx hb hdec ht (fun q => ?_) (fun q => ?_)
      · rw [if_pos q] at hst
        exact hst.2 ls H locs cells slots (hR.re hLR hok.tl.tl)
      · rw [if_neg q] at hst
        exact hst.2 ls H locs cells slots (hR.re hLR hok.tl.tl)
    case ne =>
      have hst : if x = y then KN _ _ h' m ad (pc + 3) L S h else KN _ _ h' m ad t L S h := hst
      refine lv_icmp_ne hx hb hdec ht (fun q => ?_) (fun q => ?_)
      · rw [if_neg q] at hst
        exact hst.2 ls H locs cells slots (hR.re hLR hok.tl.tl)
      · rw [if_pos q] at hst
        exact hst.2 ls H locs cells slots (hR.re hLR hok.tl.tl)
    case lt =>
      have hst : if x < y then KN _ _ h' m ad t L S h else KN _ _ h' m ad (pc + 3) L S h := hst
      refine lv_icmp_lt hx hb hdec ht (fun q => ?_) (fun q => ?_)
      · rw [if_pos q] at hst
        exact hst.2 ls H locs cells slots (hR.re hLR hok.tl.tl)
      · rw [if_neg q] at hst
        exact hst.2 ls H locs cells slots (hR.re hLR hok.tl.tl)
    case ge =>
      have hst : if x < y then KN _ _ h' m ad (pc + 3) L S h else KN _ _ h' m ad t L S h := hst
      refine lv_icmp_ge hx hb hdec ht (fun q => ?_) (fun q => ?_)
      · rw [if_neg (Int32.not_lt.mpr q)] at hst
        exact hst.2 ls H locs cells slots (hR.re hLR hok.tl.tl)
      · rw [if_pos (Int32.not_le.mp q)] at hst
        exact hst.2 ls H locs cells slots (hR.re hLR hok.tl.tl)
    case gt =>
      have hst : if y < x then KN _ _ h' m ad t L S h else KN _ _ h' m ad (pc + 3) L S h := hst
      refine lv_icmp_gt hx hb hdec ht (fun q => ?_) (fun q => ?_)
      · rw [if_pos q] at hst
        exact hst.2 ls H locs cells slots (hR.re hLR hok.tl.tl)
      · rw [if_neg q] at hst
        exact hst.2 ls H locs cells slots (hR.re hLR hok.tl.tl)
    case le =>
      have hst : if y < x then KN _ _ h' m ad (pc + 3) L S h else KN _ _ h' m ad t L S h := hst
      refine lv_icmp_le hx hb hdec ht (fun q => ?_) (fun q => ?_)
      · rw [if_neg (Int32.not_lt.mpr q)] at hst
        exact hst.2 ls H locs cells slots (hR.re hLR hok.tl.tl)
      · rw [if_pos (Int32.not_le.mp q)] at hst
        exact hst.2 ls H locs cells slots (hR.re hLR hok.tl.tl)
  case ifnull off =>
    simp only [lkB, Bool.and_eq_true] at hlk
    obtain ⟨hl, hk⟩ := hlk
    have hl : len = 3 := Nat.eq_of_beq_eq_true hl
    subst hl
    split at hk
    rotate_left
    · cases hk
    rename_i t
    have ht := of_decide_eq_true hk
    rcases S with _ | ⟨v, S⟩
    · exact absurd hst id
    rcases dN_F hst with ⟨rfl, hst⟩ | ⟨x, rfl, hst⟩
    · refine lv_ifnullN hx hb hdec ht ?_
      exact hst.2 ls H locs cells slots (hR.re hLR (hok.tl))
    · refine lv_ifnull hx hb hdec ?_
      exact hst.2 ls H locs cells slots (hR.re hLR (hok.tl))
  case ifnonnull off =>
    simp only [lkB, Bool.and_eq_true] at hlk
    obtain ⟨hl, hk⟩ := hlk
    have hl : len = 3 := Nat.eq_of_beq_eq_true hl
    subst hl
    split at hk
    rotate_left
    · cases hk
    rename_i t
    have ht := of_decide_eq_true hk
    rcases S with _ | ⟨v, S⟩
    · exact absurd hst id
    rcases dN_F hst with ⟨rfl, hst⟩ | ⟨x, rfl, hst⟩
    · refine lv_ifnonnullN hx hb hdec ?_
      exact hst.2 ls H locs cells slots (hR.re hLR (hok.tl))
    · refine lv_ifnonnull hx hb hdec ht ?_
      exact hst.2 ls H locs cells slots (hR.re hLR (hok.tl))
  all_goals (cases hi)
end SIMA
