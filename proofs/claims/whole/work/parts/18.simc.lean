/-! fields, arrays, new objects, instanceof, switches, returns -/
def grB (i : Instr) : Bool := match i with
  | .getfield _ | .putfield _ | .arraylength | .iaload | .iastore | .aaload | .aastore | .newarray _ | .anewarray _ | .new _ | .instanceof _ | .tableswitch _ _ _ _ | .lookupswitch _ _ | .ireturn | .lreturn | .areturn | .return_ => true
  | _ => false
theorem pre_0 {h : MHeap} {xs : List Int32} {t1 t2 : List Value} (hp : h.take 3 = prF xs t1 t2) {vs : List Value} {t : Nat} (ho : h[0]? = some (t, vs)) : vs = xs.map .int := by
  have h1 : (h.take 3)[0]? = some (t, vs) := by rw [List.getElem?_take, if_pos (by omega)]; exact ho
  rw [hp] at h1
  unfold prF at h1
  simp at h1
  exact h1.2.symm
theorem bool_nf (x : Int32) (h : x = 0 ∨ x = 1) : narrow .boolean (.int x) = .int x ∧ fits .boolean (.int x) = true := by
  rcases h with rfl | rfl <;> exact ⟨by decide, by decide⟩
/-- a field's words at an object's kind -/
theorem fld_ok {own : String} {k j rc a0 a2 t : Nat} {C : String} {T : u_T} {N : Nat} {s : State} {args : Array Value} (hts : ∀ w ∈ gtbl, w.before args s = true) (h1 : tb a0 (.fieldLink own k (cnm rc) (T j).2.1 (T j).2.2.1) = true) (h2 : cnm rc = (T j).1 ∨ tb a2 (.sameField (cnm rc) (T j).1 (T j).2.1 (T j).2.2.1) = true) :
    (Cond.fieldLink own k (cnm rc) (T j).2.1 (T j).2.2.1).before args s = true ∧ ∀ x, s.fieldFound? (T j).1 (T j).2.1 (T j).2.2.1 = some x → s.fieldFound? (cnm rc) (T j).2.1 (T j).2.2.1 = some x := by
  refine ⟨hts _ (tb_ok h1), fun x hx => ?_⟩
  rcases h2 with e | h
  · rw [e]; exact hx
  · exact u_same (hts _ (tb_ok h)) x hx
theorem vp_in_mk {i : Int32} {n : Nat} (h0 : ¬ i < 0) (h : i.toNatClampNeg < n) : vp_in i n := fun q => q.elim h0 (fun z => Nat.not_le.mpr h z)
theorem toI_upd (vs : List Value) (i : Nat) (x : Int32) (hi : i < vs.length) : (fun j => toI ((vs.set i (.int x)).getD j .null)) = upd (fun j => toI (vs.getD j .null)) i x := by
  funext j
  unfold upd
  by_cases hj : j = i
  · subst hj
    simp [List.getD, hi, toI]
  · simp [List.getD, List.getElem?_set, hj, Ne.symm hj]
theorem toR_upd (ad : Nat → Nat) (vs : List Value) (i : Nat) (v : Value) (hi : i < vs.length) : (fun j => toR ad ((vs.set i v).getD j .null)) = va_up (fun j => toR ad (vs.getD j .null)) i (toR ad v) := by
  funext j
  unfold va_up
  by_cases hj : j = i
  · subst hj
    simp [List.getD, hi]
  · simp [List.getD, List.getElem?_set, hj, Ne.symm hj]
theorem va_rf_toR {ad : Nat → Nat} {v : Value} (h : v = .null ∨ ∃ x, v = .ref x) : va_rf (toR ad v) = shv ad v := by
  rcases h with rfl | ⟨x, rfl⟩ <;> rfl
theorem swO_spec {pc : Nat} {x : Int32} {K : Nat → Prop} {kd : Prop} : ∀ (ps : List (Int × Int)) (cs : List Value) (ts : List Nat), swO pc ps cs ts = true → swc x kd K cs ts → (∃ (k : Nat) (o : Int) (t : Nat), ps[k]? = some (x.toInt, o) ∧ (pc : Int) + o = (t : Int) ∧ (∀ j q, j < k → ps[j]? = some q → q.1 ≠ x.toInt) ∧ K t) ∨ ((∀ q ∈ ps, q.1 ≠ x.toInt) ∧ kd) := by
  intro ps
  induction ps with
  | nil =>
    intro cs ts h hs
    cases cs with
    | nil => exact Or.inr ⟨fun q hq => (by cases hq), by simpa [swc] using hs⟩
    | cons c cs => simp [swO] at h
  | cons q ps ih =>
    intro cs ts h hs
    obtain ⟨k, o⟩ := q
    rcases cs with _ | ⟨c, cs⟩
    · simp [swO] at h
    · cases c with
      | int v =>
        rcases ts with _ | ⟨t, ts⟩
        · simp [swO] at h
        · simp only [swO, Bool.and_eq_true, decide_eq_true_eq] at h
          obtain ⟨⟨h1, h2⟩, h3⟩ := h
          have h2 : (pc : Int) + o = (t : Int) := of_decide_eq_true h2
          have hs2 : if x = v then K t else swc x kd K cs ts := hs
          by_cases hx : x = v
          · rw [if_pos hx] at hs2
            subst hx
            exact Or.inl ⟨0, o, t, by simp [h1], h2, fun j q hj => absurd hj (Nat.not_lt_zero _), hs2⟩
          · rw [if_neg hx] at hs2
            have hne : k ≠ x.toInt := fun z => hx (Int32.toInt_inj.mp (by rw [h1]; exact z.symm))
            rcases ih cs ts h3 hs2 with ⟨k2, o2, t2, g1, g2, g3, g4⟩ | ⟨g1, g2⟩
            · refine Or.inl ⟨k2 + 1, o2, t2, g1, g2, fun j q hj hq => ?_, g4⟩
              cases j with
              | zero => cases hq; exact hne
              | succ j => exact g3 j q (Nat.lt_of_succ_lt_succ hj) hq
            · refine Or.inr ⟨fun q hq => ?_, g2⟩
              rcases List.mem_cons.mp hq with rfl | hq
              · exact hne
              · exact g1 q hq
      | _ => simp [swO] at h
theorem lks_none : ∀ (ps : List (Int × Int)) (d x : Int), (∀ q ∈ ps, q.1 ≠ x) → Op.lookupswitch.offset ps d x = d := by
  intro ps
  induction ps with
  | nil => intro d x _; rfl
  | cons q ps ih =>
    intro d x h
    have h1 := h q List.mem_cons_self
    have h2 := ih d x fun r hr => h r (List.mem_cons_of_mem _ hr)
    obtain ⟨a, o⟩ := q
    simp [Op.lookupswitch.offset] at h2 ⊢
    rw [if_neg h1]
    exact h2
theorem lks_some : ∀ (ps : List (Int × Int)) (d x : Int) (k : Nat) (o : Int), ps[k]? = some (x, o) → (∀ j q, j < k → ps[j]? = some q → q.1 ≠ x) → Op.lookupswitch.offset ps d x = o := by
  intro ps
  induction ps with
  | nil => intro d x k o h; simp at h
  | cons q ps ih =>
    intro d x k o h hn
    obtain ⟨a, b⟩ := q
    cases k with
    | zero =>
      cases h
      simp [Op.lookupswitch.offset]
    | succ k =>
      have h1 : a ≠ x := hn 0 (a, b) (Nat.succ_pos _) rfl
      have h2 := ih d x k o h fun j q hj hq => hn (j + 1) q (Nat.succ_lt_succ hj) hq
      simp [Op.lookupswitch.offset] at h2 ⊢
      rw [if_neg h1]
      exact h2
theorem dflt_shv (ad : Nat → Nat) (ty : FieldType) : shv ad (defaultValue ty) = defaultValue ty := by cases ty <;> rfl
theorem zero_fun (n : Nat) : (fun j => toI ((List.replicate n (Value.int 0)).getD j .null)) = fun _ => 0 := by
  funext j
  rw [List.getD_eq_getElem?_getD, List.getElem?_replicate]
  split <;> rfl
theorem null_fun (ad : Nat → Nat) (n : Nat) : (fun j => toR ad ((List.replicate n Value.null).getD j .null)) = fun _ => none := by
  funext j
  rw [List.getD_eq_getElem?_getD, List.getElem?_replicate]
  split <;> rfl
def arE (t : Nat) : String := match t with
  | 101 => cnm 3
  | 102 => cnm 5
  | _ => cnm 7
/-- a heap of any kind is a heap -/
theorem heap_asg {D : va_G} {cA : Nat → ClassId} {ad : Nat → Nat} {s : State} (hKV : KV D cA ad s) {k : Nat} (hk : k = 1 ∨ k = 2 ∨ k = 6 ∨ k = 8 ∨ k = 10) {comp c0 : ClassId} (h1 : s.vm.findClass (cnm 3) = some comp) (h2 : s.vm.findClass (cnm k) = some c0) : s.vm.assignable c0 comp = true := by
  have hm : Cond.castable (cnm k) (cnm 3) ∈ lw_tbl := by
    rcases hk with rfl | rfl | rfl | rfl | rfl
    · exact tch_ok 7 _ (List.mem_of_getElem? (i := 52) (by decide +kernel))
    · exact tch_ok 7 _ (List.mem_of_getElem? (i := 51) (by decide +kernel))
    · exact tch_ok 7 _ (List.mem_of_getElem? (i := 50) (by decide +kernel))
    · exact tch_ok 7 _ (List.mem_of_getElem? (i := 53) (by decide +kernel))
    · exact tch_ok 7 _ (List.mem_of_getElem? (i := 54) (by decide +kernel))
  obtain ⟨c1, c2, f1, f2, f3⟩ := Cond.castable_spec (va_Nw.use (A := #[]) rfl (hKV.2.2.1 _ _ hm))
  cases h2.symm.trans f1
  cases h1.symm.trans f2
  exact f3
/-- an object that an array may take -/
theorem mok_any {D : va_G} {cA : Nat → ClassId} {ad : Nat → Nat} {s : State} {H : Heap} {h : MHeap} {xs : List Int32} {t1 t2 : List Value} {t k2 o2 : Nat} {fs2 : List Value} (hKV : KV D cA ad s) (hP : va_P D clsL (toW ad cA h) H) (hpr : h.take 3 = prF xs t1 t2) (g2 : h[o2]? = some (k2, fs2)) (g3 : mok t k2 = true) (ht : 101 ≤ t ∧ t ≤ 103) : va_Any (arE t) s H (ad o2) := by
  have go : ∀ (r : vw_C), clsL[k2]? = some r → (∀ comp c0 : ClassId, s.vm.findClass (arE t) = some comp → s.vm.findClass r.1 = some c0 → s.vm.assignable c0 comp = true) → va_Any (arE t) s H (ad o2) := by
    intro r hc hasg
    have hk := cls_lt hc
    have ho3 := pre_at hpr g2 ⟨by omega, by omega⟩
    have he := toW_get (ad := ad) (cA := cA) ho3 g2
    rw [enc_obj hk] at he
    exact va_rAny hKV.1 hP he hc hasg
  have self : ∀ (k : Nat) (r : vw_C), clsL[k]? = some r → ∀ comp c0 : ClassId, s.vm.findClass r.1 = some comp → s.vm.findClass r.1 = some c0 → s.vm.assignable c0 comp = true := by
    intro k r hc comp c0 h1 h2
    have := (hKV.1.1 k r hc).2
    cases h1.symm.trans this.1
    cases h2.symm.trans this.1
    exact va_assign this
  rcases (show t = 101 ∨ t = 102 ∨ t = 103 by omega) with rfl | rfl | rfl
  · have g3 : [1, 2, 3, 6, 8, 10].contains k2 = true := g3
    simp at g3
    rcases g3 with rfl | rfl | rfl | rfl | rfl | rfl
    · exact go _ rfl fun comp c0 h1 h2 => heap_asg hKV (k := 1) (by simp) h1 h2
    · exact go _ rfl fun comp c0 h1 h2 => heap_asg hKV (k := 2) (by simp) h1 h2
    · exact go _ rfl fun comp c0 h1 h2 => self 3 _ rfl comp c0 h1 h2
    · exact go _ rfl fun comp c0 h1 h2 => heap_asg hKV (k := 6) (by simp) h1 h2
    · exact go _ rfl fun comp c0 h1 h2 => heap_asg hKV (k := 8) (by simp) h1 h2
    · exact go _ rfl fun comp c0 h1 h2 => heap_asg hKV (k := 10) (by simp) h1 h2
  · have g3 : k2 = 5 := Nat.eq_of_beq_eq_true g3
    subst g3
    exact go _ rfl fun comp c0 h1 h2 => self 5 _ rfl comp c0 h1 h2
  · have g3 : k2 = 7 := Nat.eq_of_beq_eq_true g3
    subst g3
    exact go _ rfl fun comp c0 h1 h2 => self 7 _ rfl comp c0 h1 h2
section SIMB
variable {p : Program} {l : Launch} {e : Env} {R : Room} {s : State} {m : MethodId} {args : Array Value} {below : List Frame} {meth : Method} {c : Code}
variable {SX : State → Heap → Prop} {D : va_G} {cA : Nat → ClassId} {ad : Nat → Nat} {B : Nat} {xs : List Int32} {t1 t2 : List Value} {n0 s0 mi mc ms : Nat} {r : Option Value} {h' : MHeap}
/-- what the end of the method is -/
abbrev QQ (below : List Frame) (args : Array Value) (s : State) (D : va_G) (cA : Nat → ClassId) (ad : Nat → Nat) (B : Nat) (xs : List Int32) (t1 t2 : List Value) (r : Option Value) (h' : MHeap) (mc ms : Nat) : State → Prop := MQ below (QcS D cA ad B xs t1 t2 r h') args s mc ms (fun q => B ≤ q)
set_option maxHeartbeats 4000000 in
theorem sim_b {cl : Nat → List Value → Nat → List Value → MHeap → Prop} (C : Cx p s m args meth c SX D cA ad B xs mi) (hmc : mc + n0 = h'.length) (hms : ms + s0 = hsl h') (hRc : mc ≤ R.cells) (hRs : ms ≤ R.slots) {pc len : Nat} {i : Instr} {rs : List Nat} {cs : List Value} {ax : List Nat} (hck : chk1 (mtd mi).1 (mtd mi).2.2 (mtd mi).2.1 (prg mi).2 ((pc, i, rs, cs), len, ax) = true) (hi : grB i = true)
    {L : MLoc} {S : List Value} {h : MHeap}
    (hst : stK False (fun v h1 => v = r ∧ h1 = h') (KN (fun H locs cells slots g => W p l e R s m args below meth c H locs cells slots (QQ below args s D cA ad B xs t1 t2 r h' mc ms) g) (Rl D cA ad B xs t1 t2 s.heap n0 s0 (prg mi).2) h' m ad (pc + len)) (KN (fun H locs cells slots g => W p l e R s m args below meth c H locs cells slots (QQ below args s D cA ad B xs t1 t2 r h' mc ms) g) (Rl D cA ad B xs t1 t2 s.heap n0 s0 (prg mi).2) h' m ad) cl i rs cs L S h)
    {ls : Array Slot} {H : Heap} {locs : List Loc} {cells slots : Nat} (hR : Rl D cA ad B xs t1 t2 s.heap n0 s0 (prg mi).2 L S h ls H locs cells slots) : W p l e R s m args below meth c H locs cells slots (QQ below args s D cA ad B xs t1 t2 r h' mc ms) (F0 m pc ls (S.map (shv ad))) := by
  obtain ⟨hx, hb, hml, hown, hts, hKS, hret, hlocks, hnm, had⟩ := C
  obtain ⟨hLR, hok, hP, hsz, hpr, h3, hS, hcl, hsl1⟩ := id hR
  have hK := hKS.1.1
  have hD := toW_D (cA := cA) had h
  simp only [chk1, Bool.and_eq_true, decide_eq_true_eq] at hck
  obtain ⟨⟨hdec, hlk⟩, hloc⟩ := hck
  cases i
  case getfield k =>
    simp only [lkB, Bool.and_eq_true] at hlk
    obtain ⟨hl, hk⟩ := hlk
    have hl : len = 3 := Nat.eq_of_beq_eq_true hl
    subst hl
    split at hk
    rotate_left
    · cases hk
    rename_i q j ts a0 rc a2 axr
    rcases S with _ | ⟨v, S⟩
    · cases q <;> exact absurd hst id
    have key : ∀ (o t : Nat) (fs : List Value) (w : Value), h[o]? = some (t, fs) → t ∈ ts → fs[j]? = some w → W p l e R s m args below meth c H locs cells slots (QQ below args s D cA ad B xs t1 t2 r h' mc ms) (F0 m (pc + 3) ls (shv ad w :: S.map (shv ad))) → W p l e R s m args below meth c H locs cells slots (QQ below args s D cA ad B xs t1 t2 r h' mc ms) (F0 m pc ls (.ref (ad o) :: S.map (shv ad))) := by
      intro o t fs w ho ht hw kk
      have ha := List.all_eq_true.mp hk t ht
      split at ha
      · rename_i C T N hc
        simp only [Bool.and_eq_true, Bool.or_eq_true, decide_eq_true_eq] at ha
        obtain ⟨⟨h1, h2⟩, h3'⟩ := ha
        have hj : j < N := Nat.le_of_ble_eq_true h1
        obtain ⟨f1, f2⟩ := fld_ok (t := t) (C := C) (N := N) hts h2 h3'
        have ht13 := cls_lt hc
        have ho3 := pre_at hpr ho ⟨by omega, by omega⟩
        have he := toW_get (ad := ad) (cA := cA) ho3 ho
        rw [enc_obj ht13] at he
        exact va_get hx hb hts (clsL_ok t _ hc).2.2 hown hK hP (o - 3) he hc j hj f1 f2 (shv_get hw) hdec kk
      · cases ha
    cases q with
    | zero =>
      obtain ⟨o, rfl, hs1⟩ := dR_F hst
      obtain ⟨t, fs, x, e1, e2, e3, hs2⟩ := gfI_F hs1
      exact key o t fs _ e1 e2 e3 (hs2.2 ls H locs cells slots (hR.re hLR (okS.cons rfl hok.tl)))
    | succ q =>
      obtain ⟨o, rfl, hs1⟩ := dR_F hst
      obtain ⟨t, fs, x, e1, e2, e3, e4, hs2⟩ := gfV_F hs1
      exact key o t fs _ e1 e2 e3 (hs2.2 ls H locs cells slots (hR.re hLR (okS.cons (okV_nr e4) hok.tl)))
  case putfield k =>
    simp only [lkB, Bool.and_eq_true] at hlk
    obtain ⟨hl, hk⟩ := hlk
    have hl : len = 3 := Nat.eq_of_beq_eq_true hl
    subst hl
    split at hk
    rotate_left
    · cases hk
    rename_i q j ts a0 rc a2 axr
    rcases S with _ | ⟨w, _ | ⟨v, S⟩⟩
    · match q, hst with
      | 0, hst => exact absurd hst id
      | 1, hst => exact absurd hst id
      | q + 2, hst => exact absurd hst id
    · match q, hst with
      | 0, hst => exact absurd hst id
      | 1, hst => exact absurd hst id
      | q + 2, hst => exact absurd hst id
    have key : ∀ (o t : Nat) (fs : List Value) (w : Value), h[o]? = some (t, fs) → t ∈ ts → j < fs.length → (∀ ty : FieldType, (match q with
          | 0 => ty = .int
          | 1 => ty = .boolean
          | _ => (∃ n, ty = .object n) ∨ ∃ n, ty = .array n) → narrow ty (shv ad w) = shv ad w ∧ fits ty (shv ad w) = true) →
        KN (fun H locs cells slots g => W p l e R s m args below meth c H locs cells slots (QQ below args s D cA ad B xs t1 t2 r h' mc ms) g) (Rl D cA ad B xs t1 t2 s.heap n0 s0 (prg mi).2) h' m ad (pc + 3) L S (h.set o (t, fs.set j w)) → okS S → W p l e R s m args below meth c H locs cells slots (QQ below args s D cA ad B xs t1 t2 r h' mc ms) (F0 m pc ls (shv ad w :: .ref (ad o) :: S.map (shv ad))) := by
      intro o t fs w ho ht hj0 hty kk hokS
      have ha := List.all_eq_true.mp hk t ht
      split at ha
      · rename_i C T N hc
        simp only [Bool.and_eq_true, Bool.or_eq_true, decide_eq_true_eq] at ha
        obtain ⟨⟨⟨⟨h1, h2⟩, h3'⟩, h4⟩, h5⟩ := ha
        have hj : j < N := Nat.le_of_ble_eq_true h1
        obtain ⟨f1, f2⟩ := fld_ok (t := t) (C := C) (N := N) hts h2 h3'
        have ht13 := cls_lt hc
        have ho3 := pre_at hpr ho ⟨by omega, by omega⟩
        have he := toW_get (ad := ad) (cA := cA) ho3 ho
        rw [enc_obj ht13] at he
        obtain ⟨⟨ty0, hty0⟩, hnm0, hin0⟩ := clsL_ok t _ hc
        have hpd := hty0 j hj
        have hfn : narrow (ty0 j) (shv ad w) = shv ad w ∧ fits (ty0 j) (shv ad w) = true := by
          refine hty (ty0 j) ?_
          match q, h4 with
          | 0, h4 => exact Option.some.inj (hpd.symm.trans (of_decide_eq_true h4))
          | 1, h4 => exact Option.some.inj (hpd.symm.trans (of_decide_eq_true h4))
          | q + 2, h4 =>
            have h4 : (match parseFieldDescriptor (T j).2.2.1 with
              | some (.object _) => true
              | some (.array _) => true
              | _ => false) = true := h4
            rw [hpd] at h4
            split at h4
            · rename_i n hn; exact Or.inl ⟨n, Option.some.inj hn⟩
            · rename_i n hn; exact Or.inr ⟨n, Option.some.inj hn⟩
            · cases h4
        have hfin : (T j).2.2.2 = false ∨ (meth.name = "<init>" ∧ (T j).1 = (mtd mi).1.cls) := by
          rcases h5 with h5 | h5
          · left
            simpa using h5
          · right
            exact ⟨by rw [hnm]; exact h5.1, h5.2⟩
        refine vz_put (C := C) (T := T) (N := N) (ci := t) hx hb hts hin0 ty0 hty0 hnm0 hown hK hP hD hS (o - 3) he hc j hj f1 f2 hfin hpd hfn.1 hfn.2 (by rw [List.length_map]; exact hj0) hdec fun H1 locs1 z1 hP1 hS1 => ?_
        rw [shv_set] at hP1
        exact kk.2 ls H1 locs1 cells slots (hR.set hokS ho3 ho (by simp) z1 (by rw [enc_obj ht13]; exact hP1) hS1)
      · cases ha
    rcases q with _ | _ | q
    · obtain ⟨x, rfl, hs1⟩ := dI_F hst
      obtain ⟨o, rfl, hs2⟩ := dR_F hs1
      obtain ⟨t, fs, e1, e2, e3, hs3⟩ := pfI_F hs2
      exact key o t fs (.int x) e1 e2 e3 (fun ty hty => by subst hty; exact ⟨rfl, rfl⟩) hs3 hok.tl.tl
    · obtain ⟨x, rfl, hs1⟩ := dI_F hst
      obtain ⟨hx01, hs2⟩ := zr_F hs1
      obtain ⟨o, rfl, hs3⟩ := dR_F hs2
      obtain ⟨t, fs, e1, e2, e3, hs4⟩ := pfI_F hs3
      exact key o t fs (.int x) e1 e2 e3 (fun ty hty => by subst hty; exact bool_nf x hx01) hs4 hok.tl.tl
    · obtain ⟨o, rfl, hs1⟩ := dR_F hst
      obtain ⟨t, fs, e1, e2, e3, e4, hs2⟩ := pfV_F hs1
      exact key o t fs w e1 e2 e3 (fun ty hty => by rcases hty with ⟨n, rfl⟩ | ⟨n, rfl⟩ <;> rcases e4 with rfl | ⟨x, rfl⟩ <;> exact ⟨rfl, rfl⟩) hs2 hok.tl.tl
  case arraylength =>
    have hl : len = 1 := Nat.eq_of_beq_eq_true hlk
    subst hl
    rcases S with _ | ⟨v, S⟩
    · exact absurd hst id
    obtain ⟨o, rfl, hs1⟩ := dR_F hst
    obtain ⟨t, vs, e1, e2, hs2⟩ := aln_F hs1
    have kk := hs2.2 ls H locs cells slots (hR.re hLR (okS.cons rfl hok.tl))
    rcases e2 with ⟨rfl, rfl⟩ | ⟨e2, e3⟩
    · have hv := pre_0 hpr e1
      subst hv
      rw [List.length_map] at kk
      exact va_slen hx hb hKS.2.2.2.1 (Nat.lt_of_lt_of_le hKS.2.1 hKS.2.2.1) (Nat.not_le.mpr hKS.2.1) hS hdec kk
    · have ho3 := pre_at hpr e1 ⟨by omega, by omega⟩
      have he := toW_get (ad := ad) (cA := cA) ho3 e1
      rcases Nat.lt_or_ge t 101 with q | q
      · have ht : t = 100 := by omega
        subst ht
        rw [enc_int] at he
        exact va_alen hx hb hK hP (o - 3) 0 he (ty := .int) rfl rfl hdec kk
      · rw [enc_ref q] at he
        rcases (show t = 101 ∨ t = 102 ∨ t = 103 by omega) with rfl | rfl | rfl
        · exact va_alen hx hb hK hP (o - 3) 1 he (ty := .object (cnm 3)) rfl rfl hdec kk
        · exact va_alen hx hb hK hP (o - 3) 2 he (ty := .object (cnm 5)) rfl rfl hdec kk
        · exact va_alen hx hb hK hP (o - 3) 3 he (ty := .object (cnm 7)) rfl rfl hdec kk
  case iaload =>
    have hl : len = 1 := Nat.eq_of_beq_eq_true hlk
    subst hl
    rcases S with _ | ⟨w, _ | ⟨v, S⟩⟩
    · exact absurd hst id
    · exact absurd hst id
    obtain ⟨i, rfl, hs1⟩ := dI_F hst
    obtain ⟨o, rfl, hs2⟩ := dR_F hs1
    obtain ⟨t, vs, x, e1, e2, e3, e4, hs3⟩ := alI_F hs2
    have kk := hs3.2 ls H locs cells slots (hR.re hLR (okS.cons rfl hok.tl.tl))
    have hlt : i.toNatClampNeg < vs.length := (List.getElem?_eq_some_iff.mp e4).1
    rcases e2 with ⟨rfl, rfl⟩ | rfl
    · have hv := pre_0 hpr e1
      subst hv
      rw [List.length_map] at hlt
      have hxx : xs.getD i.toNatClampNeg 0 = x := by
        rw [List.getElem?_map] at e4
        cases hq : xs[i.toNatClampNeg]? with
        | none => rw [hq] at e4; cases e4
        | some y =>
          rw [hq] at e4
          cases e4
          simp [hq]
      refine va_sld hx hb hKS.2.2.2.1 (Nat.lt_of_lt_of_le hKS.2.1 hKS.2.2.1) (Nat.not_le.mpr hKS.2.1) hS (vp_in_mk e3 hlt) hdec ?_
      rw [hxx]
      exact kk
    · have ho3 := pre_at hpr e1 ⟨by omega, by omega⟩
      have he := toW_get (ad := ad) (cA := cA) ho3 e1
      rw [enc_int] at he
      refine va_iald hx hb hK hP (o - 3) 0 he rfl (vp_in_mk e3 hlt) hdec ?_
      have hxx : toI (vs.getD i.toNatClampNeg .null) = x := by simp [List.getD, e4, toI]
      rw [hxx]
      exact kk
  case iastore =>
    have hl : len = 1 := Nat.eq_of_beq_eq_true hlk
    subst hl
    rcases S with _ | ⟨u, _ | ⟨w, _ | ⟨v, S⟩⟩⟩
    · exact absurd hst id
    · exact absurd hst id
    · exact absurd hst id
    obtain ⟨x, rfl, hs0⟩ := dI_F hst
    obtain ⟨i, rfl, hs1⟩ := dI_F hs0
    obtain ⟨o, rfl, hs2⟩ := dR_F hs1
    obtain ⟨vs, e1, e3, e4, hs3⟩ := asI_F hs2
    have ho3 := pre_at hpr e1 ⟨by omega, by omega⟩
    have he := toW_get (ad := ad) (cA := cA) ho3 e1
    rw [enc_int] at he
    refine vz_iast hx hb hK hP hD hS (o - 3) 0 he rfl (vp_in_mk e3 e4) hdec fun H1 locs1 z1 hP1 hS1 => ?_
    exact hs3.2 ls H1 locs1 cells slots (hR.set hok.tl.tl.tl ho3 e1 (by simp) z1 (by rw [enc_int, List.length_set, toI_upd _ _ _ e4]; exact hP1) hS1)
  case aaload =>
    have hl : len = 1 := Nat.eq_of_beq_eq_true hlk
    subst hl
    rcases S with _ | ⟨w, _ | ⟨v, S⟩⟩
    · exact absurd hst id
    · exact absurd hst id
    obtain ⟨i, rfl, hs1⟩ := dI_F hst
    obtain ⟨o, rfl, hs2⟩ := dR_F hs1
    obtain ⟨t, vs, v, e1, e2, e3, e4, e5, e6, hs3⟩ := alV_F hs2
    have kk := hs3.2 ls H locs cells slots (hR.re hLR (okS.cons (okV_nr e6) hok.tl.tl))
    have hlt : i.toNatClampNeg < vs.length := (List.getElem?_eq_some_iff.mp e5).1
    have ho3 := pre_at hpr e1 ⟨by omega, by omega⟩
    have he := toW_get (ad := ad) (cA := cA) ho3 e1
    rw [enc_ref e2] at he
    have hxx : va_rf (toR ad (vs.getD i.toNatClampNeg .null)) = shv ad v := by
      have : vs.getD i.toNatClampNeg .null = v := by simp [List.getD, e5]
      rw [this]
      exact va_rf_toR e6
    rcases (show t = 101 ∨ t = 102 ∨ t = 103 by omega) with rfl | rfl | rfl
    · refine va_aldq (C := cnm 3) hx hb hK hP (o - 3) 1 he rfl (vp_in_mk e4 hlt) hdec ?_
      rw [hxx]
      exact kk
    · refine va_aldq (C := cnm 5) hx hb hK hP (o - 3) 2 he rfl (vp_in_mk e4 hlt) hdec ?_
      rw [hxx]
      exact kk
    · refine va_aldq (C := cnm 7) hx hb hK hP (o - 3) 3 he rfl (vp_in_mk e4 hlt) hdec ?_
      rw [hxx]
      exact kk
  case aastore =>
    have hl : len = 1 := Nat.eq_of_beq_eq_true hlk
    subst hl
    rcases S with _ | ⟨u, _ | ⟨w, _ | ⟨v, S⟩⟩⟩
    · exact absurd hst id
    · exact absurd hst id
    · exact absurd hst id
    obtain ⟨i, rfl, hs1⟩ := dI_F hst
    obtain ⟨o, rfl, hs2⟩ := dR_F hs1
    obtain ⟨t, vs, e1, e2, e2', e3, e4, e5, hs3⟩ := asV_F hs2
    have hu : u = .null ∨ ∃ x, u = .ref x := by
      rcases e5 with e | ⟨o2, _, _, e, _⟩
      · exact Or.inl e
      · exact Or.inr ⟨o2, e⟩
    have ho3 := pre_at hpr e1 ⟨by omega, by omega⟩
    have he := toW_get (ad := ad) (cA := cA) ho3 e1
    rw [enc_ref e2] at he
    have any : ∀ y, toR ad u = some y → va_Any (arE t) s H y := by
      intro y hy
      rcases e5 with rfl | ⟨o2, k2, fs2, rfl, g2, g3⟩
      · cases hy
      · cases hy
        exact mok_any hKS.1 hP hpr g2 g3 ⟨e2, e2'⟩
    show W p l e R s m args below meth c H locs cells slots (QQ below args s D cA ad B xs t1 t2 r h' mc ms) (F0 m pc ls (shv ad u :: .int i :: .ref (ad o) :: S.map (shv ad)))
    rw [← va_rf_toR hu]
    have fin : ∀ (H1 : Heap) (locs1 : List Loc), H1.size = H.size → va_P D clsL ((toW ad cA h).set (o - 3) (ad o, .inl (cA (t - 100), vs.length, .inr (.inr (.inr (.inr (va_up (fun j => toR ad (vs.getD j .null)) i.toNatClampNeg (toR ad u)))))))) H1 → va_S (fun q => B ≤ q) s.heap H1 locs1 → W p l e R s m args below meth c H1 locs1 cells slots (QQ below args s D cA ad B xs t1 t2 r h' mc ms) (F0 m (pc + 1) ls (S.map (shv ad))) := by
      intro H1 locs1 z1 hP1 hS1
      exact hs3.2 ls H1 locs1 cells slots (hR.set hok.tl.tl.tl ho3 e1 (by simp) z1 (by rw [enc_ref e2, List.length_set, toR_upd _ _ _ _ e4]; exact hP1) hS1)
    rcases (show t = 101 ∨ t = 102 ∨ t = 103 by omega) with rfl | rfl | rfl
    · exact vz_aast (E := cnm 3) hx hb hK hP hD hS (o - 3) 1 he rfl any (vp_in_mk e3 e4) hdec fin
    · exact vz_aast (E := cnm 5) hx hb hK hP hD hS (o - 3) 2 he rfl any (vp_in_mk e3 e4) hdec fin
    · exact vz_aast (E := cnm 7) hx hb hK hP hD hS (o - 3) 3 he rfl any (vp_in_mk e3 e4) hdec fin
  case newarray a =>
    simp only [lkB, Bool.and_eq_true, decide_eq_true_eq] at hlk
    obtain ⟨hl, rfl⟩ := hlk
    have hl : len = 2 := Nat.eq_of_beq_eq_true hl
    subst hl
    rcases S with _ | ⟨v, S⟩
    · exact absurd hst id
    obtain ⟨n, rfl, hs1⟩ := dI_F hst
    obtain ⟨e1, e2, hs2⟩ := nwA_F hs1
    have hgr := hs2.1
    rw [List.length_append, hsl_push h3] at hgr
    simp only [List.length_singleton, List.length_replicate] at hgr
    have hA := hK.2 0 (cA 0, .int) rfl
    refine vz_newa hx hb (hts (.arrayClass .int) (tc_ok 1125 rfl rfl)) hP hS hA.2 e1 rfl e2 (by omega) (by omega) hdec fun H1 z1 hP1 hS1 => ?_
    have hadn : ad h.length = H.size := by rw [hsz, ← had]; congr 1; omega
    have := hs2.2 ls H1 locs (cells + 1) (slots + n.toNatClampNeg) ⟨hLR, okS.cons rfl hok.tl, by rw [toW_push h3, hadn, enc_int, zero_fun, List.length_replicate]; exact hP1, by rw [z1, hsz, List.length_append]; simp only [List.length_singleton]; omega, pre_push hpr h3 _, by rw [List.length_append]; omega, hS1, by rw [List.length_append]; simp only [List.length_singleton]; omega, by rw [hsl_push h3]; simp only [List.length_replicate]; omega⟩
    have e9 : (Value.ref h.length :: S).map (shv ad) = .ref H.size :: S.map (shv ad) := by rw [List.map_cons]; show Value.ref (ad h.length) :: _ = _; rw [hadn]
    rw [e9] at this
    exact this
  case anewarray k =>
    simp only [lkB, Bool.and_eq_true] at hlk
    obtain ⟨hl, hk⟩ := hlk
    have hl : len = 3 := Nat.eq_of_beq_eq_true hl
    subst hl
    have key : ∀ (t : Nat) (C : String) (k2 : Nat), 101 ≤ t → (mtdc : True) → [(cA 0, FieldType.int), (cA 1, .object (cnm 3)), (cA 2, .object (cnm 5)), (cA 3, .object (cnm 7))][t - 100]? = some (cA (t - 100), .object C) → va_AO C s → (Cond.classLink (mtd mi).1.cls k C).before args s = true →
        ∀ (n : Int32) (S : List Value), okS S → nwA False h t n .null (fun o h => KN (fun H locs cells slots g => W p l e R s m args below meth c H locs cells slots (QQ below args s D cA ad B xs t1 t2 r h' mc ms) g) (Rl D cA ad B xs t1 t2 s.heap n0 s0 (prg mi).2) h' m ad (pc + 3) L (.ref o :: S) h) →
        W p l e R s m args below meth c H locs cells slots (QQ below args s D cA ad B xs t1 t2 r h' mc ms) (F0 m pc ls (.int n :: S.map (shv ad))) := by
      intro t C k2 ht _ hty hao hcl2 n S hokS hs1
      obtain ⟨e1, e2, hs2⟩ := nwA_F hs1
      have hgr := hs2.1
      rw [List.length_append, hsl_push h3] at hgr
      simp only [List.length_singleton, List.length_replicate] at hgr
      have hA := hK.2 (t - 100) _ hty
      refine vz_newq hx hb hown hcl2 hao hP hS hA.2 e1 rfl e2 (by omega) (by omega) hdec fun H1 z1 hP1 hS1 => ?_
      have hadn : ad h.length = H.size := by rw [hsz, ← had]; congr 1; omega
      have := hs2.2 ls H1 locs (cells + 1) (slots + n.toNatClampNeg) ⟨hLR, okS.cons rfl hokS, by rw [toW_push h3, hadn, enc_ref ht, null_fun, List.length_replicate]; exact hP1, by rw [z1, hsz, List.length_append]; simp only [List.length_singleton]; omega, pre_push hpr h3 _, by rw [List.length_append]; omega, hS1, by rw [List.length_append]; simp only [List.length_singleton]; omega, by rw [hsl_push h3]; simp only [List.length_replicate]; omega⟩
      have e9 : (Value.ref h.length :: S).map (shv ad) = .ref H.size :: S.map (shv ad) := by rw [List.map_cons]; show Value.ref (ad h.length) :: _ = _; rw [hadn]
      rw [e9] at this
      exact this
    rcases S with _ | ⟨v, S⟩
    · exact absurd hst id
    split at hk
    · obtain ⟨n, rfl, hs1⟩ := dI_F hst
      exact key 101 (cnm 3) 0 (by omega) trivial rfl hKS.1.2.2.2.2.1.1 (hts _ (tb_ok hk)) n S hok.tl hs1
    · obtain ⟨n, rfl, hs1⟩ := dI_F hst
      exact key 102 (cnm 5) 0 (by omega) trivial rfl hKS.1.2.2.2.2.1.2.1 (hts _ (tb_ok hk)) n S hok.tl hs1
    · obtain ⟨n, rfl, hs1⟩ := dI_F hst
      exact key 103 (cnm 7) 0 (by omega) trivial rfl hKS.1.2.2.2.2.1.2.2 (hts _ (tb_ok hk)) n S hok.tl hs1
    · cases hk
  case new k =>
    simp only [lkB, Bool.and_eq_true] at hlk
    obtain ⟨hl, hk⟩ := hlk
    have hl : len = 3 := Nat.eq_of_beq_eq_true hl
    subst hl
    split at hk
    rotate_left
    · cases hk
    rename_i t a1 a2 a3
    split at hk
    rotate_left
    · cases hk
    rename_i C T N hc
    simp only [Bool.and_eq_true, decide_eq_true_eq] at hk
    obtain ⟨⟨⟨⟨h1, h2⟩, h3'⟩, h4⟩, h5⟩ := hk
    have ht13 := cls_lt hc
    obtain ⟨⟨ty0, hty0⟩, hnm0, hin0⟩ := clsL_ok t _ hc
    have hcs : ∀ j, j < N → cs[j]? = some (defaultValue (ty0 j)) := by
      intro j hj
      have h6 := List.all_eq_true.mp h5 j (List.mem_range.mpr hj)
      rw [hty0 j hj] at h6
      exact of_decide_eq_true h6
    have hmap : cs.map (shv ad) = cs := by
      apply List.ext_getElem?
      intro j
      rw [List.getElem?_map]
      rcases Nat.lt_or_ge j N with q | q
      · rw [hcs j q]
        show some (shv ad (defaultValue (ty0 j))) = _
        rw [dflt_shv]
      · rw [List.getElem?_eq_none (by omega)]; rfl
    have hs2 : KN (fun H locs cells slots g => W p l e R s m args below meth c H locs cells slots (QQ below args s D cA ad B xs t1 t2 r h' mc ms) g) (Rl D cA ad B xs t1 t2 s.heap n0 s0 (prg mi).2) h' m ad (pc + 3) L (.ref h.length :: S) (h ++ [(t, cs)]) := hst
    have hgr := hs2.1
    rw [List.length_append, hsl_push h3] at hgr
    simp only [List.length_singleton] at hgr
    refine vz_new (C := C) (T := T) (N := N) (ci := t) (fs := cs) hx hb hts hin0 ty0 hty0 hown (hts _ (tb_ok h1)) (hts _ (tb_ok h2)) (hts _ (tb_ok h3')) hK hP hS hc (fun j hj => by simp [vp_V, List.getD, hcs j hj]) (by omega) (by omega) hdec fun H1 z1 hP1 hS1 => ?_
    have hadn : ad h.length = H.size := by rw [hsz, ← had]; congr 1; omega
    have := hs2.2 ls H1 locs (cells + 1) (slots + N) ⟨hLR, okS.cons rfl hok, by rw [toW_push h3, hadn, enc_obj ht13, hmap]; exact hP1, by rw [z1, hsz, List.length_append]; simp only [List.length_singleton]; omega, pre_push hpr h3 _, by rw [List.length_append]; omega, hS1, by rw [List.length_append]; simp only [List.length_singleton]; omega, by rw [hsl_push h3]; simp only [h4]; omega⟩
    have e9 : (Value.ref h.length :: S).map (shv ad) = .ref H.size :: S.map (shv ad) := by rw [List.map_cons]; show Value.ref (ad h.length) :: _ = _; rw [hadn]
    rw [e9] at this
    exact this
  case instanceof k =>
    simp only [lkB, Bool.and_eq_true] at hlk
    obtain ⟨hl, hk⟩ := hlk
    have hl : len = 3 := Nat.eq_of_beq_eq_true hl
    subst hl
    split at hk
    rotate_left
    · cases hk
    rename_i n ts a rc bs
    simp only [Bool.and_eq_true] at hk
    obtain ⟨⟨⟨⟨h1, h2⟩, h3'⟩, h4⟩, h5⟩ := hk
    rcases S with _ | ⟨v, S⟩
    · exact absurd hst id
    rcases dN_F hst with ⟨rfl, hs1⟩ | ⟨o, rfl, hs1⟩
    · exact lv_instN hx hb hdec (hs1.2 ls H locs cells slots (hR.re hLR (okS.cons rfl hok.tl)))
    · obtain ⟨o2, ho2, hs1b⟩ := dR_F hs1
      cases ho2
      obtain ⟨t, fs, e1, hs2⟩ := inO_F hs1b
      have ht13 : t < 13 := by
        have : t ∈ ts := by
          rcases hs2 with ⟨q, _⟩ | ⟨q, _⟩
          · exact List.mem_of_mem_take q
          · exact List.mem_of_mem_drop q
        exact Nat.le_of_ble_eq_true (List.all_eq_true.mp h2 t this)
      have ho3 := pre_at hpr e1 ⟨by omega, by omega⟩
      have he := toW_get (ad := ad) (cA := cA) ho3 e1
      rw [enc_obj ht13] at he
      obtain ⟨rw0, hc⟩ : ∃ r0, clsL[t]? = some r0 := ⟨clsL[t]'(by exact ht13), List.getElem?_eq_getElem _⟩
      have hcn : rw0.1 = cnm t := by
        show _ = (clsL.getD t ("", TX0, 0)).1
        rw [List.getD_eq_getElem?_getD, hc]
        rfl
      have hr0 := va_recv hK hP hc he
      rw [hcn] at hr0
      rcases hs2 with ⟨q, hs3⟩ | ⟨q, hs3⟩
      · have kk := hs3.2 ls H locs cells slots (hR.re hLR (okS.cons rfl hok.tl))
        have hz : ∃ b, (t, b) ∈ (ts.take n).zip bs := by
          obtain ⟨j, hj⟩ := List.getElem?_of_mem q
          have hjl : j < bs.length := by
            have h6 : j < (ts.take n).length := (List.getElem?_eq_some_iff.mp hj).1
            rw [List.length_take] at h6
            have h7 : bs.length = n := Nat.eq_of_beq_eq_true h4
            omega
          refine ⟨bs[j], List.mem_of_getElem? (i := j) ?_⟩
          rw [List.getElem?_zip_eq_some]
          exact ⟨hj, List.getElem?_eq_getElem hjl⟩
        obtain ⟨b, hb2⟩ := hz
        have h8 := List.all_eq_true.mp h3' (t, b) hb2
        simp only [Bool.or_eq_true] at h8
        rcases h8 with h8 | h8
        · have h9 : t = rc := Nat.eq_of_beq_eq_true h8
          subst h9
          exact va_instE hx hb hown (hts _ (tb_ok h1)) hr0 hdec kk
        · exact va_instY hx hb hown (hts _ (tb_ok h1)) (hKS.1.2.2.1 _ _ (tn_ok h8)) hr0 hdec kk
      · have kk := hs3.2 ls H locs cells slots (hR.re hLR (okS.cons rfl hok.tl))
        have h8 := List.all_eq_true.mp h5 t q
        have h9 : (t, rc) ∈ ncP := by simpa using h8
        exact va_instNo hx hb hown (hts _ (tb_ok h1)) (hKS.1.2.2.2.1 _ h9) hr0 hdec kk
  case tableswitch df lo up offs =>
    simp only [lkB] at hlk
    split at hlk
    rotate_left
    · cases hlk
    rename_i t ts
    simp only [Bool.and_eq_true, decide_eq_true_eq] at hlk
    obtain ⟨⟨h1, h2⟩, h3'⟩ := hlk
    have h1 : (pc : Int) + df = (t : Int) := of_decide_eq_true h1
    rcases S with _ | ⟨v, S⟩
    · exact absurd hst id
    obtain ⟨x, rfl, hs1⟩ := dI_F hst
    rcases swO_spec _ _ _ h3' hs1 with ⟨k, o, t2, g1, g2, g3, g4⟩ | ⟨g1, g2⟩
    · rw [List.getElem?_mapIdx] at g1
      cases hq : offs.toList[k]? with
      | none => rw [hq] at g1; cases g1
      | some o' =>
        rw [hq] at g1
        simp only [Option.map_some, Option.some.injEq, Prod.mk.injEq] at g1
        obtain ⟨g5, rfl⟩ := g1
        have hkl : k < offs.size := by
          have := (List.getElem?_eq_some_iff.mp hq).1
          simpa using this
        refine lv_tableIn hx hb hdec (by omega) (by omega) (off := o') ?_ g2 (g4.2 ls H locs cells slots (hR.re hLR hok.tl))
        rw [show (x.toInt - lo).toNat = k by omega, ← Array.getElem?_toList]
        exact hq
    · refine lv_tableOut hx hb hdec ?_ h1 (g2.2 ls H locs cells slots (hR.re hLR hok.tl))
      rcases (show x.toInt < lo ∨ lo ≤ x.toInt by omega) with q | q
      · exact Or.inl q
      · right
        rcases (show up < x.toInt ∨ x.toInt ≤ up by omega) with q2 | q2
        · exact q2
        · exfalso
          have hkl : (x.toInt - lo).toNat < offs.size := by omega
          have hm : (lo + ((x.toInt - lo).toNat : Int), offs[(x.toInt - lo).toNat]) ∈ offs.toList.mapIdx fun k o => (lo + (k : Int), o) := by
            refine List.mem_of_getElem? (i := (x.toInt - lo).toNat) ?_
            rw [List.getElem?_mapIdx]
            simp [hkl]
          exact g1 _ hm (by show lo + ((x.toInt - lo).toNat : Int) = x.toInt; omega)
  case lookupswitch df ps =>
    simp only [lkB] at hlk
    split at hlk
    rotate_left
    · cases hlk
    rename_i t ts
    simp only [Bool.and_eq_true] at hlk
    obtain ⟨⟨h1, h2⟩, h3'⟩ := hlk
    have h1 : (pc : Int) + df = (t : Int) := of_decide_eq_true h1
    rcases S with _ | ⟨v, S⟩
    · exact absurd hst id
    obtain ⟨x, rfl, hs1⟩ := dI_F hst
    rcases swO_spec _ _ _ h3' hs1 with ⟨k, o, t2, g1, g2, g3, g4⟩ | ⟨g1, g2⟩
    · exact lv_lookup hx hb hdec h2 (lks_some _ df _ k o g1 g3) g2 (g4.2 ls H locs cells slots (hR.re hLR hok.tl))
    · exact lv_lookup hx hb hdec h2 (lks_none _ df _ g1) h1 (g2.2 ls H locs cells slots (hR.re hLR hok.tl))
  case ireturn =>
    simp only [lkB, Bool.and_eq_true] at hlk
    obtain ⟨hl, hk⟩ := hlk
    have hl : len = 1 := Nat.eq_of_beq_eq_true hl
    subst hl
    rcases S with _ | ⟨v, _ | ⟨w, S⟩⟩
    · exact absurd hst (by split at hk <;> first | exact id | cases hk)
    · split at hk
      · have hk := of_decide_eq_true hk
        obtain ⟨x, rfl, rfl, rfl⟩ := dI_F hst
        have hcm : cells = mc := by omega
        have hsm : slots = ms := by omega
        subst hcm; subst hsm
        exact W.iret hx hb (by rw [hret]; exact hk) (fun t ht _ => ⟨rfl, by rw [ht]; exact hP, by rw [ht]; exact hsz, hpr, hS.F ht⟩) hS.2.2 hdec hlocks
      · have hk := of_decide_eq_true hk
        obtain ⟨x, rfl, hs1⟩ := dI_F hst
        obtain ⟨hx01, rfl, rfl⟩ := zr_F hs1
        have hcm : cells = mc := by omega
        have hsm : slots = ms := by omega
        subst hcm; subst hsm
        exact W.zret hx hb (by rw [hret]; exact hk) (bool_nf x hx01).1 (fun t ht _ => ⟨rfl, by rw [ht]; exact hP, by rw [ht]; exact hsz, hpr, hS.F ht⟩) hS.2.2 hdec hlocks
      · cases hk
    · exact absurd hst (by split at hk <;> first | exact id | cases hk)
  case lreturn =>
    simp only [lkB, Bool.and_eq_true, decide_eq_true_eq] at hlk
    obtain ⟨hl, hk⟩ := hlk
    have hl : len = 1 := Nat.eq_of_beq_eq_true hl
    subst hl
    rcases S with _ | ⟨v, _ | ⟨w, S⟩⟩
    · exact absurd hst id
    · obtain ⟨x, rfl, rfl, rfl⟩ := dL_F hst
      have hcm : cells = mc := by omega
      have hsm : slots = ms := by omega
      subst hcm; subst hsm
      exact W.lret hx hb (by rw [hret]; exact hk) (fun t ht _ => ⟨rfl, by rw [ht]; exact hP, by rw [ht]; exact hsz, hpr, hS.F ht⟩) hS.2.2 hdec hlocks
    · exact absurd hst id
  case areturn =>
    simp only [lkB, Bool.and_eq_true] at hlk
    obtain ⟨hl, hk⟩ := hlk
    have hl : len = 1 := Nat.eq_of_beq_eq_true hl
    subst hl
    rcases S with _ | ⟨v, _ | ⟨w, S⟩⟩
    · exact absurd hst id
    · obtain ⟨hv, rfl, rfl⟩ := dA_F hst
      have hcm : cells = mc := by omega
      have hsm : slots = ms := by omega
      subst hcm; subst hsm
      have hv2 : shv ad v = .null ∨ ∃ a, shv ad v = .ref a := by
        rcases hv with rfl | ⟨x, rfl⟩
        · exact Or.inl rfl
        · exact Or.inr ⟨ad x, rfl⟩
      cases hrt : (mtd mi).2.2 with
      | none => rw [hrt] at hk; cases hk
      | some ty =>
        rw [hrt] at hk
        have hty : (∃ n, ty = .object n) ∨ ∃ n, ty = .array n := by
          cases ty with
          | object n => exact Or.inl ⟨n, rfl⟩
          | array n => exact Or.inr ⟨n, rfl⟩
          | _ => cases hk
        exact W.aret hx hb (by rw [hret]; exact hrt) hty hv2 (fun t ht _ => ⟨rfl, by rw [ht]; exact hP, by rw [ht]; exact hsz, hpr, hS.F ht⟩) hS.2.2 hdec hlocks
    · exact absurd hst id
  case return_ =>
    simp only [lkB, Bool.and_eq_true, decide_eq_true_eq] at hlk
    obtain ⟨hl, hk⟩ := hlk
    have hl : len = 1 := Nat.eq_of_beq_eq_true hl
    subst hl
    rcases S with _ | ⟨v, S⟩
    · obtain ⟨rfl, rfl⟩ := hst
      have hcm : cells = mc := by omega
      have hsm : slots = ms := by omega
      subst hcm; subst hsm
      exact W.vret hx hb (by rw [hret]; exact hk) (fun t ht _ => ⟨rfl, by rw [ht]; exact hP, by rw [ht]; exact hsz, hpr, hS.F ht⟩) hS.2.2 hdec hlocks
    · exact absurd hst id
  all_goals (cases hi)
end SIMB
