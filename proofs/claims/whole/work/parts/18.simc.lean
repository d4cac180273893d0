/-! fields, arrays, new objects, instanceof, switches, returns -/
def grB (i : Instr) : Bool := match i with
  | .getfield _ | .putfield _ | .arraylength | .iaload | .iastore | .aaload | .aastore | .newarray _ | .anewarray _ | .new _ | .instanceof _ | .tableswitch _ _ _ _ | .lookupswitch _ _ | .ireturn | .lreturn | .areturn | .return_ => true
  | _ => false
theorem pre_0 {h : MHeap} {xs : List Int32} {t1 t2 : List Value} (hp : h.take 3 = prF xs t1 t2) {vs : List Value} {t : Nat} (ho : h[0]? = some (t, vs)) : vs = xs.map .int := by
  have h1 : (h.take 3)[0]? = some (t, vs) := by rw [List.getElem?_take, if_pos (by omega)]; exact ho
  rw [hp] at h1
  unfold prF at h1
  simp at h1
  exact h1.2.symm
/-- a field's words at an object's kind -/
theorem fld_ok {own : String} {k j rc a0 a2 t : Nat} {C : String} {T : u_T} {N : Nat} {s : State} {args : Array Value} (hts : ∀ w ∈ gtbl, w.before args s = true) (h1 : tb a0 (.fieldLink own k (cnm rc) (T j).2.1 (T j).2.2.1) = true) (h2 : cnm rc = (T j).1 ∨ tb a2 (.sameField (cnm rc) (T j).1 (T j).2.1 (T j).2.2.1) = true) :
    (Cond.fieldLink own k (cnm rc) (T j).2.1 (T j).2.2.1).before args s = true ∧ ∀ x, s.fieldFound? (T j).1 (T j).2.1 (T j).2.2.1 = some x → s.fieldFound? (cnm rc) (T j).2.1 (T j).2.2.1 = some x := by
  refine ⟨hts _ (tb_ok h1), fun x hx => ?_⟩
  rcases h2 with e | h
  · rw [e]; exact hx
  · exact u_same (hts _ (tb_ok h)) x hx
theorem vp_in_mk {i : Int32} {n : Nat} (h0 : ¬ i < 0) (h : i.toNatClampNeg < n) : vp_in i n := fun q => q.elim h0 (fun z => Nat.not_le.mpr h z)
theorem toI_upd (vs : List Value) (i : Nat) (x : Int32) (hi : i < vs.length) : (fun j => toI ((vs.set i (.int x)).getD j .null)) = upd (fun j => toI (vs.getD j .null)) i x := by
  funext j
  unfold upd
  by_cases hj : j = i
  · subst hj
    simp [List.getD, hi, toI]
  · simp [List.getD, List.getElem?_set, hj, Ne.symm hj]
theorem toR_upd (ad : Nat → Nat) (vs : List Value) (i : Nat) (v : Value) (hi : i < vs.length) : (fun j => toR ad ((vs.set i v).getD j .null)) = va_up (fun j => toR ad (vs.getD j .null)) i (toR ad v) := by
  funext j
  unfold va_up
  by_cases hj : j = i
  · subst hj
    simp [List.getD, hi]
  · simp [List.getD, List.getElem?_set, hj, Ne.symm hj]
theorem va_rf_toR {ad : Nat → Nat} {v : Value} (h : v = .null ∨ ∃ x, v = .ref x) : va_rf (toR ad v) = shv ad v := by
  rcases h with rfl | ⟨x, rfl⟩ <;> rfl
theorem swO_spec {pc : Nat} {x : Int32} {K : Nat → Prop} {kd : Prop} : ∀ (ps : List (Int × Int)) (cs : List Value) (ts : List Nat), swO pc ps cs ts = true → swc x kd K cs ts → (∃ (k : Nat) (o : Int) (t : Nat), ps[k]? = some (x.toInt, o) ∧ (pc : Int) + o = (t : Int) ∧ (∀ j q, j < k → ps[j]? = some q → q.1 ≠ x.toInt) ∧ K t) ∨ ((∀ q ∈ ps, q.1 ≠ x.toInt) ∧ kd) := by
  intro ps
  induction ps with
  | nil =>
    intro cs ts h hs
    cases cs with
    | nil => exact Or.inr ⟨fun q hq => (by cases hq), by simpa [swc] using hs⟩
    | cons c cs => simp [swO] at h
  | cons q ps ih =>
    intro cs ts h hs
    obtain ⟨k, o⟩ := q
    rcases cs with _ | ⟨c, cs⟩
    · simp [swO] at h
    · cases c with
      | int v =>
        rcases ts with _ | ⟨t, ts⟩
        · simp [swO] at h
        · simp only [swO, Bool.and_eq_true, decide_eq_true_eq] at h
          obtain ⟨⟨h1, h2⟩, h3⟩ := h
          have h2 : (pc : Int) + o = (t : Int) := of_decide_eq_true h2
          have hs2 : if x = v then K t else swc x kd K cs ts := hs
          by_cases hx : x = v
          · rw [if_pos hx] at hs2
            subst hx
            exact Or.inl ⟨0, o, t, by simp [h1], h2, fun j q hj => absurd hj (Nat.not_lt_zero _), hs2⟩
          · rw [if_neg hx] at hs2
            have hne : k ≠ x.toInt := fun z => hx (Int32.toInt_inj.mp (by rw [h1]; exact z.symm))
            rcases ih cs ts h3 hs2 with ⟨k2, o2, t2, g1, g2, g3, g4⟩ | ⟨g1, g2⟩
            · refine Or.inl ⟨k2 + 1, o2, t2, g1, g2, fun j q hj hq => ?_, g4⟩
              cases j with
              | zero => cases hq; exact hne
              | succ j => exact g3 j q (Nat.lt_of_succ_lt_succ hj) hq
            · refine Or.inr ⟨fun q hq => ?_, g2⟩
              rcases List.mem_cons.mp hq with rfl | hq
              · exact hne
              · exact g1 q hq
      | _ => simp [swO] at h
theorem lks_none : ∀ (ps : List (Int × Int)) (d x : Int), (∀ q ∈ ps, q.1 ≠ x) → Op.lookupswitch.offset ps d x = d := by
  intro ps
  induction ps with
  | nil => intro d x _; rfl
  | cons q ps ih =>
    intro d x h
    have h1 := h q List.mem_cons_self
    have h2 := ih d x fun r hr => h r (List.mem_cons_of_mem _ hr)
    obtain ⟨a, o⟩ := q
    simp [Op.lookupswitch.offset] at h2 ⊢
    rw [if_neg h1]
    exact h2
theorem lks_some : ∀ (ps : List (Int × Int)) (d x : Int) (k : Nat) (o : Int), ps[k]? = some (x, o) → (∀ j q, j < k → ps[j]? = some q → q.1 ≠ x) → Op.lookupswitch.offset ps d x = o := by
  intro ps
  induction ps with
  | nil => intro d x k o h; simp at h
  | cons q ps ih =>
    intro d x k o h hn
    obtain ⟨a, b⟩ := q
    cases k with
    | zero =>
      cases h
      simp [Op.lookupswitch.offset]
    | succ k =>
      have h1 : a ≠ x := hn 0 (a, b) (Nat.succ_pos _) rfl
      have h2 := ih d x k o h fun j q hj hq => hn (j + 1) q (Nat.succ_lt_succ hj) hq
      simp [Op.lookupswitch.offset] at h2 ⊢
      rw [if_neg h1]
      exact h2
section SIMB
variable {p : Program} {l : Launch} {e : Env} {R : Room} {s : State} {m : MethodId} {args : Array Value} {below : List Frame} {meth : Method} {c : Code}
variable {SX : State → Heap → Prop} {D : va_G} {cA : Nat → ClassId} {ad : Nat → Nat} {B : Nat} {xs : List Int32} {t1 t2 : List Value} {n0 s0 mi mc ms : Nat} {r : Option Value} {h' : MHeap}
/-- what the end of the method is -/
abbrev QQ (below : List Frame) (args : Array Value) (s : State) (D : va_G) (cA : Nat → ClassId) (ad : Nat → Nat) (B : Nat) (xs : List Int32) (t1 t2 : List Value) (r : Option Value) (h' : MHeap) (mc ms : Nat) : State → Prop := MQ below (QcS D cA ad B xs t1 t2 r h') args s mc ms (fun q => B ≤ q)
set_option maxHeartbeats 4000000 in
theorem sim_b {cl : Nat → List Value → Nat → List Value → MHeap → Prop} (C : Cx p s m args meth c SX D cA ad B xs mi) (hmc : mc + n0 = h'.length) (hms : ms + s0 = hsl h') (hRc : mc ≤ R.cells) (hRs : ms ≤ R.slots) {pc len : Nat} {i : Instr} {rs : List Nat} {cs : List Value} {ax : List Nat} (hck : chk1 (mtd mi).1 (mtd mi).2.2 (mtd mi).2.1 (prg mi).2 ((pc, i, rs, cs), len, ax) = true) (hi : grB i = true)
    {L : MLoc} {S : List Value} {h : MHeap}
    (hst : stK False (fun v h1 => v = r ∧ h1 = h') (KN (fun H locs cells slots g => W p l e R s m args below meth c H locs cells slots (QQ below args s D cA ad B xs t1 t2 r h' mc ms) g) (Rl D cA ad B xs t1 t2 s.heap n0 s0 (prg mi).2) h' m ad (pc + len)) (KN (fun H locs cells slots g => W p l e R s m args below meth c H locs cells slots (QQ below args s D cA ad B xs t1 t2 r h' mc ms) g) (Rl D cA ad B xs t1 t2 s.heap n0 s0 (prg mi).2) h' m ad) cl i rs cs L S h)
    {ls : Array Slot} {H : Heap} {locs : List Loc} {cells slots : Nat} (hR : Rl D cA ad B xs t1 t2 s.heap n0 s0 (prg mi).2 L S h ls H locs cells slots) : W p l e R s m args below meth c H locs cells slots (QQ below args s D cA ad B xs t1 t2 r h' mc ms) (F0 m pc ls (S.map (shv ad))) := by
  obtain ⟨hx, hb, hml, hown, hts, hKS, hret, hlocks, hnm, had⟩ := C
  obtain ⟨hLR, hok, hP, hsz, hpr, h3, hS, hcl, hsl1⟩ := id hR
  have hK := hKS.1.1
  have hD := toW_D (cA := cA) had h
  simp only [chk1, Bool.and_eq_true, decide_eq_true_eq] at hck
  obtain ⟨⟨hdec, hlk⟩, hloc⟩ := hck
  cases i
  case getfield k =>
    simp only [lkB, Bool.and_eq_true] at hlk
    obtain ⟨hl, hk⟩ := hlk
    have hl : len = 3 := Nat.eq_of_beq_eq_true hl
    subst hl
    split at hk
    rotate_left
    · cases hk
    rename_i q j ts a0 rc a2 axr
    rcases S with _ | ⟨v, S⟩
    · cases q <;> exact absurd hst id
    have key : ∀ (o t : Nat) (fs : List Value) (w : Value), h[o]? = some (t, fs) → t ∈ ts → fs[j]? = some w → W p l e R s m args below meth c H locs cells slots (QQ below args s D cA ad B xs t1 t2 r h' mc ms) (F0 m (pc + 3) ls (shv ad w :: S.map (shv ad))) → W p l e R s m args below meth c H locs cells slots (QQ below args s D cA ad B xs t1 t2 r h' mc ms) (F0 m pc ls (.ref (ad o) :: S.map (shv ad))) := by
      intro o t fs w ho ht hw kk
      have ha := List.all_eq_true.mp hk t ht
      split at ha
      · rename_i C T N hc
        simp only [Bool.and_eq_true, Bool.or_eq_true, decide_eq_true_eq] at ha
        obtain ⟨⟨h1, h2⟩, h3'⟩ := ha
        have hj : j < N := Nat.le_of_ble_eq_true h1
        obtain ⟨f1, f2⟩ := fld_ok (t := t) (C := C) (N := N) hts h2 h3'
        have ht13 := cls_lt hc
        have ho3 := pre_at hpr ho ⟨by omega, by omega⟩
        have he := toW_get (ad := ad) (cA := cA) ho3 ho
        rw [enc_obj ht13] at he
        exact va_get hx hb hts (clsL_ok t _ hc).2.2 hown hK hP (o - 3) he hc j hj f1 f2 (shv_get hw) hdec kk
      · cases ha
    cases q with
    | zero =>
      obtain ⟨o, rfl, hs1⟩ := dR_F hst
      obtain ⟨t, fs, x, e1, e2, e3, hs2⟩ := gfI_F hs1
      exact key o t fs _ e1 e2 e3 (hs2.2 ls H locs cells slots (hR.re hLR (okS.cons rfl hok.tl)))
    | succ q =>
      obtain ⟨o, rfl, hs1⟩ := dR_F hst
      obtain ⟨t, fs, x, e1, e2, e3, e4, hs2⟩ := gfV_F hs1
      exact key o t fs _ e1 e2 e3 (hs2.2 ls H locs cells slots (hR.re hLR (okS.cons (okV_nr e4) hok.tl)))
  case putfield k =>
    simp only [lkB, Bool.and_eq_true] at hlk
    obtain ⟨hl, hk⟩ := hlk
    have hl : len = 3 := Nat.eq_of_beq_eq_true hl
    subst hl
    split at hk
    rotate_left
    · cases hk
    rename_i q j ts a0 rc a2 axr
    rcases S with _ | ⟨w, _ | ⟨v, S⟩⟩
    · match q, hst with
      | 0, hst => exact absurd hst id
      | 1, hst => exact absurd hst id
      | q + 2, hst => exact absurd hst id
    · match q, hst with
      | 0, hst => exact absurd hst id
      | 1, hst => exact absurd hst id
      | q + 2, hst => exact absurd hst id
    have key : ∀ (o t : Nat) (fs : List Value) (w : Value), h[o]? = some (t, fs) → t ∈ ts → j < fs.length → (∀ ty : FieldType, (match q with
          | 0 => ty = .int
          | 1 => ty = .boolean
          | _ => (∃ n, ty = .object n) ∨ ∃ n, ty = .array n) → narrow ty (shv ad w) = shv ad w ∧ fits ty (shv ad w) = true) →
        KN (fun H locs cells slots g => W p l e R s m args below meth c H locs cells slots (QQ below args s D cA ad B xs t1 t2 r h' mc ms) g) (Rl D cA ad B xs t1 t2 s.heap n0 s0 (prg mi).2) h' m ad (pc + 3) L S (h.set o (t, fs.set j w)) → okS S → W p l e R s m args below meth c H locs cells slots (QQ below args s D cA ad B xs t1 t2 r h' mc ms) (F0 m pc ls (shv ad w :: .ref (ad o) :: S.map (shv ad))) := by
      intro o t fs w ho ht hj0 hty kk hokS
      have ha := List.all_eq_true.mp hk t ht
      split at ha
      · rename_i C T N hc
        simp only [Bool.and_eq_true, Bool.or_eq_true, decide_eq_true_eq] at ha
        obtain ⟨⟨⟨⟨h1, h2⟩, h3'⟩, h4⟩, h5⟩ := ha
        have hj : j < N := Nat.le_of_ble_eq_true h1
        obtain ⟨f1, f2⟩ := fld_ok (t := t) (C := C) (N := N) hts h2 h3'
        have ht13 := cls_lt hc
        have ho3 := pre_at hpr ho ⟨by omega, by omega⟩
        have he := toW_get (ad := ad) (cA := cA) ho3 ho
        rw [enc_obj ht13] at he
        obtain ⟨⟨ty0, hty0⟩, hnm0, hin0⟩ := clsL_ok t _ hc
        have hpd := hty0 j hj
        have hfn : narrow (ty0 j) (shv ad w) = shv ad w ∧ fits (ty0 j) (shv ad w) = true := by
          refine hty (ty0 j) ?_
          match q, h4 with
          | 0, h4 => exact Option.some.inj (hpd.symm.trans (of_decide_eq_true h4))
          | 1, h4 => exact Option.some.inj (hpd.symm.trans (of_decide_eq_true h4))
          | q + 2, h4 =>
            have h4 : (match parseFieldDescriptor (T j).2.2.1 with
              | some (.object _) => true
              | some (.array _) => true
              | _ => false) = true := h4
            rw [hpd] at h4
            split at h4
            · rename_i n hn; exact Or.inl ⟨n, Option.some.inj hn⟩
            · rename_i n hn; exact Or.inr ⟨n, Option.some.inj hn⟩
            · cases h4
        have hfin : (T j).2.2.2 = false ∨ (meth.name = "<init>" ∧ (T j).1 = (mtd mi).1.cls) := by
          rcases h5 with h5 | h5
          · left
            simpa using h5
          · right
            exact ⟨by rw [hnm]; exact h5.1, h5.2⟩
        refine vz_put (C := C) (T := T) (N := N) (ci := t) hx hb hts hin0 ty0 hty0 hnm0 hown hK hP hD hS (o - 3) he hc j hj f1 f2 hfin hpd hfn.1 hfn.2 (by rw [List.length_map]; exact hj0) hdec fun H1 locs1 z1 hP1 hS1 => ?_
        rw [shv_set] at hP1
        exact kk.2 ls H1 locs1 cells slots (hR.set hokS ho3 ho (by simp) z1 (by rw [enc_obj ht13]; exact hP1) hS1)
      · cases ha
    rcases q with _ | _ | q
    · obtain ⟨x, rfl, hs1⟩ := dI_F hst
      obtain ⟨o, rfl, hs2⟩ := dR_F hs1
      obtain ⟨t, fs, e1, e2, e3, hs3⟩ := pfI_F hs2
      exact key o t fs (.int x) e1 e2 e3 (fun ty hty => by subst hty; exact ⟨rfl, rfl⟩) hs3 hok.tl.tl
    · obtain ⟨x, rfl, hs1⟩ := dI_F hst
      obtain ⟨hx01, hs2⟩ := zr_F hs1
      obtain ⟨o, rfl, hs3⟩ := dR_F hs2
      obtain ⟨t, fs, e1, e2, e3, hs4⟩ := pfI_F hs3
      exact key o t fs (.int x) e1 e2 e3 (fun ty hty => by subst hty; rcases hx01 with rfl | rfl <;> exact ⟨by decide, by decide⟩) hs4 hok.tl.tl
    · obtain ⟨o, rfl, hs1⟩ := dR_F hst
      obtain ⟨t, fs, e1, e2, e3, e4, hs2⟩ := pfV_F hs1
      exact key o t fs w e1 e2 e3 (fun ty hty => by rcases hty with ⟨n, rfl⟩ | ⟨n, rfl⟩ <;> rcases e4 with rfl | ⟨x, rfl⟩ <;> exact ⟨rfl, rfl⟩) hs2 hok.tl.tl
  case arraylength =>
    have hl : len = 1 := Nat.eq_of_beq_eq_true hlk
    subst hl
    rcases S with _ | ⟨v, S⟩
    · exact absurd hst id
    obtain ⟨o, rfl, hs1⟩ := dR_F hst
    obtain ⟨t, vs, e1, e2, hs2⟩ := aln_F hs1
    have kk := hs2.2 ls H locs cells slots (hR.re hLR (okS.cons rfl hok.tl))
    rcases e2 with ⟨rfl, rfl⟩ | ⟨e2, e3⟩
    · have hv := pre_0 hpr e1
      subst hv
      rw [List.length_map] at kk
      exact va_slen hx hb hKS.2.2.2.1 (Nat.lt_of_lt_of_le hKS.2.1 hKS.2.2.1) (Nat.not_le.mpr hKS.2.1) hS hdec kk
    · have ho3 := pre_at hpr e1 ⟨by omega, by omega⟩
      have he := toW_get (ad := ad) (cA := cA) ho3 e1
      rcases Nat.lt_or_ge t 101 with q | q
      · have ht : t = 100 := by omega
        subst ht
        rw [enc_int] at he
        exact va_alen hx hb hK hP (o - 3) 0 he (ty := .int) rfl rfl hdec kk
      · rw [enc_ref q] at he
        rcases (show t = 101 ∨ t = 102 ∨ t = 103 by omega) with rfl | rfl | rfl
        · exact va_alen hx hb hK hP (o - 3) 1 he (ty := .object (cnm 3)) rfl rfl hdec kk
        · exact va_alen hx hb hK hP (o - 3) 2 he (ty := .object (cnm 5)) rfl rfl hdec kk
        · exact va_alen hx hb hK hP (o - 3) 3 he (ty := .object (cnm 7)) rfl rfl hdec kk
  case iaload =>
    have hl : len = 1 := Nat.eq_of_beq_eq_true hlk
    subst hl
    rcases S with _ | ⟨w, _ | ⟨v, S⟩⟩
    · exact absurd hst id
    · exact absurd hst id
    obtain ⟨i, rfl, hs1⟩ := dI_F hst
    obtain ⟨o, rfl, hs2⟩ := dR_F hs1
    obtain ⟨t, vs, x, e1, e2, e3, e4, hs3⟩ := alI_F hs2
    have kk := hs3.2 ls H locs cells slots (hR.re hLR (okS.cons rfl hok.tl.tl))
    have hlt : i.toNatClampNeg < vs.length := (List.getElem?_eq_some_iff.mp e4).1
    rcases e2 with ⟨rfl, rfl⟩ | rfl
    · have hv := pre_0 hpr e1
      subst hv
      rw [List.length_map] at hlt
      have hxx : (fun j => xs.getD j 0) i.toNatClampNeg = x := by
        rw [List.getElem?_map] at e4
        cases hq : xs[i.toNatClampNeg]? with
        | none => rw [hq] at e4; cases e4
        | some y =>
          rw [hq] at e4
          cases e4
          simp [hq]
      refine va_sld hx hb hKS.2.2.2.1 (Nat.lt_of_lt_of_le hKS.2.1 hKS.2.2.1) (Nat.not_le.mpr hKS.2.1) hS (vp_in_mk e3 hlt) hdec ?_
      rw [hxx]
      exact kk
    · have ho3 := pre_at hpr e1 ⟨by omega, by omega⟩
      have he := toW_get (ad := ad) (cA := cA) ho3 e1
      rw [enc_int] at he
      refine va_iald hx hb hK hP (o - 3) 0 he rfl (vp_in_mk e3 hlt) hdec ?_
      have hxx : toI (vs.getD i.toNatClampNeg .null) = x := by simp [List.getD, e4, toI]
      rw [hxx]
      exact kk
  case iastore =>
    have hl : len = 1 := Nat.eq_of_beq_eq_true hlk
    subst hl
    rcases S with _ | ⟨u, _ | ⟨w, _ | ⟨v, S⟩⟩⟩
    · exact absurd hst id
    · exact absurd hst id
    · exact absurd hst id
    obtain ⟨x, rfl, hs0⟩ := dI_F hst
    obtain ⟨i, rfl, hs1⟩ := dI_F hs0
    obtain ⟨o, rfl, hs2⟩ := dR_F hs1
    obtain ⟨vs, e1, e3, e4, hs3⟩ := asI_F hs2
    have ho3 := pre_at hpr e1 ⟨by omega, by omega⟩
    have he := toW_get (ad := ad) (cA := cA) ho3 e1
    rw [enc_int] at he
    refine vz_iast hx hb hK hP hD hS (o - 3) 0 he rfl (vp_in_mk e3 e4) hdec fun H1 locs1 z1 hP1 hS1 => ?_
    exact hs3.2 ls H1 locs1 cells slots (hR.set hok.tl.tl.tl ho3 e1 (by simp) z1 (by rw [enc_int, List.length_set, toI_upd _ _ _ e4]; exact hP1) hS1)
  case aaload =>
    have hl : len = 1 := Nat.eq_of_beq_eq_true hlk
    subst hl
    rcases S with _ | ⟨w, _ | ⟨v, S⟩⟩
    · exact absurd hst id
    · exact absurd hst id
    obtain ⟨i, rfl, hs1⟩ := dI_F hst
    obtain ⟨o, rfl, hs2⟩ := dR_F hs1
    obtain ⟨t, vs, v, e1, e2, e3, e4, e5, e6, hs3⟩ := alV_F hs2
    have kk := hs3.2 ls H locs cells slots (hR.re hLR (okS.cons (okV_nr e6) hok.tl.tl))
    have hlt : i.toNatClampNeg < vs.length := (List.getElem?_eq_some_iff.mp e5).1
    have ho3 := pre_at hpr e1 ⟨by omega, by omega⟩
    have he := toW_get (ad := ad) (cA := cA) ho3 e1
    rw [enc_ref e2] at he
    have hxx : va_rf (toR ad (vs.getD i.toNatClampNeg .null)) = shv ad v := by
      have : vs.getD i.toNatClampNeg .null = v := by simp [List.getD, e5]
      rw [this]
      exact va_rf_toR e6
    rcases (show t = 101 ∨ t = 102 ∨ t = 103 by omega) with rfl | rfl | rfl
    · refine va_aldq (C := cnm 3) hx hb hK hP (o - 3) 1 he rfl (vp_in_mk e4 hlt) hdec ?_
      rw [hxx]
      exact kk
    · refine va_aldq (C := cnm 5) hx hb hK hP (o - 3) 2 he rfl (vp_in_mk e4 hlt) hdec ?_
      rw [hxx]
      exact kk
    · refine va_aldq (C := cnm 7) hx hb hK hP (o - 3) 3 he rfl (vp_in_mk e4 hlt) hdec ?_
      rw [hxx]
      exact kk
  all_goals sorry
end SIMB
