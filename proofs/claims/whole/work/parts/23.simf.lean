/-! the calls' instructions are those of the real machine -/
theorem prx_prm {d k : Nat} {as : List Value} {h : MHeap} {z : Option Value × MHeap} (e : prx d k as h = some z) : prm k as h = some z ∧ prd k ≤ d := by
  unfold prx at e
  cases hq : Nat.ble (prd k) d with
  | true => rw [hq] at e; exact ⟨e, Nat.le_of_ble_eq_true hq⟩
  | false => rw [hq] at e; cases e
theorem prm0_spec {as : List Value} {h h2 : MHeap} {v : Option Value} (e : prm 0 as h = some (v, h2)) : ∃ x y : Int32, as = [.int x, .int y] ∧ v = some (.int (if x < y then y else x)) ∧ h2 = h := by
  unfold prm at e
  simp only at e
  split at e
  · cases e; exact ⟨_, _, rfl, rfl, rfl⟩
  · cases e
theorem prm1_spec {as : List Value} {h h2 : MHeap} {v : Option Value} (e : prm 1 as h = some (v, h2)) : ∃ x y : Int32, as = [.int x, .int y] ∧ v = some (.int (if y < x then y else x)) ∧ h2 = h := by
  unfold prm at e
  simp only at e
  split at e
  · cases e; exact ⟨_, _, rfl, rfl, rfl⟩
  · cases e
theorem prm3_spec {as : List Value} {h h2 : MHeap} {v : Option Value} (e : prm 3 as h = some (v, h2)) : ∃ o : Nat, as = [.ref o] ∧ v = none ∧ h2 = h := by
  unfold prm at e
  simp only at e
  split at e
  · cases e; exact ⟨_, rfl, rfl, rfl⟩
  · cases e
theorem acp_spec {h h2 : MHeap} {v : Option Value} {o1 o2 : Nat} {sp dp n : Int32} (e : acp none h o1 sp o2 dp n (fun h => some ((none : Option Value), h)) = some (v, h2)) : ∃ vs ws, h[o1]? = some (100, vs) ∧ h[o2]? = some (100, ws) ∧ ¬ sp < 0 ∧ ¬ dp < 0 ∧ ¬ n < 0 ∧ sp.toNatClampNeg + n.toNatClampNeg ≤ vs.length ∧ dp.toNatClampNeg + n.toNatClampNeg ≤ ws.length ∧ v = none ∧ h2 = h.set o2 (100, cpyL vs ws sp.toNatClampNeg dp.toNatClampNeg n.toNatClampNeg) := by
  unfold acp at e
  split at e
  · rename_i k1 vs k2 ws e1 e2
    split at e
    · rename_i hc
      obtain ⟨rfl, rfl, c1, c2, c3, c4, c5⟩ := hc
      cases e
      exact ⟨vs, ws, e1, e2, c1, c2, c3, c4, c5, rfl, rfl⟩
    · cases e
  · cases e
theorem prm2_spec {as : List Value} {h h2 : MHeap} {v : Option Value} (e : prm 2 as h = some (v, h2)) : ∃ (o1 o2 : Nat) (sp dp n : Int32), as = [.ref o1, .int sp, .ref o2, .int dp, .int n] ∧ acp none h o1 sp o2 dp n (fun h => some ((none : Option Value), h)) = some (v, h2) := by
  unfold prm at e
  simp only at e
  split at e
  · exact ⟨_, _, _, _, _, rfl, e⟩
  · cases e
section SIMC
variable {p : Program} {l : Launch} {e : Env} {R : Room} {s : State} {m : MethodId} {args : Array Value} {below : List Frame} {meth : Method} {c : Code} {Q : State → Prop}
variable {SX : State → Heap → Prop} {D : va_G} {cA : Nat → ClassId} {ad : Nat → Nat} {B : Nat} {xs : List Int32} {t1 t2 : List Value} {n0 s0 mi mc ms : Nat} {h' : MHeap}
/-- a text's length and chars: what is asked of them -/
def StrW (p : Program) (l : Launch) (e : Env) (R : Room) (s : State) (m : MethodId) (args : Array Value) (below : List Frame) (meth : Method) (c : Code) (Q : State → Prop) (D : va_G) (cA : Nat → ClassId) (ad : Nat → Nat) (B : Nat) (xs : List Int32) (t1 t2 : List Value) (n0 s0 mi : Nat) (h' : MHeap) : Prop :=
  ∀ (pc k o m' d1 : Nat) (as S1 : List Value) (h h2 : MHeap) (v : Option Value) (L : MLoc) (ls : Array Slot) (H : Heap) (locs : List Loc) (cells slots : Nat), (m' = 1004 ∨ m' = 1005) → decode (mtd mi).2.1 pc = .ok (.invokevirtual k, 3) → Cond.methodLink (mtd mi).1.cls k (if m' = 1004 then ⟨"java/lang/String", "length", "()I"⟩ else ⟨"java/lang/String", "charAt", "(I)C"⟩) ∈ gtbl → prx d1 (m' - 1000) (.ref o :: as) h = some (v, h2) → d1 + 1 ≤ R.frames → 64 * (d1 + 1) ≤ R.locals → S1.length ≤ 4 → cells ≤ R.cells → slots ≤ R.slots →
    Rl D cA ad B xs t1 t2 s.heap n0 s0 (prg mi).2 L (as.reverse ++ .ref o :: S1) h ls H locs cells slots → KN (fun H locs cells slots g => W p l e R s m args below meth c H locs cells slots Q g) (Rl D cA ad B xs t1 t2 s.heap n0 s0 (prg mi).2) h' m ad (pc + 3) L (v.toList ++ S1) h2 → W p l e R s m args below meth c H locs cells slots Q (F0 m pc ls ((as.reverse ++ .ref o :: S1).map (shv ad)))
theorem okS.app {a b : List Value} (ha : okS a) (hb : okS b) : okS (a ++ b) := fun v hv => (List.mem_append.mp hv).elim (ha v) (hb v)
theorem okS.right {a b : List Value} (h : okS (a ++ b)) : okS b := fun v hv => h v (List.mem_append_right _ hv)
theorem ad_at (had : ∀ k, ad (k + 3) = B + k) {o : Nat} (h : 3 ≤ o) : ad o = B + (o - 3) := by
  rw [← had]; congr 1; omega
set_option maxHeartbeats 4000000 in
theorem sim_c {rt : Option Value → MHeap → Prop} (C : Cx p s m args meth c SX D cA ad B xs mi) (hX : SXok SX B) (hcw : ∀ k, k < 263 → Cond.code (mtd k).1 (mtd k).2.1 (prg k).2 (mtd k).2.2 ∈ gtbl) (hmc : mc + n0 = h'.length) (hms : ms + s0 = hsl h') (hRc : mc ≤ R.cells) (hRs : ms ≤ R.slots) (hStr : StrW p l e R s m args below meth c Q D cA ad B xs t1 t2 n0 s0 mi h') {pc len : Nat} {i : Instr} {rs : List Nat} {cs : List Value} {ax : List Nat} (hck : chk1 (mtd mi).1 (mtd mi).2.2 (mtd mi).2.1 (prg mi).2 ((pc, i, rs, cs), len, ax) = true) (hi : grC i = true)
    {L : MLoc} {S : List Value} {h : MHeap} {kn : MLoc → List Value → MHeap → Prop} {kj : Nat → MLoc → List Value → MHeap → Prop}
    (hst : stK False rt kn kj (CLp l R SX D cA ad B xs t1 t2 (KN (fun H locs cells slots g => W p l e R s m args below meth c H locs cells slots Q g) (Rl D cA ad B xs t1 t2 s.heap n0 s0 (prg mi).2) h' m ad (pc + len) L)) i rs cs L S h)
    {ls : Array Slot} {H : Heap} {locs : List Loc} {cells slots : Nat} (hR : Rl D cA ad B xs t1 t2 s.heap n0 s0 (prg mi).2 L S h ls H locs cells slots) : W p l e R s m args below meth c H locs cells slots Q (F0 m pc ls (S.map (shv ad))) := by
  obtain ⟨hx, hb, hml, hown, hts, hKS, hret, hlocks, hnm, had⟩ := C
  obtain ⟨hLR, hok, hP, hsz, hpr, h3, hS, hcl, hsl1⟩ := id hR
  have hK := hKS.1.1
  have hD := toW_D (cA := cA) had h
  have hB : B ≤ s.heap.size := hKS.2.2.1
  have hlsz : ls.size = (prg mi).2 := hLR.1.1
  simp only [chk1, Bool.and_eq_true, decide_eq_true_eq] at hck
  obtain ⟨⟨hdec, hlk⟩, -⟩ := hck
  cases i
  case invokestatic k =>
    simp only [lkB, Bool.and_eq_true] at hlk
    obtain ⟨hl, hk⟩ := hlk
    have hl : len = 3 := Nat.eq_of_beq_eq_true hl
    subst hl
    split at hk
    rotate_left
    · cases hk
    rename_i m' n q rsr a1 a2 a3 a4 a5 axr
    have hst2 : (match pops n [] S with
      | some (as, S) => bif Nat.ble S.length 4 then CLp l R SX D cA ad B xs t1 t2 (KN (fun H locs cells slots g => W p l e R s m args below meth c H locs cells slots Q g) (Rl D cA ad B xs t1 t2 s.heap n0 s0 (prg mi).2) h' m ad (pc + 3) L) m' as q S h else False
      | none => False) := hst
    cases hp : pops n [] S with
    | none => rw [hp] at hst2; exact absurd hst2 id
    | some z =>
      obtain ⟨as, S1⟩ := z
      rw [hp] at hst2
      obtain ⟨h4, d1, v, h2, f1, f2, f3, f4, f5, f6, kk⟩ := cond_F hst2
      have h4 : S1.length ≤ 4 := Nat.le_of_ble_eq_true h4
      obtain ⟨hn, hSe, hSm⟩ := pops_at (ad := ad) hp
      have hcs := cat_sum (ad := ad) S1
      have hgr2 := kk.1
      have hokS1 : okS S1 := by rw [hSe] at hok; exact hok.right
      cases hb1 : Nat.ble 1000 m' with
      | false =>
        have hm' : m' < 1000 := by
          rcases Nat.lt_or_ge m' 1000 with q | q
          · exact q
          · rw [Nat.ble_eq_true_of_le q] at hb1; cases hb1
        rw [hb1] at hk
        simp only [cond_false, Bool.and_eq_true] at hk
        obtain ⟨⟨⟨⟨g1, g2⟩, g3⟩, g4⟩, g5⟩ := hk
        obtain ⟨y1, y2, y3⟩ := mcw_ok g1
        have hM := f6 hm'
        have hf : cells + (h2.length - h.length) ≤ R.cells ∧ slots + (hsl h2 - hsl h) ≤ R.slots := by
          have := f4.1; have := f4.2
          omega
        rw [hSm]
        have hpre : PreS s H (PcS SX D cA ad B xs t1 t2 as h) (as.map (shv ad)) := ⟨PcS.blind hX, PcS.call hX hKS hR⟩
        have hroom : d1 + 1 ≤ R.frames ∧ 8 + ((prg m').2 + 11) + 64 * d1 ≤ R.locals := ⟨f1, by omega⟩
        have hrun : va_Run p l e R s m args below meth c H locs cells slots (h2.length - h.length) (hsl h2 - hsl h) (F0 m pc ls ((as.map (shv ad)).reverse ++ S1.map (shv ad))) (S1.map (shv ad)) (QcS D cA ad B xs t1 t2 v h2 (as.map (shv ad)).toArray) (fun q => B ≤ q) := by
          cases ha4 : Nat.beq a4 0 with
          | true =>
            rw [ha4] at g5
            exact va_runS (Ts := gtbl) ⟨hx, hb, hml, hown, hts⟩ hM ⟨callB_of n hts (good_wsm (hcw m' y3)) rfl rfl rfl (hts _ (tb_ok g4)) (hts _ (tb_ok g5)) ⟨y1.1, y1.2, mnp_ok g2⟩ hroom, hts _ (tb_ok g3)⟩ hpre rfl (by rw [List.length_map]; exact hn) hlsz rfl (lv_room (by omega)) hdec hf
          | false =>
            rw [ha4] at g5
            exact va_runSN (Ts := gtbl) ⟨hx, hb, hml, hown, hts⟩ hM ⟨va_cnB n hts (good_wsm (hcw m' y3)) rfl rfl rfl (hKS.1.2.1 _ _ _ _ (tn_ok g5)) (hts _ (tb_ok g4)) ⟨y1.1, y1.2, mnp_ok g2⟩ hroom, hts _ (tb_ok g3), trivial⟩ hpre rfl (by rw [List.length_map]; exact hn) hlsz rfl (lv_room (by omega)) hdec hf
        exact call_W hrun hR (by have := f4.1; omega) (by have := f4.2; omega) rfl rfl (f3.app hokS1) hB kk
      | true =>
        have hm' : 1000 ≤ m' := Nat.le_of_ble_eq_true hb1
        have hpx := f5 hm'
        rw [hb1] at hk
        simp only [cond_true] at hk
        have hpx2 := (prx_prm hpx).1
        generalize hmm : m' - 1000 = mm at hk hpx2
        match mm, hk, hpx2 with
        | 0, hk, hpx2 =>
          simp only [Bool.and_eq_true] at hk
          obtain ⟨x, y, rfl, rfl, rfl⟩ := prm0_spec hpx2
          rw [hSm]
          show W p l e R s m args below meth c H locs cells slots Q (F0 m pc ls (.int y :: .int x :: S1.map (shv ad)))
          refine va_mmax hx hb (by rw [hml, hlsz]) hown (hts _ (tb_ok hk.2)) (hts _ (tc_ok 3050 rfl rfl)) (hts _ (tc_ok 1012 rfl rfl)) (hts _ (tc_ok 3051 rfl rfl)) (by omega) (by omega) (by omega) (by omega) hdec ?_
          exact kk.2 ls H locs cells slots (hR.re hLR (f3.app hokS1))
        | 1, hk, hpx2 =>
          simp only [Bool.and_eq_true] at hk
          obtain ⟨x, y, rfl, rfl, rfl⟩ := prm1_spec hpx2
          rw [hSm]
          show W p l e R s m args below meth c H locs cells slots Q (F0 m pc ls (.int y :: .int x :: S1.map (shv ad)))
          refine va_mmin hx hb (by rw [hml, hlsz]) hown (hts _ (tb_ok hk.2)) (hts _ (tc_ok 2065 rfl rfl)) (hts _ (tc_ok 1012 rfl rfl)) (hts _ (tc_ok 2066 rfl rfl)) (by omega) (by omega) (by omega) (by omega) hdec ?_
          exact kk.2 ls H locs cells slots (hR.re hLR (f3.app hokS1))
        | 2, hk, hpx2 =>
          simp only [Bool.and_eq_true] at hk
          obtain ⟨o1, o2, sp, dp, nn, rfl, hpx3⟩ := prm2_spec hpx2
          obtain ⟨vs, wsL, e1, e2, c1, c2, c3, c4, c5, rfl, rfl⟩ := acp_spec hpx3
          have ho1 := pre_at hpr e1 ⟨by omega, by omega⟩
          have ho2 := pre_at hpr e2 ⟨by omega, by omega⟩
          have he1 := toW_get (ad := ad) (cA := cA) ho1 e1
          have he2 := toW_get (ad := ad) (cA := cA) ho2 e2
          rw [enc_int] at he1 he2
          rw [hSm]
          show W p l e R s m args below meth c H locs cells slots Q (F0 m pc ls (.int nn :: .int dp :: .ref (ad o2) :: .int sp :: .ref (ad o1) :: S1.map (shv ad)))
          have hnf : nativeFrameWords "java/lang/System" "arraycopy" 5 + 11 ≤ 50 := by decide +kernel
          refine vz_copyi hx hb (by rw [hml, hlsz]) hown (hts _ (tb_ok hk.2)) (hts _ (tc_ok 2069 rfl rfl)) (hts _ (tc_ok 2068 rfl rfl)) (hts _ (tc_ok 1013 rfl rfl)) hK hP hD hS (o1 - 3) (o2 - 3) 0 0 he1 he2 rfl rfl c1 c2 c3 c4 c5 (by omega) (by omega) hdec fun H1 locs1 z1 hP1 hS1 => ?_
          exact kk.2 ls H1 locs1 cells slots (hR.set (q' := (100, cpyL vs wsL sp.toNatClampNeg dp.toNatClampNeg nn.toNatClampNeg)) (f3.app hokS1) ho2 e2 (cpyL_len c4 c5) z1 (by rw [enc_int, cpyL_len c4 c5, cpyL_fun c4 c5]; exact hP1) hS1)
        | mm + 3, hk, hpx2 => cases hk
  case invokespecial k =>
    simp only [lkB, Bool.and_eq_true] at hlk
    obtain ⟨hl, hk⟩ := hlk
    have hl : len = 3 := Nat.eq_of_beq_eq_true hl
    subst hl
    split at hk
    rotate_left
    · cases hk
    rename_i m' n q rsr a1 a2 a3 a4 a5 a6 a7 axr
    have hst2 : ∃ as o S1, pops n [] S = some (as, .ref o :: S1) ∧ (bif Nat.ble S1.length 4 then CLp l R SX D cA ad B xs t1 t2 (KN (fun H locs cells slots g => W p l e R s m args below meth c H locs cells slots Q g) (Rl D cA ad B xs t1 t2 s.heap n0 s0 (prg mi).2) h' m ad (pc + 3) L) m' (.ref o :: as) q S1 h else False) ∧ ∀ t, rsr = [t] → ∃ fs, h[o]? = some (t, fs) := by
      cases hp : pops n [] S with
      | none => cases rsr <;> (simp only [stK, hp] at hst)
      | some z =>
        obtain ⟨as, S0⟩ := z
        rcases S0 with _ | ⟨w, S1⟩
        · cases rsr <;> (simp only [stK, hp] at hst)
        · cases rsr with
          | nil =>
            simp only [stK, hp] at hst
            obtain ⟨o, rfl, hst3⟩ := dR_F hst
            exact ⟨as, o, S1, rfl, hst3, fun t ht => (by cases ht)⟩
          | cons t0 r0 =>
            simp only [stK, hp] at hst
            obtain ⟨o, rfl, hst3⟩ := dR_F hst
            obtain ⟨t, fs, e1, e2⟩ := inO_F hst3
            rcases e2 with ⟨e3, e4⟩ | ⟨e3, e4⟩
            · have e5 : t = t0 := by simpa using e3
              subst e5
              exact ⟨as, o, S1, rfl, e4, fun t2 ht => by cases ht; exact ⟨fs, e1⟩⟩
            · cases e3
    obtain ⟨as, o, S1, hp, hst4, hobj⟩ := hst2
    · obtain ⟨h4, d1, v, h2, f1, f2, f3, f4, f5, f6, kk⟩ := cond_F hst4
      have h4 : S1.length ≤ 4 := Nat.le_of_ble_eq_true h4
      obtain ⟨hn, hSe, hSm⟩ := pops_at (ad := ad) hp
      have hcs := cat_sum (ad := ad) S1
      have hgr2 := kk.1
      have hokS1 : okS S1 := by rw [hSe] at hok; exact hok.right.tl
      have hSm2 : S.map (shv ad) = (as.map (shv ad)).reverse ++ .ref (ad o) :: S1.map (shv ad) := hSm
      cases hb1 : Nat.ble 1000 m' with
      | false =>
        have hm' : m' < 1000 := by
          rcases Nat.lt_or_ge m' 1000 with q | q
          · exact q
          · rw [Nat.ble_eq_true_of_le q] at hb1; cases hb1
        rw [hb1] at hk
        simp only [cond_false, Bool.and_eq_true] at hk
        obtain ⟨⟨⟨⟨g1, g2⟩, g3⟩, g4⟩, g5⟩ := hk
        obtain ⟨y1, y2, y3⟩ := mcw_ok g1
        have hM := f6 hm'
        have hf : cells + (h2.length - h.length) ≤ R.cells ∧ slots + (hsl h2 - hsl h) ≤ R.slots := by
          have := f4.1; have := f4.2
          omega
        rw [hSm2]
        have hpre : PreS s H (PcS SX D cA ad B xs t1 t2 (.ref o :: as) h) (.ref (ad o) :: as.map (shv ad)) := ⟨PcS.blind hX, PcS.call hX hKS hR⟩
        have hroom : d1 + 1 ≤ R.frames ∧ 8 + ((prg m').2 + 11) + 64 * d1 ≤ R.locals := ⟨f1, by omega⟩
        have hrun : va_Run p l e R s m args below meth c H locs cells slots (h2.length - h.length) (hsl h2 - hsl h) (F0 m pc ls ((as.map (shv ad)).reverse ++ .ref (ad o) :: S1.map (shv ad))) (S1.map (shv ad)) (QcS D cA ad B xs t1 t2 v h2 (Value.ref (ad o) :: as.map (shv ad)).toArray) (fun q => B ≤ q) := by
          match a4, g5 with
          | 0, g5 =>
            simp only [Bool.and_eq_true, decide_eq_true_eq] at g5
            have hM' := hM
            unfold MetS wsm at hM'
            rw [g5.1.2] at hM'
            have hG := good_wsm (hcw m' y3)
            unfold wsm at hG
            rw [g5.1.2] at hG
            exact va_runI (Ts := gtbl) ⟨hx, hb, hml, hown, hts⟩ hM' ⟨callB_of n hts hG rfl rfl rfl (hts _ (tb_ok g4)) (hts _ (tb_ok g5.2)) ⟨y1.1, y1.2, mnp_ok g2⟩ hroom, g5.1.1, hts _ (tb_ok g3)⟩ hpre rfl (by rw [List.length_map]; exact hn) hlsz rfl (lv_room (by omega)) hdec hf
          | 1, g5 =>
            simp only [Bool.and_eq_true, decide_eq_true_eq] at g5
            have hM' := hM
            unfold MetS wsm at hM'
            rw [g5.1.2] at hM'
            have hG := good_wsm (hcw m' y3)
            unfold wsm at hG
            rw [g5.1.2] at hG
            exact va_runIN (Ts := gtbl) ⟨hx, hb, hml, hown, hts⟩ hM' ⟨va_cnB n hts hG rfl rfl rfl (hKS.1.2.1 _ _ _ _ (tn_ok g5.2)) (hts _ (tb_ok g4)) ⟨y1.1, y1.2, mnp_ok g2⟩ hroom, g5.1.1, hts _ (tb_ok g3)⟩ hpre rfl (by rw [List.length_map]; exact hn) hlsz rfl (lv_room (by omega)) hdec hf
          | a4 + 2, g5 =>
            simp only [Bool.and_eq_true, Bool.or_eq_true, decide_eq_true_eq] at g5
            obtain ⟨⟨⟨⟨⟨j0, j1⟩, j2⟩, j3⟩, j4⟩, j5⟩ := g5
            obtain ⟨fs, e1⟩ := hobj 10 j0
            have ho3 := pre_at hpr e1 ⟨by omega, by omega⟩
            have he := toW_get (ad := ad) (cA := cA) ho3 e1
            rw [enc_obj (by omega)] at he
            have hr0 := va_recv hK hP (ci := 10) (q := (RX10, TX10, 3)) rfl he
            exact vz_runSP (C := RX10) (sup := cnm 2) ⟨hx, hb, hml, hown, hts⟩ hM (good_wsm (hcw m' y3)) List.mem_cons_self rfl rfl hroom.1 hroom.2 (hts _ (tb_ok j2)) (hts _ (tb_ok j3)) (hts _ (tb_ok j4)) (hts _ (tb_ok g3)) (hts _ (tb_ok g4)) j1 (mnp_ok g2) (by
              rcases j5 with z | z
              · exact Or.inl z
              · exact Or.inr (by rw [z]; exact hts _ (tc_ok 3025 rfl rfl))) ⟨PcS.blind hX, hr0, PcS.call hX hKS hR⟩ rfl (by rw [List.length_map]; exact hn) hlsz rfl (lv_room (by omega)) hdec hf
        exact call_W hrun hR (by have := f4.1; omega) (by have := f4.2; omega) rfl rfl (f3.app hokS1) hB kk
      | true =>
        have hm' : 1000 ≤ m' := Nat.le_of_ble_eq_true hb1
        have hpx := f5 hm'
        rw [hb1] at hk
        simp only [cond_true, Bool.and_eq_true] at hk
        have hm3 : m' = 1003 := Nat.eq_of_beq_eq_true hk.1.1
        have hn0 : n = 0 := Nat.eq_of_beq_eq_true hk.1.2
        subst hm3; subst hn0
        obtain ⟨o', hr1, rfl, rfl⟩ := prm3_spec (prx_prm hpx).1
        have has : as = [] := List.length_eq_zero_iff.mp hn
        subst has
        rw [hSm2]
        show W p l e R s m args below meth c H locs cells slots Q (F0 m pc ls (.ref (ad o) :: S1.map (shv ad)))
        refine W.objInit hx hb hown (hts _ (tb_ok hk.2)) (hts _ (tc_ok 1028 rfl rfl)) (hts _ (tc_ok 1029 rfl rfl)) rfl (by rw [hml]; exact hlsz) rfl hdec (by omega) (by show 2 * 0 + _ + 12 ≤ _; omega) ?_
        exact kk.2 ls H locs cells slots (hR.re hLR (f3.app hokS1))
  case invokevirtual k =>
    simp only [lkB, Bool.and_eq_true] at hlk
    obtain ⟨hl, hk⟩ := hlk
    have hl : len = 3 := Nat.eq_of_beq_eq_true hl
    subst hl
    split at hk
    rotate_left
    · cases hk
    rename_i n q ps
    have hst2 : (match pops n [] S with
      | some (as, v :: S) => dR False v fun o => vd False h o ps fun m' => bif Nat.ble S.length 4 then CLp l R SX D cA ad B xs t1 t2 (KN (fun H locs cells slots g => W p l e R s m args below meth c H locs cells slots Q g) (Rl D cA ad B xs t1 t2 s.heap n0 s0 (prg mi).2) h' m ad (pc + 3) L) m' (.ref o :: as) q S h else False
      | _ => False) := hst
    cases hp : pops n [] S with
    | none => rw [hp] at hst2; exact absurd hst2 id
    | some z =>
      obtain ⟨as, S0⟩ := z
      rw [hp] at hst2
      rcases S0 with _ | ⟨w, S1⟩
      · exact absurd hst2 id
      obtain ⟨o, rfl, hst3⟩ := dR_F hst2
      obtain ⟨t, fs, m', e1, e2, hst4⟩ := vd_F hst3
      obtain ⟨h4, d1, v, h2, f1, f2, f3, f4, f5, f6, kk⟩ := cond_F hst4
      have h4 : S1.length ≤ 4 := Nat.le_of_ble_eq_true h4
      obtain ⟨hn, hSe, hSm⟩ := pops_at (ad := ad) hp
      have hcs := cat_sum (ad := ad) S1
      have hgr2 := kk.1
      have hokS1 : okS S1 := by rw [hSe] at hok; exact hok.right.tl
      have hSm2 : S.map (shv ad) = (as.map (shv ad)).reverse ++ .ref (ad o) :: S1.map (shv ad) := hSm
      obtain ⟨a1, a2, a3, a4, a5, a6, a7, a8, hk2⟩ := vdP_lk ps ax hk e2
      cases hb1 : Nat.ble 1000 m' with
      | false =>
        have hm' : m' < 1000 := by
          rcases Nat.lt_or_ge m' 1000 with q | q
          · exact q
          · rw [Nat.ble_eq_true_of_le q] at hb1; cases hb1
        rw [hb1] at hk2
        simp only [cond_false, Bool.and_eq_true] at hk2
        obtain ⟨⟨⟨⟨⟨g1, g2⟩, gt⟩, g3⟩, g4⟩, g5⟩ := hk2
        obtain ⟨y1, y2, y3⟩ := mcw_ok g1
        have ht13 : t < 13 := Nat.le_of_ble_eq_true gt
        have hM := f6 hm'
        have hf : cells + (h2.length - h.length) ≤ R.cells ∧ slots + (hsl h2 - hsl h) ≤ R.slots := by
          have := f4.1; have := f4.2
          omega
        have ho3 := pre_at hpr e1 ⟨by omega, by omega⟩
        have he := toW_get (ad := ad) (cA := cA) ho3 e1
        rw [enc_obj ht13] at he
        obtain ⟨rw0, hc⟩ : ∃ r0, clsL[t]? = some r0 := ⟨clsL[t]'(by exact ht13), List.getElem?_eq_getElem _⟩
        have hcn : rw0.1 = cnm t := by
          show _ = (clsL.getD t ("", TX0, 0)).1
          rw [List.getD_eq_getElem?_getD, hc]
          rfl
        have hr0 := va_recv hK hP hc he
        rw [hcn] at hr0
        rw [hSm2]
        have hpre : PreV s H (cnm t) (ad o) (PcS SX D cA ad B xs t1 t2 (.ref o :: as) h) (as.map (shv ad)) := ⟨PcS.blind hX, hr0, PcS.call hX hKS hR⟩
        have hroom : d1 + 1 ≤ R.frames ∧ 8 + ((prg m').2 + 11) + 64 * d1 ≤ R.locals := ⟨f1, by omega⟩
        have hrun : va_Run p l e R s m args below meth c H locs cells slots (h2.length - h.length) (hsl h2 - hsl h) (F0 m pc ls ((as.map (shv ad)).reverse ++ .ref (ad o) :: S1.map (shv ad))) (S1.map (shv ad)) (QcS D cA ad B xs t1 t2 v h2 (Value.ref (ad o) :: as.map (shv ad)).toArray) (fun q => B ≤ q) := by
          cases ha4 : Nat.beq a4 0 with
          | true =>
            rw [ha4] at g5
            simp only [cond_true, Bool.and_eq_true, decide_eq_true_eq] at g5
            exact va_runV (Ts := gtbl) (C := cnm t) ⟨hx, hb, hml, hown, hts⟩ hM ⟨callB_of n hts (good_wsm (hcw m' y3)) rfl rfl rfl (hts _ (tb_ok g4)) (hts _ (tb_ok g5.1.2)) ⟨y1.1, y1.2, mnp_ok g2⟩ hroom, hts _ (tb_ok g3), hts _ (tb_ok g5.2)⟩ hpre rfl (by rw [List.length_map]; exact hn) hlsz rfl (lv_room (by omega)) hdec hf
          | false =>
            rw [ha4] at g5
            simp only [cond_false, Bool.and_eq_true, decide_eq_true_eq] at g5
            obtain ⟨⟨⟨⟨⟨j1, j2⟩, j3⟩, j4⟩, j5⟩, j6⟩ := g5
            have hG := good_wsm (hcw m' y3)
            have hdecl : va_Decl s ⟨cnm 3, (mtd m').1.name, (mtd m').1.desc⟩ := by
              rw [← j4]
              exact va_Decl.of (hts _ (tb_ok j5)) (hts _ (hcw a4 (mcw_ok j6).2.2))
            refine va_runU (Ts := gtbl) (C := cnm t) (owner := cnm 3) (x := ⟨cnm 3, (mtd m').1.name, (mtd m').1.desc⟩) (n := n) ⟨hx, hb, hml, hown, hts⟩ hM ⟨⟨rfl, rfl, hroom.1, hroom.2, pay_in hts hG, List.mem_cons_self⟩, hts _ (hcw m' y3), hts _ (tb_ok g4), ⟨by decide +kernel, by decide +kernel⟩, ?_, hts _ (tb_ok j1), hts _ (tb_ok j3), hdecl, hts _ (tb_ok j2), hts _ (tb_ok g3)⟩ hpre rfl (by rw [List.length_map]; exact hn) hlsz rfl (lv_room (by omega)) hdec hf
            intro sig hsig
            have h9 := mnp_ok g2
            have hsig : parseMethodDescriptor (mtd m').1.desc = some sig := hsig
            rw [hsig] at h9
            exact (Option.some.inj h9).symm
        exact call_W hrun hR (by have := f4.1; omega) (by have := f4.2; omega) rfl rfl (f3.app hokS1) hB kk
      | true =>
        have hm' : 1000 ≤ m' := Nat.le_of_ble_eq_true hb1
        have hpx := f5 hm'
        rw [hb1] at hk2
        simp only [cond_true, Bool.and_eq_true] at hk2
        obtain ⟨-, hk3⟩ := hk2
        rw [hSe]
        rw [hSe] at hR
        cases hb4 : Nat.beq m' 1004 with
        | true =>
          have hm4 : m' = 1004 := Nat.eq_of_beq_eq_true hb4
          subst hm4
          simp only [hb4, cond_true, Bool.and_eq_true] at hk3
          exact hStr pc k o 1004 d1 as S1 h h2 v L ls H locs cells slots (Or.inl rfl) hdec (by rw [if_pos rfl]; exact tb_ok hk3.2) hpx f1 f2 h4 (by have := f4.1; omega) (by have := f4.2; omega) hR kk
        | false =>
          rw [hb4] at hk3
          simp only [cond_false, Bool.and_eq_true] at hk3
          have hm5 : m' = 1005 := Nat.eq_of_beq_eq_true hk3.1.1
          subst hm5
          exact hStr pc k o 1005 d1 as S1 h h2 v L ls H locs cells slots (Or.inr rfl) hdec (by rw [if_neg (by decide)]; exact tb_ok hk3.2) hpx f1 f2 h4 (by have := f4.1; omega) (by have := f4.2; omega) hR kk
  all_goals (cases hi)
end SIMC
