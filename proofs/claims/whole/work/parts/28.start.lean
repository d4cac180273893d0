def R_law : String := "OneTurnedLaw"
def lw_P (b : Addr) (xs : List Int32) (args : Array Value) (s : State) : Prop := args = #[.ref b] ∧ s.IntsAt b xs ∧ xs.length ≤ 448 ∧ (Jvm.Cond.and given_1 narrow_1).before args s = true
def lw_Q (_ : Array Value) (s : State) (o : Outcome) (t : State) : Prop := o = .returned (some (.int 1)) ∧ Framed s o t [] 600000 7302250
def lw_Z (below : List Frame) (a : Array Value) (s : State) : State → Prop := fun t => ∃ o, t.status = .running ∧ Ended t below o ∧ lw_Q a s o t
/-- the law's own end, with 1 on the stack, nothing written that was there before, its room as the claim has it -/
theorem lw_ret {p : Program} {l : Launch} {e : Env} {s : State} {m : MethodId} {below : List Frame} {meth : Method} {c : Code} {b : Nat} (hx : p.tables.exec = Jvm.exec) (hb : c.code = code) (hr : meth.sig.returnType = ret) (hlocks : meth.locks = false) {pc : Nat} {H : Heap} {ls : Array Slot} (hdg : decode code pc = .ok (.ireturn, 1)) : W p l e room_1 s m #[Value.ref b] below meth c H [] 600000 7302250 (lw_Z below #[Value.ref b] s) (F0 m pc ls [.int 1]) := by
  intro T hT X
  obtain ⟨fs, hret, hrun, hended, hW, hframe⟩ := X.leave (v := some (.int 1)) (hlocks := hlocks) (fun h => by rw [hr] at h; cases h)
  have hmeth' : T.vm.method? m = some meth := X.method'
  refine ⟨T.setFrames fs, ?_, .returned (some (.int 1)), hrun, hended, rfl, ⟨_, rfl⟩, hW, hframe⟩
  jvm_step X.here [X.here.top, hx, hb, hdg, hmeth', hr, ret, narrow_b1]
  (try refine ⟨rfl, ?_⟩); (try refine ⟨rfl, ?_⟩)
  first | (intro acts; rw [hret _ acts rfl rfl rfl]) | rw [hret _ _ rfl rfl rfl]
  exact Steps.refl _
/-- what holds at the law's entry: the machine, the code, the tables' words (any of lw_tbl by 'hts w (by decide +kernel)'), the script of L ints xs at the cell b, what the Statement gives of the start (any of its parts by flat_of_before) -/
def lw_At (p : Program) (s : State) (m : MethodId) (meth : Method) (c : Code) (b L : Nat) (xs : Nat → Int32) : Prop :=
  p.tables.exec = Jvm.exec ∧ c.code = code ∧ meth.sig.returnType = ret ∧ c.maxLocals = 4 ∧ s.vm.findClass R_law = some m.cls ∧ (∀ w ∈ lw_tbl, w.before #[Value.ref b] s = true) ∧ va_X b L xs s s.heap ∧ b < s.heap.size ∧ meth.locks = false ∧ (Jvm.Cond.and given_1 narrow_1).before #[Value.ref b] s = true ∧ meth.name = "law"
/-! what holds at the law's entry, in the words of the small machine -/
def tmS (i : Nat) : Term := match i with
  | 0 => .string "OneTurned" 56
  | _ => .string "OneTurned$Tape" 117
set_option maxRecDepth 100000 in
theorem nrw_ex : ∀ i, i < 2 → Cond.exactly (tmS i) "java/lang/String" ∈ flatC (Jvm.Cond.and given_1 narrow_1) := by decide +kernel
set_option maxRecDepth 100000 in
theorem nrw_co : ∀ i, i < 2 → Cond.eq (.field (tmS i) "java/lang/String" "coder" "B") (.int 0) ∈ flatC (Jvm.Cond.and given_1 narrow_1) := by decide +kernel
set_option maxRecDepth 100000 in
theorem nrw_ar : ∀ i, i < 2 → Cond.arrayOf (.field (tmS i) "java/lang/String" "value" "[B") .byte ∈ flatC (Jvm.Cond.and given_1 narrow_1) := by decide +kernel
set_option maxRecDepth 100000 in
theorem nrw_le : ∀ i, i < 2 → Cond.eq (.length (.field (tmS i) "java/lang/String" "value" "[B")) (.int (Int32.ofNat (lenS.getD i 0))) ∈ flatC (Jvm.Cond.and given_1 narrow_1) := by decide +kernel
set_option maxRecDepth 100000 in
theorem nrw_el0 : ∀ j, j < 37 → Cond.eq (.elem (.field (tmS 0) "java/lang/String" "value" "[B") (.int (Int32.ofNat j))) (.int ((bytS.getD 0 []).getD j 0)) ∈ flatC (Jvm.Cond.and given_1 narrow_1) := by decide +kernel
set_option maxRecDepth 100000 in
theorem nrw_el1 : ∀ j, j < 61 → Cond.eq (.elem (.field (tmS 1) "java/lang/String" "value" "[B") (.int (Int32.ofNat j))) (.int ((bytS.getD 1 []).getD j 0)) ∈ flatC (Jvm.Cond.and given_1 narrow_1) := by decide +kernel
set_option maxRecDepth 100000 in
theorem nrw_ne : Cond.not (Cond.eq (tmS 0) (tmS 1)) ∈ flatC (Jvm.Cond.and given_1 narrow_1) := by decide +kernel
set_option maxRecDepth 100000 in
theorem nrw_cs : Cond.eq (.static "java/lang/String" "COMPACT_STRINGS" "Z") (.int 1) ∈ flatC (Jvm.Cond.and given_1 narrow_1) := by decide +kernel
set_option maxRecDepth 100000 in
theorem nrw_si : Cond.isRef (.static "jdk/internal/util/Preconditions" "SIOOBE_FORMATTER" "Ljava/util/function/BiFunction;") ∈ flatC (Jvm.Cond.and given_1 narrow_1) := by decide +kernel
set_option maxRecDepth 100000 in
theorem nrw_nc : ∀ q ∈ ncP, Cond.not (.castable (cnm q.1) (cnm q.2)) ∈ flatC (Jvm.Cond.and given_1 narrow_1) := by decide +kernel
theorem gtbl_sub {w : Cond} (h : w ∈ gtbl) : w ∈ lw_tbl := (List.mem_filter.mp h).1
set_option maxHeartbeats 4000000 in
theorem start_ok {p : Program} {s : State} {m : MethodId} {meth : Method} {c : Code} {b L : Nat} {xs : Nat → Int32} (C0 : lw_At p s m meth c b L xs) : ∃ (D : va_G) (cA : Nat → ClassId) (ad : Nat → Nat), (∀ k, ad (k + 3) = s.heap.size + k) ∧ ad 0 = b ∧ KS (SXs ad s.heap.size) D cA ad s.heap.size ((List.range L).map xs) s s.heap := by
  obtain ⟨hx, hb, hr, hml, hown, hts, hX, hbl, hlocks, hgv, -⟩ := id C0
  have hfl := flat_of_before _ hgv
  have hgt : ∀ w ∈ gtbl, w.before #[Value.ref b] s = true := fun w hw => hts w (gtbl_sub hw)
  obtain ⟨c0, iS0, hKn0⟩ := u_known (C := RX0) (T := TX0) (N := 5) (n := 5) hgt inG0 (hgt (.instantiable RX0 5) (tc_ok 1031 rfl rfl))
  obtain ⟨c1, iS1, hKn1⟩ := u_known (C := RX1) (T := TX1) (N := 3) (n := 3) hgt inG1 (hgt (.instantiable RX1 3) (tc_ok 3121 rfl rfl))
  obtain ⟨c2, iS2, hKn2⟩ := u_known (C := RX2) (T := TX2) (N := 3) (n := 3) hgt inG2 (hgt (.instantiable RX2 3) (tc_ok 3112 rfl rfl))
  obtain ⟨c3, iS3, hKn3⟩ := u_known (C := RX3) (T := TX3) (N := 3) (n := 3) hgt inG3 (hgt (.instantiable RX3 3) (tc_ok 3150 rfl rfl))
  obtain ⟨c4, iS4, hKn4⟩ := u_known (C := RX4) (T := TX4) (N := 6) (n := 6) hgt inG4 (hgt (.instantiable RX4 6) (tc_ok 1063 rfl rfl))
  obtain ⟨c5, iS5, hKn5⟩ := u_known (C := RX5) (T := TX5) (N := 3) (n := 3) hgt inG5 (hgt (.instantiable RX5 3) (tc_ok 2053 rfl rfl))
  obtain ⟨c6, iS6, hKn6⟩ := u_known (C := RX6) (T := TX6) (N := 3) (n := 3) hgt inG6 (hgt (.instantiable RX6 3) (tc_ok 3078 rfl rfl))
  obtain ⟨c7, iS7, hKn7⟩ := u_known (C := RX7) (T := TX7) (N := 3) (n := 3) hgt inG7 (hgt (.instantiable RX7 3) (tc_ok 1130 rfl rfl))
  obtain ⟨c8, iS8, hKn8⟩ := u_known (C := RX8) (T := TX8) (N := 3) (n := 3) hgt inG8 (hgt (.instantiable RX8 3) (tc_ok 3131 rfl rfl))
  obtain ⟨c9, iS9, hKn9⟩ := u_known (C := RX9) (T := TX9) (N := 8) (n := 8) hgt inG9 (hgt (.instantiable RX9 8) (tc_ok 1094 rfl rfl))
  obtain ⟨c10, iS10, hKn10⟩ := u_known (C := RX10) (T := TX10) (N := 3) (n := 3) hgt inG10 (hgt (.instantiable RX10 3) (tc_ok 3141 rfl rfl))
  obtain ⟨c11, iS11, hKn11⟩ := u_known (C := RX11) (T := TX11) (N := 11) (n := 11) hgt inG11 (hgt (.instantiable RX11 11) (tc_ok 1023 rfl rfl))
  obtain ⟨c12, iS12, hKn12⟩ := u_known (C := RX12) (T := TX12) (N := 39) (n := 39) hgt inG12 (hgt (.instantiable RX12 39) (tc_ok 5031 rfl rfl))
  obtain ⟨dC, dI, hKc⟩ : ∃ (dC : Nat → ClassId) (dI : Nat → Nat → Nat), ∀ (k : Nat) (q : vw_C), clsL[k]? = some q → u_Kn s q.1 q.2.1 q.2.2 (dC k) (dI k) := by
    refine ⟨fun k => match k with
      | 0 => c0 | 1 => c1 | 2 => c2 | 3 => c3 | 4 => c4 | 5 => c5 | 6 => c6 | 7 => c7 | 8 => c8 | 9 => c9 | 10 => c10 | 11 => c11 | _ => c12, fun k => match k with
      | 0 => iS0 | 1 => iS1 | 2 => iS2 | 3 => iS3 | 4 => iS4 | 5 => iS5 | 6 => iS6 | 7 => iS7 | 8 => iS8 | 9 => iS9 | 10 => iS10 | 11 => iS11 | _ => iS12, ?_⟩
    intro k q hq
    match k, hq with
    | 0, hq => cases hq; exact hKn0
    | 1, hq => cases hq; exact hKn1
    | 2, hq => cases hq; exact hKn2
    | 3, hq => cases hq; exact hKn3
    | 4, hq => cases hq; exact hKn4
    | 5, hq => cases hq; exact hKn5
    | 6, hq => cases hq; exact hKn6
    | 7, hq => cases hq; exact hKn7
    | 8, hq => cases hq; exact hKn8
    | 9, hq => cases hq; exact hKn9
    | 10, hq => cases hq; exact hKn10
    | 11, hq => cases hq; exact hKn11
    | 12, hq => cases hq; exact hKn12
    | k + 13, hq => simp [clsL] at hq
  obtain ⟨a0, k0, p0, i1, i2, i3⟩ := Cond.arrayClass_spec (hgt (.arrayClass .int) (tc_ok 1125 rfl rfl))
  have hao3 : va_AO (cnm 3) s := va_AO.of (hts (.arrayOver (.object (cnm 3))) (tch_ok 1 _ (List.mem_of_getElem? (i := 37) (by decide +kernel))))
  have hao5 : va_AO (cnm 5) s := va_AO.of (hts (.arrayOver (.object (cnm 5))) (tch_ok 1 _ (List.mem_of_getElem? (i := 127) (by decide +kernel))))
  have hao7 : va_AO (cnm 7) s := va_AO.of (hts (.arrayOver (.object (cnm 7))) (tch_ok 1 _ (List.mem_of_getElem? (i := 129) (by decide +kernel))))
  obtain ⟨q1, a1, k1, j1, -, j2, j3, j4⟩ := Cond.arrayOver_spec hao3
  obtain ⟨q2, a2, k2, j5, -, j6, j7, j8⟩ := Cond.arrayOver_spec hao5
  obtain ⟨q3, a3, k3, j9, -, j10, j11, j12⟩ := Cond.arrayOver_spec hao7
  have hA : ∀ a : Nat, a < s.heap.size → ¬ (fun q : Nat => s.heap.size ≤ q) a := fun a ha => Nat.not_le.mpr ha
  obtain ⟨adK, adV, hvk, hev⟩ := vk_Sof (args := #[Value.ref b]) (s := s) (N := 2) (tm := tmS) (len := lenS) (byt := bytS) (A := fun q => s.heap.size ≤ q) (fun i hi => (len_ok i hi).2) (fun i hi => hfl _ (nrw_ex i hi)) (fun i hi => hfl _ (nrw_co i hi)) (fun i hi => hfl _ (nrw_ar i hi)) (fun i hi => hfl _ (nrw_le i hi)) (fun i hi j hj => by
      rcases (show i = 0 ∨ i = 1 by omega) with rfl | rfl
      · exact hfl _ (nrw_el0 j hj)
      · exact hfl _ (nrw_el1 j hj)) (fun i j hi hj hne => by
      rcases (show (i = 0 ∧ j = 1) ∨ (i = 1 ∧ j = 0) by omega) with ⟨rfl, rfl⟩ | ⟨rfl, rfl⟩
      · exact Or.inl (hfl _ nrw_ne)
      · exact Or.inr (hfl _ nrw_ne)) hA
  refine ⟨(dC, dI), fun k => match k with
    | 0 => a0 | 1 => a1 | 2 => a2 | _ => a3, fun k => match k with
    | 0 => b | 1 => adK 0 | 2 => adK 1 | k + 3 => s.heap.size + k, fun k => rfl, rfl, ⟨⟨⟨hKc, ?_⟩, ?_, ?_, ?_, ⟨hao3, hao5, hao7⟩, ?_, ?_⟩, hbl, Nat.le_refl _, ?_, ⟨⟨adV, ?_⟩, ?_, ?_⟩⟩⟩
  · intro k q hq
    match k, hq with
    | 0, hq => cases hq; exact ⟨fun n z => ⟨fun k h => (by cases h), k0, i2, p0, i3⟩, i1⟩
    | 1, hq => cases hq; exact ⟨fun n z => ⟨fun k h => (by cases h), k1, j2, q1, j3⟩, k1, q1, j2, j3, j1, j4⟩
    | 2, hq => cases hq; exact ⟨fun n z => ⟨fun k h => (by cases h), k2, j6, q2, j7⟩, k2, q2, j6, j7, j5, j8⟩
    | 3, hq => cases hq; exact ⟨fun n z => ⟨fun k h => (by cases h), k3, j10, q3, j11⟩, k3, q3, j10, j11, j9, j12⟩
    | k + 4, hq => simp at hq
  · intro a i x b2 hm
    exact va_Nw.of rfl (hts _ hm)
  · intro a b2 hm
    exact va_Nw.of rfl (hts _ hm)
  · intro q hq
    exact va_Nc.of (hfl _ (nrw_nc q hq))
  · exact vk_R.of (hts (.stringRef "OneTurned" 56 "turns 10 ; swaps 5 ; looks 1 + many ;") (tch_ok 1 _ (List.mem_of_getElem? (i := 148) (by decide +kernel)))) (hev 0 (by omega))
  · exact vk_R.of (hts (.stringRef "OneTurned$Tape" 117 "turns swaps looks or and not card row column back many fails ") (tch_ok 1 _ (List.mem_of_getElem? (i := 231) (by decide +kernel)))) (hev 1 (by omega))
  · obtain ⟨scr, g1, g2, g3, g4, g5⟩ := hX
    refine ⟨scr, g1, g2, g3, by simpa using g4, fun j hj => ?_⟩
    have hj : j < L := by simpa using hj
    rw [g5 j hj]
    simp [hj]
  · refine ⟨fun i hi => ?_, fun i j hi hj e => ?_⟩
    · rcases (show i = 0 ∨ i = 1 by omega) with rfl | rfl
      · exact hvk.1 0 (by omega)
      · exact hvk.1 1 (by omega)
    · rcases (show i = 0 ∨ i = 1 by omega) with rfl | rfl <;> rcases (show j = 0 ∨ j = 1 by omega) with rfl | rfl
      · rfl
      · exact hvk.2 0 1 (by omega) (by omega) e
      · exact hvk.2 1 0 (by omega) (by omega) e
      · rfl
  · exact va_Zof (hts (.laysStatic "java/lang/String" "COMPACT_STRINGS" "Z") (tch_ok 1 _ (List.mem_of_getElem? (i := 158) (by decide +kernel)))) (hgt (.initialized "java/lang/String") (tc_ok 1006 rfl rfl)) (va_eqi (hfl _ nrw_cs)) hA
  · exact va_Zqof (hts (.laysStatic "jdk/internal/util/Preconditions" "SIOOBE_FORMATTER" "Ljava/util/function/BiFunction;") (tch_ok 1 _ (List.mem_of_getElem? (i := 174) (by decide +kernel)))) (hgt (.initialized "jdk/internal/util/Preconditions") (tc_ok 1008 rfl rfl)) (hfl _ nrw_si) hA

