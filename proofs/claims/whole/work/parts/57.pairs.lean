/-! unseen, lay, counts, two -/
def szo : Option Nat → Int32
  | none => -1
  | some j => nI (onN j)
theorem cnt_zero {q : Nat → Bool} {n : Nat} (h : ∀ i, i < n → q i = false) : cnt q n = 0 := by
  unfold cnt
  refine lp_keep (k := 0) (by omega) rfl ?_
  intro j _ hj
  rw [h j hj]; rfl
section PQS
variable {c w : Nat} {b : Int32} {hs : List Ent}
theorem c_138o (d : Nat) {o : Option Nat} (ho : ∀ j, o = some j → j < 4096) (h : MHeap) : call (d + 2) 138 [.int (oI o)] h = some (some (.int (szo o)), h) := by
  cases o with
  | none => exact c_138n d h
  | some j => exact c_138 d (ho j rfl) h
theorem q_lay (a g : Int32) : PQ c w b hs 103 218 [.int a, .int g] := by
  refine ⟨(if inR a 0 (nI (2 ^ c - 1)) then if inR g 0 1 then if g = 0 then szo (fwq (fwp c w b hs 0 a.toBitVec.toNat 0) (a.toBitVec.toNat + 1)) else oI (fwq (fwp c w b hs 0 a.toBitVec.toNat 0) (a.toBitVec.toNat + 1)) else -7 else -2), ?_, ?_⟩
  · intro d h lc lw ps H
    have hb := H.bd
    have hp := p2c hb.2.1
    rw [e_103]
    simp only [H.o0, H.o1, H.o2, H.o3, H.o4, H.o5, H.o6, H.o7, H.o8, H.o9, H.o10, H.b0, H.b1, H.b2, H.b3, H.b4, H.v3, H.v4, dR_ref, dA_ref, dA_null, dN_ref, dN_null, dD_ref, dD_int, cI_s, cV_s, cR_r, cR_n, cJ_s, bI_0, zr_bI, zr_0, zr_1, c_6 H, c_133]
    cases x1 : inR a 0 (nI (2 ^ c - 1)) with
    | false => rfl
    | true =>
      cases x2 : inR g 0 1 with
      | false => rfl
      | true =>
        obtain ⟨j, hj, rfl⟩ := inR_of (by omega) x1
        have hj2 : (nI j).toBitVec.toNat = j := pk_tn (by omega)
        have k1 : call (d + 19) 145 [.ref 3, .int 0, .int (nI j), .int 0] h = some (some (.int (oI (fwq (fwp c w b hs 0 j 0) (j + 1)))), h) := by
          have := c_145 H (d + 13) (f := 0) (s := j) (by omega) (by omega) (by omega) (ys := List.replicate hs.length 0) (by simp) (fun y hy => by rw [List.eq_of_mem_replicate hy]; decide)
          rw [pkN_zero] at this
          exact this
        simp only [k1, cI_s, if_true, if_false, Bool.true_eq_false, hj2]
        rw [c_138o _ (fun i hi => by have := fwq_lt _ _ i hi; omega), cI_s]
        by_cases q : g = 0
        · rw [if_pos q, if_pos q]
        · rw [if_neg q, if_neg q]
  · intro d h F A H
    have hb := H.bd
    have hp := p2c hb.2.1
    rw [e_218]
    simp only [H.v, dR_ref, dA_ref, dA_null, dN_ref, dN_null, dD_ref, dD_int, cI_s, cV_s, cR_r, cR_n, cJ_s, bI_0, zr_bI, zr_0, zr_1, r_172 H, r_166]
    cases x1 : inR a 0 (nI (2 ^ c - 1)) with
    | false => exact ⟨h, F, A, rfl, H, Fr.rf h, SS.rf F A⟩
    | true =>
      cases x2 : inR g 0 1 with
      | false => exact ⟨h, F, A, rfl, H, Fr.rf h, SS.rf F A⟩
      | true =>
        obtain ⟨j, hj, rfl⟩ := inR_of (by omega) x1
        have hj2 : (nI j).toBitVec.toNat = j := pk_tn (by omega)
        obtain ⟨h', A', e1, H1, F1, S1⟩ := r_217 H (d + 13) (s := j) (v := 0) (by omega) (by decide)
        refine ⟨h', F, A', ?_, H1, F1, S1⟩
        have e1 : call (d + 19) 217 [.ref 28, .int (nI j), .int 0] h = _ := e1
        simp only [e1, cI_s, if_true, if_false, Bool.true_eq_false, hj2]
        rcases inR_1 x2 with z | z <;> subst z
        · cases x3 : fwq (fwp c w b hs 0 j 0) (j + 1) with
          | none => rfl
          | some i =>
            have := fwq_lt _ _ i x3
            rw [if_neg (by decide), show oI (some i) = nI i from rfl, if_neg (nI_m1 (by omega)), r_168 _ (by omega), cI_s]
            rfl
        · rfl
theorem q_unseen (g : Int32) : PQ c w b hs 100 214 [.int g] := by
  refine ⟨(if inR g 0 1 then if g = 0 then szo (fwq (fwp c w b hs 1 (2 ^ c - 1) (sgs c w hs b)) (2 ^ c)) else oI (fwq (fwp c w b hs 1 (2 ^ c - 1) (sgs c w hs b)) (2 ^ c)) else -2), ?_, ?_⟩
  · intro d h lc lw ps H
    have hb := H.bd
    have hp := p2c hb.2.1
    rw [e_100]
    simp only [H.o0, H.o1, H.o2, H.o3, H.o4, H.o5, H.o6, H.o7, H.o8, H.o9, H.o10, H.b0, H.b1, H.b2, H.b3, H.b4, H.v3, H.v4, dR_ref, dA_ref, dA_null, dN_ref, dN_null, dD_ref, dD_int, cI_s, cV_s, cR_r, cR_n, cJ_s, bI_0, zr_bI, zr_0, zr_1, c_4 H, c_133, c_16 H]
    cases x2 : inR g 0 1 with
    | false => rfl
    | true =>
      have k1 : call (d + 19) 145 [.ref 3, .int 1, .int (nI (2 ^ c - 1)), .int (nI (sgs c w hs b))] h = some (some (.int (oI (fwq (fwp c w b hs 1 (2 ^ c - 1) (sgs c w hs b)) (2 ^ c - 1 + 1)))), h) := c_145 H (d + 13) (f := 1) (s := 2 ^ c - 1) (by omega) (by omega) (by omega) (sl_len c w hs b) (sl_lt H.ok b)
      rw [show 2 ^ c - 1 + 1 = 2 ^ c by omega] at k1
      simp only [k1, cI_s, if_true, if_false, Bool.true_eq_false]
      rw [c_138o _ (fun i hi => by have := fwq_lt _ _ i hi; omega), cI_s]
      by_cases q : g = 0
      · rw [if_pos q, if_pos q]
      · rw [if_neg q, if_neg q]
  · intro d h F A H
    have hb := H.bd
    have hp := p2c hb.2.1
    rw [e_214]
    simp only [dR_ref, dA_ref, dA_null, dN_ref, dN_null, dD_ref, dD_int, cI_s, cV_s, cR_r, cR_n, cJ_s, bI_0, zr_bI, zr_0, zr_1, r_166]
    cases x2 : inR g 0 1 with
    | false => exact ⟨h, F, A, rfl, H, Fr.rf h, SS.rf F A⟩
    | true =>
      obtain ⟨h', A', e1, H1, L1, F1, S1⟩ := r_203 H (d + 15)
      refine ⟨h', F, A', ?_, H1, F1, S1⟩
      simp only [H.v, e1, cV_s, H1.f2, H1.v, r_204 H1 L1, cI_s, if_true, if_false, Bool.true_eq_false]
      have h0 : fwq (fwp c w b hs 1 (2 ^ c - 1) (sgs c w hs b)) 1 = none := by
        rw [fwq_skip (k := 0) (by omega) (fun i _ h2 => by simp only [fwp]; rw [decide_eq_false (by omega)]; rfl)]; rfl
      have key := up_ind (n := 2 ^ c) (i := 1) (P := fun i => 1 ≤ i → ex (d + 19) 214 30 [sv (.ref 28), sv (.int g), sv (.int (nI (sgs c w hs b))), sv (.int (oI (fwq (fwp c w b hs 1 (2 ^ c - 1) (sgs c w hs b)) i))), sv (.int (nI i))] [] h' = some (some (.int (if g = 0 then szo (fwq (fwp c w b hs 1 (2 ^ c - 1) (sgs c w hs b)) (2 ^ c)) else oI (fwq (fwp c w b hs 1 (2 ^ c - 1) (sgs c w hs b)) (2 ^ c)))), h')) ?_ ?_ (by omega) (Nat.le_refl _)
      · rw [h0] at key; exact key
      · intro _
        rw [e_214_30, H1.v, r_171 H1, cI_s, if_pos (nI_lt (by omega) (by omega))]
        rcases inR_1 x2 with z | z <;> subst z
        · cases x3 : fwq (fwp c w b hs 1 (2 ^ c - 1) (sgs c w hs b)) (2 ^ c) with
          | none => rfl
          | some i =>
            have := fwq_lt _ _ i x3
            rw [if_neg (by decide), show oI (some i) = nI i from rfl, if_neg (nI_m1 (by omega)), r_168 _ (by omega), cI_s]
            rfl
        · rfl
      · intro i hi ih h1i
        have ih := ih (by omega)
        rw [fwq_succ] at ih
        rw [e_214_30, H1.v, r_171 H1, cI_s, if_neg (nI_nlt (by omega) (by omega))]
        have e3 : fwp c w b hs 1 (2 ^ c - 1) (sgs c w hs b) i = decide (sgs c w hs (b ^^^ nI i) = sgs c w hs b) := by
          simp only [fwp]; rw [decide_eq_true h1i, sbq_all hb.2.1 hi]; rfl
        rw [e3] at ih
        have hsg := sgs_lt (c := c) (w := w) (by omega) H1.ok (b ^^^ nI i)
        have hsg2 := sgs_lt (c := c) (w := w) (by omega) H1.ok b
        have e5 : (nI (sgs c w hs (b ^^^ nI i)) = nI (sgs c w hs b)) ↔ decide (sgs c w hs (b ^^^ nI i) = sgs c w hs b) = true := by
          rw [nI_eq (by omega) (by omega)]; simp
        simp only [H1.f2, H1.v, cI_s, r_204 H1 L1, r_168 _ (show i < 2 ^ 31 by omega), nI_1, e5]
        cases x1 : decide (sgs c w hs (b ^^^ nI i) = sgs c w hs b) <;> rw [x1] at ih <;> simp only [if_true, if_false, Bool.false_eq_true]
        all_goals
          cases x3 : fwq (fwp c w b hs 1 (2 ^ c - 1) (sgs c w hs b)) i with
          | none => rw [x3] at ih; simp only [oI, if_true]; exact ih
          | some j =>
            have hj := fwq_lt _ _ j x3
            rw [x3] at ih
            have hm := nI_m1 (show j < 2 ^ 31 by omega)
            rw [show oI (some j) = nI j from rfl, if_neg hm, r_168 _ (show j < 2 ^ 31 by omega), cI_s, H1.f2, H1.v, r_204 H1 L1, cI_s]
            simp only [e5, x1, if_true, if_false, Bool.false_eq_true]
            have q1 := onN_lt i
            have q2 := onN_lt j
            by_cases q : onN i < onN j
            · rw [if_pos (nI_lt q (by omega))]
              simp only [decide_eq_true q] at ih
              exact ih
            · rw [if_neg (nI_nlt (by omega) (by omega))]
              simp only [decide_eq_false q] at ih
              exact ih
def cnq (c w : Nat) (b : Int32) (hs : List Ent) (k : Int32) (i : Nat) : Bool := decide (nI (onN i) = k) && decide (sgs c w hs (b ^^^ nI i) = sgs c w hs b)
theorem q_counts (k : Int32) : PQ c w b hs 99 213 [.int k] := by
  refine ⟨(if inR k 0 12 then nI (cnt (cnq c w b hs k) (2 ^ c)) else -2), ?_, ?_⟩
  · intro d h lc lw ps H
    have hb := H.bd
    have hp := p2c hb.2.1
    rw [e_99]
    simp only [H.o0, H.o1, H.o2, H.o3, H.o4, H.o5, H.o6, H.o7, H.o8, H.o9, H.o10, H.b0, H.b1, H.b2, H.b3, H.b4, H.v3, H.v4, dR_ref, dA_ref, dA_null, dN_ref, dN_null, dD_ref, dD_int, cI_s, cV_s, cR_r, cR_n, cJ_s, bI_0, zr_bI, zr_0, zr_1, c_133, c_16 H]
    cases x2 : inR k 0 12 with
    | false => rfl
    | true =>
      simp only [if_true, if_false, Bool.true_eq_false]
      refine up_ind (n := 2 ^ c) (i := 0) (P := fun i => ex (d + 19) 99 33 [sv (.ref 3), sv (.int k), sv (.int (nI (sgs c w hs b))), sv (.int (nI (cnt (cnq c w b hs k) i))), sv (.int (nI i))] [] h = some (some (.int (nI (cnt (cnq c w b hs k) (2 ^ c)))), h)) ?_ ?_ (by omega)
      · rw [e_99_33]
        simp only [H.o0, H.o1, H.o2, H.o3, H.o4, H.o5, H.o6, H.o7, H.o8, H.o9, H.o10, H.b0, H.b1, H.b2, H.b3, H.b4, H.v3, H.v4, dR_ref, dA_ref, dA_null, dN_ref, dN_null, dD_ref, dD_int, cI_s, cV_s, cR_r, cR_n, cJ_s, bI_0, zr_bI, zr_0, zr_1, c_4 H]
        rw [if_pos (nI_lt (by omega) (by omega))]
      · intro i hi ih
        rw [cnt_succ] at ih
        rw [e_99_33]
        simp only [H.o0, H.o1, H.o2, H.o3, H.o4, H.o5, H.o6, H.o7, H.o8, H.o9, H.o10, H.b0, H.b1, H.b2, H.b3, H.b4, H.v3, H.v4, dR_ref, dA_ref, dA_null, dN_ref, dN_null, dD_ref, dD_int, cI_s, cV_s, cR_r, cR_n, cJ_s, bI_0, zr_bI, zr_0, zr_1, c_4 H, c_260, bc_tab i (by omega), c_20s H, nI_1]
        rw [if_neg (nI_nlt (by omega) (by omega))]
        by_cases q1 : nI (onN i) = k
        · rw [if_pos q1]
          cases x1 : decide (sgs c w hs (b ^^^ nI i) = sgs c w hs b) with
          | false => rw [if_pos rfl]; rw [if_neg (by simp only [cnq]; rw [x1]; simp)] at ih; exact ih
          | true => rw [if_neg (by decide)]; rw [if_pos (by simp only [cnq]; rw [x1, decide_eq_true q1]; rfl)] at ih; exact ih
        · rw [if_neg q1]
          rw [if_neg (by simp only [cnq]; rw [decide_eq_false q1]; simp)] at ih
          exact ih
  · intro d h F A H
    have hb := H.bd
    have hp := p2c hb.2.1
    rw [e_213]
    simp only [dR_ref, dA_ref, dA_null, dN_ref, dN_null, dD_ref, dD_int, cI_s, cV_s, cR_r, cR_n, cJ_s, bI_0, zr_bI, zr_0, zr_1, r_166]
    cases x2 : inR k 0 12 with
    | false => exact ⟨h, F, A, rfl, H, Fr.rf h, SS.rf F A⟩
    | true =>
      obtain ⟨h', A', e1, H1, L1, F1, S1⟩ := r_203 H (d + 15)
      refine ⟨h', F, A', ?_, H1, F1, S1⟩
      simp only [H.v, e1, cV_s, H1.f2, H1.v, r_204 H1 L1, cI_s, if_true, if_false, Bool.true_eq_false]
      refine up_ind (n := 2 ^ c) (i := 0) (P := fun i => ex (d + 19) 213 31 [sv (.ref 28), sv (.int k), sv (.int (nI (sgs c w hs b))), sv (.int (nI (cnt (cnq c w b hs k) i))), sv (.int (nI i))] [] h' = some (some (.int (nI (cnt (cnq c w b hs k) (2 ^ c)))), h')) ?_ ?_ (by omega)
      · rw [e_213_31, H1.v, r_171 H1, cI_s, if_pos (nI_lt (by omega) (by omega))]
      · intro i hi ih
        rw [cnt_succ] at ih
        have hsg := sgs_lt (c := c) (w := w) (by omega) H1.ok (b ^^^ nI i)
        have hsg2 := sgs_lt (c := c) (w := w) (by omega) H1.ok b
        rw [e_213_31, H1.v, r_171 H1, cI_s, if_neg (nI_nlt (by omega) (by omega)), r_168 _ (by omega), cI_s, H1.f2, H1.v, r_204 H1 L1, cI_s, nI_1, nI_1, show (0 : Int32) = nI 0 from rfl, nI_add]
        by_cases q1 : nI (onN i) = k
        · rw [if_pos q1]
          by_cases q2 : sgs c w hs (b ^^^ nI i) = sgs c w hs b
          · rw [if_pos (by rw [q2])]; rw [if_pos (by simp only [cnq]; rw [decide_eq_true q1, decide_eq_true q2]; rfl)] at ih; exact ih
          · rw [if_neg (fun z => q2 ((nI_eq (by omega) (by omega)).1 z))]; rw [if_neg (by simp only [cnq]; rw [decide_eq_false q2]; simp)] at ih; exact ih
        · rw [if_neg q1]
          rw [if_neg (by simp only [cnq]; rw [decide_eq_false q1]; simp)] at ih
          exact ih
end PQS
