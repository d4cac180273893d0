/-! swaps, swept, cuts, moves -/
theorem ixself {b x : Int32} (h : b ^^^ x = b) : x = 0 := by
  have h1 : b ^^^ (b ^^^ x) = b ^^^ b := by rw [h]
  have h2 : b ^^^ b = 0 := by rw [nI_tn b, fa_xor, Nat.xor_self]; rfl
  rw [ixa, h2] at h1
  rw [nI_tn x, show (0 : Int32) = nI 0 from rfl, fa_xor, Nat.zero_xor] at h1
  rw [nI_tn x]; exact h1
/-- unlike neighbours -/
def unl (b : Int32) (i k : Nat) : Bool := bt b i != bt b k
theorem c_7b {c w : Nat} {b : Int32} {hs : List Ent} {h : MHeap} {lc lw : Int32} {ps : List Nat} (H : CB h c w b hs lc lw ps) (d i k : Nat) : call (d + 2) 7 [.ref 4, .int (nI i), .int (nI k)] h = some (some (.int (bI (unl b i k))), h) := c_7 H d (nI i) (nI k)
/-- the lie with two changed about -/
def swd (b : Int32) (i k : Nat) : Int32 := (b ^^^ nI (2 ^ i)) ^^^ nI (2 ^ k)
theorem swd_ne {b : Int32} {i k : Nat} (h : i ≠ k) (hi : i < 30) (hk : k < 30) : swd b i k ≠ b := by
  intro e
  unfold swd at e
  rw [← ixa] at e
  have e1 := ixself e
  rw [fa_xor] at e1
  have p1 : (2 : Nat) ^ i < 2 ^ 31 := Nat.pow_lt_pow_right (by decide) (by omega)
  have p2 : (2 : Nat) ^ k < 2 ^ 31 := Nat.pow_lt_pow_right (by decide) (by omega)
  have e2 := (nI_z (Nat.xor_lt_two_pow p1 p2)).1 e1
  have e3 := congrArg (fun x => x.testBit i) e2
  simp only [Nat.testBit_xor, Nat.testBit_two_pow, Nat.zero_testBit] at e3
  have : ¬ k = i := fun z => h z.symm
  simp [this] at e3
theorem unl_0 (b : Int32) (i k : Nat) : ((b >>> (nI i &&& 31)) &&& 1 = (b >>> (nI k &&& 31)) &&& 1) ↔ unl b i k = false := by
  have h1 := bt_0 b i
  have h2 := bt_0 b k
  have h3 := bt_1 b i
  have h4 := bt_1 b k
  unfold unl
  cases x1 : bt b i <;> cases x2 : bt b k <;> rw [x1] at h1 h3 <;> rw [x2] at h2 h4
  · rw [h1.2 rfl, h2.2 rfl]; decide
  · rw [h1.2 rfl, h4.2 rfl]; decide
  · rw [h3.2 rfl, h2.2 rfl]; decide
  · rw [h3.2 rfl, h4.2 rfl]; decide
theorem r_175 (d : Nat) (b : Int32) {i k : Nat} (h : i ≠ k) (hi : i < 30) (hk : k < 30) (m : MHeap) : call (d + 1) 175 [.int b, .int (nI i), .int (nI k)] m = some (some (.int (if unl b i k then swd b i k else b)), m) := by
  rw [e_175, bit_nI (by omega), bit_nI (by omega), bits2 h, ixa]
  cases x : unl b i k with
  | false => rw [if_pos ((unl_0 b i k).2 x), if_neg (by decide)]
  | true => rw [if_neg (fun z => absurd ((unl_0 b i k).1 z) (by rw [x]; decide)), if_pos rfl]; rfl
section PQS
variable {c w : Nat} {b : Int32} {hs : List Ent}
def swq (c w : Nat) (b : Int32) (hs : List Ent) (a : Int32) (i : Nat) : Bool := unl b i (i + 1) && (if a = 2 then decide (sgs c w hs (swd b i (i + 1)) = 0) else decide (sgs c w hs (swd b i (i + 1)) = sgs c w hs b) == decide (a = 0))
def swf (c w : Nat) (b : Int32) (hs : List Ent) (a : Int32) (i : Nat) (s : Int32) : Int32 := if swq c w b hs a i then s ||| nI (2 ^ i) else s
theorem sgs_nI {c w : Nat} {hs : List Ent} (hn : hs.length ≤ 7) (he : ∀ e ∈ hs, okE e) (l l2 : Int32) : (nI (sgs c w hs l) = nI (sgs c w hs l2)) ↔ sgs c w hs l = sgs c w hs l2 := by
  have h1 := sgs_lt (c := c) (w := w) hn he l
  have h2 := sgs_lt (c := c) (w := w) hn he l2
  exact nI_eq (by omega) (by omega)
theorem sgs_nI0 {c w : Nat} {hs : List Ent} (hn : hs.length ≤ 7) (he : ∀ e ∈ hs, okE e) (l : Int32) : (nI (sgs c w hs l) = 0) ↔ sgs c w hs l = 0 := by
  have h1 := sgs_lt (c := c) (w := w) hn he l
  exact nI_z (by omega)
theorem q_swaps (a : Int32) : PQ c w b hs 109 226 [.int a] := by
  refine ⟨(if inR a 0 2 then lq (swf c w b hs a) (c - 1) 0 0 else -2), ?_, ?_⟩
  · intro d h lc lw ps H
    have hb := H.bd
    have hc1 : nI c - 1 = nI (c - 1) := by rw [show (1 : Int32) = nI 1 from rfl, pk_sub (by omega)]
    simp only [e_109, H.o0, H.o1, H.o2, H.o3, H.o4, H.o5, H.o6, H.o7, H.o8, H.o9, H.o10, H.b0, H.b1, H.b2, H.b3, H.b4, H.v3, H.v4, dR_ref, dA_ref, dA_null, dN_ref, dN_null, dD_ref, dD_int, cI_s, cV_s, cR_r, cR_n, cJ_s, bI_0, bI_1, zr_bI, zr_0, zr_1, eq_self, if_true, if_false, i10, i20, i01, i21, i02, i12, ior0, iad0, Bool.true_eq_false, Bool.false_eq_true, c_133, c_16 H]
    cases x2 : inR a 0 2 with
    | false => rfl
    | true =>
      simp only [dR_ref, dA_ref, dA_null, dN_ref, dN_null, dD_ref, dD_int, cI_s, cV_s, cR_r, cR_n, cJ_s, bI_0, bI_1, zr_bI, zr_0, zr_1, eq_self, if_true, if_false, i10, i20, i01, i21, i02, i12, ior0, iad0, Bool.true_eq_false, Bool.false_eq_true]
      refine lq_in0 (J := MSl × MSl) (swf c w b hs a) (fun i s j => ex (d + 19) 109 32 [sv (.ref 3), sv (.int a), sv (.int (nI (sgs c w hs b))), sv (.int s), sv (.int (nI i)), j.1, j.2] [] h) (fun s => some (some (.int s), h)) (c - 1) ?_ ?_ 0 0 (none, none) (by omega)
      · intro s j
        show ex _ _ _ _ _ _ = _
        rw [e_109_32]
        simp only [H.o0, H.o1, H.o2, H.o3, H.o4, H.o5, H.o6, H.o7, H.o8, H.o9, H.o10, H.b0, H.b1, H.b2, H.b3, H.b4, H.v3, H.v4, dR_ref, dA_ref, dA_null, dN_ref, dN_null, dD_ref, dD_int, cI_s, cV_s, cR_r, cR_n, cJ_s, bI_0, bI_1, zr_bI, zr_0, zr_1, eq_self, if_true, if_false, i10, i20, i01, i21, i02, i12, ior0, iad0, Bool.true_eq_false, Bool.false_eq_true, hc1, if_neg (nI_nlt (Nat.le_refl (c - 1)) (by omega))]
      · intro i s j hi IH
        show ex _ _ _ _ _ _ = _
        rw [e_109_32]
        simp only [H.o0, H.o1, H.o2, H.o3, H.o4, H.o5, H.o6, H.o7, H.o8, H.o9, H.o10, H.b0, H.b1, H.b2, H.b3, H.b4, H.v3, H.v4, dR_ref, dA_ref, dA_null, dN_ref, dN_null, dD_ref, dD_int, cI_s, cV_s, cR_r, cR_n, cJ_s, bI_0, bI_1, zr_bI, zr_0, zr_1, eq_self, if_true, if_false, i10, i20, i01, i21, i02, i12, ior0, iad0, Bool.true_eq_false, Bool.false_eq_true, hc1, if_pos (nI_lt hi (show c - 1 < 2 ^ 31 by omega)), nI_1, c_7b H, e_135, bit_nI (show i < 31 by omega), bit_nI (show i + 1 < 31 by omega), c_20s H, c_21 H]
        have e : (b ^^^ nI (2 ^ i)) ^^^ nI (2 ^ (i + 1)) = swd b i (i + 1) := rfl
        simp only [e]
        unfold swf swq
        cases unl b i (i + 1)
        · exact IH s j
        · rcases inR_2 x2 with z | z | z <;> subst z <;> simp only [dR_ref, dA_ref, dA_null, dN_ref, dN_null, dD_ref, dD_int, cI_s, cV_s, cR_r, cR_n, cJ_s, bI_0, bI_1, zr_bI, zr_0, zr_1, eq_self, if_true, if_false, i10, i20, i01, i21, i02, i12, ior0, iad0, Bool.true_eq_false, Bool.false_eq_true, Bool.true_and]
          · cases decide (sgs c w hs (swd b i (i + 1)) = sgs c w hs b)
            · exact IH s (_, _)
            · exact IH _ (_, _)
          · cases decide (sgs c w hs (swd b i (i + 1)) = sgs c w hs b)
            · exact IH _ (_, _)
            · exact IH s (_, _)
          · cases decide (sgs c w hs (swd b i (i + 1)) = 0)
            · exact IH s (_, _)
            · exact IH _ (_, _)
  · intro d h F A H
    have hb := H.bd
    rw [e_226, r_166, cI_s]
    simp only [bI_0]
    cases x2 : inR a 0 2 with
    | false => exact ⟨h, F, A, rfl, H, Fr.rf h, SS.rf F A⟩
    | true =>
      obtain ⟨h', A', e1, H1, L1, F1, S1⟩ := r_203 H (d + 15)
      refine ⟨h', F, A', ?_, H1, F1, S1⟩
      simp only [H.v, e1, H1.f0, H1.f1, H1.f2, H1.f3, H1.v, dR_ref, dA_ref, dA_null, dN_ref, dN_null, dD_ref, dD_int, cI_s, cV_s, cR_r, cR_n, cJ_s, bI_0, bI_1, zr_bI, zr_0, zr_1, eq_self, if_true, if_false, i10, i20, i01, i21, i02, i12, ior0, iad0, Bool.true_eq_false, Bool.false_eq_true, r_204 H1 L1]
      refine lq_in0 (J := MSl × MSl × MSl) (swf c w b hs a) (fun i s j => ex (d + 19) 226 30 [sv (.ref 28), sv (.int a), sv (.int (nI (sgs c w hs b))), sv (.int s), sv (.int (nI i)), j.1, j.2.1, j.2.2] [] h') (fun s => some (some (.int s), h')) (c - 1) ?_ ?_ 0 0 (none, none, none) (by omega)
      · intro s j
        show ex _ _ _ _ _ _ = _
        rw [e_226_30]
        simp only [H1.f0, H1.f1, H1.f2, H1.f3, H1.v, dR_ref, dA_ref, dA_null, dN_ref, dN_null, dD_ref, dD_int, cI_s, cV_s, cR_r, cR_n, cJ_s, bI_0, bI_1, zr_bI, zr_0, zr_1, eq_self, if_true, if_false, i10, i20, i01, i21, i02, i12, ior0, iad0, Bool.true_eq_false, Bool.false_eq_true, nI_1, if_neg (nI_nlt (show c ≤ c - 1 + 1 by omega) (by omega))]
      · intro i s j hi IH
        show ex _ _ _ _ _ _ = _
        rw [e_226_30]
        simp only [H1.f0, H1.f1, H1.f2, H1.f3, H1.v, dR_ref, dA_ref, dA_null, dN_ref, dN_null, dD_ref, dD_int, cI_s, cV_s, cR_r, cR_n, cJ_s, bI_0, bI_1, zr_bI, zr_0, zr_1, eq_self, if_true, if_false, i10, i20, i01, i21, i02, i12, ior0, iad0, Bool.true_eq_false, Bool.false_eq_true, nI_1, if_pos (nI_lt (show i + 1 < c by omega) (show c < 2 ^ 31 by omega)), r_175 _ b (show i ≠ i + 1 by omega) (show i < 30 by omega) (show i + 1 < 30 by omega), r_204 H1 L1, e_226_126, bit_nI (show i < 31 by omega), sgs_nI (c := c) (w := w) hb.2.2.2.2 H1.ok, sgs_nI0 (c := c) (w := w) hb.2.2.2.2 H1.ok]
        unfold swf swq
        have hne : ¬ swd b i (i + 1) = b := swd_ne (by omega) (by omega) (by omega)
        cases unl b i (i + 1)
        · simp only [dR_ref, dA_ref, dA_null, dN_ref, dN_null, dD_ref, dD_int, cI_s, cV_s, cR_r, cR_n, cJ_s, bI_0, bI_1, zr_bI, zr_0, zr_1, eq_self, if_true, if_false, i10, i20, i01, i21, i02, i12, ior0, iad0, Bool.true_eq_false, Bool.false_eq_true, Bool.false_and]
          exact IH s (_, _, _)
        · rcases inR_2 x2 with z | z | z <;> subst z <;> simp only [dR_ref, dA_ref, dA_null, dN_ref, dN_null, dD_ref, dD_int, cI_s, cV_s, cR_r, cR_n, cJ_s, bI_0, bI_1, zr_bI, zr_0, zr_1, eq_self, if_true, if_false, i10, i20, i01, i21, i02, i12, ior0, iad0, Bool.true_eq_false, Bool.false_eq_true, Bool.true_and, if_neg hne]
          · by_cases q : sgs c w hs (swd b i (i + 1)) = sgs c w hs b
            · rw [if_pos q, decide_eq_true q]; exact IH _ (_, _, _)
            · rw [if_neg q, decide_eq_false q]; exact IH s (_, _, _)
          · by_cases q : sgs c w hs (swd b i (i + 1)) = sgs c w hs b
            · rw [if_pos q, decide_eq_true q]; exact IH s (_, _, _)
            · rw [if_neg q, decide_eq_false q]; exact IH _ (_, _, _)
          · by_cases q : sgs c w hs (swd b i (i + 1)) = 0
            · rw [if_pos q, decide_eq_true q]; exact IH _ (_, _, _)
            · rw [if_neg q, decide_eq_false q]; exact IH s (_, _, _)
/-! swept -/
def spq (c w : Nat) (b : Int32) (hs : List Ent) (row : Nat) (i : Nat) : Bool := sbq row i && decide (sgs c w hs ((b &&& (nI row ^^^ -1)) ||| nI i) = 0)
def spf (c w : Nat) (b : Int32) (hs : List Ent) (row : Nat) (i : Nat) (s : Nat × Option Nat) : Nat × Option Nat := if spq c w b hs row i then (s.1 + 1, match s.2 with
  | none => some i
  | some j => some j) else s
def spv (c w : Nat) (b : Int32) (hs : List Ent) (row : Nat) : Nat × Option Nat := lq (spf c w b hs row) (2 ^ c) 0 (0, none)
def spR (b g : Int32) (row : Nat) (s : Nat × Option Nat) : Int32 := if g = 2 then (if nI s.1 = 1 then (if oI s.2 = b &&& nI row then 1 else 0) else 0) else if g = 0 then nI s.1 else oI s.2
def spI (i : Nat) (s : Nat × Option Nat) : Prop := s.1 ≤ i ∧ (s.1 = 0 ↔ s.2 = none) ∧ ∀ j, s.2 = some j → j < i
theorem sp_inv {row i : Nat} {s : Nat × Option Nat} (h : spI i s) : spI (i + 1) (spf c w b hs row i s) := by
  obtain ⟨h1, h2, h3⟩ := h
  unfold spf
  split
  · refine ⟨by show s.1 + 1 ≤ i + 1; omega, ?_, ?_⟩
    · constructor
      · intro e; exact absurd e (by show ¬ s.1 + 1 = 0; omega)
      · intro e
        cases x : s.2 <;> simp [x] at e
    · intro j hj
      cases x : s.2 with
      | none => simp [x] at hj; omega
      | some k => simp [x] at hj; have := h3 k x; omega
  · exact ⟨by omega, h2, fun j hj => by have := h3 j hj; omega⟩
theorem row_0 (hc : 0 < c) (hc2 : c ≤ 12) (hw : 0 < w) (a : Int32) : (nI (otq (rwq w a) c) = 0) ↔ inR a 0 (nI ((c - 1) / w)) = false := by
  have hp := p2c hc2
  have hl := otq_lt (rwq w a) c
  rw [nI_z (by omega)]
  have hd : (c - 1) / w ≤ c - 1 := Nat.div_le_self _ _
  constructor
  · intro e
    cases x : inR a 0 (nI ((c - 1) / w)) with
    | false => rfl
    | true =>
      obtain ⟨j, hj, rfl⟩ := inR_of (by omega) x
      have h1 : j * w ≤ c - 1 := by
        have := (Nat.le_div_iff_mul_le hw).1 hj
        exact this
      have h2 : (otq (rwq w (nI j)) c).testBit (j * w) = true := by
        rw [otq_bit]
        simp only [rwq, Nat.mul_div_cancel j hw, decide_true, Bool.and_true]
        exact decide_eq_true (by omega)
      rw [e, Nat.zero_testBit] at h2
      cases h2
  · intro e
    apply Nat.eq_of_testBit_eq
    intro i
    rw [otq_bit, Nat.zero_testBit]
    by_cases hi : i < c
    · by_cases q : nI (i / w) = a
      · exfalso
        have h1 : i / w ≤ (c - 1) / w := Nat.div_le_div_right (by omega)
        rw [← q, inR_nI (by omega) (by omega), decide_eq_true h1] at e
        cases e
      · simp [rwq, q]
    · simp [hi]
theorem q_swept (a g : Int32) : PQ c w b hs 110 227 [.int a, .int g] := by
  refine ⟨(if nI (otq (rwq w a) c) = 0 then -5 else if inR g 0 2 then spR b g (otq (rwq w a) c) (spv c w b hs (otq (rwq w a) c)) else -7), ?_, ?_⟩
  · intro d h lc lw ps H
    have hb := H.bd
    have hp := p2c hb.2.1
    have hl := otq_lt (rwq w a) c
    simp only [e_110, H.o0, H.o1, H.o2, H.o3, H.o4, H.o5, H.o6, H.o7, H.o8, H.o9, H.o10, H.b0, H.b1, H.b2, H.b3, H.b4, H.v3, H.v4, dR_ref, dA_ref, dA_null, dN_ref, dN_null, dD_ref, dD_int, cI_s, cV_s, cR_r, cR_n, cJ_s, bI_0, bI_1, zr_bI, zr_0, zr_1, eq_self, if_true, if_false, i10, i20, i01, i21, i02, i12, ior0, iad0, Bool.true_eq_false, Bool.false_eq_true, c_8 H, c_133]
    by_cases q0 : nI (otq (rwq w a) c) = 0
    · rw [if_pos q0, if_pos q0]
    · rw [if_neg q0, if_neg q0]
      cases x2 : inR g 0 2 with
      | false => rfl
      | true =>
        simp only [dR_ref, dA_ref, dA_null, dN_ref, dN_null, dD_ref, dD_int, cI_s, cV_s, cR_r, cR_n, cJ_s, bI_0, bI_1, zr_bI, zr_0, zr_1, eq_self, if_true, if_false, i10, i20, i01, i21, i02, i12, ior0, iad0, Bool.true_eq_false, Bool.false_eq_true]
        generalize otq (rwq w a) c = row at hl
        have e0 : spv c w b hs row = lq (spf c w b hs row) (row + 1) 0 (0, none) := lq_skip (by omega) (fun i s h1 h2 => by unfold spf spq; rw [sbq_gt (by omega) (by omega)]; rfl)
        rw [e0]
        refine lq_ind (J := Unit) (spf c w b hs row) (fun i s _ => ex (d + 19) 110 50 [sv (.ref 3), sv (.int a), sv (.int g), sv (.int (nI row)), sv (.int (b &&& (nI row ^^^ -1))), sv (.int (nI s.1)), sv (.int (oI s.2)), sv (.int (nI i))] [] h) (fun s => some (some (.int (spR b g row s)), h)) (row + 1) spI ?_ ?_ 0 (0, none) () (by omega) ⟨by decide, by decide, fun j hj => by cases hj⟩
        · intro s _ hI
          show ex _ _ _ _ _ _ = _
          rw [e_110_50]
          simp only [H.o0, H.o1, H.o2, H.o3, H.o4, H.o5, H.o6, H.o7, H.o8, H.o9, H.o10, H.b0, H.b1, H.b2, H.b3, H.b4, H.v3, H.v4, dR_ref, dA_ref, dA_null, dN_ref, dN_null, dD_ref, dD_int, cI_s, cV_s, cR_r, cR_n, cJ_s, bI_0, bI_1, zr_bI, zr_0, zr_1, eq_self, if_true, if_false, i10, i20, i01, i21, i02, i12, ior0, iad0, Bool.true_eq_false, Bool.false_eq_true, if_pos (nI_lt (show row < row + 1 by omega) (show row + 1 < 2 ^ 31 by omega))]
          unfold spR
          rcases inR_2 x2 with z | z | z <;> subst z <;> simp only [dR_ref, dA_ref, dA_null, dN_ref, dN_null, dD_ref, dD_int, cI_s, cV_s, cR_r, cR_n, cJ_s, bI_0, bI_1, zr_bI, zr_0, zr_1, eq_self, if_true, if_false, i10, i20, i01, i21, i02, i12, ior0, iad0, Bool.true_eq_false, Bool.false_eq_true]
          by_cases q1 : nI s.1 = 1
          · rw [if_pos q1, if_pos q1]
            by_cases q2 : oI s.2 = b &&& nI row
            · rw [if_pos q2, if_pos q2]
            · rw [if_neg q2, if_neg q2]
          · rw [if_neg q1, if_neg q1]
        · intro i s _ hi hI IH
          show ex _ _ _ _ _ _ = _
          rw [e_110_50]
          simp only [H.o0, H.o1, H.o2, H.o3, H.o4, H.o5, H.o6, H.o7, H.o8, H.o9, H.o10, H.b0, H.b1, H.b2, H.b3, H.b4, H.v3, H.v4, dR_ref, dA_ref, dA_null, dN_ref, dN_null, dD_ref, dD_int, cI_s, cV_s, cR_r, cR_n, cJ_s, bI_0, bI_1, zr_bI, zr_0, zr_1, eq_self, if_true, if_false, i10, i20, i01, i21, i02, i12, ior0, iad0, Bool.true_eq_false, Bool.false_eq_true, if_neg (nI_nlt (show i ≤ row by omega) (show row < 2 ^ 31 by omega)), nI_1, c_21 H]
          have hI' := sp_inv (c := c) (w := w) (b := b) (hs := hs) (row := row) hI
          have e4 : (nI i &&& (nI row ^^^ -1) = 0) ↔ sbq row i = true := by simp [sbq]
          obtain ⟨h1, h2, h3⟩ := hI
          simp only [e4, nI_z (show s.1 < 2 ^ 31 by omega)]
          unfold spf spq at hI' ⊢
          cases x1 : sbq row i <;> cases x3 : decide (sgs c w hs ((b &&& (nI row ^^^ -1)) ||| nI i) = 0) <;> simp only [x1, x3, dR_ref, dA_ref, dA_null, dN_ref, dN_null, dD_ref, dD_int, cI_s, cV_s, cR_r, cR_n, cJ_s, bI_0, bI_1, zr_bI, zr_0, zr_1, eq_self, if_true, if_false, i10, i20, i01, i21, i02, i12, ior0, iad0, Bool.true_eq_false, Bool.false_eq_true, Bool.and_true, Bool.and_false] at hI' ⊢
          · exact IH s () hI'
          · exact IH s () hI'
          · exact IH s () hI'
          · cases x4 : s.2 with
            | none =>
              rw [if_pos (h2.2 x4)]
              rw [x4] at hI'
              exact IH (_, some i) () hI'
            | some k =>
              rw [if_neg (fun z => by rw [h2.1 z] at x4; cases x4)]
              rw [x4] at hI'
              exact IH (_, some k) () hI'
  · intro d h F A H
    have hb := H.bd
    have hp := p2c hb.2.1
    have hl := otq_lt (rwq w a) c
    have hc1 : nI c - 1 = nI (c - 1) := by rw [show (1 : Int32) = nI 1 from rfl, pk_sub (by omega)]
    have hr0 := row_0 (w := w) hb.1 hb.2.1 hb.2.2.1 a
    rw [e_227]
    simp only [H.f0, H.f1, dv, nI_ne0 (show 0 < w by omega) (by omega), dR_ref, dA_ref, dA_null, dN_ref, dN_null, dD_ref, dD_int, cI_s, cV_s, cR_r, cR_n, cJ_s, bI_0, bI_1, zr_bI, zr_0, zr_1, eq_self, if_true, if_false, i10, i20, i01, i21, i02, i12, ior0, iad0, Bool.true_eq_false, Bool.false_eq_true, hc1, pk_div (show c - 1 < 2 ^ 31 by omega) (show 0 < w by omega) (by omega), r_166]
    by_cases q0 : nI (otq (rwq w a) c) = 0
    · rw [if_pos (hr0.1 q0), if_pos q0]
      exact ⟨h, F, A, rfl, H, Fr.rf h, SS.rf F A⟩
    · rw [if_neg (fun z => q0 (hr0.2 z)), if_neg q0]
      cases x2 : inR g 0 2 with
      | false => exact ⟨h, F, A, rfl, H, Fr.rf h, SS.rf F A⟩
      | true =>
        obtain ⟨h', A', e1, H1, L1, F1, S1⟩ := r_203 H (d + 15)
        refine ⟨h', F, A', ?_, H1, F1, S1⟩
        simp only [H.v, e1, dR_ref, dA_ref, dA_null, dN_ref, dN_null, dD_ref, dD_int, cI_s, cV_s, cR_r, cR_n, cJ_s, bI_0, bI_1, zr_bI, zr_0, zr_1, eq_self, if_true, if_false, i10, i20, i01, i21, i02, i12, ior0, iad0, Bool.true_eq_false, Bool.false_eq_true]
        have step : ex (d + 19) 227 43 [sv (.ref 28), sv (.int a), sv (.int g), sv (.int 0), sv (.int 0), none, none] [] h' = ex (d + 19) 227 89 [sv (.ref 28), sv (.int a), sv (.int g), sv (.int (nI (otq (rwq w a) c))), sv (.int 0), sv (.int (-1)), sv (.int 0)] [] h' := by
          refine up_ind (n := c) (i := 0) (P := fun i => ex (d + 19) 227 43 [sv (.ref 28), sv (.int a), sv (.int g), sv (.int (nI (otq (rwq w a) i))), sv (.int (nI i)), none, none] [] h' = _) ?_ ?_ (by omega)
          · rw [e_227_43, H1.f0, if_neg (nI_nlt (Nat.le_refl _) (by omega))]
          · intro i hi ih
            rw [otq_succ] at ih
            show ex _ _ _ _ _ _ = _
            rw [e_227_43]
            simp only [H1.f0, H1.f1, H1.f2, H1.f3, H1.v, dv, nI_ne0 (show 0 < w by omega) (show w < 2 ^ 31 by omega), dR_ref, dA_ref, dA_null, dN_ref, dN_null, dD_ref, dD_int, cI_s, cV_s, cR_r, cR_n, cJ_s, bI_0, bI_1, zr_bI, zr_0, zr_1, eq_self, if_true, if_false, i10, i20, i01, i21, i02, i12, ior0, iad0, Bool.true_eq_false, Bool.false_eq_true, if_pos (nI_lt hi (show c < 2 ^ 31 by omega)), nI_1, pk_div (show i < 2 ^ 31 by omega) (show 0 < w by omega) (show w < 2 ^ 31 by omega), bit_nI (show i < 31 by omega), fa_or]
            by_cases q : nI (i / w) = a
            · rw [if_pos q]
              rw [if_pos (by simp [rwq, q])] at ih
              exact ih
            · rw [if_neg q]
              rw [if_neg (by simp [rwq, q]), Nat.or_zero] at ih
              exact ih
        rw [step]
        generalize otq (rwq w a) c = row at hl
        refine lq_ind (J := Unit) (spf c w b hs row) (fun i s _ => ex (d + 19) 227 89 [sv (.ref 28), sv (.int a), sv (.int g), sv (.int (nI row)), sv (.int (nI s.1)), sv (.int (oI s.2)), sv (.int (nI i))] [] h') (fun s => some (some (.int (spR b g row s)), h')) (2 ^ c) spI ?_ ?_ 0 (0, none) () (by omega) ⟨by decide, by decide, fun j hj => by cases hj⟩
        · intro s _ hI
          show ex _ _ _ _ _ _ = _
          rw [e_227_89]
          simp only [H1.f0, H1.f1, H1.f2, H1.f3, H1.v, dR_ref, dA_ref, dA_null, dN_ref, dN_null, dD_ref, dD_int, cI_s, cV_s, cR_r, cR_n, cJ_s, bI_0, bI_1, zr_bI, zr_0, zr_1, eq_self, if_true, if_false, i10, i20, i01, i21, i02, i12, ior0, iad0, Bool.true_eq_false, Bool.false_eq_true, r_171 H1, if_pos (nI_lt (show 2 ^ c - 1 < 2 ^ c by omega) (show 2 ^ c < 2 ^ 31 by omega))]
          unfold spR
          rcases inR_2 x2 with z | z | z <;> subst z <;> simp only [dR_ref, dA_ref, dA_null, dN_ref, dN_null, dD_ref, dD_int, cI_s, cV_s, cR_r, cR_n, cJ_s, bI_0, bI_1, zr_bI, zr_0, zr_1, eq_self, if_true, if_false, i10, i20, i01, i21, i02, i12, ior0, iad0, Bool.true_eq_false, Bool.false_eq_true]
          by_cases q1 : nI s.1 = 1
          · rw [if_pos q1, if_pos q1]
            by_cases q2 : oI s.2 = b &&& nI row
            · rw [if_pos q2, if_pos q2]
            · rw [if_neg q2, if_neg q2]
          · rw [if_neg q1, if_neg q1]
        · intro i s _ hi hI IH
          show ex _ _ _ _ _ _ = _
          rw [e_227_89]
          simp only [H1.f0, H1.f1, H1.f2, H1.f3, H1.v, dR_ref, dA_ref, dA_null, dN_ref, dN_null, dD_ref, dD_int, cI_s, cV_s, cR_r, cR_n, cJ_s, bI_0, bI_1, zr_bI, zr_0, zr_1, eq_self, if_true, if_false, i10, i20, i01, i21, i02, i12, ior0, iad0, Bool.true_eq_false, Bool.false_eq_true, r_171 H1, if_neg (nI_nlt (show i ≤ 2 ^ c - 1 by omega) (show 2 ^ c - 1 < 2 ^ 31 by omega)), nI_1, r_209 H1 L1]
          have hI' := sp_inv (c := c) (w := w) (b := b) (hs := hs) (row := row) hI
          have e4 : (nI i &&& (nI row ^^^ -1) = 0) ↔ sbq row i = true := by simp [sbq]
          obtain ⟨h1, h2, h3⟩ := hI
          simp only [e4]
          unfold spf spq at hI' ⊢
          cases x1 : sbq row i <;> cases x3 : decide (sgs c w hs ((b &&& (nI row ^^^ -1)) ||| nI i) = 0) <;> simp only [x1, x3, dR_ref, dA_ref, dA_null, dN_ref, dN_null, dD_ref, dD_int, cI_s, cV_s, cR_r, cR_n, cJ_s, bI_0, bI_1, zr_bI, zr_0, zr_1, eq_self, if_true, if_false, i10, i20, i01, i21, i02, i12, ior0, iad0, Bool.true_eq_false, Bool.false_eq_true, Bool.and_true, Bool.and_false] at hI' ⊢
          · exact IH s () hI'
          · exact IH s () hI'
          · exact IH s () hI'
          · cases x4 : s.2 with
            | none =>
              rw [if_pos (show oI none = -1 from rfl)]
              rw [x4] at hI'
              exact IH (_, some i) () hI'
            | some k =>
              have := h3 k x4
              rw [if_neg (show ¬ oI (some k) = -1 from nI_m1 (by omega))]
              rw [x4] at hI'
              exact IH (_, some k) () hI'
end PQS
