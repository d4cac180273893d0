/-! cuts, moves, told, taken, evening, odds -/
/-- the first n cards behind the others -/
def ctN (c B n : Nat) : Nat := B / 2 ^ n ||| B % 2 ^ n * 2 ^ (c - n)
theorem ct_eq {c B n : Nat} (hn : n ≤ c) (hB : B < 2 ^ c) : (B / 2 ^ n ||| B * 2 ^ (c - n)) &&& (2 ^ c - 1) = ctN c B n := by
  unfold ctN
  apply Nat.eq_of_testBit_eq
  intro i
  have z : ∀ j, c ≤ j → B.testBit j = false := fun j hj => Nat.testBit_lt_two_pow (Nat.lt_of_lt_of_le hB (Nat.pow_le_pow_right (by decide) hj))
  rw [Nat.testBit_and, Nat.testBit_or, Nat.testBit_or, Nat.testBit_two_pow_sub_one, Nat.testBit_div_two_pow, Nat.testBit_mul_two_pow, Nat.testBit_mul_two_pow, Nat.testBit_mod_two_pow]
  by_cases h1 : i < c
  · by_cases h2 : c - n ≤ i
    · have : i - (c - n) < n := by omega
      simp [h1, h2, this]
    · simp [h1, h2]
  · rw [z (i + n) (by omega)]
    have : ¬ i - (c - n) < n := by omega
    simp [h1, this]
theorem ct_lt {c B n : Nat} (hn : n ≤ c) (hB : B < 2 ^ c) : ctN c B n < 2 ^ c := by
  have h0 : 0 < 2 ^ c := Nat.two_pow_pos _
  rw [← ct_eq hn hB]
  have := Nat.and_le_right (n := B / 2 ^ n ||| B * 2 ^ (c - n)) (m := 2 ^ c - 1)
  omega
theorem shl_cN {c B k : Nat} (hc : c ≤ 12) (hB : B < 2 ^ c) (hk : k ≤ 12) : nI B <<< (nI k &&& 31) = nI (B * 2 ^ k) := by
  have hp := p2c hc
  have h2 : (2 : Nat) ^ k ≤ 2 ^ 12 := Nat.pow_le_pow_right (by decide) hk
  exact shl_nI (by omega) (Nat.lt_of_le_of_lt (Nat.mul_le_mul (show B ≤ 4096 by omega) h2) (by decide))
section PQS
variable {c w B : Nat} {hs : List Ent}
theorem c_9 {h : MHeap} {lc lw : Int32} {ps : List Nat} (H : CB h c w (nI B) hs lc lw ps) (hB : B < 2 ^ c) (d : Nat) {n : Nat} (hn : n ≤ c) : call (d + 2) 9 [.ref 4, .int (nI n)] h = some (some (.int (nI (ctN c B n))), h) := by
  have hb := H.bd
  have hp := p2c hb.2.1
  have h3 : 0 < 2 ^ n := Nat.two_pow_pos _
  have hm : B % 2 ^ n < 2 ^ c := Nat.lt_of_le_of_lt (Nat.mod_le _ _) hB
  rw [e_9, e_136]
  simp only [H.o0, H.o1, H.o2, H.o3, H.o4, H.o5, H.o6, H.o7, H.o8, H.o9, H.o10, H.b0, H.b1, H.b2, H.b3, H.b4, H.v3, H.v4, dR_ref, dA_ref, dA_null, dN_ref, dN_null, dD_ref, dD_int, cI_s, cV_s, cR_r, cR_n, cJ_s, bI_0, bI_1, zr_bI, zr_0, zr_1, eq_self, if_true, if_false, i10, i20, i01, i21, i02, i12, ior0, iad0, Bool.true_eq_false, Bool.false_eq_true]
  rw [bit_nI (by omega), show (1 : Int32) = nI 1 from rfl, pk_sub (by omega), fa_and, pk_sub hn, Nat.and_two_pow_sub_one_eq_mod, shl_cN hb.2.1 hm (by omega), shr_nI (by omega) (by omega), fa_or]
  rfl
theorem r_228 {h : MHeap} {F : Nat → Int32} {A : Nat → List Int32} (H : RB h F A c w (nI B) hs) (hB : B < 2 ^ c) (d : Nat) {n : Nat} (hn : n ≤ c) : call (d + 2) 228 [.ref 28, .int (nI n)] h = some (some (.int (nI (ctN c B n))), h) := by
  have hb := H.bd
  have hp := p2c hb.2.1
  rw [e_228]
  simp only [H.f0, H.f2, H.v, dR_ref, dA_ref, dA_null, dN_ref, dN_null, dD_ref, dD_int, cI_s, cV_s, cR_r, cR_n, cJ_s, bI_0, bI_1, zr_bI, zr_0, zr_1, eq_self, if_true, if_false, i10, i20, i01, i21, i02, i12, ior0, iad0, Bool.true_eq_false, Bool.false_eq_true, r_171 H]
  rw [pk_sub hn, shl_cN hb.2.1 hB (by omega), shr_nI (by omega) (by omega), fa_or, fa_and, ct_eq hn hB]
def ctq (c w B : Nat) (hs : List Ent) (a : Int32) (i : Nat) : Bool := if a = 2 then decide (nI (ctN c B i) = nI B) else decide (sgs c w hs (nI (ctN c B i)) = if a = 0 then sgs c w hs (nI B) else 0)
def ctf (c w B : Nat) (hs : List Ent) (a : Int32) (i : Nat) (s : Int32) : Int32 := if ctq c w B hs a i then s ||| nI (2 ^ i) else s
theorem q_cuts (hB : B < 2 ^ c) (a : Int32) : PQ c w (nI B) hs 112 230 [.int a] := by
  refine ⟨(if inR a 0 2 then lq (ctf c w B hs a) (c - 1) 1 0 else -2), ?_, ?_⟩
  · intro d h lc lw ps H
    have hb := H.bd
    simp only [e_112, H.o0, H.o1, H.o2, H.o3, H.o4, H.o5, H.o6, H.o7, H.o8, H.o9, H.o10, H.b0, H.b1, H.b2, H.b3, H.b4, H.v3, H.v4, dR_ref, dA_ref, dA_null, dN_ref, dN_null, dD_ref, dD_int, cI_s, cV_s, cR_r, cR_n, cJ_s, bI_0, bI_1, zr_bI, zr_0, zr_1, eq_self, if_true, if_false, i10, i20, i01, i21, i02, i12, ior0, iad0, Bool.true_eq_false, Bool.false_eq_true, c_133, c_16 H]
    cases x2 : inR a 0 2 with
    | false => rfl
    | true =>
      simp only [dR_ref, dA_ref, dA_null, dN_ref, dN_null, dD_ref, dD_int, cI_s, cV_s, cR_r, cR_n, cJ_s, bI_0, bI_1, zr_bI, zr_0, zr_1, eq_self, if_true, if_false, i10, i20, i01, i21, i02, i12, ior0, iad0, Bool.true_eq_false, Bool.false_eq_true]
      refine lq_in0 (J := MSl × MSl) (ctf c w B hs a) (fun i s j => ex (d + 19) 112 32 [sv (.ref 3), sv (.int a), sv (.int (nI (sgs c w hs (nI B)))), sv (.int s), sv (.int (nI i)), j.1, j.2] [] h) (fun s => some (some (.int s), h)) c ?_ ?_ 1 0 (none, none) (by omega)
      · intro s j
        show ex _ _ _ _ _ _ = _; rw [e_112_32]
        simp only [H.o0, H.o1, H.o2, H.o3, H.o4, H.o5, H.o6, H.o7, H.o8, H.o9, H.o10, H.b0, H.b1, H.b2, H.b3, H.b4, H.v3, H.v4, dR_ref, dA_ref, dA_null, dN_ref, dN_null, dD_ref, dD_int, cI_s, cV_s, cR_r, cR_n, cJ_s, bI_0, bI_1, zr_bI, zr_0, zr_1, eq_self, if_true, if_false, i10, i20, i01, i21, i02, i12, ior0, iad0, Bool.true_eq_false, Bool.false_eq_true, if_neg (nI_nlt (Nat.le_refl c) (by omega))]
      · intro i s j hi IH
        show ex _ _ _ _ _ _ = _; rw [e_112_32]
        simp only [H.o0, H.o1, H.o2, H.o3, H.o4, H.o5, H.o6, H.o7, H.o8, H.o9, H.o10, H.b0, H.b1, H.b2, H.b3, H.b4, H.v3, H.v4, dR_ref, dA_ref, dA_null, dN_ref, dN_null, dD_ref, dD_int, cI_s, cV_s, cR_r, cR_n, cJ_s, bI_0, bI_1, zr_bI, zr_0, zr_1, eq_self, if_true, if_false, i10, i20, i01, i21, i02, i12, ior0, iad0, Bool.true_eq_false, Bool.false_eq_true, if_pos (nI_lt hi (show c < 2 ^ 31 by omega)), nI_1, c_9 H hB _ (show i ≤ c by omega), e_135, bit_nI (show i < 31 by omega), c_20s H, c_20z H]
        unfold ctf ctq
        rcases inR_2 x2 with z | z | z <;> subst z <;> simp only [dR_ref, dA_ref, dA_null, dN_ref, dN_null, dD_ref, dD_int, cI_s, cV_s, cR_r, cR_n, cJ_s, bI_0, bI_1, zr_bI, zr_0, zr_1, eq_self, if_true, if_false, i10, i20, i01, i21, i02, i12, ior0, iad0, Bool.true_eq_false, Bool.false_eq_true]
        · cases decide (sgs c w hs (nI (ctN c B i)) = sgs c w hs (nI B))
          · exact IH s (_, _)
          · exact IH _ (_, _)
        · cases decide (sgs c w hs (nI (ctN c B i)) = 0)
          · exact IH s (_, _)
          · exact IH _ (_, _)
        · by_cases q : nI (ctN c B i) = nI B
          · rw [if_pos q, decide_eq_true q]; exact IH _ (_, _)
          · rw [if_neg q, decide_eq_false q]; exact IH s (_, _)
  · intro d h F A H
    have hb := H.bd
    rw [e_230, r_166, cI_s]
    simp only [bI_0]
    cases x2 : inR a 0 2 with
    | false => exact ⟨h, F, A, rfl, H, Fr.rf h, SS.rf F A⟩
    | true =>
      obtain ⟨h', A', e1, H1, L1, F1, S1⟩ := r_203 H (d + 15)
      refine ⟨h', F, A', ?_, H1, F1, S1⟩
      simp only [H.v, e1, H1.f0, H1.f1, H1.f2, H1.f3, H1.v, dR_ref, dA_ref, dA_null, dN_ref, dN_null, dD_ref, dD_int, cI_s, cV_s, cR_r, cR_n, cJ_s, bI_0, bI_1, zr_bI, zr_0, zr_1, eq_self, if_true, if_false, i10, i20, i01, i21, i02, i12, ior0, iad0, Bool.true_eq_false, Bool.false_eq_true, r_204 H1 L1]
      refine lq_in0 (J := MSl × MSl) (ctf c w B hs a) (fun i s j => ex (d + 19) 230 30 [sv (.ref 28), sv (.int a), sv (.int (nI (sgs c w hs (nI B)))), sv (.int s), sv (.int (nI i)), j.1, j.2] [] h') (fun s => some (some (.int s), h')) c ?_ ?_ 1 0 (none, none) (by omega)
      · intro s j
        show ex _ _ _ _ _ _ = _; rw [e_230_30]
        simp only [H1.f0, H1.f1, H1.f2, H1.f3, H1.v, dR_ref, dA_ref, dA_null, dN_ref, dN_null, dD_ref, dD_int, cI_s, cV_s, cR_r, cR_n, cJ_s, bI_0, bI_1, zr_bI, zr_0, zr_1, eq_self, if_true, if_false, i10, i20, i01, i21, i02, i12, ior0, iad0, Bool.true_eq_false, Bool.false_eq_true, if_neg (nI_nlt (Nat.le_refl c) (by omega))]
      · intro i s j hi IH
        show ex _ _ _ _ _ _ = _; rw [e_230_30]
        simp only [H1.f0, H1.f1, H1.f2, H1.f3, H1.v, dR_ref, dA_ref, dA_null, dN_ref, dN_null, dD_ref, dD_int, cI_s, cV_s, cR_r, cR_n, cJ_s, bI_0, bI_1, zr_bI, zr_0, zr_1, eq_self, if_true, if_false, i10, i20, i01, i21, i02, i12, ior0, iad0, Bool.true_eq_false, Bool.false_eq_true, nI_1, if_pos (nI_lt hi (show c < 2 ^ 31 by omega)), r_228 H1 hB _ (show i ≤ c by omega), r_204 H1 L1, r_209 H1 L1, bit_nI (show i < 31 by omega), sgs_nI (c := c) (w := w) hb.2.2.2.2 H1.ok]
        unfold ctf ctq
        rcases inR_2 x2 with z | z | z <;> subst z <;> simp only [dR_ref, dA_ref, dA_null, dN_ref, dN_null, dD_ref, dD_int, cI_s, cV_s, cR_r, cR_n, cJ_s, bI_0, bI_1, zr_bI, zr_0, zr_1, eq_self, if_true, if_false, i10, i20, i01, i21, i02, i12, ior0, iad0, Bool.true_eq_false, Bool.false_eq_true]
        · by_cases q : sgs c w hs (nI (ctN c B i)) = sgs c w hs (nI B)
          · rw [if_pos q, decide_eq_true q]; exact IH _ (_, _)
          · rw [if_neg q, decide_eq_false q]; exact IH s (_, _)
        · cases decide (sgs c w hs (nI (ctN c B i)) = 0)
          · exact IH s (_, _)
          · exact IH _ (_, _)
        · by_cases q : nI (ctN c B i) = nI B
          · rw [if_pos q, decide_eq_true q]; exact IH _ (_, _)
          · rw [if_neg q, decide_eq_false q]; exact IH s (_, _)
end PQS
section PQS2
variable {c w : Nat} {b : Int32} {hs : List Ent}
def mvd (b : Int32) (i k : Int32) : Int32 := ((((b &&& (((1 : Int32) <<< (i &&& 31)) - 1)) ||| ((b >>> ((i + 1) &&& 31)) <<< (i &&& 31))) &&& (((1 : Int32) <<< (k &&& 31)) - 1)) ||| (((b >>> (i &&& 31)) &&& 1) <<< (k &&& 31))) ||| ((((b &&& (((1 : Int32) <<< (i &&& 31)) - 1)) ||| ((b >>> ((i + 1) &&& 31)) <<< (i &&& 31))) >>> (k &&& 31)) <<< ((k + 1) &&& 31))
theorem c_10 {h : MHeap} {lc lw : Int32} {ps : List Nat} (H : CB h c w b hs lc lw ps) (d : Nat) (i k : Int32) : call (d + 2) 10 [.ref 4, .int i, .int k] h = some (some (.int (mvd b i k)), h) := by
  rw [e_10]
  simp only [H.o0, H.o1, H.o2, H.o3, H.o4, H.o5, H.o6, H.o7, H.o8, H.o9, H.o10, H.b0, H.b1, H.b2, H.b3, H.b4, H.v3, H.v4, dR_ref, dA_ref, dA_null, dN_ref, dN_null, dD_ref, dD_int, cI_s, cV_s, cR_r, cR_n, cJ_s, bI_0, bI_1, zr_bI, zr_0, zr_1, eq_self, if_true, if_false, i10, i20, i01, i21, i02, i12, ior0, iad0, Bool.true_eq_false, Bool.false_eq_true, e_136]
  rfl
theorem r_231 {h : MHeap} {F : Nat → Int32} {A : Nat → List Int32} (H : RB h F A c w b hs) (d : Nat) (i k : Int32) : call (d + 1) 231 [.ref 28, .int i, .int k] h = some (some (.int (mvd b i k)), h) := by
  rw [e_231]
  simp only [H.f2]
  rfl
def mvq (c w : Nat) (b : Int32) (hs : List Ent) (a : Int32) (i k : Nat) : Bool := !decide (mvd b (nI i) (nI k) = b) && (decide (sgs c w hs (mvd b (nI i) (nI k)) = sgs c w hs b) == decide (a = 1))
def mvf (c w : Nat) (b : Int32) (hs : List Ent) (a : Int32) (i k : Nat) (s : Int32) : Int32 := if mvq c w b hs a i k then s + 1 else s
def mvg (c w : Nat) (b : Int32) (hs : List Ent) (a : Int32) (i : Nat) (s : Int32) : Int32 := lq (mvf c w b hs a i) c 0 s
theorem q_moves (a : Int32) : PQ c w b hs 114 233 [.int a] := by
  refine ⟨(if inR a 0 1 then lq (mvg c w b hs a) c 0 0 else -2), ?_, ?_⟩
  · intro d h lc lw ps H
    have hb := H.bd
    simp only [e_114, H.o0, H.o1, H.o2, H.o3, H.o4, H.o5, H.o6, H.o7, H.o8, H.o9, H.o10, H.b0, H.b1, H.b2, H.b3, H.b4, H.v3, H.v4, dR_ref, dA_ref, dA_null, dN_ref, dN_null, dD_ref, dD_int, cI_s, cV_s, cR_r, cR_n, cJ_s, bI_0, bI_1, zr_bI, zr_0, zr_1, eq_self, if_true, if_false, i10, i20, i01, i21, i02, i12, ior0, iad0, Bool.true_eq_false, Bool.false_eq_true, c_133, c_16 H]
    cases x2 : inR a 0 1 with
    | false => rfl
    | true =>
      simp only [dR_ref, dA_ref, dA_null, dN_ref, dN_null, dD_ref, dD_int, cI_s, cV_s, cR_r, cR_n, cJ_s, bI_0, bI_1, zr_bI, zr_0, zr_1, eq_self, if_true, if_false, i10, i20, i01, i21, i02, i12, ior0, iad0, Bool.true_eq_false, Bool.false_eq_true]
      refine lq_in0 (J := MSl × MSl) (mvg c w b hs a) (fun i s j => ex (d + 19) 114 32 [sv (.ref 3), sv (.int a), sv (.int (nI (sgs c w hs b))), sv (.int s), sv (.int (nI i)), j.1, j.2] [] h) (fun s => some (some (.int s), h)) c ?_ ?_ 0 0 (none, none) (by omega)
      · intro s j
        show ex _ _ _ _ _ _ = _; rw [e_114_32]
        simp only [H.o0, H.o1, H.o2, H.o3, H.o4, H.o5, H.o6, H.o7, H.o8, H.o9, H.o10, H.b0, H.b1, H.b2, H.b3, H.b4, H.v3, H.v4, dR_ref, dA_ref, dA_null, dN_ref, dN_null, dD_ref, dD_int, cI_s, cV_s, cR_r, cR_n, cJ_s, bI_0, bI_1, zr_bI, zr_0, zr_1, eq_self, if_true, if_false, i10, i20, i01, i21, i02, i12, ior0, iad0, Bool.true_eq_false, Bool.false_eq_true, if_neg (nI_nlt (Nat.le_refl c) (by omega))]
      · intro i s j hi IH
        show ex _ _ _ _ _ _ = _; rw [e_114_32]
        simp only [H.o0, H.o1, H.o2, H.o3, H.o4, H.o5, H.o6, H.o7, H.o8, H.o9, H.o10, H.b0, H.b1, H.b2, H.b3, H.b4, H.v3, H.v4, dR_ref, dA_ref, dA_null, dN_ref, dN_null, dD_ref, dD_int, cI_s, cV_s, cR_r, cR_n, cJ_s, bI_0, bI_1, zr_bI, zr_0, zr_1, eq_self, if_true, if_false, i10, i20, i01, i21, i02, i12, ior0, iad0, Bool.true_eq_false, Bool.false_eq_true, if_pos (nI_lt hi (show c < 2 ^ 31 by omega))]
        refine lq_in0 (J := MSl) (mvf c w b hs a i) (fun k s j => ex (d + 19) 114 47 [sv (.ref 3), sv (.int a), sv (.int (nI (sgs c w hs b))), sv (.int s), sv (.int (nI i)), sv (.int (nI k)), j] [] h) (fun s => some (some (.int (lq (mvg c w b hs a) (c - (i + 1)) (i + 1) s)), h)) c ?_ ?_ 0 s j.2 (by omega)
        · intro s j
          show ex _ _ _ _ _ _ = _; rw [e_114_47]
          simp only [H.o0, H.o1, H.o2, H.o3, H.o4, H.o5, H.o6, H.o7, H.o8, H.o9, H.o10, H.b0, H.b1, H.b2, H.b3, H.b4, H.v3, H.v4, dR_ref, dA_ref, dA_null, dN_ref, dN_null, dD_ref, dD_int, cI_s, cV_s, cR_r, cR_n, cJ_s, bI_0, bI_1, zr_bI, zr_0, zr_1, eq_self, if_true, if_false, i10, i20, i01, i21, i02, i12, ior0, iad0, Bool.true_eq_false, Bool.false_eq_true, if_neg (nI_nlt (Nat.le_refl c) (by omega)), nI_1]
          exact IH s (_, _)
        · intro k s j hk IH2
          show ex _ _ _ _ _ _ = _; rw [e_114_47]
          simp only [H.o0, H.o1, H.o2, H.o3, H.o4, H.o5, H.o6, H.o7, H.o8, H.o9, H.o10, H.b0, H.b1, H.b2, H.b3, H.b4, H.v3, H.v4, dR_ref, dA_ref, dA_null, dN_ref, dN_null, dD_ref, dD_int, cI_s, cV_s, cR_r, cR_n, cJ_s, bI_0, bI_1, zr_bI, zr_0, zr_1, eq_self, if_true, if_false, i10, i20, i01, i21, i02, i12, ior0, iad0, Bool.true_eq_false, Bool.false_eq_true, if_pos (nI_lt hk (show c < 2 ^ 31 by omega)), nI_1, c_10 H, c_20s H]
          unfold mvf mvq
          by_cases q0 : mvd b (nI i) (nI k) = b
          · rw [if_pos q0, decide_eq_true q0]; exact IH2 s _
          · rw [if_neg q0, decide_eq_false q0]
            rcases inR_1 x2 with z | z <;> subst z <;> simp only [dR_ref, dA_ref, dA_null, dN_ref, dN_null, dD_ref, dD_int, cI_s, cV_s, cR_r, cR_n, cJ_s, bI_0, bI_1, zr_bI, zr_0, zr_1, eq_self, if_true, if_false, i10, i20, i01, i21, i02, i12, ior0, iad0, Bool.true_eq_false, Bool.false_eq_true, Bool.not_false, Bool.true_and]
            · cases decide (sgs c w hs (mvd b (nI i) (nI k)) = sgs c w hs b)
              · exact IH2 _ _
              · exact IH2 s _
            · cases decide (sgs c w hs (mvd b (nI i) (nI k)) = sgs c w hs b)
              · exact IH2 s _
              · exact IH2 _ _
  · intro d h F A H
    have hb := H.bd
    rw [e_233, r_166, cI_s]
    simp only [bI_0]
    cases x2 : inR a 0 1 with
    | false => exact ⟨h, F, A, rfl, H, Fr.rf h, SS.rf F A⟩
    | true =>
      obtain ⟨h', A', e1, H1, L1, F1, S1⟩ := r_203 H (d + 15)
      refine ⟨h', F, A', ?_, H1, F1, S1⟩
      simp only [H.v, e1, H1.f0, H1.f1, H1.f2, H1.f3, H1.v, dR_ref, dA_ref, dA_null, dN_ref, dN_null, dD_ref, dD_int, cI_s, cV_s, cR_r, cR_n, cJ_s, bI_0, bI_1, zr_bI, zr_0, zr_1, eq_self, if_true, if_false, i10, i20, i01, i21, i02, i12, ior0, iad0, Bool.true_eq_false, Bool.false_eq_true, r_204 H1 L1]
      refine lq_in0 (J := MSl × MSl × MSl) (mvg c w b hs a) (fun i s j => ex (d + 19) 233 30 [sv (.ref 28), sv (.int a), sv (.int (nI (sgs c w hs b))), sv (.int s), sv (.int (nI i)), j.1, j.2.1, j.2.2] [] h') (fun s => some (some (.int s), h')) c ?_ ?_ 0 0 (none, none, none) (by omega)
      · intro s j
        show ex _ _ _ _ _ _ = _; rw [e_233_30]
        simp only [H1.f0, H1.f1, H1.f2, H1.f3, H1.v, dR_ref, dA_ref, dA_null, dN_ref, dN_null, dD_ref, dD_int, cI_s, cV_s, cR_r, cR_n, cJ_s, bI_0, bI_1, zr_bI, zr_0, zr_1, eq_self, if_true, if_false, i10, i20, i01, i21, i02, i12, ior0, iad0, Bool.true_eq_false, Bool.false_eq_true, if_neg (nI_nlt (Nat.le_refl c) (by omega))]
      · intro i s j hi IH
        show ex _ _ _ _ _ _ = _; rw [e_233_30]
        simp only [H1.f0, H1.f1, H1.f2, H1.f3, H1.v, dR_ref, dA_ref, dA_null, dN_ref, dN_null, dD_ref, dD_int, cI_s, cV_s, cR_r, cR_n, cJ_s, bI_0, bI_1, zr_bI, zr_0, zr_1, eq_self, if_true, if_false, i10, i20, i01, i21, i02, i12, ior0, iad0, Bool.true_eq_false, Bool.false_eq_true, if_pos (nI_lt hi (show c < 2 ^ 31 by omega))]
        refine lq_in0 (J := MSl × MSl) (mvf c w b hs a i) (fun k s j => ex (d + 19) 233 42 [sv (.ref 28), sv (.int a), sv (.int (nI (sgs c w hs b))), sv (.int s), sv (.int (nI i)), sv (.int (nI k)), j.1, j.2] [] h') (fun s => some (some (.int (lq (mvg c w b hs a) (c - (i + 1)) (i + 1) s)), h')) c ?_ ?_ 0 s (_, _) (by omega)
        · intro s j
          show ex _ _ _ _ _ _ = _; rw [e_233_42]
          simp only [H1.f0, H1.f1, H1.f2, H1.f3, H1.v, dR_ref, dA_ref, dA_null, dN_ref, dN_null, dD_ref, dD_int, cI_s, cV_s, cR_r, cR_n, cJ_s, bI_0, bI_1, zr_bI, zr_0, zr_1, eq_self, if_true, if_false, i10, i20, i01, i21, i02, i12, ior0, iad0, Bool.true_eq_false, Bool.false_eq_true, if_neg (nI_nlt (Nat.le_refl c) (by omega)), nI_1]
          exact IH s (_, _, _)
        · intro k s j hk IH2
          show ex _ _ _ _ _ _ = _; rw [e_233_42]
          simp only [H1.f0, H1.f1, H1.f2, H1.f3, H1.v, dR_ref, dA_ref, dA_null, dN_ref, dN_null, dD_ref, dD_int, cI_s, cV_s, cR_r, cR_n, cJ_s, bI_0, bI_1, zr_bI, zr_0, zr_1, eq_self, if_true, if_false, i10, i20, i01, i21, i02, i12, ior0, iad0, Bool.true_eq_false, Bool.false_eq_true, if_pos (nI_lt hk (show c < 2 ^ 31 by omega)), nI_1, r_231 H1, r_204 H1 L1, sgs_nI (c := c) (w := w) hb.2.2.2.2 H1.ok]
          unfold mvf mvq
          by_cases q0 : mvd b (nI i) (nI k) = b
          · rw [if_pos (show sgs c w hs (mvd b (nI i) (nI k)) = sgs c w hs b by rw [q0]), decide_eq_true q0]
            rcases inR_1 x2 with z | z <;> subst z <;> simp only [dR_ref, dA_ref, dA_null, dN_ref, dN_null, dD_ref, dD_int, cI_s, cV_s, cR_r, cR_n, cJ_s, bI_0, bI_1, zr_bI, zr_0, zr_1, eq_self, if_true, if_false, i10, i20, i01, i21, i02, i12, ior0, iad0, Bool.true_eq_false, Bool.false_eq_true, if_pos q0]
            · exact IH2 s (_, _)
            · exact IH2 s (_, _)
          · rw [decide_eq_false q0]
            by_cases q1 : sgs c w hs (mvd b (nI i) (nI k)) = sgs c w hs b
            · rw [if_pos q1, decide_eq_true q1]
              rcases inR_1 x2 with z | z <;> subst z <;> simp only [dR_ref, dA_ref, dA_null, dN_ref, dN_null, dD_ref, dD_int, cI_s, cV_s, cR_r, cR_n, cJ_s, bI_0, bI_1, zr_bI, zr_0, zr_1, eq_self, if_true, if_false, i10, i20, i01, i21, i02, i12, ior0, iad0, Bool.true_eq_false, Bool.false_eq_true, if_neg q0]
              · exact IH2 s (_, _)
              · exact IH2 _ (_, _)
            · rw [if_neg q1, decide_eq_false q1]
              rcases inR_1 x2 with z | z <;> subst z <;> simp only [dR_ref, dA_ref, dA_null, dN_ref, dN_null, dD_ref, dD_int, cI_s, cV_s, cR_r, cR_n, cJ_s, bI_0, bI_1, zr_bI, zr_0, zr_1, eq_self, if_true, if_false, i10, i20, i01, i21, i02, i12, ior0, iad0, Bool.true_eq_false, Bool.false_eq_true]
              · exact IH2 _ (_, _)
              · exact IH2 s (_, _)
/-! told, taken -/
theorem inRm {a : Int32} {n : Nat} (hn : n < 2 ^ 31) (h : inR a 0 (nI n - 1) = true) : ∃ j, j < n ∧ a = nI j := by
  cases n with
  | zero =>
    exfalso
    have h1 : ¬ a < 0 ∧ ¬ (nI 0 - 1) < a := by simpa [inR] using h
    obtain ⟨j, hj, rfl⟩ := nI_of h1.1
    apply h1.2
    rw [Int32.lt_iff_toInt_lt]
    have := nI_pos' hj
    rw [Int32.le_iff_toInt_le] at this
    have e : ((nI 0 - 1 : Int32)).toInt = -1 := by decide
    have e2 : ((0 : Int32)).toInt = 0 := by decide
    omega
  | succ n =>
    rw [show (1 : Int32) = nI 1 from rfl, pk_sub (by omega)] at h
    obtain ⟨j, hj, rfl⟩ := inR_of (n := n + 1 - 1) (by omega) h
    exact ⟨j, by omega, rfl⟩
theorem c_kind (d : Nat) {h : MHeap} {p y : Nat} {e : Ent} (hp : h[p]? = some (hpC e y)) (hk : e.1 ≤ 5) (K : Int32 → MHeap → MRes) : vd none h p [1, 23, 2, 26, 3, 29, 6, 42, 8, 51, 10, 80] (fun m => cI (call (d + 1) m [.ref p] h) K) = K (nI e.1) h := by
  obtain ⟨k, m, r⟩ := e
  rcases kcases hk with h1 | h1 | h1 | h1 | h1 | h1 <;> simp only at h1 <;> subst h1
  · simp only [vd, hp]
    show cI (call (d + 1) 29 _ h) K = _
    rw [e_29]; rfl
  · simp only [vd, hp]
    show cI (call (d + 1) 42 _ h) K = _
    rw [e_42]; rfl
  · simp only [vd, hp]
    show cI (call (d + 1) 26 _ h) K = _
    rw [e_26]; rfl
  · simp only [vd, hp]
    show cI (call (d + 1) 23 _ h) K = _
    rw [e_23]; rfl
  · simp only [vd, hp]
    show cI (call (d + 1) 51 _ h) K = _
    rw [e_51]; rfl
  · simp only [vd, hp]
    show cI (call (d + 1) 80 _ h) K = _
    rw [e_80]; rfl
def tdv (c w : Nat) (b : Int32) (e : Ent) (g : Int32) : Int32 := if g = 0 then nI e.1 else if g = 1 then nI e.2.1 else if g = 2 then nI e.2.2 else if g = 3 then nI (inN c w e) else if g = 4 then nI (sgN c w e b) else -7
theorem q_told (a g : Int32) : PQ c w b hs 94 206 [.int a, .int g] := by
  refine ⟨(match inR a 0 (nI hs.length - 1) with
    | false => -5
    | true => tdv c w b (hs.getD a.toBitVec.toNat (0, 0, 0)) g), ?_, ?_⟩
  · intro d h lc lw ps H
    have hb := H.bd
    cases x1 : inR a 0 (nI hs.length - 1) with
    | false =>
      rw [e_94]
      simp only [H.o0, H.o1, H.o2, H.o3, H.o4, H.o5, H.o6, H.o7, H.o8, H.o9, H.o10, H.b0, H.b1, H.b2, H.b3, H.b4, H.v3, H.v4, dR_ref, dA_ref, dA_null, dN_ref, dN_null, dD_ref, dD_int, cI_s, cV_s, cR_r, cR_n, cJ_s, bI_0, bI_1, zr_bI, zr_0, zr_1, eq_self, if_true, if_false, i10, i20, i01, i21, i02, i12, ior0, iad0, Bool.true_eq_false, Bool.false_eq_true, c_14n H _ x1]
    | true =>
      obtain ⟨j, hj, rfl⟩ := inRm (by omega) x1
      obtain ⟨e, he⟩ : ∃ e, hs[j]? = some e := ⟨_, List.getElem?_eq_getElem hj⟩
      obtain ⟨p, h1, hp, h2, h3, h4⟩ := c_14 H (d + 18) he
      have e0 : hs.getD (nI j).toBitVec.toNat (0, 0, 0) = e := by rw [pk_tn (by omega), List.getD_eq_getElem?_getD, he]; rfl
      rw [e_94, e0]
      simp only [H.o0, H.o1, H.o2, H.o3, H.o4, H.o5, H.o6, H.o7, H.o8, H.o9, H.o10, H.b0, H.b1, H.b2, H.b3, H.b4, H.v3, H.v4, dR_ref, dA_ref, dA_null, dN_ref, dN_null, dD_ref, dD_int, cI_s, cV_s, cR_r, cR_n, cJ_s, bI_0, bI_1, zr_bI, zr_0, zr_1, eq_self, if_true, if_false, i10, i20, i01, i21, i02, i12, ior0, iad0, Bool.true_eq_false, Bool.false_eq_true, h1, c_kind _ hp h2, c_sign _ hp h2 h4 (inN12 (show c ≤ 12 by omega) w e), gfI_at hp (tg_in h2) (j := 0) rfl, gfI_at hp (tg_in h2) (j := 1) rfl, gfI_at hp (tg_in h2) (j := 2) rfl]
      unfold tdv
      by_cases g0 : g = 0
      · simp only [if_pos g0]
      · by_cases g1 : g = 1
        · simp only [if_neg g0, if_pos g1]
        · by_cases g2 : g = 2
          · simp only [if_neg g0, if_neg g1, if_pos g2]
          · by_cases g3 : g = 3
            · simp only [if_neg g0, if_neg g1, if_neg g2, if_pos g3]
            · by_cases g4 : g = 4
              · simp only [if_neg g0, if_neg g1, if_neg g2, if_neg g3, if_pos g4]; rfl
              · simp only [if_neg g0, if_neg g1, if_neg g2, if_neg g3, if_neg g4]
  · intro d h F A H
    have hb := H.bd
    refine ⟨h, F, A, ?_, H, Fr.rf h, SS.rf F A⟩
    rw [e_206]
    simp only [H.v, r_170 H, dR_ref, dA_ref, dA_null, dN_ref, dN_null, dD_ref, dD_int, cI_s, cV_s, cR_r, cR_n, cJ_s, bI_0, bI_1, zr_bI, zr_0, zr_1, eq_self, if_true, if_false, i10, i20, i01, i21, i02, i12, ior0, iad0, Bool.true_eq_false, Bool.false_eq_true]
    cases x1 : inR a 0 (nI hs.length - 1) with
    | false => rfl
    | true =>
      obtain ⟨j, hj, rfl⟩ := inRm (by omega) x1
      obtain ⟨e, he⟩ : ∃ e, hs[j]? = some e := ⟨_, List.getElem?_eq_getElem hj⟩
      have e0 : hs.getD (nI j).toBitVec.toNat (0, 0, 0) = e := by rw [pk_tn (by omega), List.getD_eq_getElem?_getD, he]; rfl
      simp only [H.v, H.f2, H.f4, H.f5, H.f6, H.a29 he, H.a30 he, H.a31 he, r_200 H _ he, r_201 H _ he, dR_ref, dA_ref, dA_null, dN_ref, dN_null, dD_ref, dD_int, cI_s, cV_s, cR_r, cR_n, cJ_s, bI_0, bI_1, zr_bI, zr_0, zr_1, eq_self, if_true, if_false, i10, i20, i01, i21, i02, i12, ior0, iad0, Bool.true_eq_false, Bool.false_eq_true, e0]
      unfold tdv
      by_cases g0 : g = 0
      · simp only [if_pos g0]
      · by_cases g1 : g = 1
        · simp only [if_neg g0, if_pos g1]
        · by_cases g2 : g = 2
          · simp only [if_neg g0, if_neg g1, if_pos g2]
          · by_cases g3 : g = 3
            · simp only [if_neg g0, if_neg g1, if_neg g2, if_pos g3]
            · by_cases g4 : g = 4
              · simp only [if_neg g0, if_neg g1, if_neg g2, if_neg g3, if_pos g4]
              · simp only [if_neg g0, if_neg g1, if_neg g2, if_neg g3, if_neg g4]
/-- whether a heap of kind k is one of kind g -/
def und (k g : Nat) : Bool := g == 0 || k == g && g != 6 || g == 1 && k == 3 || g == 2 && k == 5
theorem c_162 (d : Nat) {h : MHeap} {p y : Nat} {e : Ent} (hp : h[p]? = some (hpC e y)) (hk : e.1 ≤ 5) {g : Nat} (hg : g ≤ 6) : call (d + 1) 162 [.ref p, .int (nI g)] h = some (some (.int (bI (und e.1 g))), h) := by
  obtain ⟨k, m, r⟩ := e
  rw [e_162]
  rcases (show g = 0 ∨ g = 1 ∨ g = 2 ∨ g = 3 ∨ g = 4 ∨ g = 5 ∨ g = 6 by omega) with z | z | z | z | z | z | z <;> subst z <;> rcases kcases hk with h1 | h1 | h1 | h1 | h1 | h1 <;> simp only at h1 <;> subst h1 <;> simp only [inO, hp] <;> rfl
theorem r_258 (d : Nat) {k g : Nat} (hk : k ≤ 5) (hg : g ≤ 5) (h : MHeap) : call (d + 1) 258 [.int (nI k), .int (nI g)] h = some (some (.int (bI (und k g))), h) := by
  rw [e_258]
  rcases kcases hg with z | z | z | z | z | z <;> subst z <;> rcases kcases hk with h1 | h1 | h1 | h1 | h1 | h1 <;> subst h1 <;> rfl
def tkv (c : Nat) (b : Int32) (hs : List Ent) (i g : Nat) : Int32 := if i < 12 then (if i < c then (if g = 6 then bI (bt b i) else -13) else -11) else (if i - 12 < hs.length then (if g ≤ 5 ∧ und (hs.getD (i - 12) (0, 0, 0)).1 g then nI (i - 12) else -13) else -11)
theorem und6 {k : Nat} (hk : k ≤ 5) : und k 6 = false := by
  rcases kcases hk with h1 | h1 | h1 | h1 | h1 | h1 <;> subst h1 <;> rfl
theorem q_taken (a g : Int32) : PQ c w b hs 132 259 [.int a, .int g] := by
  refine ⟨(if inR g 0 6 then if inR a 0 18 then tkv c b hs a.toBitVec.toNat g.toBitVec.toNat else -12 else -2), ?_, ?_⟩
  · intro d h lc lw ps H
    have hb := H.bd
    rw [e_132]
    simp only [H.o0, H.o1, H.o2, H.o3, H.o4, H.o5, H.o6, H.o7, H.o8, H.o9, H.o10, H.b0, H.b1, H.b2, H.b3, H.b4, H.v3, H.v4, dR_ref, dA_ref, dA_null, dN_ref, dN_null, dD_ref, dD_int, cI_s, cV_s, cR_r, cR_n, cJ_s, bI_0, bI_1, zr_bI, zr_0, zr_1, eq_self, if_true, if_false, i10, i20, i01, i21, i02, i12, ior0, iad0, Bool.true_eq_false, Bool.false_eq_true, c_133]
    cases x1 : inR g 0 6 with
    | false => rfl
    | true =>
      cases x2 : inR a 0 18 with
      | false => rfl
      | true =>
        obtain ⟨g, hg, rfl⟩ := inR_of (n := 6) (by decide) x1
        obtain ⟨i, hi, rfl⟩ := inR_of (n := 18) (by decide) x2
        simp only [dR_ref, dA_ref, dA_null, dN_ref, dN_null, dD_ref, dD_int, cI_s, cV_s, cR_r, cR_n, cJ_s, bI_0, bI_1, zr_bI, zr_0, zr_1, eq_self, if_true, if_false, i10, i20, i01, i21, i02, i12, ior0, iad0, Bool.true_eq_false, Bool.false_eq_true, pk_tn (show i < 2 ^ 32 by omega), pk_tn (show g < 2 ^ 32 by omega)]
        unfold tkv
        by_cases q1 : i < 12
        · rw [if_pos (show nI i < (12 : Int32) from nI_lt (b := 12) q1 (by decide)), if_pos q1, e_163]
          simp only [H.o0, H.o1, H.o2, H.o3, H.o4, H.o5, H.o6, H.o7, H.o8, H.o9, H.o10, H.b0, H.b1, H.b2, H.b3, H.b4, H.v3, H.v4, dR_ref, dA_ref, dA_null, dN_ref, dN_null, dD_ref, dD_int, cI_s, cV_s, cR_r, cR_n, cJ_s, bI_0, bI_1, zr_bI, zr_0, zr_1, eq_self, if_true, if_false, i10, i20, i01, i21, i02, i12, ior0, iad0, Bool.true_eq_false, Bool.false_eq_true, c_5 H, c_137b, inR_nI (show i < 2 ^ 31 by omega) (show c - 1 < 2 ^ 31 by omega)]
          by_cases q2 : i < c
          · rw [decide_eq_true (show i ≤ c - 1 by omega), if_pos q2]
            by_cases q3 : g = 6
            · subst q3
              cases bt b i <;> rfl
            · rw [if_neg q3, if_neg (by decide), if_neg (show ¬ nI g = (6 : Int32) from fun z => q3 ((nI_eq (b := 6) (by omega) (by decide)).1 z))]; rfl
          · rw [decide_eq_false (show ¬ i ≤ c - 1 by omega), if_neg q2]; rfl
        · rw [if_neg (show ¬ nI i < (12 : Int32) from nI_nlt (b := 12) (by omega) (by omega)), if_neg q1, show (12 : Int32) = nI 12 from rfl, pk_sub (by omega), e_164]
          by_cases q2 : i - 12 < hs.length
          · obtain ⟨e, he⟩ : ∃ e, hs[i - 12]? = some e := ⟨_, List.getElem?_eq_getElem q2⟩
            obtain ⟨p, h1, hp, h2, h3, h4⟩ := c_14 H (d + 17) he
            have e0 : hs.getD (i - 12) (0, 0, 0) = e := by rw [List.getD_eq_getElem?_getD, he]; rfl
            simp only [H.o0, H.o1, H.o2, H.o3, H.o4, H.o5, H.o6, H.o7, H.o8, H.o9, H.o10, H.b0, H.b1, H.b2, H.b3, H.b4, H.v3, H.v4, dR_ref, dA_ref, dA_null, dN_ref, dN_null, dD_ref, dD_int, cI_s, cV_s, cR_r, cR_n, cJ_s, bI_0, bI_1, zr_bI, zr_0, zr_1, eq_self, if_true, if_false, i10, i20, i01, i21, i02, i12, ior0, iad0, Bool.true_eq_false, Bool.false_eq_true, h1, c_162 _ hp h2 hg, if_pos q2, e0]
            by_cases q4 : g ≤ 5
            · cases und e.1 g <;> simp [q4, cI_s]
            · have q5 : g = 6 := by omega
              subst q5
              rw [und6 h2]; simp [cI_s]
          · have x3 : inR (nI (i - 12)) 0 (nI hs.length - 1) = false := by
              cases x4 : inR (nI (i - 12)) 0 (nI hs.length - 1) with
              | false => rfl
              | true =>
                obtain ⟨j, hj, ej⟩ := inRm (by omega) x4
                have := (nI_eq (by omega) (by omega)).1 ej
                omega
            simp only [H.o0, H.o1, H.o2, H.o3, H.o4, H.o5, H.o6, H.o7, H.o8, H.o9, H.o10, H.b0, H.b1, H.b2, H.b3, H.b4, H.v3, H.v4, dR_ref, dA_ref, dA_null, dN_ref, dN_null, dD_ref, dD_int, cI_s, cV_s, cR_r, cR_n, cJ_s, bI_0, bI_1, zr_bI, zr_0, zr_1, eq_self, if_true, if_false, i10, i20, i01, i21, i02, i12, ior0, iad0, Bool.true_eq_false, Bool.false_eq_true, c_14n H _ x3, if_neg q2]
  · intro d h F A H
    have hb := H.bd
    refine ⟨h, F, A, ?_, H, Fr.rf h, SS.rf F A⟩
    rw [e_259]
    simp only [dR_ref, dA_ref, dA_null, dN_ref, dN_null, dD_ref, dD_int, cI_s, cV_s, cR_r, cR_n, cJ_s, bI_0, bI_1, zr_bI, zr_0, zr_1, eq_self, if_true, if_false, i10, i20, i01, i21, i02, i12, ior0, iad0, Bool.true_eq_false, Bool.false_eq_true, r_166]
    cases x1 : inR g 0 6 with
    | false => rfl
    | true =>
      cases x2 : inR a 0 18 with
      | false => rfl
      | true =>
        obtain ⟨g, hg, rfl⟩ := inR_of (n := 6) (by decide) x1
        obtain ⟨i, hi, rfl⟩ := inR_of (n := 18) (by decide) x2
        simp only [dR_ref, dA_ref, dA_null, dN_ref, dN_null, dD_ref, dD_int, cI_s, cV_s, cR_r, cR_n, cJ_s, bI_0, bI_1, zr_bI, zr_0, zr_1, eq_self, if_true, if_false, i10, i20, i01, i21, i02, i12, ior0, iad0, Bool.true_eq_false, Bool.false_eq_true, pk_tn (show i < 2 ^ 32 by omega), pk_tn (show g < 2 ^ 32 by omega)]
        unfold tkv
        by_cases q1 : i < 12
        · rw [if_pos (show nI i < (12 : Int32) from nI_lt (b := 12) q1 (by decide)), if_pos q1, H.f0]
          by_cases q2 : i < c
          · rw [if_pos (nI_lt q2 (by omega)), if_pos q2]
            by_cases q3 : g = 6
            · subst q3
              rw [if_pos (show nI 6 = 6 from rfl), if_pos rfl, H.f2]
              cases x5 : bt b i with
              | false => rw [(bt_0 b i).2 x5]; rfl
              | true => rw [(bt_1 b i).2 x5]; rfl
            · rw [if_neg q3, if_neg (show ¬ nI g = (6 : Int32) from fun z => q3 ((nI_eq (b := 6) (by omega) (by decide)).1 z))]
          · rw [if_neg (nI_nlt (by omega) (by omega)), if_neg q2]
        · rw [if_neg (show ¬ nI i < (12 : Int32) from nI_nlt (b := 12) (by omega) (by omega)), if_neg q1, show (12 : Int32) = nI 12 from rfl, pk_sub (by omega), H.f3]
          by_cases q2 : i - 12 < hs.length
          · obtain ⟨e, he⟩ : ∃ e, hs[i - 12]? = some e := ⟨_, List.getElem?_eq_getElem q2⟩
            have e0 : hs.getD (i - 12) (0, 0, 0) = e := by rw [List.getD_eq_getElem?_getD, he]; rfl
            have hk := (H.2.2.2 _ e he).1.1
            rw [if_pos (nI_lt q2 (by omega)), if_pos q2, e0]
            by_cases q4 : g ≤ 5
            · rw [if_pos (show nI g < (6 : Int32) from nI_lt (b := 6) (by omega) (by decide)), H.f4, dR_ref, H.a29 he, r_258 _ hk q4, cI_s]
              simp only [bI_0]
              cases und e.1 g <;> simp [q4]
            · rw [if_neg (show ¬ nI g < (6 : Int32) from nI_nlt (b := 6) (by omega) (by omega)), if_neg (fun z => q4 z.1)]
          · rw [if_neg (nI_nlt (by omega) (by omega)), if_neg q2]
end PQS2
