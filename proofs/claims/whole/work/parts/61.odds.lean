/-! evenings, odds, lowest terms -/
theorem eu_half {D R : Nat} (h0 : 0 < R) (h : 0 < D % R) : R % (D % R) ≤ R / 2 ∧ D % R ≤ R := by
  have h1 := Nat.mod_lt D h0
  have h2 := Nat.mod_lt R h
  refine ⟨?_, by omega⟩
  rcases Nat.lt_or_ge (R / 2) (D % R) with q | q
  · have h3 : R % (D % R) = R - D % R := by
      rw [Nat.mod_eq_sub_mod (by omega), Nat.mod_eq_of_lt (by omega)]
    omega
  · omega
/-- in lowest terms: above (part 0) or below (part 1) -/
def lwN (a b p : Nat) : Nat := (if p = 0 then a else b) / Nat.gcd b a
theorem gcd_st (D R : Nat) : Nat.gcd R (D % R) = Nat.gcd D R := by
  rw [Nat.gcd_comm D R, Nat.gcd_rec R D, Nat.gcd_comm]
theorem c_142 (d : Nat) {a b p : Nat} (ha : a < 4096) (hb : b < 4096) (hb0 : 0 < b) (h : MHeap) : call (d + 1) 142 [.int (nI a), .int (nI b), .int (nI p)] h = some (some (.long (lN (if nI p = 0 then a / Nat.gcd b a else b / Nat.gcd b a))), h) := by
  rw [e_142]
  have fin : ∀ (D t : Nat) (j : MSl), 0 < D → D < 4096 → D = Nat.gcd b a → ex d 142 8 [sv (.int (nI a)), sv (.int (nI b)), sv (.int (nI p)), sv (.int (nI D)), sv (.int (nI 0)), sv (.int (nI t)), j] [] h = some (some (.long (lN (if nI p = 0 then a / Nat.gcd b a else b / Nat.gcd b a))), h) := by
    intro D t j h0 h1 hD
    have l1 : a / D ≤ a := Nat.div_le_self _ _
    have l2 : b / D ≤ b := Nat.div_le_self _ _
    rw [e_142_8, ← hD]
    simp only [dv, if_neg (nI_ne0 h0 (show D < 2 ^ 31 by omega)), show nI 0 = 0 from rfl, if_true, pk_div (show a < 2 ^ 31 by omega) h0 (show D < 2 ^ 31 by omega), pk_div (show b < 2 ^ 31 by omega) h0 (show D < 2 ^ 31 by omega), nI_l (show a / D < 2 ^ 31 by omega), nI_l (show b / D < 2 ^ 31 by omega)]
    by_cases q : nI p = 0
    · simp only [if_pos q]; split <;> rfl
    · simp only [if_neg q]; split <;> rfl
  have step : ∀ (D R t : Nat) (j : MSl), D < 4096 → R < 4096 → 0 < R → t < 64 → ex d 142 8 [sv (.int (nI a)), sv (.int (nI b)), sv (.int (nI p)), sv (.int (nI D)), sv (.int (nI R)), sv (.int (nI t)), j] [] h = ex d 142 8 [sv (.int (nI a)), sv (.int (nI b)), sv (.int (nI p)), sv (.int (nI R)), sv (.int (nI (D % R))), sv (.int (nI (t + 1))), sv (.int (nI (D % R)))] [] h := by
    intro D R t j h0 h1 h2 h3
    rw [e_142_8, if_pos (show nI t < (64 : Int32) from nI_lt (b := 64) h3 (by decide)), if_neg (nI_ne0 h2 (by omega)), pk_rem (by omega) h2 (by omega), nI_1]
    simp only [dv, if_neg (nI_ne0 h2 (show R < 2 ^ 31 by omega))]
  have key : ∀ k, ∀ (D R t : Nat) (j : MSl), 0 < D → D < 4096 → R < 2 ^ k → R < 4096 → t + 2 * k ≤ 64 → Nat.gcd D R = Nat.gcd b a → ex d 142 8 [sv (.int (nI a)), sv (.int (nI b)), sv (.int (nI p)), sv (.int (nI D)), sv (.int (nI R)), sv (.int (nI t)), j] [] h = some (some (.long (lN (if nI p = 0 then a / Nat.gcd b a else b / Nat.gcd b a))), h) := by
    intro k
    induction k with
    | zero =>
      intro D R t j h0 h1 h2 _ _ h5
      have : R = 0 := by simpa using h2
      subst this
      exact fin D t j h0 h1 (by rw [← h5, Nat.gcd_zero_right])
    | succ k ih =>
      intro D R t j h0 h1 h2 h3 h4 h5
      rcases Nat.eq_zero_or_pos R with q | q
      · subst q
        exact fin D t j h0 h1 (by rw [← h5, Nat.gcd_zero_right])
      · have m1 := Nat.mod_lt D q
        rw [step D R t j h1 h3 q (by omega)]
        rcases Nat.eq_zero_or_pos (D % R) with q2 | q2
        · rw [q2]
          exact fin R (t + 1) _ q h3 (by rw [← h5, ← gcd_st D R, q2, Nat.gcd_zero_right])
        · have m2 := eu_half q q2
          have m3 := Nat.mod_lt R q2
          rw [step R (D % R) (t + 1) _ h3 (by omega) q2 (by omega)]
          rw [Nat.pow_succ] at h2
          exact ih (D % R) (R % (D % R)) (t + 1 + 1) _ q2 (by omega) (by omega) (by omega) (by omega) (by rw [gcd_st, gcd_st, h5])
  exact key 12 b a 0 none hb0 hb (by omega) ha (by decide) rfl
theorem r_237 (d : Nat) {a b p : Nat} (ha : a < 4096) (hb : b < 4096) (hb0 : 0 < b) (hp : p ≤ 1) (h : MHeap) : call (d + 1) 237 [.long (lN a), .long (lN b), .int (nI p)] h = some (some (.long (lN (if nI p = 0 then a / Nat.gcd b a else b / Nat.gcd b a))), h) := by
  have cmp : ∀ n, n < 4096 → (((if lN n = (0 : Int64) then 0 else if lN n < (0 : Int64) then -1 else 1) : Int32) = 0 ↔ n = 0) := by
    intro n hn
    have e : (lN n = (0 : Int64)) ↔ n = 0 := pk_lEQ (b := 0) (by omega) (by decide)
    by_cases q : n = 0
    · rw [if_pos (e.2 q)]; simp [q]
    · simp only [e, q, if_false, iff_false]
      split <;> decide
  rw [e_237]
  rcases Nat.eq_zero_or_pos a with q | q
  · subst q
    rw [if_pos ((cmp 0 (by decide)).2 rfl), Nat.gcd_zero_right, nI_l (by omega), Nat.zero_div, Nat.div_self hb0]
    rcases (show p = 0 ∨ p = 1 by omega) with z | z <;> subst z <;> rfl
  · rw [if_neg (fun z => by have := (cmp a ha).1 z; omega)]
    have ne : ∀ n, 0 < n → n < 4096 → ¬ lN n = (0 : Int64) := fun n h0 h1 z => by have := (pk_lEQ (b := 0) (by omega) (by decide)).1 z; omega
    have fin : ∀ (D : Nat) (j : MSl), 0 < D → D < 4096 → D = Nat.gcd b a → ex d 237 16 [sy (lN a), none, sy (lN b), none, sv (.int (nI p)), sy (lN D), none, sy (lN 0), none, j, none] [] h = some (some (.long (lN (if nI p = 0 then a / Nat.gcd b a else b / Nat.gcd b a))), h) := by
      intro D j h0 h1 hD
      rw [e_237_16, if_pos ((cmp 0 (by decide)).2 rfl), ← hD]
      simp only [dvL, if_neg (ne D h0 h1), pk_lDiv (show a < 2 ^ 63 by omega) h0 (show D < 2 ^ 63 by omega), pk_lDiv (show b < 2 ^ 63 by omega) h0 (show D < 2 ^ 63 by omega)]
      split <;> rfl
    have step : ∀ (D R : Nat) (j : MSl), D < 4096 → R < 4096 → 0 < R → ex d 237 16 [sy (lN a), none, sy (lN b), none, sv (.int (nI p)), sy (lN D), none, sy (lN R), none, j, none] [] h = ex d 237 16 [sy (lN a), none, sy (lN b), none, sv (.int (nI p)), sy (lN R), none, sy (lN (D % R)), none, sy (lN (D % R)), none] [] h := by
      intro D R j h0 h1 h2
      rw [e_237_16, if_neg (fun z => by have := (cmp R h1).1 z; omega), pk_lRem (by omega) h2 (by omega)]
      simp only [dvL, if_neg (ne R h2 h1)]
    have key : ∀ k, ∀ (D R : Nat) (j : MSl), R ≤ k → 0 < D → D < 4096 → R < 4096 → Nat.gcd D R = Nat.gcd b a → ex d 237 16 [sy (lN a), none, sy (lN b), none, sv (.int (nI p)), sy (lN D), none, sy (lN R), none, j, none] [] h = some (some (.long (lN (if nI p = 0 then a / Nat.gcd b a else b / Nat.gcd b a))), h) := by
      intro k
      induction k with
      | zero =>
        intro D R j h2 h0 h1 h3 h5
        have : R = 0 := by omega
        subst this
        exact fin D j h0 h1 (by rw [← h5, Nat.gcd_zero_right])
      | succ k ih =>
        intro D R j h2 h0 h1 h3 h5
        rcases Nat.eq_zero_or_pos R with q | q
        · subst q
          exact fin D j h0 h1 (by rw [← h5, Nat.gcd_zero_right])
        · have m1 := Nat.mod_lt D q
          rw [step D R j h1 h3 q]
          exact ih R (D % R) _ (by omega) q h3 (by omega) (by rw [gcd_st, h5])
    exact key b a b none (Nat.le_refl _) q ha hb (Nat.gcd_comm a b)
section PQS
variable {c w : Nat} {b : Int32} {hs : List Ent}
/-- the card that a seed tells -/
def cdI (c : Nat) (a1 : Int32) : Int32 := Int64.toInt32 (((((Int32.toInt64 a1) + (1 : Int64)) * (48271 : Int64)) - (((Int32.toInt64 a1) + (1 : Int64)) * (48271 : Int64)) / (2147483647 : Int64) * (2147483647 : Int64)) - ((((Int32.toInt64 a1) + (1 : Int64)) * (48271 : Int64)) - (((Int32.toInt64 a1) + (1 : Int64)) * (48271 : Int64)) / (2147483647 : Int64) * (2147483647 : Int64)) / (Int32.toInt64 (nI c)) * (Int32.toInt64 (nI c)))
theorem cl_0 : ∀ c, c < 13 → 0 < c → ¬ Int32.toInt64 (nI c) = 0 := by decide +kernel
theorem c_159 {h : MHeap} {lc lw : Int32} {ps : List Nat} (H : CB h c w b hs lc lw ps) (d : Nat) (a : Int32) : call (d + 1) 159 [.ref 3, .int a] h = some (some (.int (cdI c a)), h) := by
  have hb := H.bd
  rw [e_159]
  simp only [H.o0, H.o1, H.o2, H.o3, H.o4, H.o5, H.o6, H.o7, H.o8, H.o9, H.o10, H.b0, H.b1, H.b2, H.b3, H.b4, H.v3, H.v4, dR_ref, dA_ref, dA_null, dN_ref, dN_null, dD_ref, dD_int, cI_s, cV_s, cR_r, cR_n, cJ_s, bI_0, bI_1, zr_bI, zr_0, zr_1, eq_self, if_true, if_false, i10, i20, i01, i21, i02, i12, ior0, iad0, Bool.true_eq_false, Bool.false_eq_true, dvL, if_neg (show ¬ (2147483647 : Int64) = 0 by decide), if_neg (cl_0 c (by omega) hb.1), if_pos (show (0 : Int32) < nI c from nI_lt (a := 0) hb.1 (by omega))]
  rfl
theorem r_248 {h : MHeap} {F : Nat → Int32} {A : Nat → List Int32} (H : RB h F A c w b hs) (d : Nat) (a : Int32) : call (d + 1) 248 [.ref 28, .int a] h = some (some (.int (cdI c a)), h) := by
  have hb := H.bd
  rw [e_248]
  simp only [H.f0, dvL, if_neg (show ¬ (2147483647 : Int64) = 0 by decide), if_neg (cl_0 c (by omega) hb.1)]
  rfl
def fdq (c w : Nat) (b : Int32) (hs : List Ent) (a : Int32) : Bool := decide (nI (otq (mdq c w hs (b ^^^ ((1 : Int32) <<< (cdI c a &&& 31)))) c) = (1 : Int32) <<< (cdI c a &&& 31))
theorem c_160 {h : MHeap} {lc lw : Int32} {ps : List Nat} (H : CB h c w b hs lc lw ps) (d : Nat) (a : Int32) : call (d + 7) 160 [.ref 3, .int (cdI c a)] h = some (some (.int (bI (fdq c w b hs a))), h) := by
  rw [e_160]
  simp only [H.o0, H.o1, H.o2, H.o3, H.o4, H.o5, H.o6, H.o7, H.o8, H.o9, H.o10, H.b0, H.b1, H.b2, H.b3, H.b4, H.v3, H.v4, dR_ref, dA_ref, dA_null, dN_ref, dN_null, dD_ref, dD_int, cI_s, cV_s, cR_r, cR_n, cJ_s, bI_0, bI_1, zr_bI, zr_0, zr_1, eq_self, if_true, if_false, i10, i20, i01, i21, i02, i12, ior0, iad0, Bool.true_eq_false, Bool.false_eq_true, e_135, c_144 H]
  unfold fdq
  by_cases q : nI (otq (mdq c w hs (b ^^^ ((1 : Int32) <<< (cdI c a &&& 31)))) c) = (1 : Int32) <<< (cdI c a &&& 31)
  · rw [if_pos q, decide_eq_true q]; rfl
  · rw [if_neg q, decide_eq_false q]; rfl
theorem r_249 {h : MHeap} {F : Nat → Int32} {A : Nat → List Int32} (H : RB h F A c w b hs) (L : Lk A c w hs) (d : Nat) (a : Int32) : call (d + 5) 249 [.ref 28, .int a] h = some (some (.int (bI (fdq c w b hs a))), h) := by
  rw [e_249]
  simp only [H.f2, H.v, dR_ref, dA_ref, dA_null, dN_ref, dN_null, dD_ref, dD_int, cI_s, cV_s, cR_r, cR_n, cJ_s, bI_0, bI_1, zr_bI, zr_0, zr_1, eq_self, if_true, if_false, i10, i20, i01, i21, i02, i12, ior0, iad0, Bool.true_eq_false, Bool.false_eq_true, r_248 H, r_210 H L]
  unfold fdq
  by_cases q : nI (otq (mdq c w hs (b ^^^ ((1 : Int32) <<< (cdI c a &&& 31)))) c) = (1 : Int32) <<< (cdI c a &&& 31)
  · rw [if_pos q, decide_eq_true q]; rfl
  · rw [if_neg q, decide_eq_false q]; rfl
theorem q_evening (a g : Int32) : PQ c w b hs 124 250 [.int a, .int g] := by
  refine ⟨(if inR a 0 99999 then if inR g 0 1 then if g = 0 then cdI c a else bI (fdq c w b hs a) else -2 else -2), ?_, ?_⟩
  · intro d h lc lw ps H
    rw [e_124]
    simp only [H.o0, H.o1, H.o2, H.o3, H.o4, H.o5, H.o6, H.o7, H.o8, H.o9, H.o10, H.b0, H.b1, H.b2, H.b3, H.b4, H.v3, H.v4, dR_ref, dA_ref, dA_null, dN_ref, dN_null, dD_ref, dD_int, cI_s, cV_s, cR_r, cR_n, cJ_s, bI_0, bI_1, zr_bI, zr_0, zr_1, eq_self, if_true, if_false, i10, i20, i01, i21, i02, i12, ior0, iad0, Bool.true_eq_false, Bool.false_eq_true, c_133, c_159 H, c_160 H]
    cases inR a 0 99999 <;> cases inR g 0 1 <;> simp only [dR_ref, dA_ref, dA_null, dN_ref, dN_null, dD_ref, dD_int, cI_s, cV_s, cR_r, cR_n, cJ_s, bI_0, bI_1, zr_bI, zr_0, zr_1, eq_self, if_true, if_false, i10, i20, i01, i21, i02, i12, ior0, iad0, Bool.true_eq_false, Bool.false_eq_true]
    by_cases q : g = 0
    · rw [if_pos q, if_pos q]
    · rw [if_neg q, if_neg q]
      cases fdq c w b hs a <;> rfl
  · intro d h F A H
    rw [e_250]
    simp only [dR_ref, dA_ref, dA_null, dN_ref, dN_null, dD_ref, dD_int, cI_s, cV_s, cR_r, cR_n, cJ_s, bI_0, bI_1, zr_bI, zr_0, zr_1, eq_self, if_true, if_false, i10, i20, i01, i21, i02, i12, ior0, iad0, Bool.true_eq_false, Bool.false_eq_true, r_166]
    cases x1 : inR a 0 99999 with
    | false => exact ⟨h, F, A, rfl, H, Fr.rf h, SS.rf F A⟩
    | true =>
      cases x2 : inR g 0 1 with
      | false => exact ⟨h, F, A, rfl, H, Fr.rf h, SS.rf F A⟩
      | true =>
        obtain ⟨h', A', e1, H1, L1, F1, S1⟩ := r_203 H (d + 15)
        refine ⟨h', F, A', ?_, H1, F1, S1⟩
        simp only [H.v, e1, H1.f0, H1.f1, H1.f2, H1.f3, H1.v, dR_ref, dA_ref, dA_null, dN_ref, dN_null, dD_ref, dD_int, cI_s, cV_s, cR_r, cR_n, cJ_s, bI_0, bI_1, zr_bI, zr_0, zr_1, eq_self, if_true, if_false, i10, i20, i01, i21, i02, i12, ior0, iad0, Bool.true_eq_false, Bool.false_eq_true, r_248 H1, r_249 H1 L1]
        by_cases q : g = 0
        · rw [if_pos q, if_pos q]
        · rw [if_neg q, if_neg q]
          cases fdq c w b hs a <;> rfl
def odf (c w : Nat) (b : Int32) (hs : List Ent) (a : Int32) (i s : Nat) : Nat := if fdq c w b hs (a + nI i) then s + 1 else s
theorem q_odds (a n g : Int32) : PQJ c w b hs 125 251 [.int a, .int n, .int g] := by
  refine ⟨(if inR a 0 99999 then if inR n 1 50 then if inR g 0 1 then lN (if g = 0 then lq (odf c w b hs a) n.toBitVec.toNat 0 0 / Nat.gcd n.toBitVec.toNat (lq (odf c w b hs a) n.toBitVec.toNat 0 0) else n.toBitVec.toNat / Nat.gcd n.toBitVec.toNat (lq (odf c w b hs a) n.toBitVec.toNat 0 0)) else -4611686018427387904 else -4611686018427387904 else -4611686018427387904), ?_, ?_⟩
  · intro d h lc lw ps H
    rw [e_125]
    simp only [H.o0, H.o1, H.o2, H.o3, H.o4, H.o5, H.o6, H.o7, H.o8, H.o9, H.o10, H.b0, H.b1, H.b2, H.b3, H.b4, H.v3, H.v4, dR_ref, dA_ref, dA_null, dN_ref, dN_null, dD_ref, dD_int, cI_s, cV_s, cR_r, cR_n, cJ_s, bI_0, bI_1, zr_bI, zr_0, zr_1, eq_self, if_true, if_false, i10, i20, i01, i21, i02, i12, ior0, iad0, Bool.true_eq_false, Bool.false_eq_true, c_133]
    cases x1 : inR a 0 99999 with
    | false => rfl
    | true =>
      cases x2 : inR n 1 50 with
      | false => rfl
      | true =>
        cases x3 : inR g 0 1 with
        | false => rfl
        | true =>
          have y2 : ¬ n < 1 ∧ ¬ 50 < n := by simpa [inR] using x2
          obtain ⟨n, hn, rfl⟩ := nI_of (fun z => y2.1 (Int32.lt_trans z (by decide)))
          have n1 : 0 < n := by
            rcases Nat.eq_zero_or_pos n with q | q
            · subst q; exact absurd (show nI 0 < (1 : Int32) by decide) y2.1
            · exact q
          have n2 : n ≤ 50 := by
            rcases Nat.lt_or_ge 50 n with q | q
            · exact absurd (show (50 : Int32) < nI n from nI_lt (a := 50) q hn) y2.2
            · exact q
          obtain ⟨p, hp, rfl⟩ := inR_of (n := 1) (by decide) x3
          simp only [dR_ref, dA_ref, dA_null, dN_ref, dN_null, dD_ref, dD_int, cI_s, cV_s, cR_r, cR_n, cJ_s, bI_0, bI_1, zr_bI, zr_0, zr_1, eq_self, if_true, if_false, i10, i20, i01, i21, i02, i12, ior0, iad0, Bool.true_eq_false, Bool.false_eq_true, pk_tn (show n < 2 ^ 32 by omega)]
          refine lq_ind (J := Unit) (odf c w b hs a) (fun i s _ => ex (d + 19) 125 39 [sv (.ref 3), sv (.int a), sv (.int (nI n)), sv (.int (nI p)), sv (.int (nI s)), sv (.int (nI i))] [] h) (fun s => some (some (.long (lN (if nI p = 0 then s / Nat.gcd n s else n / Nat.gcd n s))), h)) n (fun i s => s ≤ i) ?_ ?_ 0 0 () (by omega) (by omega)
          · intro s _ hI
            show ex _ _ _ _ _ _ = _; rw [e_125_39]
            simp only [H.o0, H.o1, H.o2, H.o3, H.o4, H.o5, H.o6, H.o7, H.o8, H.o9, H.o10, H.b0, H.b1, H.b2, H.b3, H.b4, H.v3, H.v4, dR_ref, dA_ref, dA_null, dN_ref, dN_null, dD_ref, dD_int, cI_s, cV_s, cR_r, cR_n, cJ_s, bI_0, bI_1, zr_bI, zr_0, zr_1, eq_self, if_true, if_false, i10, i20, i01, i21, i02, i12, ior0, iad0, Bool.true_eq_false, Bool.false_eq_true, if_neg (nI_nlt (Nat.le_refl n) (show n < 2 ^ 31 by omega)), c_142 _ (show s < 4096 by omega) (show n < 4096 by omega) n1]
          · intro i s _ hi hI IH
            show ex _ _ _ _ _ _ = _; rw [e_125_39]
            simp only [H.o0, H.o1, H.o2, H.o3, H.o4, H.o5, H.o6, H.o7, H.o8, H.o9, H.o10, H.b0, H.b1, H.b2, H.b3, H.b4, H.v3, H.v4, dR_ref, dA_ref, dA_null, dN_ref, dN_null, dD_ref, dD_int, cI_s, cV_s, cR_r, cR_n, cJ_s, bI_0, bI_1, zr_bI, zr_0, zr_1, eq_self, if_true, if_false, i10, i20, i01, i21, i02, i12, ior0, iad0, Bool.true_eq_false, Bool.false_eq_true, if_pos (nI_lt hi (show n < 2 ^ 31 by omega)), c_159 H, c_160 H, nI_1]
            unfold odf
            cases fdq c w b hs (a + nI i)
            · exact IH s () (by omega)
            · exact IH (s + 1) () (by omega)
  · intro d h F A H
    rw [e_251]
    simp only [dR_ref, dA_ref, dA_null, dN_ref, dN_null, dD_ref, dD_int, cI_s, cV_s, cR_r, cR_n, cJ_s, bI_0, bI_1, zr_bI, zr_0, zr_1, eq_self, if_true, if_false, i10, i20, i01, i21, i02, i12, ior0, iad0, Bool.true_eq_false, Bool.false_eq_true, r_166]
    cases x1 : inR a 0 99999 with
    | false => exact ⟨h, F, A, rfl, H, Fr.rf h, SS.rf F A⟩
    | true =>
      cases x2 : inR n 1 50 with
      | false => exact ⟨h, F, A, rfl, H, Fr.rf h, SS.rf F A⟩
      | true =>
        cases x3 : inR g 0 1 with
        | false => exact ⟨h, F, A, rfl, H, Fr.rf h, SS.rf F A⟩
        | true =>
          have y2 : ¬ n < 1 ∧ ¬ 50 < n := by simpa [inR] using x2
          obtain ⟨n, hn, rfl⟩ := nI_of (fun z => y2.1 (Int32.lt_trans z (by decide)))
          have n1 : 0 < n := by
            rcases Nat.eq_zero_or_pos n with q | q
            · subst q; exact absurd (show nI 0 < (1 : Int32) by decide) y2.1
            · exact q
          have n2 : n ≤ 50 := by
            rcases Nat.lt_or_ge 50 n with q | q
            · exact absurd (show (50 : Int32) < nI n from nI_lt (a := 50) q hn) y2.2
            · exact q
          obtain ⟨p, hp, rfl⟩ := inR_of (n := 1) (by decide) x3
          obtain ⟨h', A', e1, H1, L1, F1, S1⟩ := r_203 H (d + 15)
          refine ⟨h', F, A', ?_, H1, F1, S1⟩
          simp only [H.v, e1, dR_ref, dA_ref, dA_null, dN_ref, dN_null, dD_ref, dD_int, cI_s, cV_s, cR_r, cR_n, cJ_s, bI_0, bI_1, zr_bI, zr_0, zr_1, eq_self, if_true, if_false, i10, i20, i01, i21, i02, i12, ior0, iad0, Bool.true_eq_false, Bool.false_eq_true, pk_tn (show n < 2 ^ 32 by omega)]
          refine lq_ind (J := Unit) (odf c w b hs a) (fun i s _ => ex (d + 19) 251 43 [sv (.ref 28), sv (.int a), sv (.int (nI n)), sv (.int (nI p)), sy (lN s), none, sv (.int (nI i))] [] h') (fun s => some (some (.long (lN (if nI p = 0 then s / Nat.gcd n s else n / Nat.gcd n s))), h')) n (fun i s => s ≤ i) ?_ ?_ 0 0 () (by omega) (by omega)
          · intro s _ hI
            show ex _ _ _ _ _ _ = _; rw [e_251_43]
            simp only [dR_ref, dA_ref, dA_null, dN_ref, dN_null, dD_ref, dD_int, cI_s, cV_s, cR_r, cR_n, cJ_s, bI_0, bI_1, zr_bI, zr_0, zr_1, eq_self, if_true, if_false, i10, i20, i01, i21, i02, i12, ior0, iad0, Bool.true_eq_false, Bool.false_eq_true, if_neg (nI_nlt (Nat.le_refl n) (show n < 2 ^ 31 by omega)), nI_l (show n < 2 ^ 31 by omega), r_237 _ (show s < 4096 by omega) (show n < 4096 by omega) n1 hp]
          · intro i s _ hi hI IH
            show ex _ _ _ _ _ _ = _; rw [e_251_43]
            simp only [H1.v, dR_ref, dA_ref, dA_null, dN_ref, dN_null, dD_ref, dD_int, cI_s, cV_s, cR_r, cR_n, cJ_s, bI_0, bI_1, zr_bI, zr_0, zr_1, eq_self, if_true, if_false, i10, i20, i01, i21, i02, i12, ior0, iad0, Bool.true_eq_false, Bool.false_eq_true, if_pos (nI_lt hi (show n < 2 ^ 31 by omega)), r_249 H1 L1, nI_1, lN_1, show (0 : Int64) = lN 0 from rfl, lN_add, Nat.add_zero]
            unfold odf
            cases fdq c w b hs (a + nI i)
            · exact IH s () (by omega)
            · exact IH (s + 1) () (by omega)
end PQS
