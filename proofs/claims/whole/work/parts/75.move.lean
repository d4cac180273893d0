/-! move, count, force, image, feed -/
theorem mv_nI {c B i k : Nat} (hc : c ≤ 12) (hi : i < c) (hk : k < c) (hB : B < 2 ^ c) : ∃ X, X < 2 ^ c ∧ mvd (nI B) (nI i) (nI k) = nI X := by
  have hp := p2c hc
  have z : ∀ j, c ≤ j → B.testBit j = false := fun j hj => Nat.testBit_lt_two_pow (Nat.lt_of_lt_of_le hB (Nat.pow_le_pow_right (by decide) hj))
  have p2 : ∀ j, 0 < (2 : Nat) ^ j := fun j => Nat.two_pow_pos j
  have b1 : ∀ j, (1 : Int32) = nI 1 → j < 31 → (1 : Int32) <<< (nI j &&& 31) - 1 = nI (2 ^ j - 1) := fun j _ hj => by
    have := p2 j
    rw [bit_nI hj, show (1 : Int32) = nI 1 from rfl, pk_sub (by omega)]
  have m1 : B / 2 ^ (i + 1) * 2 ^ i < 2 ^ 32 := by
    have h1 : B / 2 ^ (i + 1) * 2 ^ i ≤ B / 2 ^ (i + 1) * 2 ^ (i + 1) := Nat.mul_le_mul_left _ (Nat.pow_le_pow_right (by decide) (by omega))
    have h2 := Nat.div_mul_le_self B (2 ^ (i + 1))
    omega
  have rest_bit : ∀ t, (B % 2 ^ i ||| B / 2 ^ (i + 1) * 2 ^ i).testBit t = if t < i then B.testBit t else B.testBit (t + 1) := by
    intro t
    rw [Nat.testBit_or, Nat.testBit_mod_two_pow, Nat.testBit_mul_two_pow, Nat.testBit_div_two_pow]
    by_cases h1 : t < i
    · have : ¬ i ≤ t := by omega
      simp [h1, this]
    · have h2 : i ≤ t := by omega
      rw [if_neg h1, show t - i + (i + 1) = t + 1 by omega]
      simp [h1, h2]
  have rest_lt : (B % 2 ^ i ||| B / 2 ^ (i + 1) * 2 ^ i) < 2 ^ (c - 1) := by
    apply Nat.lt_pow_two_of_testBit
    intro t ht
    rw [rest_bit, if_neg (by omega)]
    exact z _ (by omega)
  have hcc : (2 : Nat) ^ (c - 1) ≤ 2 ^ c := Nat.pow_le_pow_right (by decide) (by omega)
  generalize hR : (B % 2 ^ i ||| B / 2 ^ (i + 1) * 2 ^ i) = R at *
  have m2 : R / 2 ^ k * 2 ^ (k + 1) < 2 ^ 32 := by
    have h2 := Nat.div_mul_le_self R (2 ^ k)
    rw [Nat.pow_succ, ← Nat.mul_assoc]
    omega
  have hk2 : (2 : Nat) ^ k ≤ 2 ^ 12 := Nat.pow_le_pow_right (by decide) (by omega)
  have m3 : B / 2 ^ i % 2 * 2 ^ k < 2 ^ 32 := by
    have : B / 2 ^ i % 2 * 2 ^ k ≤ 1 * 2 ^ k := Nat.mul_le_mul_right _ (by omega)
    omega
  have hd : B / 2 ^ (i + 1) ≤ B := Nat.div_le_self _ _
  refine ⟨R % 2 ^ k ||| B / 2 ^ i % 2 * 2 ^ k ||| R / 2 ^ k * 2 ^ (k + 1), ?_, ?_⟩
  · apply Nat.lt_pow_two_of_testBit
    intro t ht
    have e1 : (R % 2 ^ k).testBit t = false := by rw [Nat.testBit_mod_two_pow, decide_eq_false (by omega)]; rfl
    have e2 : (B / 2 ^ i % 2 * 2 ^ k).testBit t = false := by
      rw [Nat.testBit_mul_two_pow, show (2 : Nat) = 2 ^ 1 from rfl, Nat.testBit_mod_two_pow, decide_eq_false (show ¬ t - k < 1 by omega)]; simp
    have e3 : (R / 2 ^ k * 2 ^ (k + 1)).testBit t = false := by
      rw [Nat.testBit_mul_two_pow, Nat.testBit_div_two_pow, show t - (k + 1) + k = t - 1 by omega, Nat.testBit_lt_two_pow (Nat.lt_of_lt_of_le rest_lt (Nat.pow_le_pow_right (by decide) (by omega)))]; simp
    rw [Nat.testBit_or, Nat.testBit_or, e1, e2, e3]; rfl
  · unfold mvd
    rw [b1 i rfl (by omega), b1 k rfl (by omega), fa_and, Nat.and_two_pow_sub_one_eq_mod, nI_1, nI_1, shr_nI (by omega) (by omega), shl_nI (by omega) m1, fa_or, hR, fa_and, Nat.and_two_pow_sub_one_eq_mod, shr_nI (by omega) (by omega), and1_nI, shl_nI (by omega) m3, fa_or, shr_nI (by omega) (by omega), shl_nI (by omega) m2, fa_or]
theorem op_move (a g : Int32) : OP 113 232 [.int a, .int g]
  | (c, w, B, hs, L, Ts, tp, im, sh), ok => by
    have ok' := ok
    obtain ⟨oB, oL, o3, o4, o5, o6, o7, o8, o9, ob⟩ := ok'
    have hp := p2c ob.2.1
    cases x1 : inR a 0 (nI (c - 1)) with
    | false =>
      refine ⟨(-5), _, ok, ?_, ?_⟩
      · intro d h K
        refine ⟨h, ?_, K, FrC.rf h⟩
        obtain ⟨ps, H, _⟩ := K
        rw [e_113]
        simp only [H.o0, H.o1, H.o2, H.o3, H.o4, H.o5, H.o6, H.o7, H.o8, H.o9, H.o10, H.b0, H.b1, H.b2, H.b3, H.b4, H.v3, H.v4, dR_ref, dA_ref, dA_null, dN_ref, dN_null, dD_ref, dD_int, cI_s, cV_s, cR_r, cR_n, cJ_s, bI_0, bI_1, zr_bI, zr_0, zr_1, eq_self, if_true, if_false, i10, i20, i01, i21, i02, i12, ior0, iad0, Bool.true_eq_false, Bool.false_eq_true, c_5 H, x1]
      · intro d h K
        refine ⟨h, ?_, K, Fr.rf h⟩
        obtain ⟨F, A, H, _⟩ := K
        rw [e_232]
        simp only [H.v, dR_ref, dA_ref, dA_null, dN_ref, dN_null, dD_ref, dD_int, cI_s, cV_s, cR_r, cR_n, cJ_s, bI_0, bI_1, zr_bI, zr_0, zr_1, eq_self, if_true, if_false, i10, i20, i01, i21, i02, i12, ior0, iad0, Bool.true_eq_false, Bool.false_eq_true, r_169 H, x1]
    | true =>
      cases x2 : inR g 0 (nI (c - 1)) with
      | false =>
        refine ⟨(-5), _, ok, ?_, ?_⟩
        · intro d h K
          refine ⟨h, ?_, K, FrC.rf h⟩
          obtain ⟨ps, H, _⟩ := K
          rw [e_113]
          simp only [H.o0, H.o1, H.o2, H.o3, H.o4, H.o5, H.o6, H.o7, H.o8, H.o9, H.o10, H.b0, H.b1, H.b2, H.b3, H.b4, H.v3, H.v4, dR_ref, dA_ref, dA_null, dN_ref, dN_null, dD_ref, dD_int, cI_s, cV_s, cR_r, cR_n, cJ_s, bI_0, bI_1, zr_bI, zr_0, zr_1, eq_self, if_true, if_false, i10, i20, i01, i21, i02, i12, ior0, iad0, Bool.true_eq_false, Bool.false_eq_true, c_5 H, x1, x2]
        · intro d h K
          refine ⟨h, ?_, K, Fr.rf h⟩
          obtain ⟨F, A, H, _⟩ := K
          rw [e_232]
          simp only [H.v, dR_ref, dA_ref, dA_null, dN_ref, dN_null, dD_ref, dD_int, cI_s, cV_s, cR_r, cR_n, cJ_s, bI_0, bI_1, zr_bI, zr_0, zr_1, eq_self, if_true, if_false, i10, i20, i01, i21, i02, i12, ior0, iad0, Bool.true_eq_false, Bool.false_eq_true, r_169 H, x1, x2]
      | true =>
        obtain ⟨i, hi, rfl⟩ := inR_of (by omega) x1
        obtain ⟨k, hk, rfl⟩ := inR_of (by omega) x2
        obtain ⟨X, hX, eX⟩ := mv_nI (i := i) (k := k) ob.2.1 (by omega) (by omega) oB
        refine ⟨(nI X), (c, w, X, hs, L, Ts, tp, im, sh), ok.bk hX, ?_, ?_⟩
        · intro d h K
          have K1 := K.bk X
          refine ⟨_, ?_, K1, FrC.st h (by decide) _⟩
          obtain ⟨ps, H, _⟩ := K
          obtain ⟨ps1, H1, _⟩ := K1
          rw [e_113]
          simp only [H.o0, H.o1, H.o2, H.o3, H.o4, H.o5, H.o6, H.o7, H.o8, H.o9, H.o10, H.b0, H.b1, H.b2, H.b3, H.b4, H.v3, H.v4, dR_ref, dA_ref, dA_null, dN_ref, dN_null, dD_ref, dD_int, cI_s, cV_s, cR_r, cR_n, cJ_s, bI_0, bI_1, zr_bI, zr_0, zr_1, eq_self, if_true, if_false, i10, i20, i01, i21, i02, i12, ior0, iad0, Bool.true_eq_false, Bool.false_eq_true, c_5 H, x1, x2, c_10 H, eX, H.p2, H1.o0, H1.b2]
        · intro d h K
          obtain ⟨F, A, H, h2⟩ := K
          have H1 := H.bk X
          refine ⟨_, ?_, ⟨_, _, H1, RVr.bk h2 _⟩, Fr.st h (by decide) (by decide) _⟩
          rw [e_232]
          simp only [H.v, dR_ref, dA_ref, dA_null, dN_ref, dN_null, dD_ref, dD_int, cI_s, cV_s, cR_r, cR_n, cJ_s, bI_0, bI_1, zr_bI, zr_0, zr_1, eq_self, if_true, if_false, i10, i20, i01, i21, i02, i12, ior0, iad0, Bool.true_eq_false, Bool.false_eq_true, r_169 H, x1, x2, r_231 H, eX, H.1.p2, H1.f2]
theorem op_count (a : Int32) : OP 87 177 [.int a]
  | (c, w, B, hs, L, Ts, tp, im, sh), ok => by
    refine ⟨(if a = 0 then nI c else if a = 1 then nI w else if a = 2 then nI B else if a = 3 then nI hs.length else if a = 4 then nI Ts.length else if a = 5 then nI L else if a = 6 then nI tp.length else -2), _, ok, ?_, ?_⟩
    · intro d h K
      refine ⟨h, ?_, K, FrC.rf h⟩
      obtain ⟨ps, H, _, _, _, _, ⟨x, y, z, bs, tk, pl, it, t1, _⟩, _⟩ := K
      have g0 : ∀ k : Int32 → MRes, gfI none h 7 [9] 0 k = k (nI tp.length) := fun k => gfI_at t1 rfl rfl k
      rw [e_87]
      simp only [H.o0, H.o1, H.o2, H.o3, H.o4, H.o5, H.o6, H.o7, H.o8, H.o9, H.o10, H.b0, H.b1, H.b2, H.b3, H.b4, H.v3, H.v4, dR_ref, dA_ref, dA_null, dN_ref, dN_null, dD_ref, dD_int, cI_s, cV_s, cR_r, cR_n, cJ_s, bI_0, bI_1, zr_bI, zr_0, zr_1, eq_self, if_true, if_false, i10, i20, i01, i21, i02, i12, ior0, iad0, Bool.true_eq_false, Bool.false_eq_true, g0]
      by_cases a0 : a = 0
      · simp only [if_pos a0]
      · by_cases a1 : a = 1
        · simp only [if_neg a0, if_pos a1]
        · by_cases a2 : a = 2
          · simp only [if_neg a0, if_neg a1, if_pos a2]
          · by_cases a3 : a = 3
            · simp only [if_neg a0, if_neg a1, if_neg a2, if_pos a3]
            · by_cases a4 : a = 4
              · simp only [if_neg a0, if_neg a1, if_neg a2, if_neg a3, if_pos a4]
              · by_cases a5 : a = 5
                · simp only [if_neg a0, if_neg a1, if_neg a2, if_neg a3, if_neg a4, if_pos a5]
                · by_cases a6 : a = 6
                  · simp only [if_neg a0, if_neg a1, if_neg a2, if_neg a3, if_neg a4, if_neg a5, if_pos a6]
                  · simp only [if_neg a0, if_neg a1, if_neg a2, if_neg a3, if_neg a4, if_neg a5, if_neg a6]
    · intro d h K
      refine ⟨h, ?_, K, Fr.rf h⟩
      obtain ⟨F, A, H, k1, k2, k3, _⟩ := K
      rw [e_177]
      simp only [H.f0, H.f1, H.f2, H.f3, H.1.f11, H.1.f12, H.1.f8, k2.1, k3.1, k3.2.1]
      by_cases a0 : a = 0
      · simp only [if_pos a0]
      · by_cases a1 : a = 1
        · simp only [if_neg a0, if_pos a1]
        · by_cases a2 : a = 2
          · simp only [if_neg a0, if_neg a1, if_pos a2]
          · by_cases a3 : a = 3
            · simp only [if_neg a0, if_neg a1, if_neg a2, if_pos a3]
            · by_cases a4 : a = 4
              · simp only [if_neg a0, if_neg a1, if_neg a2, if_neg a3, if_pos a4]
              · by_cases a5 : a = 5
                · simp only [if_neg a0, if_neg a1, if_neg a2, if_neg a3, if_neg a4, if_pos a5]
                · by_cases a6 : a = 6
                  · simp only [if_neg a0, if_neg a1, if_neg a2, if_neg a3, if_neg a4, if_neg a5, if_pos a6]
                  · simp only [if_neg a0, if_neg a1, if_neg a2, if_neg a3, if_neg a4, if_neg a5, if_neg a6]
theorem op_force (a : Int32) : OP 90 193 [.int a]
  | (c, w, B, hs, L, Ts, tp, im, sh), ok => by
    have ok' := ok
    obtain ⟨oB, oL, o3, o4, o5, o6, o7, o8, o9, ob⟩ := ok'
    cases x1 : inR a 0 (nI Ts.length - 1) with
    | false =>
      refine ⟨(-2), _, ok, ?_, ?_⟩
      · intro d h K
        refine ⟨h, ?_, K, FrC.rf h⟩
        obtain ⟨ps, H, _⟩ := K
        rw [e_90]
        simp only [H.o0, H.o1, H.o2, H.o3, H.o4, H.o5, H.o6, H.o7, H.o8, H.o9, H.o10, H.b0, H.b1, H.b2, H.b3, H.b4, H.v3, H.v4, dR_ref, dA_ref, dA_null, dN_ref, dN_null, dD_ref, dD_int, cI_s, cV_s, cR_r, cR_n, cJ_s, bI_0, bI_1, zr_bI, zr_0, zr_1, eq_self, if_true, if_false, i10, i20, i01, i21, i02, i12, ior0, iad0, Bool.true_eq_false, Bool.false_eq_true, c_133, x1]
      · intro d h K
        refine ⟨h, ?_, K, Fr.rf h⟩
        obtain ⟨F, A, H, k1, k2, k3, _⟩ := K
        rw [e_193]
        simp only [H.1.f11, k3.1, dR_ref, dA_ref, dA_null, dN_ref, dN_null, dD_ref, dD_int, cI_s, cV_s, cR_r, cR_n, cJ_s, bI_0, bI_1, zr_bI, zr_0, zr_1, eq_self, if_true, if_false, i10, i20, i01, i21, i02, i12, ior0, iad0, Bool.true_eq_false, Bool.false_eq_true, r_166, x1]
    | true =>
      obtain ⟨j, hj, rfl⟩ := inRm (by omega) x1
      refine ⟨(nI L), (c, w, B, hs, j, Ts, tp, im, sh), ⟨oB, hj, o3, o4, o5, o6, o7, o8, o9, ob⟩, ?_, ?_⟩
      · intro d h K
        have K1 := K.lw j
        refine ⟨_, ?_, K1, FrC.st h (by decide) _⟩
        obtain ⟨ps, H, _⟩ := K
        rw [e_90]
        simp only [H.o0, H.o1, H.o2, H.o3, H.o4, H.o5, H.o6, H.o7, H.o8, H.o9, H.o10, H.b0, H.b1, H.b2, H.b3, H.b4, H.v3, H.v4, dR_ref, dA_ref, dA_null, dN_ref, dN_null, dD_ref, dD_int, cI_s, cV_s, cR_r, cR_n, cJ_s, bI_0, bI_1, zr_bI, zr_0, zr_1, eq_self, if_true, if_false, i10, i20, i01, i21, i02, i12, ior0, iad0, Bool.true_eq_false, Bool.false_eq_true, c_133, x1, H.p5]
      · intro d h K
        obtain ⟨F, A, H, k1, k2, k3, k4⟩ := K
        refine ⟨_, ?_, ⟨fu F 12 (nI j), A, ⟨H.1.setF _, H.2.1, H.2.2.1, H.2.2.2⟩, k1, k2, ⟨k3.1, rfl, k3.2.2⟩, k4⟩, Fr.st h (by decide) (by decide) _⟩
        rw [e_193]
        simp only [H.1.f11, k3.1, dR_ref, dA_ref, dA_null, dN_ref, dN_null, dD_ref, dD_int, cI_s, cV_s, cR_r, cR_n, cJ_s, bI_0, bI_1, zr_bI, zr_0, zr_1, eq_self, if_true, if_false, i10, i20, i01, i21, i02, i12, ior0, iad0, Bool.true_eq_false, Bool.false_eq_true, r_166, x1, H.1.f12, k3.2.1, H.1.p12]
theorem op_image : OP 126 252 []
  | (c, w, B, hs, L, Ts, tp, im, sh), ok => by
    have ok' := ok
    obtain ⟨oB, oL, o3, o4, o5, o6, o7, o8, o9, ob⟩ := ok'
    refine ⟨(nI B), (c, w, B, hs, L, Ts, tp, (true, c, w, B, hs.length, L), sh), ⟨oB, oL, o3, o4, o5, o6, ob.2.2.2.2, fun _ => ⟨ob.1, ob.2.1, ob.2.2.1, ob.2.2.2.1, oB, Nat.le_refl _, oL⟩, o9, ob⟩, ?_, ?_⟩
    · intro d h K
      have K1 := K.imS (true, c, w, B, hs.length, L)
      refine ⟨_, ?_, K1, FrC.st h (by decide) _⟩
      obtain ⟨ps, H, hp, _, _, h5, _⟩ := K
      obtain ⟨ps1, H1, _⟩ := K1
      have vv : ∀ k : Nat → MRes, vd none h 6 [4, 34] k = k 34 := fun k => vd_at h5 rfl k
      have P : ∀ (a0 a1 a2 a3 a4 a5 : Int32) (k : Nat) (x : Int32) (K : MHeap → MRes), k < 6 → pfI none (h.set 6 (4, [.int a0, .int a1, .int a2, .int a3, .int a4, .int a5])) 6 [4] k x K = K (h.set 6 (4, ([Value.int a0, .int a1, .int a2, .int a3, .int a4, .int a5]).set k (.int x))) := by
        intro a0 a1 a2 a3 a4 a5 k x K hk
        rw [pfI_at (gset h5 _) rfl hk, List.set_set]
      have P0 : ∀ (x : Int32) (K : MHeap → MRes), pfI none h 6 [4] 0 x K = K (h.set 6 (4, [.int x, .int (nI im.2.1), .int (nI im.2.2.1), .int (nI im.2.2.2.1), .int (nI im.2.2.2.2.1), .int (nI im.2.2.2.2.2)])) := fun x K => pfI_at h5 rfl (by show 0 < 6; decide) x K
      have B4 : ∀ (x : MCell), CB (h.set 6 x) c w (nI B) hs (nI Ts.length) (nI L) ps := fun x => H.tr hp (fun a ha _ => gset_ne _ (by omega))
      have P1 := fun a0 a1 a2 a3 a4 a5 x K => P a0 a1 a2 a3 a4 a5 1 x K (by decide)
      have P2 := fun a0 a1 a2 a3 a4 a5 x K => P a0 a1 a2 a3 a4 a5 2 x K (by decide)
      have P3 := fun a0 a1 a2 a3 a4 a5 x K => P a0 a1 a2 a3 a4 a5 3 x K (by decide)
      have P4 := fun a0 a1 a2 a3 a4 a5 x K => P a0 a1 a2 a3 a4 a5 4 x K (by decide)
      have P5 := fun a0 a1 a2 a3 a4 a5 x K => P a0 a1 a2 a3 a4 a5 5 x K (by decide)
      simp only [List.set_cons_succ, List.set_cons_zero] at P1 P2 P3 P4 P5
      rw [e_126]
      simp only [H.o0, H.o1, H.o2, H.o3, H.o4, H.o5, H.o6, H.o7, H.o8, H.o9, H.o10, H.b0, H.b1, H.b2, H.b3, H.b4, H.v3, H.v4, dR_ref, dA_ref, dA_null, dN_ref, dN_null, dD_ref, dD_int, cI_s, cV_s, cR_r, cR_n, cJ_s, bI_0, bI_1, zr_bI, zr_0, zr_1, eq_self, if_true, if_false, i10, i20, i01, i21, i02, i12, ior0, iad0, Bool.true_eq_false, Bool.false_eq_true, vv, e_34, P0, P1, P2, P3, P4, P5, (B4 _).b0, (B4 _).b1, (B4 _).b2, (B4 _).b3, (B4 _).o0]
      rfl
    · intro d h K
      obtain ⟨F, A, H, k1, k2, k3, k4⟩ := K
      have q : RH (h.set 28 (rC (fu (fu (fu (fu (fu (fu F 13 1) 14 (nI c)) 15 (nI w)) 16 (nI B)) 17 (nI hs.length)) 18 (nI L)))) (fu (fu (fu (fu (fu (fu F 13 1) 14 (nI c)) 15 (nI w)) 16 (nI B)) 17 (nI hs.length)) 18 (nI L)) A := H.1.setF _
      refine ⟨_, ?_, ⟨_, A, ⟨q, H.2.1, H.2.2.1, H.2.2.2⟩, ⟨rfl, rfl, rfl, rfl, rfl, rfl⟩, k2, k3, k4⟩, Fr.st h (by decide) (by decide) _⟩
      have P : ∀ G : Nat → Int32, RH (h.set 28 (rC G)) G A := fun G => H.1.setF G
      rw [e_252]
      have s1 : ∀ (G G' : Nat → Int32), (h.set 28 (rC G)).set 28 (rC G') = h.set 28 (rC G') := fun G G' => List.set_set ..
      rw [zr_1, H.1.p13, (P _).f0, (P _).p14, s1, (P _).f1, (P _).p15, s1, (P _).f2, (P _).p16, s1, (P _).f3, (P _).p17, s1, (P _).f12, (P _).p18, s1, (P _).f2]
      obtain ⟨f0, f1, f2, f3⟩ := H.2.2.1
      have g0 : fu F 13 1 0 = nI c := f0
      have g1 : ∀ x, fu (fu F 13 1) 14 x 1 = nI w := fun _ => f1
      have g2 : ∀ x y, fu (fu (fu F 13 1) 14 x) 15 y 2 = nI B := fun _ _ => f2
      have g3 : ∀ x y z, fu (fu (fu (fu F 13 1) 14 x) 15 y) 16 z 3 = nI hs.length := fun _ _ _ => f3
      have g4 : ∀ x y z t, fu (fu (fu (fu (fu F 13 1) 14 x) 15 y) 16 z) 17 t 12 = nI L := fun _ _ _ _ => k3.2.1
      have g5 : ∀ x y z t u, fu (fu (fu (fu (fu (fu F 13 1) 14 x) 15 y) 16 z) 17 t) 18 u 2 = nI B := fun _ _ _ _ _ => f2
      rw [g0, g1, g2, g3, g4, g5]
