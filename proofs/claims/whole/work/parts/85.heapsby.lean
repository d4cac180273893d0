/-! heapsBy -/
theorem hb_loop (s m p : Nat) (g n : Int32) (hs4 : s < 4) (hm : m ≤ 7) {c w B L : Nat} {Ts : List Txt} {tp : List Nat} {im : Img} {sh : Nat → Sht} (hp : p ≤ 37) : ∀ k, k ≤ m → ∀ (hs : List Ent) (came : Int32), OKS (c, w, B, hs, L, Ts, tp, im, sh) → ∃ (v : Int32) (hs' : List Ent), OKS (c, w, B, hs', L, Ts, tp, im, sh) ∧ (∀ (d : Nat) (h : MHeap), CV h (c, w, B, hs, L, Ts, tp, im, sh) → ∃ h1, ex (d + 199) 131 67 [sv (.ref 3), sv (.int (nI s)), sv (.int g), sv (.int n), sv (.int (nI m)), sv (.ref (14 + 2 * s)), sv (.int came), sv (.int (nI (p + 3 * k))), sv (.int (nI k))] [] h = some (some (.int v), h1) ∧ CV h1 (c, w, B, hs', L, Ts, tp, im, sh) ∧ (∀ a : Nat, (a = 0 ∨ (28 ≤ a ∧ a ≤ 44)) → h1[a]? = h[a]?) ∧ h.length ≤ h1.length ∧ h1.length ≤ h.length + (m - k)) ∧ (∀ (d : Nat) (h : MHeap) (j1 j2 : MSl), RV h (c, w, B, hs, L, Ts, tp, im, sh) → ∃ h2, ex (d + 199) 257 64 [sv (.ref 28), sv (.int (nI s)), sv (.int g), sv (.int (nI p)), sv (.int (nI m)), sv (.int came), sv (.int (nI k)), j1, j2] [] h = some (some (.int v), h2) ∧ RV h2 (c, w, B, hs', L, Ts, tp, im, sh) ∧ Fr h h2) := by
  intro k hk
  refine up_ind (n := m) (P := fun k => ∀ (hs : List Ent) (came : Int32), OKS (c, w, B, hs, L, Ts, tp, im, sh) → ∃ (v : Int32) (hs' : List Ent), OKS (c, w, B, hs', L, Ts, tp, im, sh) ∧ (∀ (d : Nat) (h : MHeap), CV h (c, w, B, hs, L, Ts, tp, im, sh) → ∃ h1, ex (d + 199) 131 67 [sv (.ref 3), sv (.int (nI s)), sv (.int g), sv (.int n), sv (.int (nI m)), sv (.ref (14 + 2 * s)), sv (.int came), sv (.int (nI (p + 3 * k))), sv (.int (nI k))] [] h = some (some (.int v), h1) ∧ CV h1 (c, w, B, hs', L, Ts, tp, im, sh) ∧ (∀ a : Nat, (a = 0 ∨ (28 ≤ a ∧ a ≤ 44)) → h1[a]? = h[a]?) ∧ h.length ≤ h1.length ∧ h1.length ≤ h.length + (m - k)) ∧ (∀ (d : Nat) (h : MHeap) (j1 j2 : MSl), RV h (c, w, B, hs, L, Ts, tp, im, sh) → ∃ h2, ex (d + 199) 257 64 [sv (.ref 28), sv (.int (nI s)), sv (.int g), sv (.int (nI p)), sv (.int (nI m)), sv (.int came), sv (.int (nI k)), j1, j2] [] h = some (some (.int v), h2) ∧ RV h2 (c, w, B, hs', L, Ts, tp, im, sh) ∧ Fr h h2)) ?_ ?_ hk
  · intro hs came ok
    refine ⟨came, hs, ok, ?_, ?_⟩
    · intro d h K
      exact ⟨h, by rw [e_131_67, if_neg (nI_nlt (Nat.le_refl _) (by omega))], K, fun _ _ => rfl, Nat.le_refl _, by omega⟩
    · intro d h j1 j2 K
      exact ⟨h, by rw [e_257_64, if_neg (nI_nlt (Nat.le_refl _) (by omega))], K, Fr.rf h⟩
  · intro k hk ih hs came ok
    have ok' := ok
    obtain ⟨oB, oL, o3, o4, o5, o6, o7, o8, o9, ob⟩ := ok'
    have zs := o9 s hs4
    have i3 : (3 : Int32) * nI k = nI (3 * k) := by rw [show (3 : Int32) = nI 3 from rfl, pk_mul]
    by_cases q : p + 3 * k + 3 ≤ (sh s).2.1
    · obtain ⟨v1, hs1, ok1, q1, q2⟩ := op_heap' ((sh s).2.2.getD (p + 3 * k) 0) ((sh s).2.2.getD (p + 3 * k + 1) 0) ((sh s).2.2.getD (p + 3 * k + 2) 0) ok
      obtain ⟨v, hs', ok2, q3, q4⟩ := ih hs1 (if v1 < 0 then came else came + 1) ok1
      refine ⟨v, hs', ok2, ?_, ?_⟩
      · intro d h K
        obtain ⟨h1, e1, K1, G1, l1⟩ := q1 (d + 189) h K
        obtain ⟨h2, e2, K2, G2, l2, l3⟩ := q3 d h1 K1
        refine ⟨h2, ?_, K2, fun a ha => (G2 a ha).trans (G1.1 a ha), by have := G1.2.1; omega, by omega⟩
        obtain ⟨ps, H, _, _, _, _, _, _, S, _⟩ := K
        have st : strq (sh s).2.1 (nI (p + 3 * k)) 3 = true := (strq_iff zs.1).2 ⟨p + 3 * k, 3, rfl, rfl, q⟩
        have c0 := c_48 S o9 hs4 (i := p + 3 * k) (by omega) (d + 198)
        have c1 := c_48 S o9 hs4 (i := p + 3 * k + 1) (by omega) (d + 198)
        have c2 := c_48 S o9 hs4 (i := p + 3 * k + 2) (by omega) (d + 198)
        rw [e_131_67, if_pos (nI_lt hk (by omega))]
        simp only [dR_ref, dA_ref, dA_null, dN_ref, dN_null, dD_ref, dD_int, cI_s, cV_s, cR_r, cR_n, cJ_s, bI_0, bI_1, zr_bI, zr_0, zr_1, eq_self, if_true, if_false, i10, i20, i01, i21, i02, i12, ior0, iad0, Bool.true_eq_false, Bool.false_eq_true, S.vv hs4, c_47 S hs4, st, nI_1, show nI (p + 3 * k) + (2 : Int32) = nI (p + 3 * k + 2) from nI_add _ 2, show nI (p + 3 * k) + (3 : Int32) = nI (p + 3 * (k + 1)) from (nI_add _ 3).trans (by rw [show p + 3 * k + 3 = p + 3 * (k + 1) by omega]), c0, c1, c2, H.v3, e1]
        by_cases y : v1 < 0
        · rw [if_pos y]; rw [if_pos y] at e2; exact e2
        · rw [if_neg y]; rw [if_neg y] at e2; exact e2
      · intro d h j1 j2 K
        obtain ⟨h1, e1, K1, G1⟩ := q2 (d + 189) h K
        obtain ⟨h2, e2, K2, G2⟩ := q4 d h1 (sv (.int (nI (p + 3 * k)))) (sv (.int (nI (40 * s + (p + 3 * k))))) K1
        refine ⟨h2, ?_, K2, G1.tr G2⟩
        obtain ⟨F, A, H, k1, k2, k3, k4, k5⟩ := K
        obtain ⟨s1, s2, s3⟩ := k4 s hs4
        rw [e_257_64, if_pos (nI_lt hk (by omega)), if_neg (nI_pos (by omega)), i3, nI_add, if_neg (nI_nlt (by omega) (by omega)), H.1.f20, dR_ref, H.1.al (by decide) (by decide) (show s < 4 from hs4), s2, show (3 : Int32) = nI 3 from rfl, pk_sub (by omega), if_neg (nI_nlt (by omega) (by omega)), show (40 : Int32) = nI 40 from rfl, pk_mul, nI_add, nI_1, show nI (40 * s + (p + 3 * k)) + (2 : Int32) = nI (40 * s + (p + 3 * k) + 2) from nI_add _ 2, H.1.f21, dR_ref, H.1.al (by decide) (by decide) (show 40 * s + (p + 3 * k) < 160 by omega), s3 _ (by omega), H.1.f21, dR_ref, H.1.al (by decide) (by decide) (show 40 * s + (p + 3 * k) + 1 < 160 by omega), show 40 * s + (p + 3 * k) + 1 = 40 * s + (p + 3 * k + 1) by omega, s3 _ (by omega), H.1.f21, dR_ref, H.1.al (by decide) (by decide) (show 40 * s + (p + 3 * k) + 2 < 160 by omega), show 40 * s + (p + 3 * k) + 2 = 40 * s + (p + 3 * k + 2) by omega, s3 _ (by omega), H.v, e1, cI_s, iad0, nI_1]
        by_cases y : v1 < 0
        · rw [if_pos y]; rw [if_pos y] at e2; exact e2
        · rw [if_neg y]; rw [if_neg y] at e2; exact e2
    · refine ⟨-12, hs, ok, ?_, ?_⟩
      · intro d h K
        refine ⟨h, ?_, K, fun _ _ => rfl, Nat.le_refl _, by omega⟩
        obtain ⟨ps, H, _, _, _, _, _, _, S, _⟩ := K
        have st : strq (sh s).2.1 (nI (p + 3 * k)) 3 = false := by
          cases x : strq (sh s).2.1 (nI (p + 3 * k)) 3 with
          | false => rfl
          | true =>
            obtain ⟨i', n', e1, e2, y⟩ := (strq_iff zs.1).1 x
            have y1 := (nI_eq (by omega) (by omega)).1 e1
            have y2 := (nI_eq (a := 3) (by decide) (by omega)).1 e2
            omega
        rw [e_131_67, if_pos (nI_lt hk (by omega))]
        simp only [dR_ref, dA_ref, dA_null, dN_ref, dN_null, dD_ref, dD_int, cI_s, cV_s, cR_r, cR_n, cJ_s, bI_0, bI_1, zr_bI, zr_0, zr_1, eq_self, if_true, if_false, i10, i20, i01, i21, i02, i12, ior0, iad0, Bool.true_eq_false, Bool.false_eq_true, S.vv hs4, c_47 S hs4, st]
      · intro d h j1 j2 K
        refine ⟨h, ?_, K, Fr.rf h⟩
        obtain ⟨F, A, H, k1, k2, k3, k4, k5⟩ := K
        obtain ⟨s1, s2, s3⟩ := k4 s hs4
        rw [e_257_64, if_pos (nI_lt hk (by omega)), if_neg (nI_pos (by omega)), i3, nI_add, if_neg (nI_nlt (by omega) (by omega)), H.1.f20, dR_ref, H.1.al (by decide) (by decide) (show s < 4 from hs4), s2]
        rw [if_pos]
        rw [Int32.lt_iff_toInt_lt]
        have t1 : (nI (sh s).2.1 - 3 : Int32).toInt = ((sh s).2.1 : Int) - 3 := pk_sub_toInt (b := 3) (by omega) (by decide)
        have t2 : (nI (p + 3 * k)).toInt = ((p + 3 * k : Nat) : Int) := by
          have := pk_sub_toInt (a := p + 3 * k) (b := 0) (by omega) (by decide)
          rw [pk_sub (by omega)] at this
          simpa using this
        rw [t1, t2]
        omega
theorem op_heapsBy (a g f n : Int32) : OP 131 257 [.int a, .int g, .int f, .int n]
  | (c, w, B, hs, L, Ts, tp, im, sh), ok => by
    have ok' := ok
    obtain ⟨oB, oL, o3, o4, o5, o6, o7, o8, o9, ob⟩ := ok'
    cases x1 : inR a 0 3 with
    | false =>
      refine ⟨(-2), _, ok, ?_, ?_⟩
      · intro d h K
        refine ⟨h, ?_, K, FrC.rf h⟩
        obtain ⟨ps, H, _, _, _, _, _, _, S, _⟩ := K
        rw [e_131]
        simp only [H.o0, H.o1, H.o2, H.o3, H.o4, H.o5, H.o6, H.o7, H.o8, H.o9, H.o10, H.b0, H.b1, H.b2, H.b3, H.b4, H.v3, H.v4, dR_ref, dA_ref, dA_null, dN_ref, dN_null, dD_ref, dD_int, cI_s, cV_s, cR_r, cR_n, cJ_s, bI_0, bI_1, zr_bI, zr_0, zr_1, eq_self, if_true, if_false, i10, i20, i01, i21, i02, i12, ior0, iad0, Bool.true_eq_false, Bool.false_eq_true, c_156n H S x1]
      · intro d h K
        refine ⟨h, ?_, K, Fr.rf h⟩
        rw [e_257, r_166, cI_s, x1]; rfl
    | true =>
      obtain ⟨s, hs4, rfl⟩ := inR_of (n := 3) (by decide) x1
      have hs4 : s < 4 := by omega
      have zs := o9 s hs4
      by_cases bad : inR g 0 2 = false ∨ inR n 0 7 = false
      · refine ⟨(-2), _, ok, ?_, ?_⟩
        · intro d h K
          refine ⟨h, ?_, K, FrC.rf h⟩
          obtain ⟨ps, H, _, _, _, _, _, _, S, _⟩ := K
          rw [e_131]
          simp only [H.o0, H.o1, H.o2, H.o3, H.o4, H.o5, H.o6, H.o7, H.o8, H.o9, H.o10, H.b0, H.b1, H.b2, H.b3, H.b4, H.v3, H.v4, dR_ref, dA_ref, dA_null, dN_ref, dN_null, dD_ref, dD_int, cI_s, cV_s, cR_r, cR_n, cJ_s, bI_0, bI_1, zr_bI, zr_0, zr_1, eq_self, if_true, if_false, i10, i20, i01, i21, i02, i12, ior0, iad0, Bool.true_eq_false, Bool.false_eq_true, c_156 H S hs4, c_133]
          revert bad
          cases inR g 0 2 <;> cases inR n 0 7 <;> intro bad <;> first | rfl | (rcases bad with z | z <;> cases z)
        · intro d h K
          refine ⟨h, ?_, K, Fr.rf h⟩
          rw [e_257, r_166, cI_s, x1, r_166, cI_s, r_166, cI_s]
          revert bad
          cases inR g 0 2 <;> cases inR n 0 7 <;> intro bad <;> first | rfl | (rcases bad with z | z <;> cases z)
      · have x2 : inR g 0 2 = true := by cases x : inR g 0 2 with
          | false => exact absurd (Or.inl x) bad
          | true => rfl
        have x3 : inR n 0 7 = true := by cases x : inR n 0 7 with
          | false => exact absurd (Or.inr x) bad
          | true => rfl
        obtain ⟨m, hm, rfl⟩ := inR_of (n := 7) (by decide) x3
        have rhead : ∀ (d : Nat) (h : MHeap) (F : Nat → Int32) (A : Nat → List Int32), RB h F A c w (nI B) hs → RSh A sh → call (d + 200) 257 [.ref 28, .int (nI s), .int g, .int f, .int (nI m)] h = (if (sh s).1 = -1 then some (some (.int (-11)), h) else if (sh s).1 = g then ex (d + 199) 257 64 [sv (.ref 28), sv (.int (nI s)), sv (.int g), sv (.int f), sv (.int (nI m)), sv (.int 0), sv (.int 0), none, none] [] h else some (some (.int (-13)), h)) := by
          intro d h F A H S
          obtain ⟨s1, s2, s3⟩ := S s hs4
          have l35 : ∀ (k : Int32 → MRes), alI none h 35 (nI s) k = k (sh s).1 := fun k => by rw [H.1.al (by decide) (by decide) (show s < 4 from hs4), s1]
          rw [e_257, r_166, cI_s, x1, r_166, cI_s, x2, r_166, cI_s, x3, if_neg (by decide), if_neg (by decide), if_neg (by decide)]
          simp only [H.1.f19, dR_ref, l35]
        by_cases q1 : (sh s).1 = -1
        · refine ⟨(-11), _, ok, ?_, ?_⟩
          · intro d h K
            refine ⟨h, ?_, K, FrC.rf h⟩
            obtain ⟨ps, H, _, _, _, _, _, _, S, _⟩ := K
            rw [e_131]
            simp only [H.o0, H.o1, H.o2, H.o3, H.o4, H.o5, H.o6, H.o7, H.o8, H.o9, H.o10, H.b0, H.b1, H.b2, H.b3, H.b4, H.v3, H.v4, dR_ref, dA_ref, dA_null, dN_ref, dN_null, dD_ref, dD_int, cI_s, cV_s, cR_r, cR_n, cJ_s, bI_0, bI_1, zr_bI, zr_0, zr_1, eq_self, if_true, if_false, i10, i20, i01, i21, i02, i12, ior0, iad0, Bool.true_eq_false, Bool.false_eq_true, c_156 H S hs4, c_133, x2, x3, S.vv hs4, c_45 S hs4, decide_eq_true q1]
          · intro d h K
            refine ⟨h, ?_, K, Fr.rf h⟩
            obtain ⟨F, A, H, k1, k2, k3, k4, k5⟩ := K
            rw [rhead d h F A H k4, if_pos q1]
        · by_cases q2 : (sh s).1 = g
          · have cin : ∀ (d : Nat) (h : MHeap), CV h (c, w, B, hs, L, Ts, tp, im, sh) → call (d + 200) 131 [.ref 3, .int (nI s), .int g, .int f, .int (nI m)] h = ex (d + 199) 131 67 [sv (.ref 3), sv (.int (nI s)), sv (.int g), sv (.int f), sv (.int (nI m)), sv (.ref (14 + 2 * s)), sv (.int 0), sv (.int f), sv (.int 0)] [] h := by
              intro d h K
              obtain ⟨ps, H, _, _, _, _, _, _, S, _⟩ := K
              rw [e_131]
              simp only [H.o0, H.o1, H.o2, H.o3, H.o4, H.o5, H.o6, H.o7, H.o8, H.o9, H.o10, H.b0, H.b1, H.b2, H.b3, H.b4, H.v3, H.v4, dR_ref, dA_ref, dA_null, dN_ref, dN_null, dD_ref, dD_int, cI_s, cV_s, cR_r, cR_n, cJ_s, bI_0, bI_1, zr_bI, zr_0, zr_1, eq_self, if_true, if_false, i10, i20, i01, i21, i02, i12, ior0, iad0, Bool.true_eq_false, Bool.false_eq_true, c_156 H S hs4, c_133, x2, x3, S.vv hs4, c_45 S hs4, decide_eq_false q1, S.g0 hs4, if_pos q2]
            by_cases q3 : strq (sh s).2.1 f 3 = true
            · obtain ⟨p, n', rfl, e3, y⟩ := (strq_iff zs.1).1 q3
              have y2 := (nI_eq (a := 3) (by decide) (by omega)).1 e3
              obtain ⟨v, hs', ok2, r1, r2⟩ := hb_loop s m p g (nI p) hs4 hm (c := c) (w := w) (B := B) (L := L) (Ts := Ts) (tp := tp) (im := im) (sh := sh) (by omega) 0 (by omega) hs 0 ok
              refine ⟨v, _, ok2, ?_, ?_⟩
              · intro d h K
                obtain ⟨h1, e1, K1, G1, l1, l2⟩ := r1 d h K
                exact ⟨h1, by rw [cin d h K]; exact e1, K1, G1, l1, by omega⟩
              · intro d h K
                obtain ⟨h2, e2, K2, G2⟩ := r2 d h none none K
                refine ⟨h2, ?_, K2, G2⟩
                obtain ⟨F, A, H, k1, k2, k3, k4, k5⟩ := K
                rw [rhead d h F A H k4, if_neg q1, if_pos q2]
                exact e2
            · have q3' : strq (sh s).2.1 f 3 = false := Bool.eq_false_iff.2 q3
              rcases Nat.eq_zero_or_pos m with m0 | m0
              · subst m0
                refine ⟨0, _, ok, ?_, ?_⟩
                · intro d h K
                  exact ⟨h, by rw [cin d h K, e_131_67, if_neg (by decide)], K, FrC.rf h⟩
                · intro d h K
                  refine ⟨h, ?_, K, Fr.rf h⟩
                  obtain ⟨F, A, H, k1, k2, k3, k4, k5⟩ := K
                  rw [rhead d h F A H k4, if_neg q1, if_pos q2, e_257_64, if_neg (by decide)]
              · have m1 : (0 : Int32) < nI m := nI_lt (a := 0) m0 (by omega)
                refine ⟨(-12), _, ok, ?_, ?_⟩
                · intro d h K
                  refine ⟨h, ?_, K, FrC.rf h⟩
                  rw [cin d h K, e_131_67, if_pos m1]
                  obtain ⟨ps, H, _, _, _, _, _, _, S, _⟩ := K
                  simp only [dR_ref, dA_ref, dA_null, dN_ref, dN_null, dD_ref, dD_int, cI_s, cV_s, cR_r, cR_n, cJ_s, bI_0, bI_1, zr_bI, zr_0, zr_1, eq_self, if_true, if_false, i10, i20, i01, i21, i02, i12, ior0, iad0, Bool.true_eq_false, Bool.false_eq_true, S.vv hs4, c_47 S hs4, q3']
                · intro d h K
                  refine ⟨h, ?_, K, Fr.rf h⟩
                  obtain ⟨F, A, H, k1, k2, k3, k4, k5⟩ := K
                  obtain ⟨s1, s2, s3⟩ := k4 s hs4
                  rw [rhead d h F A H k4, if_neg q1, if_pos q2, e_257_64, if_pos m1]
                  by_cases f0 : f < 0
                  · rw [if_pos f0]
                  · obtain ⟨p, hp, rfl⟩ := nI_of f0
                    rw [if_neg f0, show (3 : Int32) * 0 = 0 from by decide, iad0, if_neg (nI_nlt (Nat.le_refl _) hp), H.1.f20, dR_ref, H.1.al (by decide) (by decide) (show s < 4 from hs4), s2, if_pos]
                    rw [Int32.lt_iff_toInt_lt]
                    have t1 : (nI (sh s).2.1 - 3 : Int32).toInt = ((sh s).2.1 : Int) - 3 := pk_sub_toInt (b := 3) (by omega) (by decide)
                    have t2 : (nI p).toInt = (p : Int) := by
                      have e0 : (nI p).toBitVec.toNat = p := pk_tn (by omega)
                      show (nI p).toBitVec.toInt = _
                      rw [BitVec.toInt_eq_toNat_cond, e0]
                      split <;> omega
                    have : ¬ p + 3 ≤ (sh s).2.1 := fun z => q3 ((strq_iff zs.1).2 ⟨p, 3, rfl, rfl, z⟩)
                    rw [t1, t2]
                    omega
          · refine ⟨(-13), _, ok, ?_, ?_⟩
            · intro d h K
              refine ⟨h, ?_, K, FrC.rf h⟩
              obtain ⟨ps, H, _, _, _, _, _, _, S, _⟩ := K
              rw [e_131]
              simp only [H.o0, H.o1, H.o2, H.o3, H.o4, H.o5, H.o6, H.o7, H.o8, H.o9, H.o10, H.b0, H.b1, H.b2, H.b3, H.b4, H.v3, H.v4, dR_ref, dA_ref, dA_null, dN_ref, dN_null, dD_ref, dD_int, cI_s, cV_s, cR_r, cR_n, cJ_s, bI_0, bI_1, zr_bI, zr_0, zr_1, eq_self, if_true, if_false, i10, i20, i01, i21, i02, i12, ior0, iad0, Bool.true_eq_false, Bool.false_eq_true, c_156 H S hs4, c_133, x2, x3, S.vv hs4, c_45 S hs4, decide_eq_false q1, S.g0 hs4, if_neg q2]
            · intro d h K
              refine ⟨h, ?_, K, Fr.rf h⟩
              obtain ⟨F, A, H, k1, k2, k3, k4, k5⟩ := K
              rw [rhead d h F A H k4, if_neg q1, if_neg q2]
