/-! film, cell -/
def flL (c w : Nat) (b : Int32) (hs : List Ent) : List Int32 := (List.range 40).map fun i => if i < hs.length then nI ((sl c w hs b).getD i 0) else 0
theorem flL_len (c w : Nat) (b : Int32) (hs : List Ent) : (flL c w b hs).length = 40 := by simp [flL]
theorem flL_get (c w : Nat) (b : Int32) (hs : List Ent) {i : Nat} (hi : i < 40) : (flL c w b hs).getD i 0 = if i < hs.length then nI ((sl c w hs b).getD i 0) else 0 := by
  unfold flL
  rw [List.getD_eq_getElem?_getD, List.getElem?_map, List.getElem?_range hi]; rfl
theorem op_film (a : Int32) : OP 123 247 [.int a]
  | (c, w, B, hs, L, Ts, tp, im, sh), ok => by
    have ok' := ok
    obtain ⟨oB, oL, o3, o4, o5, o6, o7, o8, o9, ob⟩ := ok'
    cases x1 : inR a 0 3 with
    | false =>
      refine ⟨(-2), _, ok, ?_, ?_⟩
      · intro d h K
        refine ⟨h, ?_, K, FrC.rf h⟩
        obtain ⟨ps, H, _, _, _, _, _, _, S, _⟩ := K
        rw [e_123]
        simp only [H.o0, H.o1, H.o2, H.o3, H.o4, H.o5, H.o6, H.o7, H.o8, H.o9, H.o10, H.b0, H.b1, H.b2, H.b3, H.b4, H.v3, H.v4, dR_ref, dA_ref, dA_null, dN_ref, dN_null, dD_ref, dD_int, cI_s, cV_s, cR_r, cR_n, cJ_s, bI_0, bI_1, zr_bI, zr_0, zr_1, eq_self, if_true, if_false, i10, i20, i01, i21, i02, i12, ior0, iad0, Bool.true_eq_false, Bool.false_eq_true, c_156n H S x1]
      · intro d h K
        refine ⟨h, ?_, K, Fr.rf h⟩
        rw [e_247, r_166, cI_s, x1]; rfl
    | true =>
      obtain ⟨s, hs4, rfl⟩ := inR_of (n := 3) (by decide) x1
      have hs4 : s < 4 := by omega
      refine ⟨(nI hs.length), (c, w, B, hs, L, Ts, tp, im, fu sh s (2, hs.length, flL c w (nI B) hs)), ok.shS (by omega) (flL_len _ _ _ _), ?_, ?_⟩
      · intro d h K
        have K0 := K
        obtain ⟨ps, H, hp, _, _, _, _, _, S, _⟩ := K0
        have e1 := c_46 S hs4 2 (n := hs.length) (by omega) (d + 197)
        have FX : ∀ xs : List Int32, xs.length = 40 → CV ((h.set (14 + 2 * s) (7, [.int 2, .int (nI hs.length), .ref (15 + 2 * s)])).set (15 + 2 * s) (100, xs.map .int)) (c, w, B, hs, L, Ts, tp, im, fu sh s (2, hs.length, xs)) := fun xs hx => K.shS hs4 2 hs.length hx
        have key : ∀ i, i ≤ hs.length → ∀ xs : List Int32, xs.length = 40 → (∀ j, j < i → xs.getD j 0 = nI ((sl c w hs (nI B)).getD j 0)) → (∀ j, i ≤ j → xs.getD j 0 = 0) → ex (d + 199) 123 43 [sv (.ref 3), sv (.int (nI s)), sv (.ref (14 + 2 * s)), sv (.int (nI (sgs c w hs (nI B)))), sv (.int (nI i))] [] ((h.set (14 + 2 * s) (7, [.int 2, .int (nI hs.length), .ref (15 + 2 * s)])).set (15 + 2 * s) (100, xs.map .int)) = some (some (.int (nI hs.length)), (h.set (14 + 2 * s) (7, [.int 2, .int (nI hs.length), .ref (15 + 2 * s)])).set (15 + 2 * s) (100, (flL c w (nI B) hs).map .int)) := by
          intro i hi
          refine up_ind (n := hs.length) (P := fun i => ∀ xs : List Int32, xs.length = 40 → (∀ j, j < i → xs.getD j 0 = nI ((sl c w hs (nI B)).getD j 0)) → (∀ j, i ≤ j → xs.getD j 0 = 0) → ex (d + 199) 123 43 [sv (.ref 3), sv (.int (nI s)), sv (.ref (14 + 2 * s)), sv (.int (nI (sgs c w hs (nI B)))), sv (.int (nI i))] [] ((h.set (14 + 2 * s) (7, [.int 2, .int (nI hs.length), .ref (15 + 2 * s)])).set (15 + 2 * s) (100, xs.map .int)) = some (some (.int (nI hs.length)), (h.set (14 + 2 * s) (7, [.int 2, .int (nI hs.length), .ref (15 + 2 * s)])).set (15 + 2 * s) (100, (flL c w (nI B) hs).map .int))) ?_ ?_ hi
          · intro xs hx h1 h2
            obtain ⟨ps1, H1, _⟩ := FX xs hx
            have : xs = flL c w (nI B) hs := getD_extI (by rw [hx, flL_len]) (fun j hj => by
              rw [flL_get _ _ _ _ (by omega)]
              by_cases z : j < hs.length
              · rw [if_pos z]; exact h1 j z
              · rw [if_neg z]; exact h2 j (by omega))
            rw [e_123_43, H1.o0, dR_ref, H1.b3, if_neg (nI_nlt (Nat.le_refl _) (by omega)), H1.o0, dR_ref, H1.b3, this]
          · intro i hi ih xs hx h1 h2
            have KX := FX xs hx
            have okx := (ok.shS (s := s) (so := 2) (sz := hs.length) (xs := xs) (by omega) hx).2.2.2.2.2.2.2.2.1
            obtain ⟨ps1, H1, _, _, _, _, _, _, S1, _⟩ := KX
            have fs : fu sh s (2, hs.length, xs) s = (2, hs.length, xs) := fu_eq _ _ _
            have c49 := c_49 S1 okx hs4 (i := i) (by rw [fs]; exact hi) (nI ((sl c w hs (nI B)).getD i 0)) (d + 198)
            rw [fs, List.set_set] at c49
            have l3 := sgs_lt (c := c) (w := w) ob.2.2.2.2 H1.ok (nI B)
            have sg : (nI (sgs c w hs (nI B)) >>> ((4 * nI i) &&& 31)) &&& 15 = nI ((sl c w hs (nI B)).getD i 0) := by
              rw [sg_in (by omega) (by omega), sgs_sl, pkN_get (sl_lt H1.ok (nI B)) i (by rw [sl_len]; exact hi)]
            rw [e_123_43, H1.o0, dR_ref, H1.b3, if_pos (nI_lt hi (by omega)), dA_ref, e_140, cI_s, sg, dR_ref, S1.vv hs4, c49, cV_s, nI_1]
            refine ih (xs.set i (nI ((sl c w hs (nI B)).getD i 0))) (by rw [List.length_set]; exact hx) ?_ ?_
            · intro j hj
              rw [getD_set (by omega)]
              by_cases z : j = i
              · rw [if_pos z, z]
              · rw [if_neg z]; exact h1 j (by omega)
            · intro j hj
              rw [getD_set (by omega), if_neg (by omega)]; exact h2 j (by omega)
        have K1 := FX (flL c w (nI B) hs) (flL_len _ _ _ _)
        refine ⟨_, ?_, K1, FrC.shS h hs4 _ _⟩
        obtain ⟨ps1, H1, _⟩ := FX (List.replicate 40 0) (by simp)
        rw [e_123]
        simp only [H.o0, H.o1, H.o2, H.o3, H.o4, H.o5, H.o6, H.o7, H.o8, H.o9, H.o10, H.b0, H.b1, H.b2, H.b3, H.b4, H.v3, H.v4, dR_ref, dA_ref, dA_null, dN_ref, dN_null, dD_ref, dD_int, cI_s, cV_s, cR_r, cR_n, cJ_s, bI_0, bI_1, zr_bI, zr_0, zr_1, eq_self, if_true, if_false, i10, i20, i01, i21, i02, i12, ior0, iad0, Bool.true_eq_false, Bool.false_eq_true, c_156 H S hs4, S.vv hs4, e1, H1.o0, H1.b2, H1.v4, c_16 H1]
        exact key 0 (by omega) _ (by simp) (fun j hj => by omega) (fun j _ => rep0)
      · intro d h K
        obtain ⟨F, A, H, k1, k2, k3, k4, k5⟩ := K
        obtain ⟨h1, h2, A2, e1, e2, e2', e3, R2, G2, a2, a35, a36⟩ := r_sosz H.1 hs4 2 (nI hs.length)
        have F3 := H.2.2.1.2.2.2
        obtain ⟨h3, A3, e4, R3, G3, b1, b2, b3⟩ := r_fill R2 hs4 (fun k => if k < hs.length then nI ((sl c w hs (nI B)).getD k 0) else 0) (fun k h => ex (d + 199) 247 40 [sv (.ref 28), sv (.int (nI s)), sv (.int (nI (sgs c w hs (nI B)))), sv (.int (nI k))] [] h) (fun h => some (some (.int (nI hs.length)), h)) (fun h1 A1 H1 => by show ex _ _ _ _ _ _ = _; rw [e_247_40, if_neg (by decide), H1.f3, F3]) (fun k h1 A1 hk H1 => by
          show ex _ _ _ _ _ _ = _
          rw [e_247_40, if_pos (show nI k < (40 : Int32) from nI_lt (b := 40) hk (by decide)), H1.f21, H1.f3, F3, dR_ref, dR_ref, show (40 : Int32) = nI 40 from rfl, pk_mul, nI_add, nI_1]
          by_cases z : k < hs.length
          · rw [if_pos (nI_lt z (by omega)), if_pos z, sg_at H (nI B) z]
          · rw [if_neg (nI_nlt (by omega) (by omega)), if_neg z])
        have aa : ∀ o, o ≠ 35 → o ≠ 36 → o ≠ 37 → A3 o = A o := fun o x y z => (b1 o z).trans (a2 o x y)
        refine ⟨h3, ?_, ⟨F, A3, ⟨R3, H.2.1, H.2.2.1, by rw [aa 29 (by decide) (by decide) (by decide), aa 30 (by decide) (by decide) (by decide), aa 31 (by decide) (by decide) (by decide)]; exact H.2.2.2⟩, k1, by unfold RTp; rw [aa 32 (by decide) (by decide) (by decide)]; exact k2, by unfold RTs RTx; rw [aa 33 (by decide) (by decide) (by decide), aa 34 (by decide) (by decide) (by decide)]; exact k3, ?_, by rw [aa 39 (by decide) (by decide) (by decide)]; exact k5⟩, G2.tr G3⟩
        · have e4 : ex (d + 199) 247 40 [sv (.ref 28), sv (.int (nI s)), sv (.int (nI (sgs c w hs (nI B)))), sv (.int 0)] [] h2 = _ := e4
          rw [e_247, r_166, cI_s, x1]
          simp only [H.v, dR_ref, dA_ref, dA_null, dN_ref, dN_null, dD_ref, dD_int, cI_s, cV_s, cR_r, cR_n, cJ_s, bI_0, bI_1, zr_bI, zr_0, zr_1, eq_self, if_true, if_false, i10, i20, i01, i21, i02, i12, ior0, iad0, Bool.true_eq_false, Bool.false_eq_true, H.f2, r_202 H, H.1.f19, e1, e2, e2', F3, e3, e4]
        · exact RSh.set k4 hs4 (H.1.2 35 (by decide) (by decide)).2 (H.1.2 36 (by decide) (by decide)).2 ((b1 35 (by decide)).trans a35) ((b1 36 (by decide)).trans a36) (fun k hk => by rw [b2 k hk, flL_get _ _ _ _ hk]) (fun j hj => by rw [b3 j hj, a2 37 (by decide) (by decide)])
theorem op_cell (a i v : Int32) : OP 129 255 [.int a, .int i, .int v]
  | (c, w, B, hs, L, Ts, tp, im, sh), ok => by
    have ok' := ok
    obtain ⟨oB, oL, o3, o4, o5, o6, o7, o8, o9, ob⟩ := ok'
    cases x1 : inR a 0 3 with
    | false =>
      refine ⟨(-2), _, ok, ?_, ?_⟩
      · intro d h K
        refine ⟨h, ?_, K, FrC.rf h⟩
        obtain ⟨ps, H, _, _, _, _, _, _, S, _⟩ := K
        rw [e_129]
        simp only [H.o0, H.o1, H.o2, H.o3, H.o4, H.o5, H.o6, H.o7, H.o8, H.o9, H.o10, H.b0, H.b1, H.b2, H.b3, H.b4, H.v3, H.v4, dR_ref, dA_ref, dA_null, dN_ref, dN_null, dD_ref, dD_int, cI_s, cV_s, cR_r, cR_n, cJ_s, bI_0, bI_1, zr_bI, zr_0, zr_1, eq_self, if_true, if_false, i10, i20, i01, i21, i02, i12, ior0, iad0, Bool.true_eq_false, Bool.false_eq_true, c_156n H S x1]
      · intro d h K
        refine ⟨h, ?_, K, Fr.rf h⟩
        rw [e_255, r_166, cI_s, x1]; rfl
    | true =>
      obtain ⟨s, hs4, rfl⟩ := inR_of (n := 3) (by decide) x1
      have hs4 : s < 4 := by omega
      have hk := (o9 s hs4).1
      have hx40 := (o9 s hs4).2
      by_cases q : (sh s).1 = -1
      · refine ⟨(-11), _, ok, ?_, ?_⟩
        · intro d h K
          refine ⟨h, ?_, K, FrC.rf h⟩
          obtain ⟨ps, H, _, _, _, _, _, _, S, _⟩ := K
          rw [e_129]
          simp only [H.o0, H.o1, H.o2, H.o3, H.o4, H.o5, H.o6, H.o7, H.o8, H.o9, H.o10, H.b0, H.b1, H.b2, H.b3, H.b4, H.v3, H.v4, dR_ref, dA_ref, dA_null, dN_ref, dN_null, dD_ref, dD_int, cI_s, cV_s, cR_r, cR_n, cJ_s, bI_0, bI_1, zr_bI, zr_0, zr_1, eq_self, if_true, if_false, i10, i20, i01, i21, i02, i12, ior0, iad0, Bool.true_eq_false, Bool.false_eq_true, c_156 H S hs4, S.vv hs4, c_45 S hs4, decide_eq_true q]
        · intro d h K
          refine ⟨h, ?_, K, Fr.rf h⟩
          obtain ⟨F, A, H, k1, k2, k3, k4, k5⟩ := K
          obtain ⟨s1, s2, s3⟩ := k4 s hs4
          rw [e_255, r_166, cI_s, x1, if_neg (by decide), H.1.f19, dR_ref, H.1.al (by decide) (by decide) (show s < 4 from hs4), s1, if_pos q]
      · cases x2 : inR i 0 (nI (sh s).2.1 - 1) with
        | false =>
          refine ⟨(-12), _, ok, ?_, ?_⟩
          · intro d h K
            refine ⟨h, ?_, K, FrC.rf h⟩
            obtain ⟨ps, H, _, _, _, _, _, _, S, _⟩ := K
            rw [e_129]
            simp only [H.o0, H.o1, H.o2, H.o3, H.o4, H.o5, H.o6, H.o7, H.o8, H.o9, H.o10, H.b0, H.b1, H.b2, H.b3, H.b4, H.v3, H.v4, dR_ref, dA_ref, dA_null, dN_ref, dN_null, dD_ref, dD_int, cI_s, cV_s, cR_r, cR_n, cJ_s, bI_0, bI_1, zr_bI, zr_0, zr_1, eq_self, if_true, if_false, i10, i20, i01, i21, i02, i12, ior0, iad0, Bool.true_eq_false, Bool.false_eq_true, c_156 H S hs4, S.vv hs4, c_45 S hs4, decide_eq_false q, S.g1 hs4, c_133, x2]
          · intro d h K
            refine ⟨h, ?_, K, Fr.rf h⟩
            obtain ⟨F, A, H, k1, k2, k3, k4, k5⟩ := K
            obtain ⟨s1, s2, s3⟩ := k4 s hs4
            rw [e_255, r_166, cI_s, x1, if_neg (by decide), H.1.f19, dR_ref, H.1.al (by decide) (by decide) (show s < 4 from hs4), s1, if_neg q, H.1.f20, dR_ref, H.1.al (by decide) (by decide) (show s < 4 from hs4), s2, r_166, cI_s, x2]; rfl
        | true =>
          obtain ⟨j, hj, rfl⟩ := inRm (by omega) x2
          have key : ∀ V : Int32, V = (if (sh s).1 = 0 then Int8.toInt32 (Int32.toInt8 v) else if (sh s).1 = 1 then Int16.toInt32 (Int32.toInt16 v) else v) → ∃ (s' : Sta), OKS s' ∧ (∀ (d : Nat) (h : MHeap), CV h (c, w, B, hs, L, Ts, tp, im, sh) → ∃ h1, call (d + 200) 129 [.ref 3, .int (nI s), .int (nI j), .int v] h = some (some (.int 1), h1) ∧ CV h1 s' ∧ FrC h h1) ∧ (∀ (d : Nat) (h : MHeap), RV h (c, w, B, hs, L, Ts, tp, im, sh) → ∃ h2, call (d + 200) 255 [.ref 28, .int (nI s), .int (nI j), .int v] h = some (some (.int 1), h2) ∧ RV h2 s' ∧ Fr h h2) := by
            intro V hV
            refine ⟨(c, w, B, hs, L, Ts, tp, im, fu sh s ((sh s).1, (sh s).2.1, (sh s).2.2.set j V)), ok.shS hk (by rw [List.length_set]; exact hx40), ?_, ?_⟩
            · intro d h K
              have K1 := K.shS hs4 (sh s).1 (sh s).2.1 (xs := (sh s).2.2.set j V) (by rw [List.length_set]; exact hx40)
              obtain ⟨ps, H, _, _, _, _, _, _, S, _⟩ := K
              have e0 : h.set (14 + 2 * s) (7, [.int (sh s).1, .int (nI (sh s).2.1), .ref (15 + 2 * s)]) = h := set_self (S.2 s hs4).1
              rw [e0] at K1
              refine ⟨_, ?_, K1, FrC.st h (by omega) _⟩
              rw [e_129]
              simp only [H.o0, H.o1, H.o2, H.o3, H.o4, H.o5, H.o6, H.o7, H.o8, H.o9, H.o10, H.b0, H.b1, H.b2, H.b3, H.b4, H.v3, H.v4, dR_ref, dA_ref, dA_null, dN_ref, dN_null, dD_ref, dD_int, cI_s, cV_s, cR_r, cR_n, cJ_s, bI_0, bI_1, zr_bI, zr_0, zr_1, eq_self, if_true, if_false, i10, i20, i01, i21, i02, i12, ior0, iad0, Bool.true_eq_false, Bool.false_eq_true, c_156 H S hs4, S.vv hs4, c_45 S hs4, decide_eq_false q, S.g1 hs4, c_133, x2, c_49 S o9 hs4 hj, ← hV]
            · intro d h K
              obtain ⟨F, A, H, k1, k2, k3, k4, k5⟩ := K
              obtain ⟨s1, s2, s3⟩ := k4 s hs4
              have hl : (A 37).length = 160 := (H.1.2 37 (by decide) (by decide)).2
              have i2 : (40 : Int32) * nI s + nI j = nI (40 * s + j) := by rw [show (40 : Int32) = nI 40 from rfl, pk_mul, nI_add]
              have R1 := H.1.setA (o := 37) (by decide) (by decide) (xs := (A 37).set (40 * s + j) V) (by rw [List.length_set]; exact hl)
              have as : ∀ (x : Int32) (k : MHeap → MRes), asI none h 37 (nI (40 * s + j)) x k = k (h.set 37 (100, ((A 37).set (40 * s + j) x).map .int)) := fun x k => H.1.as (by decide) (by decide) (show 40 * s + j < 160 by omega) x k
              refine ⟨_, ?_, ⟨F, _, ⟨R1, H.2.1, H.2.2.1, H.2.2.2⟩, k1, k2, k3, ?_, k5⟩, Fr.st h (by decide) (by decide) _⟩
              · rw [e_255, r_166, cI_s, x1, if_neg (by decide), H.1.f19, dR_ref, H.1.al (by decide) (by decide) (show s < 4 from hs4), s1, if_neg q, H.1.f20, dR_ref, H.1.al (by decide) (by decide) (show s < 4 from hs4), s2, r_166, cI_s, x2, if_neg (by decide), H.1.f21, H.1.f19, dR_ref, H.1.al (by decide) (by decide) (show s < 4 from hs4), s1, dR_ref, H.1.f19, dR_ref, H.1.al (by decide) (by decide) (show s < 4 from hs4), s1, dR_ref, dR_ref, i2, as, as, as, hV]
                by_cases q1 : (sh s).1 = 0
                · rw [if_pos q1, if_pos q1]
                · rw [if_neg q1, if_neg q1]
                  by_cases q2 : (sh s).1 = 1
                  · rw [if_pos q2, if_pos q2]
                  · rw [if_neg q2, if_neg q2]
              · intro s' h4
                obtain ⟨q1, q2, q3⟩ := k4 s' h4
                have f35 : fu A 37 ((A 37).set (40 * s + j) V) 35 = A 35 := rfl
                have f36 : fu A 37 ((A 37).set (40 * s + j) V) 36 = A 36 := rfl
                rw [f35, f36, fu_eq]
                by_cases z : s' = s
                · subst z
                  rw [fu_eq]
                  refine ⟨q1, q2, fun k hk2 => ?_⟩
                  rw [getD_set (by omega), getD_set (by omega)]
                  by_cases y : k = j
                  · rw [if_pos (by omega), if_pos y]
                  · rw [if_neg (by omega), if_neg y]; exact q3 k hk2
                · rw [fu_ne _ _ z]
                  refine ⟨q1, q2, fun k hk2 => ?_⟩
                  rw [getD_set (by omega), if_neg (by omega)]; exact q3 k hk2
          obtain ⟨s', h1, h2, h3⟩ := key _ rfl
          exact ⟨1, s', h1, h2, h3⟩
