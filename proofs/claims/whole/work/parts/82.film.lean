/-! sheet, film, cell -/
theorem getD_extI {xs ys : List Int32} (hl : xs.length = ys.length) (h : ∀ i, i < xs.length → xs.getD i 0 = ys.getD i 0) : xs = ys := by
  apply List.ext_getElem?
  intro i
  by_cases hi : i < xs.length
  · have := h i hi
    rw [List.getD_eq_getElem?_getD, List.getD_eq_getElem?_getD] at this
    rw [List.getElem?_eq_getElem hi, List.getElem?_eq_getElem (show i < ys.length by omega)] at this ⊢
    simpa using this
  · rw [List.getElem?_eq_none (by omega), List.getElem?_eq_none (by omega)]
section CVS
variable {h : MHeap} {c w B : Nat} {hs : List Ent} {L : Nat} {Ts : List Txt} {tp : List Nat} {im : Img} {sh : Nat → Sht}
theorem CSh.set (S : CSh h sh) {s : Nat} (hs4 : s < 4) (so : Int32) (sz : Nat) {xs : List Int32} (hx : xs.length = 40) : CSh ((h.set (14 + 2 * s) (7, [.int so, .int (nI sz), .ref (15 + 2 * s)])).set (15 + 2 * s) (100, xs.map .int)) (fu sh s (so, sz, xs)) := by
  refine ⟨by rw [gset_ne _ (by omega), gset_ne _ (by omega)]; exact S.1, ?_⟩
  intro s' h4
  by_cases z : s' = s
  · subst z
    rw [fu_eq]
    have k1 : (h.set (14 + 2 * s') (7, [.int so, .int (nI sz), .ref (15 + 2 * s')]))[15 + 2 * s']? = some (100, (sh s').2.2.map .int) := by rw [gset_ne _ (by omega)]; exact (S.2 s' h4).2.1
    exact ⟨by rw [gset_ne _ (by omega)]; exact gset (S.2 s' h4).1 _, gset k1 _, hx⟩
  · rw [fu_ne _ _ z]
    refine ⟨by rw [gset_ne _ (by omega), gset_ne _ (by omega)]; exact (S.2 s' h4).1, ?_, (S.2 s' h4).2.2⟩
    rw [gset_ne _ (by omega), gset_ne _ (by omega)]; exact (S.2 s' h4).2.1
theorem CV.shS (K : CV h (c, w, B, hs, L, Ts, tp, im, sh)) {s : Nat} (hs4 : s < 4) (so : Int32) (sz : Nat) {xs : List Int32} (hx : xs.length = 40) : CV ((h.set (14 + 2 * s) (7, [.int so, .int (nI sz), .ref (15 + 2 * s)])).set (15 + 2 * s) (100, xs.map .int)) (c, w, B, hs, L, Ts, tp, im, fu sh s (so, sz, xs)) := by
  obtain ⟨ps, h1, h2, h3, h4, h5, h6, h7, h8, h9, h10, h11⟩ := K
  have e : ∀ (x y : MCell) (a : Nat), a ≠ 14 + 2 * s → a ≠ 15 + 2 * s → ((h.set (14 + 2 * s) x).set (15 + 2 * s) y)[a]? = h[a]? := fun x y a ha hb => by rw [gset_ne _ (fun z => hb z.symm), gset_ne _ (fun z => ha z.symm)]
  exact ⟨ps, h1.tr h2 (fun a ha _ => e _ _ a (by omega) (by omega)), h2, h3, h4.tr (fun a ha => e _ _ a (by omega) (by omega)), by unfold CIm; rw [e _ _ 6 (by omega) (by omega)]; exact h5, h6.tr (fun a ha => e _ _ a (by omega) (by omega)), h7.tr (e _ _ 12 (by omega) (by omega)) (fun a ha _ => e _ _ a (by omega) (by omega)), h8.set hs4 so sz hx, h9.tr (fun a ha => e _ _ a (by omega) (by omega)), h10.tr (fun a ha => e _ _ a (by omega) (by omega)), by rw [List.length_set, List.length_set]; exact h11⟩
theorem FrC.shS (h : MHeap) {s : Nat} (hs4 : s < 4) (x y : MCell) : FrC h ((h.set (14 + 2 * s) x).set (15 + 2 * s) y) := (FrC.st h (by omega) x).tr (FrC.st _ (by omega) y) (by rw [List.length_set, List.length_set]; omega)
theorem c_46 (S : CSh h sh) {s : Nat} (hs4 : s < 4) (so : Int32) {n : Nat} (hn : n ≤ 40) (d : Nat) : call (d + 2) 46 [.ref (14 + 2 * s), .int so, .int (nI n)] h = some (none, (h.set (14 + 2 * s) (7, [.int so, .int (nI n), .ref (15 + 2 * s)])).set (15 + 2 * s) (100, (List.replicate 40 (0 : Int32)).map .int)) := by
  obtain ⟨k1, k2, k3⟩ := S.2 s hs4
  have g2 : ∀ (a b : Int32) (k : Value → MRes), gfV none (h.set (14 + 2 * s) (7, [.int a, .int b, .ref (15 + 2 * s)])) (14 + 2 * s) [7] 2 k = k (.ref (15 + 2 * s)) := fun a b k => gfV_at (gset k1 _) rfl rfl k
  have k4 : ∀ x : MCell, (h.set (14 + 2 * s) x)[15 + 2 * s]? = some (100, (sh s).2.2.map .int) := fun x => by rw [gset_ne _ (by omega)]; exact k2
  have P0 : ∀ K : MHeap → MRes, pfI none h (14 + 2 * s) [7] 0 so K = K (h.set (14 + 2 * s) (7, [.int so, .int (nI (sh s).2.1), .ref (15 + 2 * s)])) := fun K => pfI_at k1 rfl (by show 0 < 3; decide) so K
  have P1 : ∀ K : MHeap → MRes, pfI none (h.set (14 + 2 * s) (7, [.int so, .int (nI (sh s).2.1), .ref (15 + 2 * s)])) (14 + 2 * s) [7] 1 (nI n) K = K (h.set (14 + 2 * s) (7, [.int so, .int (nI n), .ref (15 + 2 * s)])) := fun K => by rw [pfI_at (gset k1 _) rfl (by show 1 < 3; decide), List.set_set]; rfl
  have mn : (if nI 40 < nI n then nI 40 else nI n) = nI n := by rw [if_neg (nI_nlt (by omega) (by decide))]
  rw [e_46, P0, g2, dR_ref, ar_ln (k4 _), k3, c_min, cI_s, mn, c_max0 _ (by omega), cI_s, P1, g2, c_261 (k4 _) (by rw [k3]; decide), cV_s, k3]
theorem c_49 (S : CSh h sh) (ok : okSh sh) {s : Nat} (hs4 : s < 4) {i : Nat} (hi : i < (sh s).2.1) (v : Int32) (d : Nat) : call (d + 1) 49 [.ref (14 + 2 * s), .int (nI i), .int v] h = some (none, h.set (15 + 2 * s) (100, ((sh s).2.2.set i (if (sh s).1 = 0 then Int8.toInt32 (Int32.toInt8 v) else if (sh s).1 = 1 then Int16.toInt32 (Int32.toInt16 v) else v)).map .int)) := by
  have hk := (ok s hs4).1
  obtain ⟨k1, k2, k3⟩ := S.2 s hs4
  have as : ∀ (x : Int32) (k : MHeap → MRes), asI none h (15 + 2 * s) (nI i) x k = k (h.set (15 + 2 * s) (100, ((sh s).2.2.set i x).map .int)) := fun x k => ar_as k2 (by rw [k3]; omega) (by rw [k3]; decide) x k
  rw [e_49, if_neg (nI_pos (by omega)), S.g1 hs4, if_pos (nI_lt hi (by omega)), S.g2 hs4, dR_ref, S.ln hs4, if_pos (show nI i < (40 : Int32) from nI_lt (b := 40) (by omega) (by decide)), S.g2 hs4, S.g0 hs4, S.g0 hs4, dR_ref, dR_ref, dR_ref, as, as, as]
  by_cases q : (sh s).1 = 0
  · rw [if_pos q, if_pos q]
  · rw [if_neg q, if_neg q]
    by_cases q2 : (sh s).1 = 1
    · rw [if_pos q2, if_pos q2]
    · rw [if_neg q2, if_neg q2]
end CVS
theorem OKS.shS {c w B : Nat} {hs : List Ent} {L : Nat} {Ts : List Txt} {tp : List Nat} {im : Img} {sh : Nat → Sht} (ok : OKS (c, w, B, hs, L, Ts, tp, im, sh)) {s : Nat} {so : Int32} {sz : Nat} {xs : List Int32} (h1 : sz ≤ 40) (h2 : xs.length = 40) : OKS (c, w, B, hs, L, Ts, tp, im, fu sh s (so, sz, xs)) := by
  obtain ⟨oB, oL, o3, o4, o5, o6, o7, o8, o9, ob⟩ := ok
  refine ⟨oB, oL, o3, o4, o5, o6, o7, o8, ?_, ob⟩
  intro s' h4
  by_cases z : s' = s
  · subst z; rw [fu_eq]; exact ⟨h1, h2⟩
  · rw [fu_ne _ _ z]; exact o9 s' h4
/-- a row of the reference's cells, filled -/
theorem r_fill {h : MHeap} {F : Nat → Int32} {A : Nat → List Int32} (H : RH h F A) {s : Nat} (hs4 : s < 4) (g : Nat → Int32) (X : Nat → MHeap → MRes) (R : MHeap → MRes) (hfin : ∀ (h1 : MHeap) (A1 : Nat → List Int32), RH h1 F A1 → X 40 h1 = R h1) (hst : ∀ (k : Nat) (h1 : MHeap) (A1 : Nat → List Int32), k < 40 → RH h1 F A1 → X k h1 = asI none h1 37 (nI (40 * s + k)) (g k) (fun h2 => X (k + 1) h2)) : ∃ (h' : MHeap) (A' : Nat → List Int32), X 0 h = R h' ∧ RH h' F A' ∧ Fr h h' ∧ (∀ o, o ≠ 37 → A' o = A o) ∧ (∀ k, k < 40 → (A' 37).getD (40 * s + k) 0 = g k) ∧ (∀ j, j < 40 * s ∨ 40 * s + 40 ≤ j → (A' 37).getD j 0 = (A 37).getD j 0) := by
  have key : ∀ k, k ≤ 40 → ∀ (h1 : MHeap) (A1 : Nat → List Int32), RH h1 F A1 → Fr h h1 → (∀ o, o ≠ 37 → A1 o = A o) → (∀ j, j < k → (A1 37).getD (40 * s + j) 0 = g j) → (∀ j, j < 40 * s ∨ 40 * s + 40 ≤ j → (A1 37).getD j 0 = (A 37).getD j 0) → ∃ (h' : MHeap) (A' : Nat → List Int32), X k h1 = R h' ∧ RH h' F A' ∧ Fr h h' ∧ (∀ o, o ≠ 37 → A' o = A o) ∧ (∀ k, k < 40 → (A' 37).getD (40 * s + k) 0 = g k) ∧ (∀ j, j < 40 * s ∨ 40 * s + 40 ≤ j → (A' 37).getD j 0 = (A 37).getD j 0) := by
    intro k hk
    refine up_ind (n := 40) (P := fun k => ∀ (h1 : MHeap) (A1 : Nat → List Int32), RH h1 F A1 → Fr h h1 → (∀ o, o ≠ 37 → A1 o = A o) → (∀ j, j < k → (A1 37).getD (40 * s + j) 0 = g j) → (∀ j, j < 40 * s ∨ 40 * s + 40 ≤ j → (A1 37).getD j 0 = (A 37).getD j 0) → ∃ (h' : MHeap) (A' : Nat → List Int32), X k h1 = R h' ∧ RH h' F A' ∧ Fr h h' ∧ (∀ o, o ≠ 37 → A' o = A o) ∧ (∀ k, k < 40 → (A' 37).getD (40 * s + k) 0 = g k) ∧ (∀ j, j < 40 * s ∨ 40 * s + 40 ≤ j → (A' 37).getD j 0 = (A 37).getD j 0)) ?_ ?_ hk
    · intro h1 A1 H1 G1 a1 a2 a3
      exact ⟨h1, A1, hfin h1 A1 H1, H1, G1, a1, a2, a3⟩
    · intro k hk ih h1 A1 H1 G1 a1 a2 a3
      have hl : (A1 37).length = 160 := (H1.2 37 (by decide) (by decide)).2
      rw [hst k h1 A1 hk H1, H1.as (by decide) (by decide) (show 40 * s + k < 160 by omega)]
      refine ih _ (fu A1 37 ((A1 37).set (40 * s + k) (g k))) (H1.setA (by decide) (by decide) (by rw [List.length_set]; exact hl)) (G1.tr (Fr.st _ (by decide) (by decide) _)) (fun o ho => (fu_ne _ _ ho).trans (a1 o ho)) ?_ ?_
      · intro j hj
        rw [fu_eq, getD_set (by omega)]
        by_cases z : 40 * s + j = 40 * s + k
        · rw [if_pos z, show j = k by omega]
        · rw [if_neg z]; exact a2 j (by omega)
      · intro j hj
        rw [fu_eq, getD_set (by omega), if_neg (by omega)]
        exact a3 j hj
  exact key 0 (by omega) h A H (Fr.rf h) (fun _ _ => rfl) (fun j hj => by omega) (fun _ _ => rfl)
/-- sort and size set: the reference -/
theorem r_sosz {h : MHeap} {F : Nat → Int32} {A : Nat → List Int32} (H : RH h F A) {s : Nat} (hs4 : s < 4) (so sz : Int32) : ∃ (h1 h2 : MHeap) (A2 : Nat → List Int32), (∀ k : MHeap → MRes, asI none h 35 (nI s) so k = k h1) ∧ (∀ k : Value → MRes, gfV none h1 28 [12] 20 k = k (.ref 36)) ∧ (∀ k : Int32 → MRes, gfI none h1 28 [12] 3 k = k (F 3)) ∧ (∀ k : MHeap → MRes, asI none h1 36 (nI s) sz k = k h2) ∧ RH h2 F A2 ∧ Fr h h2 ∧ (∀ o, o ≠ 35 → o ≠ 36 → A2 o = A o) ∧ A2 35 = (A 35).set s so ∧ A2 36 = (A 36).set s sz := by
  have l1 : (A 35).length = 4 := (H.2 35 (by decide) (by decide)).2
  have l2 : (A 36).length = 4 := (H.2 36 (by decide) (by decide)).2
  have R1 := H.setA (o := 35) (by decide) (by decide) (xs := (A 35).set s so) (by rw [List.length_set]; exact l1)
  have R2 := R1.setA (o := 36) (by decide) (by decide) (xs := (A 36).set s sz) (by rw [List.length_set]; exact l2)
  exact ⟨_, _, _, fun k => H.as (by decide) (by decide) (show s < 4 from hs4) so k, fun k => R1.f20 k, fun k => R1.f3 k, fun k => by rw [R1.as (by decide) (by decide) (show s < 4 from hs4), fu_ne _ _ (by decide)], R2, (Fr.st h (by decide) (by decide) _).tr (Fr.st _ (by decide) (by decide) _), fun o ha hb => (fu_ne _ _ hb).trans (fu_ne _ _ ha), by rw [fu_ne _ _ (by decide), fu_eq], fu_eq _ _ _⟩
theorem RSh.set {A A' : Nat → List Int32} {sh : Nat → Sht} (S : RSh A sh) {s : Nat} (hs4 : s < 4) {so : Int32} {sz : Nat} {xs : List Int32} (l1 : (A 35).length = 4) (l2 : (A 36).length = 4) (a35 : A' 35 = (A 35).set s so) (a36 : A' 36 = (A 36).set s (nI sz)) (a1 : ∀ k, k < 40 → (A' 37).getD (40 * s + k) 0 = xs.getD k 0) (a2 : ∀ j, j < 40 * s ∨ 40 * s + 40 ≤ j → (A' 37).getD j 0 = (A 37).getD j 0) : RSh A' (fu sh s (so, sz, xs)) := by
  intro s' h4
  rw [a35, a36, getD_set (by omega), getD_set (by omega)]
  by_cases z : s' = s
  · subst z
    rw [fu_eq, if_pos rfl, if_pos rfl]
    exact ⟨rfl, rfl, a1⟩
  · rw [fu_ne _ _ z, if_neg z, if_neg z]
    obtain ⟨q1, q2, q3⟩ := S s' h4
    exact ⟨q1, q2, fun k hk => by rw [a2 _ (by omega)]; exact q3 k hk⟩
theorem rep0 {i : Nat} : (List.replicate 40 (0 : Int32)).getD i 0 = 0 := by
  rw [List.getD_eq_getElem?_getD, List.getElem?_replicate]
  split <;> rfl
theorem op_sheet (a g n : Int32) : OP 128 254 [.int a, .int g, .int n]
  | (c, w, B, hs, L, Ts, tp, im, sh), ok => by
    have ok' := ok
    obtain ⟨oB, oL, o3, o4, o5, o6, o7, o8, o9, ob⟩ := ok'
    cases x1 : inR a 0 3 with
    | false =>
      refine ⟨(-2), _, ok, ?_, ?_⟩
      · intro d h K
        refine ⟨h, ?_, K, FrC.rf h⟩
        obtain ⟨ps, H, _, _, _, _, _, _, S, _⟩ := K
        rw [e_128]
        simp only [H.o0, H.o1, H.o2, H.o3, H.o4, H.o5, H.o6, H.o7, H.o8, H.o9, H.o10, H.b0, H.b1, H.b2, H.b3, H.b4, H.v3, H.v4, dR_ref, dA_ref, dA_null, dN_ref, dN_null, dD_ref, dD_int, cI_s, cV_s, cR_r, cR_n, cJ_s, bI_0, bI_1, zr_bI, zr_0, zr_1, eq_self, if_true, if_false, i10, i20, i01, i21, i02, i12, ior0, iad0, Bool.true_eq_false, Bool.false_eq_true, c_156n H S x1]
      · intro d h K
        refine ⟨h, ?_, K, Fr.rf h⟩
        rw [e_254, r_166, cI_s, x1]; rfl
    | true =>
      obtain ⟨s, hs4, rfl⟩ := inR_of (n := 3) (by decide) x1
      have hs4 : s < 4 := by omega
      cases x2 : inR g (-1) 2 with
      | false =>
        refine ⟨(-2), _, ok, ?_, ?_⟩
        · intro d h K
          refine ⟨h, ?_, K, FrC.rf h⟩
          obtain ⟨ps, H, _, _, _, _, _, _, S, _⟩ := K
          rw [e_128]
          simp only [H.o0, H.o1, H.o2, H.o3, H.o4, H.o5, H.o6, H.o7, H.o8, H.o9, H.o10, H.b0, H.b1, H.b2, H.b3, H.b4, H.v3, H.v4, dR_ref, dA_ref, dA_null, dN_ref, dN_null, dD_ref, dD_int, cI_s, cV_s, cR_r, cR_n, cJ_s, bI_0, bI_1, zr_bI, zr_0, zr_1, eq_self, if_true, if_false, i10, i20, i01, i21, i02, i12, ior0, iad0, Bool.true_eq_false, Bool.false_eq_true, c_156 H S hs4, c_133, x2]
        · intro d h K
          refine ⟨h, ?_, K, Fr.rf h⟩
          rw [e_254, r_166, cI_s, x1, r_166, x2]; rfl
      | true =>
        have fin : ∀ (m : Nat), m ≤ 40 → ∀ (d : Nat) (h : MHeap), RV h (c, w, B, hs, L, Ts, tp, im, sh) → ∃ (h1 h2 h3 : MHeap), (∀ k : MHeap → MRes, asI none h 35 (nI s) g k = k h1) ∧ (∀ k : Value → MRes, gfV none h1 28 [12] 20 k = k (.ref 36)) ∧ (∀ k : MHeap → MRes, asI none h1 36 (nI s) (nI m) k = k h2) ∧ ex (d + 199) 254 70 [sv (.ref 28), sv (.int (nI s)), sv (.int g), sv (.int n), sv (.int 0)] [] h2 = some (some (.int 1), h3) ∧ RV h3 (c, w, B, hs, L, Ts, tp, im, fu sh s (g, m, List.replicate 40 0)) ∧ Fr h h3 := by
          intro m hm d h K
          obtain ⟨F, A, H, k1, k2, k3, k4, k5⟩ := K
          obtain ⟨h1, h2, A2, e1, e2, e2', e3, R2, G2, a2, a35, a36⟩ := r_sosz H.1 hs4 g (nI m)
          obtain ⟨h3, A3, e4, R3, G3, b1, b2, b3⟩ := r_fill R2 hs4 (fun _ => 0) (fun k h => ex (d + 199) 254 70 [sv (.ref 28), sv (.int (nI s)), sv (.int g), sv (.int n), sv (.int (nI k))] [] h) (fun h => some (some (.int 1), h)) (fun h1 A1 H1 => by show ex _ _ _ _ _ _ = _; rw [e_254_70, if_neg (by decide)]) (fun k h1 A1 hk H1 => by
            show ex _ _ _ _ _ _ = _
            rw [e_254_70, if_pos (show nI k < (40 : Int32) from nI_lt (b := 40) hk (by decide)), H1.f21, dR_ref, show (40 : Int32) = nI 40 from rfl, pk_mul, nI_add, nI_1])
          refine ⟨h1, h2, h3, e1, e2, e3, e4, ?_, G2.tr G3⟩
          have aa : ∀ o, o ≠ 35 → o ≠ 36 → o ≠ 37 → A3 o = A o := fun o x y z => (b1 o z).trans (a2 o x y)
          refine ⟨F, A3, ⟨R3, H.2.1, H.2.2.1, by rw [aa 29 (by decide) (by decide) (by decide), aa 30 (by decide) (by decide) (by decide), aa 31 (by decide) (by decide) (by decide)]; exact H.2.2.2⟩, k1, by unfold RTp; rw [aa 32 (by decide) (by decide) (by decide)]; exact k2, by unfold RTs RTx; rw [aa 33 (by decide) (by decide) (by decide), aa 34 (by decide) (by decide) (by decide)]; exact k3, ?_, by rw [aa 39 (by decide) (by decide) (by decide)]; exact k5⟩
          refine RSh.set k4 hs4 (H.1.2 35 (by decide) (by decide)).2 (H.1.2 36 (by decide) (by decide)).2 ((b1 35 (by decide)).trans a35) ((b1 36 (by decide)).trans a36) (fun k hk => by rw [b2 k hk, rep0]) (fun j hj => by rw [b3 j hj, a2 37 (by decide) (by decide)])
        by_cases q : g = -1
        · subst q
          refine ⟨1, (c, w, B, hs, L, Ts, tp, im, fu sh s (-1, 0, List.replicate 40 0)), ok.shS (by omega) (by simp), ?_, ?_⟩
          · intro d h K
            have K1 := K.shS hs4 (-1) 0 (xs := List.replicate 40 0) (by simp)
            refine ⟨_, ?_, K1, FrC.shS h hs4 _ _⟩
            obtain ⟨ps, H, _, _, _, _, _, _, S, _⟩ := K
            have e1 : call (d + 199) 46 [.ref (14 + 2 * s), .int (-1), .int 0] h = _ := c_46 S hs4 (-1) (n := 0) (by omega) (d + 197)
            rw [e_128]
            simp only [H.o0, H.o1, H.o2, H.o3, H.o4, H.o5, H.o6, H.o7, H.o8, H.o9, H.o10, H.b0, H.b1, H.b2, H.b3, H.b4, H.v3, H.v4, dR_ref, dA_ref, dA_null, dN_ref, dN_null, dD_ref, dD_int, cI_s, cV_s, cR_r, cR_n, cJ_s, bI_0, bI_1, zr_bI, zr_0, zr_1, eq_self, if_true, if_false, i10, i20, i01, i21, i02, i12, ior0, iad0, Bool.true_eq_false, Bool.false_eq_true, c_156 H S hs4, c_133, x2, S.vv hs4, e1]
          · intro d h K
            obtain ⟨h1, h2, h3, e1, e2, e3, e4, K3, G3⟩ := fin 0 (by omega) d h K
            refine ⟨h3, ?_, K3, G3⟩
            obtain ⟨F, A, H, _⟩ := K
            have e3 : ∀ k : MHeap → MRes, asI none h1 36 (nI s) 0 k = k h2 := e3
            rw [e_254, r_166, cI_s, x1, r_166, cI_s, x2]
            simp only [dR_ref, dA_ref, dA_null, dN_ref, dN_null, dD_ref, dD_int, cI_s, cV_s, cR_r, cR_n, cJ_s, bI_0, bI_1, zr_bI, zr_0, zr_1, eq_self, if_true, if_false, i10, i20, i01, i21, i02, i12, ior0, iad0, Bool.true_eq_false, Bool.false_eq_true, H.1.f19, e1, e2, e3, e4]
        · by_cases q2 : (40 : Int32) < n
          · refine ⟨(-2), _, ok, ?_, ?_⟩
            · intro d h K
              refine ⟨h, ?_, K, FrC.rf h⟩
              obtain ⟨ps, H, _, _, _, _, _, _, S, _⟩ := K
              rw [e_128]
              simp only [H.o0, H.o1, H.o2, H.o3, H.o4, H.o5, H.o6, H.o7, H.o8, H.o9, H.o10, H.b0, H.b1, H.b2, H.b3, H.b4, H.v3, H.v4, dR_ref, dA_ref, dA_null, dN_ref, dN_null, dD_ref, dD_int, cI_s, cV_s, cR_r, cR_n, cJ_s, bI_0, bI_1, zr_bI, zr_0, zr_1, eq_self, if_true, if_false, i10, i20, i01, i21, i02, i12, ior0, iad0, Bool.true_eq_false, Bool.false_eq_true, c_156 H S hs4, c_133, x2, if_neg q, if_pos q2]
            · intro d h K
              refine ⟨h, ?_, K, Fr.rf h⟩
              rw [e_254, r_166, cI_s, x1, r_166, cI_s, x2]
              simp only [dR_ref, dA_ref, dA_null, dN_ref, dN_null, dD_ref, dD_int, cI_s, cV_s, cR_r, cR_n, cJ_s, bI_0, bI_1, zr_bI, zr_0, zr_1, eq_self, if_true, if_false, i10, i20, i01, i21, i02, i12, ior0, iad0, Bool.true_eq_false, Bool.false_eq_true, if_neg q, if_pos q2]
          · by_cases q3 : n < 0
            · refine ⟨(-14), _, ok, ?_, ?_⟩
              · intro d h K
                refine ⟨h, ?_, K, FrC.rf h⟩
                obtain ⟨ps, H, _, _, _, _, _, _, S, _⟩ := K
                rw [e_128]
                simp only [H.o0, H.o1, H.o2, H.o3, H.o4, H.o5, H.o6, H.o7, H.o8, H.o9, H.o10, H.b0, H.b1, H.b2, H.b3, H.b4, H.v3, H.v4, dR_ref, dA_ref, dA_null, dN_ref, dN_null, dD_ref, dD_int, cI_s, cV_s, cR_r, cR_n, cJ_s, bI_0, bI_1, zr_bI, zr_0, zr_1, eq_self, if_true, if_false, i10, i20, i01, i21, i02, i12, ior0, iad0, Bool.true_eq_false, Bool.false_eq_true, c_156 H S hs4, c_133, x2, if_neg q, if_neg q2, if_pos q3]
              · intro d h K
                refine ⟨h, ?_, K, Fr.rf h⟩
                rw [e_254, r_166, cI_s, x1, r_166, cI_s, x2]
                simp only [dR_ref, dA_ref, dA_null, dN_ref, dN_null, dD_ref, dD_int, cI_s, cV_s, cR_r, cR_n, cJ_s, bI_0, bI_1, zr_bI, zr_0, zr_1, eq_self, if_true, if_false, i10, i20, i01, i21, i02, i12, ior0, iad0, Bool.true_eq_false, Bool.false_eq_true, if_neg q, if_neg q2, if_pos q3]
            · obtain ⟨m, hm, rfl⟩ := nI_of q3
              have hm2 : m ≤ 40 := by
                rcases Nat.lt_or_ge 40 m with z | z
                · exact absurd (show (40 : Int32) < nI m from nI_lt (a := 40) z hm) q2
                · exact z
              refine ⟨1, (c, w, B, hs, L, Ts, tp, im, fu sh s (g, m, List.replicate 40 0)), ok.shS hm2 (by simp), ?_, ?_⟩
              · intro d h K
                have K1 := K.shS hs4 g m (xs := List.replicate 40 0) (by simp)
                refine ⟨_, ?_, K1, FrC.shS h hs4 _ _⟩
                obtain ⟨ps, H, _, _, _, _, _, _, S, _⟩ := K
                rw [e_128]
                simp only [H.o0, H.o1, H.o2, H.o3, H.o4, H.o5, H.o6, H.o7, H.o8, H.o9, H.o10, H.b0, H.b1, H.b2, H.b3, H.b4, H.v3, H.v4, dR_ref, dA_ref, dA_null, dN_ref, dN_null, dD_ref, dD_int, cI_s, cV_s, cR_r, cR_n, cJ_s, bI_0, bI_1, zr_bI, zr_0, zr_1, eq_self, if_true, if_false, i10, i20, i01, i21, i02, i12, ior0, iad0, Bool.true_eq_false, Bool.false_eq_true, c_156 H S hs4, c_133, x2, if_neg q, if_neg q2, if_neg q3, S.vv hs4, c_46 S hs4 g hm2]
              · intro d h K
                obtain ⟨h1, h2, h3, e1, e2, e3, e4, K3, G3⟩ := fin m hm2 d h K
                refine ⟨h3, ?_, K3, G3⟩
                obtain ⟨F, A, H, _⟩ := K
                rw [e_254, r_166, cI_s, x1, r_166, cI_s, x2]
                simp only [dR_ref, dA_ref, dA_null, dN_ref, dN_null, dD_ref, dD_int, cI_s, cV_s, cR_r, cR_n, cJ_s, bI_0, bI_1, zr_bI, zr_0, zr_1, eq_self, if_true, if_false, i10, i20, i01, i21, i02, i12, ior0, iad0, Bool.true_eq_false, Bool.false_eq_true, if_neg q, if_neg q2, if_neg q3, H.1.f19, e1, e2, e3, e4]
