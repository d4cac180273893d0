/-! copy, heapsBy -/
def strq (z : Nat) (i n : Int32) : Bool := !decide (i < 0) && (!decide (n < 0) && (!decide (nI z < n) && !decide (nI z - n < i)))
theorem c_47 {h : MHeap} {sh : Nat → Sht} (S : CSh h sh) {s : Nat} (hs4 : s < 4) (i n : Int32) (d : Nat) : call (d + 1) 47 [.ref (14 + 2 * s), .int i, .int n] h = some (some (.int (bI (strq (sh s).2.1 i n))), h) := by
  rw [e_47, S.g1 hs4, S.g1 hs4]
  simp only [zr_0, zr_1]
  unfold strq
  by_cases q1 : i < 0
  · simp [q1, bI]
  · by_cases q2 : n < 0
    · simp [q1, q2, bI]
    · by_cases q3 : nI (sh s).2.1 < n
      · simp [q1, q2, q3, bI]
      · by_cases q4 : nI (sh s).2.1 - n < i
        · simp [q1, q2, q3, q4, bI]
        · simp [q1, q2, q3, q4, bI]
theorem strq_iff {z : Nat} (hz : z ≤ 40) {i n : Int32} : strq z i n = true ↔ ∃ i' n', i = nI i' ∧ n = nI n' ∧ i' + n' ≤ z := by
  unfold strq
  simp only [Bool.and_eq_true, Bool.not_eq_true', decide_eq_false_iff_not]
  constructor
  · rintro ⟨q1, q2, q3, q4⟩
    obtain ⟨i', hi, rfl⟩ := nI_of q1
    obtain ⟨n', hn, rfl⟩ := nI_of q2
    have h1 : n' ≤ z := by
      rcases Nat.lt_or_ge z n' with y | y
      · exact absurd (nI_lt y hn) q3
      · exact y
    rw [pk_sub h1] at q4
    refine ⟨i', n', rfl, rfl, ?_⟩
    rcases Nat.lt_or_ge (z - n') i' with y | y
    · exact absurd (nI_lt y hi) q4
    · omega
  · rintro ⟨i', n', rfl, rfl, h⟩
    exact ⟨nI_pos (by omega), nI_pos (by omega), nI_nlt (by omega) (by omega), by rw [pk_sub (by omega)]; exact nI_nlt (by omega) (by omega)⟩
theorem cpyL_get {vs ws : List Int32} {sp dp n : Nat} (h1 : sp + n ≤ vs.length) (h2 : dp + n ≤ ws.length) : cpyL (vs.map Value.int) (ws.map Value.int) sp dp n = ((ws.take dp ++ ((vs.drop sp).take n ++ ws.drop (dp + n))).map Value.int) := by
  unfold cpyL
  simp only [List.map_append, List.map_take, List.map_drop]
theorem cpy_at {vs ws : List Int32} {sp dp n j : Nat} (h1 : sp + n ≤ vs.length) (h2 : dp + n ≤ ws.length) : (ws.take dp ++ ((vs.drop sp).take n ++ ws.drop (dp + n))).getD j 0 = if dp ≤ j ∧ j < dp + n then vs.getD (sp + (j - dp)) 0 else ws.getD j 0 := by
  have l1 : (ws.take dp).length = dp := by rw [List.length_take]; omega
  have l2 : ((vs.drop sp).take n).length = n := by rw [List.length_take, List.length_drop]; omega
  rw [List.getD_eq_getElem?_getD]
  rcases Nat.lt_or_ge j dp with z | z
  · rw [List.getElem?_append_left (by omega), List.getElem?_take, if_pos z, if_neg (by omega), List.getD_eq_getElem?_getD]
  · rw [List.getElem?_append_right (by omega), l1]
    rcases Nat.lt_or_ge j (dp + n) with y | y
    · rw [List.getElem?_append_left (by omega), List.getElem?_take, if_pos (by omega), List.getElem?_drop, if_pos ⟨z, y⟩, List.getD_eq_getElem?_getD]
    · rw [List.getElem?_append_right (by omega), l2, List.getElem?_drop, if_neg (by omega), List.getD_eq_getElem?_getD, show dp + n + (j - dp - n) = j by omega]
/-- the reference's copying, either way -/
theorem r_cpy {h : MHeap} {F : Nat → Int32} {A : Nat → List Int32} (H : RH h F A) (d : Nat) (v1 v2 v3 v4 : Int32) {n a b : Nat} (ha : a + n ≤ 160) (hb : b + n ≤ 160) : ∃ (h' : MHeap) (A' : Nat → List Int32), ex (d + 199) 256 147 [sv (.ref 28), sv (.int v1), sv (.int v2), sv (.int v3), sv (.int v4), sv (.int (nI n)), sv (.int (nI a)), sv (.int (nI b)), sv (.int 0), none] [] h = some (some (.int (nI n)), h') ∧ RH h' F A' ∧ Fr h h' ∧ (∀ o, o ≠ 37 → A' o = A o) ∧ (∀ j, (A' 37).getD j 0 = if b ≤ j ∧ j < b + n then (A 37).getD (a + (j - b)) 0 else (A 37).getD j 0) := by
  have key : ∀ k, k ≤ n → ∀ (h1 : MHeap) (A1 : Nat → List Int32) (j : MSl), RH h1 F A1 → Fr h h1 → (∀ o, o ≠ 37 → A1 o = A o) → (∀ j, (A1 37).getD j 0 = if b ≤ j ∧ j < b + n ∧ (if a < b then b + n ≤ j + k else j < b + k) then (A 37).getD (a + (j - b)) 0 else (A 37).getD j 0) → ∃ (h' : MHeap) (A' : Nat → List Int32), ex (d + 199) 256 147 [sv (.ref 28), sv (.int v1), sv (.int v2), sv (.int v3), sv (.int v4), sv (.int (nI n)), sv (.int (nI a)), sv (.int (nI b)), sv (.int (nI k)), j] [] h1 = some (some (.int (nI n)), h') ∧ RH h' F A' ∧ Fr h h' ∧ (∀ o, o ≠ 37 → A' o = A o) ∧ (∀ j, (A' 37).getD j 0 = if b ≤ j ∧ j < b + n then (A 37).getD (a + (j - b)) 0 else (A 37).getD j 0) := by
    intro k hk
    refine up_ind (n := n) (P := fun k => ∀ (h1 : MHeap) (A1 : Nat → List Int32) (j : MSl), RH h1 F A1 → Fr h h1 → (∀ o, o ≠ 37 → A1 o = A o) → (∀ j, (A1 37).getD j 0 = if b ≤ j ∧ j < b + n ∧ (if a < b then b + n ≤ j + k else j < b + k) then (A 37).getD (a + (j - b)) 0 else (A 37).getD j 0) → ∃ (h' : MHeap) (A' : Nat → List Int32), ex (d + 199) 256 147 [sv (.ref 28), sv (.int v1), sv (.int v2), sv (.int v3), sv (.int v4), sv (.int (nI n)), sv (.int (nI a)), sv (.int (nI b)), sv (.int (nI k)), j] [] h1 = some (some (.int (nI n)), h') ∧ RH h' F A' ∧ Fr h h' ∧ (∀ o, o ≠ 37 → A' o = A o) ∧ (∀ j, (A' 37).getD j 0 = if b ≤ j ∧ j < b + n then (A 37).getD (a + (j - b)) 0 else (A 37).getD j 0)) ?_ ?_ hk
    · intro h1 A1 j H1 G1 a1 a2
      refine ⟨h1, A1, ?_, H1, G1, a1, ?_⟩
      · rw [e_256_147, if_neg (nI_nlt (Nat.le_refl _) (by omega))]
      · intro i
        rw [a2 i]
        by_cases z : b ≤ i ∧ i < b + n
        · rw [if_pos z, if_pos ⟨z.1, z.2, by split <;> omega⟩]
        · rw [if_neg z, if_neg (fun y => z ⟨y.1, y.2.1⟩)]
    · intro k hk ih h1 A1 j H1 G1 a1 a2
      have hl : (A1 37).length = 160 := (H1.2 37 (by decide) (by decide)).2
      rw [e_256_147, if_pos (nI_lt hk (by omega))]
      simp only [H1.f21, dR_ref, nI_1]
      by_cases q : a < b
      · have x1 : (nI n - 1 : Int32) - nI k = nI (n - 1 - k) := by rw [show (1 : Int32) = nI 1 from rfl, pk_sub (by omega), pk_sub (by omega)]
        rw [if_pos (nI_lt q (by omega)), x1, nI_add, nI_add, H1.al (by decide) (by decide) (show a + (n - 1 - k) < 160 by omega), H1.as (by decide) (by decide) (show b + (n - 1 - k) < 160 by omega)]
        refine ih _ (fu A1 37 ((A1 37).set (b + (n - 1 - k)) ((A1 37).getD (a + (n - 1 - k)) 0))) _ (H1.setA (by decide) (by decide) (by rw [List.length_set]; exact hl)) (G1.tr (Fr.st _ (by decide) (by decide) _)) (fun o ho => (fu_ne _ _ ho).trans (a1 o ho)) ?_
        intro i
        have rd : (A1 37).getD (a + (n - 1 - k)) 0 = (A 37).getD (a + (n - 1 - k)) 0 := by rw [a2, if_neg (fun y => by have := y.2.2; rw [if_pos q] at this; omega)]
        rw [fu_eq, getD_set (by omega), rd]
        by_cases z : i = b + (n - 1 - k)
        · rw [if_pos z, if_pos ⟨by omega, by omega, by rw [if_pos q]; omega⟩, z, show b + (n - 1 - k) - b = n - 1 - k by omega]
        · rw [if_neg z, a2 i]
          by_cases y : b ≤ i ∧ i < b + n ∧ (if a < b then b + n ≤ i + k else i < b + k)
          · have y3 := y.2.2
            rw [if_pos q] at y3
            rw [if_pos y, if_pos ⟨y.1, y.2.1, by rw [if_pos q]; omega⟩]
          · rw [if_neg y, if_neg]
            intro y2
            apply y
            have y3 := y2.2.2
            rw [if_pos q] at y3
            exact ⟨y2.1, y2.2.1, by rw [if_pos q]; omega⟩
      · rw [if_neg (nI_nlt (by omega) (by omega)), nI_add, nI_add, H1.al (by decide) (by decide) (show a + k < 160 by omega), H1.as (by decide) (by decide) (show b + k < 160 by omega)]
        refine ih _ (fu A1 37 ((A1 37).set (b + k) ((A1 37).getD (a + k) 0))) _ (H1.setA (by decide) (by decide) (by rw [List.length_set]; exact hl)) (G1.tr (Fr.st _ (by decide) (by decide) _)) (fun o ho => (fu_ne _ _ ho).trans (a1 o ho)) ?_
        intro i
        have rd : (A1 37).getD (a + k) 0 = (A 37).getD (a + k) 0 := by rw [a2, if_neg (fun y => by have := y.2.2; rw [if_neg q] at this; omega)]
        rw [fu_eq, getD_set (by omega), rd]
        by_cases z : i = b + k
        · rw [if_pos z, if_pos ⟨by omega, by omega, by rw [if_neg q]; omega⟩, z, show b + k - b = k by omega]
        · rw [if_neg z, a2 i]
          by_cases y : b ≤ i ∧ i < b + n ∧ (if a < b then b + n ≤ i + k else i < b + k)
          · have y3 := y.2.2
            rw [if_neg q] at y3
            rw [if_pos y, if_pos ⟨y.1, y.2.1, by rw [if_neg q]; omega⟩]
          · rw [if_neg y, if_neg]
            intro y2
            apply y
            have y3 := y2.2.2
            rw [if_neg q] at y3
            exact ⟨y2.1, y2.2.1, by rw [if_neg q]; omega⟩
  refine key 0 (by omega) h A none H (Fr.rf h) (fun _ _ => rfl) ?_
  intro i
  rw [if_neg]
  rintro ⟨y1, y2, y3⟩
  split at y3 <;> omega
theorem op_copy (a i e j n : Int32) : OP 130 256 [.int a, .int i, .int e, .int j, .int n]
  | (c, w, B, hs, L, Ts, tp, im, sh), ok => by
    have ok' := ok
    obtain ⟨oB, oL, o3, o4, o5, o6, o7, o8, o9, ob⟩ := ok'
    by_cases bad : inR a 0 3 = false ∨ inR e 0 3 = false
    · refine ⟨(-2), _, ok, ?_, ?_⟩
      · intro d h K
        refine ⟨h, ?_, K, FrC.rf h⟩
        obtain ⟨ps, H, _, _, _, _, _, _, S, _⟩ := K
        rw [e_130]
        cases x1 : inR a 0 3 with
        | false =>
          cases x2 : inR e 0 3 with
          | false => simp only [H.o0, H.o1, H.o2, H.o3, H.o4, H.o5, H.o6, H.o7, H.o8, H.o9, H.o10, H.b0, H.b1, H.b2, H.b3, H.b4, H.v3, H.v4, dR_ref, dA_ref, dA_null, dN_ref, dN_null, dD_ref, dD_int, cI_s, cV_s, cR_r, cR_n, cJ_s, bI_0, bI_1, zr_bI, zr_0, zr_1, eq_self, if_true, if_false, i10, i20, i01, i21, i02, i12, ior0, iad0, Bool.true_eq_false, Bool.false_eq_true, c_156n H S x1, c_156n H S x2]
          | true =>
            obtain ⟨s, hs4, rfl⟩ := inR_of (n := 3) (by decide) x2
            simp only [H.o0, H.o1, H.o2, H.o3, H.o4, H.o5, H.o6, H.o7, H.o8, H.o9, H.o10, H.b0, H.b1, H.b2, H.b3, H.b4, H.v3, H.v4, dR_ref, dA_ref, dA_null, dN_ref, dN_null, dD_ref, dD_int, cI_s, cV_s, cR_r, cR_n, cJ_s, bI_0, bI_1, zr_bI, zr_0, zr_1, eq_self, if_true, if_false, i10, i20, i01, i21, i02, i12, ior0, iad0, Bool.true_eq_false, Bool.false_eq_true, c_156n H S x1, c_156 H S (show s < 4 by omega)]
        | true =>
          have x2 : inR e 0 3 = false := by rw [x1] at bad; rcases bad with z | z <;> first | exact z | cases z
          obtain ⟨s, hs4, rfl⟩ := inR_of (n := 3) (by decide) x1
          simp only [H.o0, H.o1, H.o2, H.o3, H.o4, H.o5, H.o6, H.o7, H.o8, H.o9, H.o10, H.b0, H.b1, H.b2, H.b3, H.b4, H.v3, H.v4, dR_ref, dA_ref, dA_null, dN_ref, dN_null, dD_ref, dD_int, cI_s, cV_s, cR_r, cR_n, cJ_s, bI_0, bI_1, zr_bI, zr_0, zr_1, eq_self, if_true, if_false, i10, i20, i01, i21, i02, i12, ior0, iad0, Bool.true_eq_false, Bool.false_eq_true, c_156n H S x2, c_156 H S (show s < 4 by omega)]
      · intro d h K
        refine ⟨h, ?_, K, Fr.rf h⟩
        rw [e_256, r_166, cI_s, r_166, cI_s]
        revert bad
        cases inR a 0 3 <;> cases inR e 0 3 <;> intro bad <;> first | rfl | (rcases bad with z | z <;> cases z)
    · have x1 : inR a 0 3 = true := by cases x : inR a 0 3 with
        | false => exact absurd (Or.inl x) bad
        | true => rfl
      have x2 : inR e 0 3 = true := by cases x : inR e 0 3 with
        | false => exact absurd (Or.inr x) bad
        | true => rfl
      obtain ⟨s, hs4, rfl⟩ := inR_of (n := 3) (by decide) x1
      obtain ⟨o, ho4, rfl⟩ := inR_of (n := 3) (by decide) x2
      have hs4 : s < 4 := by omega
      have ho4 : o < 4 := by omega
      have zs := o9 s hs4
      have zo := o9 o ho4
      have rhead : ∀ (d : Nat) (h : MHeap) (F : Nat → Int32) (A : Nat → List Int32), RB h F A c w (nI B) hs → RSh A sh → call (d + 200) 256 [.ref 28, .int (nI s), .int i, .int (nI o), .int j, .int n] h = (if (sh s).1 = -1 then some (some (.int (-11)), h) else if (sh o).1 = -1 then some (some (.int (-11)), h) else if (sh s).1 = (sh o).1 then (if n < 0 then some (some (.int (-12)), h) else if i < 0 then some (some (.int (-12)), h) else if j < 0 then some (some (.int (-12)), h) else if nI (sh s).2.1 < i then some (some (.int (-12)), h) else if nI (sh o).2.1 < j then some (some (.int (-12)), h) else if nI (sh s).2.1 - i < n then some (some (.int (-12)), h) else if nI (sh o).2.1 - j < n then some (some (.int (-12)), h) else ex (d + 199) 256 147 [sv (.ref 28), sv (.int (nI s)), sv (.int i), sv (.int (nI o)), sv (.int j), sv (.int n), sv (.int ((40 * nI s) + i)), sv (.int ((40 * nI o) + j)), sv (.int 0), none] [] h) else some (some (.int (-13)), h)) := by
        intro d h F A H S
        obtain ⟨s1, s2, s3⟩ := S s hs4
        obtain ⟨t1, t2, t3⟩ := S o ho4
        rw [e_256, r_166, cI_s, r_166, cI_s, x1, x2, if_neg (by decide), if_neg (by decide)]
        have l35 : ∀ (k : Int32 → MRes), alI none h 35 (nI s) k = k (sh s).1 := fun k => by rw [H.1.al (by decide) (by decide) (show s < 4 from hs4), s1]
        have l35o : ∀ (k : Int32 → MRes), alI none h 35 (nI o) k = k (sh o).1 := fun k => by rw [H.1.al (by decide) (by decide) (show o < 4 from ho4), t1]
        have l36 : ∀ (k : Int32 → MRes), alI none h 36 (nI s) k = k (nI (sh s).2.1) := fun k => by rw [H.1.al (by decide) (by decide) (show s < 4 from hs4), s2]
        have l36o : ∀ (k : Int32 → MRes), alI none h 36 (nI o) k = k (nI (sh o).2.1) := fun k => by rw [H.1.al (by decide) (by decide) (show o < 4 from ho4), t2]
        simp only [H.1.f19, H.1.f20, dR_ref, l35, l35o, l36, l36o]
      by_cases q1 : (sh s).1 = -1 ∨ (sh o).1 = -1
      · refine ⟨(-11), _, ok, ?_, ?_⟩
        · intro d h K
          refine ⟨h, ?_, K, FrC.rf h⟩
          obtain ⟨ps, H, _, _, _, _, _, _, S, _⟩ := K
          rw [e_130]
          by_cases y : (sh s).1 = -1
          · simp only [H.o0, H.o1, H.o2, H.o3, H.o4, H.o5, H.o6, H.o7, H.o8, H.o9, H.o10, H.b0, H.b1, H.b2, H.b3, H.b4, H.v3, H.v4, dR_ref, dA_ref, dA_null, dN_ref, dN_null, dD_ref, dD_int, cI_s, cV_s, cR_r, cR_n, cJ_s, bI_0, bI_1, zr_bI, zr_0, zr_1, eq_self, if_true, if_false, i10, i20, i01, i21, i02, i12, ior0, iad0, Bool.true_eq_false, Bool.false_eq_true, c_156 H S hs4, c_156 H S ho4, S.vv hs4, c_45 S hs4, decide_eq_true y]
          · have y2 : (sh o).1 = -1 := by rcases q1 with z | z <;> first | exact absurd z y | exact z
            simp only [H.o0, H.o1, H.o2, H.o3, H.o4, H.o5, H.o6, H.o7, H.o8, H.o9, H.o10, H.b0, H.b1, H.b2, H.b3, H.b4, H.v3, H.v4, dR_ref, dA_ref, dA_null, dN_ref, dN_null, dD_ref, dD_int, cI_s, cV_s, cR_r, cR_n, cJ_s, bI_0, bI_1, zr_bI, zr_0, zr_1, eq_self, if_true, if_false, i10, i20, i01, i21, i02, i12, ior0, iad0, Bool.true_eq_false, Bool.false_eq_true, c_156 H S hs4, c_156 H S ho4, S.vv hs4, c_45 S hs4, decide_eq_false y, S.vv ho4, c_45 S ho4, decide_eq_true y2]
        · intro d h K
          refine ⟨h, ?_, K, Fr.rf h⟩
          obtain ⟨F, A, H, k1, k2, k3, k4, k5⟩ := K
          rw [rhead d h F A H k4]
          by_cases y : (sh s).1 = -1
          · rw [if_pos y]
          · rw [if_neg y, if_pos (by rcases q1 with z | z <;> first | exact absurd z y | exact z)]
      · have q2 : ¬ (sh s).1 = -1 := fun z => q1 (Or.inl z)
        have q3 : ¬ (sh o).1 = -1 := fun z => q1 (Or.inr z)
        by_cases q4 : (sh s).1 = (sh o).1
        · by_cases q5 : (strq (sh s).2.1 i n && strq (sh o).2.1 j n) = false
          · refine ⟨(-12), _, ok, ?_, ?_⟩
            · intro d h K
              refine ⟨h, ?_, K, FrC.rf h⟩
              obtain ⟨ps, H, _, _, _, _, _, _, S, _⟩ := K
              rw [e_130]
              simp only [H.o0, H.o1, H.o2, H.o3, H.o4, H.o5, H.o6, H.o7, H.o8, H.o9, H.o10, H.b0, H.b1, H.b2, H.b3, H.b4, H.v3, H.v4, dR_ref, dA_ref, dA_null, dN_ref, dN_null, dD_ref, dD_int, cI_s, cV_s, cR_r, cR_n, cJ_s, bI_0, bI_1, zr_bI, zr_0, zr_1, eq_self, if_true, if_false, i10, i20, i01, i21, i02, i12, ior0, iad0, Bool.true_eq_false, Bool.false_eq_true, c_156 H S hs4, c_156 H S ho4, S.vv hs4, c_45 S hs4, decide_eq_false q2, S.vv ho4, c_45 S ho4, decide_eq_false q3, S.g0 hs4, S.g0 ho4, if_pos q4, c_47 S hs4, c_47 S ho4]
              revert q5
              cases strq (sh s).2.1 i n <;> cases strq (sh o).2.1 j n <;> intro q5 <;> first | rfl | cases q5
            · intro d h K
              refine ⟨h, ?_, K, Fr.rf h⟩
              obtain ⟨F, A, H, k1, k2, k3, k4, k5⟩ := K
              rw [rhead d h F A H k4, if_neg q2, if_neg q3, if_pos q4]
              by_cases n0 : n < 0
              · rw [if_pos n0]
              · by_cases i0 : i < 0
                · rw [if_neg n0, if_pos i0]
                · by_cases j0 : j < 0
                  · rw [if_neg n0, if_neg i0, if_pos j0]
                  · rw [if_neg n0, if_neg i0, if_neg j0]
                    obtain ⟨n', hn, rfl⟩ := nI_of n0
                    obtain ⟨i', hi, rfl⟩ := nI_of i0
                    obtain ⟨j', hj, rfl⟩ := nI_of j0
                    have nn : ¬ (i' + n' ≤ (sh s).2.1 ∧ j' + n' ≤ (sh o).2.1) := by
                      rintro ⟨y1, y2⟩
                      rw [(strq_iff zs.1).2 ⟨i', n', rfl, rfl, y1⟩, (strq_iff zo.1).2 ⟨j', n', rfl, rfl, y2⟩] at q5
                      cases q5
                    by_cases a1 : (sh s).2.1 < i'
                    · rw [if_pos (nI_lt a1 hi)]
                    · rw [if_neg (nI_nlt (by omega) (by omega))]
                      by_cases a2 : (sh o).2.1 < j'
                      · rw [if_pos (nI_lt a2 hj)]
                      · rw [if_neg (nI_nlt (by omega) (by omega)), pk_sub (by omega), pk_sub (by omega)]
                        by_cases a3 : (sh s).2.1 - i' < n'
                        · rw [if_pos (nI_lt a3 hn)]
                        · rw [if_neg (nI_nlt (by omega) (by omega)), if_pos (nI_lt (by omega) hn)]
          · have q6 : strq (sh s).2.1 i n = true ∧ strq (sh o).2.1 j n = true := by
              revert q5
              cases strq (sh s).2.1 i n <;> cases strq (sh o).2.1 j n <;> simp
            obtain ⟨i', n', rfl, rfl, g1⟩ := (strq_iff zs.1).1 q6.1
            obtain ⟨j', n2, rfl, en, g2⟩ := (strq_iff zo.1).1 q6.2
            have en : n2 = n' := by
              have r : n2 < 2 ^ 31 ∧ n' < 2 ^ 31 := ⟨by omega, by omega⟩
              exact ((nI_eq r.2 r.1).1 en).symm
            subst en
            refine ⟨(nI n2), (c, w, B, hs, L, Ts, tp, im, fu sh o ((sh o).1, (sh o).2.1, (sh o).2.2.take j' ++ (((sh s).2.2.drop i').take n2 ++ (sh o).2.2.drop (j' + n2)))), ok.shS zo.1 (by simp only [List.length_append, List.length_take, List.length_drop]; omega), ?_, ?_⟩
            · intro d h K
              have K1 := K.shS ho4 (sh o).1 (sh o).2.1 (xs := (sh o).2.2.take j' ++ (((sh s).2.2.drop i').take n2 ++ (sh o).2.2.drop (j' + n2))) (by simp only [List.length_append, List.length_take, List.length_drop]; omega)
              obtain ⟨ps, H, _, _, _, _, _, _, S, _⟩ := K
              have e0 : h.set (14 + 2 * o) (7, [.int (sh o).1, .int (nI (sh o).2.1), .ref (15 + 2 * o)]) = h := set_self (S.2 o ho4).1
              rw [e0] at K1
              refine ⟨_, ?_, K1, FrC.st h (by omega) _⟩
              have acp : ∀ d, call (d + 1) 1002 [.ref (15 + 2 * s), .int (nI i'), .ref (15 + 2 * o), .int (nI j'), .int (nI n2)] h = some (none, h.set (15 + 2 * o) (100, ((sh o).2.2.take j' ++ (((sh s).2.2.drop i').take n2 ++ (sh o).2.2.drop (j' + n2))).map .int)) := by
                intro d
                have e1 : call (d + 1) 1002 [.ref (15 + 2 * s), .int (nI i'), .ref (15 + 2 * o), .int (nI j'), .int (nI n2)] h = Jvm.Pilot.COneTurnedLaw_law_r5844_a73224.acp none h (15 + 2 * s) (nI i') (15 + 2 * o) (nI j') (nI n2) fun h => some (none, h) := by cases d <;> rfl
                rw [e1]
                unfold Jvm.Pilot.COneTurnedLaw_law_r5844_a73224.acp
                simp only [(S.2 s hs4).2.1, (S.2 o ho4).2.1, nI_clamp (show i' < 2 ^ 31 by omega), nI_clamp (show j' < 2 ^ 31 by omega), nI_clamp (show n2 < 2 ^ 31 by omega), nI_pos (show i' < 2 ^ 31 by omega), nI_pos (show j' < 2 ^ 31 by omega), nI_pos (show n2 < 2 ^ 31 by omega), List.length_map]
                rw [if_pos ⟨trivial, trivial, not_false, not_false, not_false, by omega, by omega⟩, cpyL_get (by omega) (by omega)]
              rw [e_130]
              simp only [H.o0, H.o1, H.o2, H.o3, H.o4, H.o5, H.o6, H.o7, H.o8, H.o9, H.o10, H.b0, H.b1, H.b2, H.b3, H.b4, H.v3, H.v4, dR_ref, dA_ref, dA_null, dN_ref, dN_null, dD_ref, dD_int, cI_s, cV_s, cR_r, cR_n, cJ_s, bI_0, bI_1, zr_bI, zr_0, zr_1, eq_self, if_true, if_false, i10, i20, i01, i21, i02, i12, ior0, iad0, Bool.true_eq_false, Bool.false_eq_true, c_156 H S hs4, c_156 H S ho4, S.vv hs4, c_45 S hs4, decide_eq_false q2, S.vv ho4, c_45 S ho4, decide_eq_false q3, S.g0 hs4, S.g0 ho4, if_pos q4, c_47 S hs4, c_47 S ho4, q6.1, q6.2, S.g2 hs4, S.g2 ho4, acp]
            · intro d h K
              obtain ⟨F, A, H, k1, k2, k3, k4, k5⟩ := K
              obtain ⟨h', A', e1, R1, G1, a1, a2⟩ := r_cpy H.1 d (nI s) (nI i') (nI o) (nI j') (n := n2) (a := 40 * s + i') (b := 40 * o + j') (by omega) (by omega)
              refine ⟨h', ?_, ⟨F, A', ⟨R1, H.2.1, H.2.2.1, by rw [a1 29 (by decide), a1 30 (by decide), a1 31 (by decide)]; exact H.2.2.2⟩, k1, by unfold RTp; rw [a1 32 (by decide)]; exact k2, by unfold RTs RTx; rw [a1 33 (by decide), a1 34 (by decide)]; exact k3, ?_, by rw [a1 39 (by decide)]; exact k5⟩, G1⟩
              · rw [rhead d h F A H k4, if_neg q2, if_neg q3, if_pos q4, if_neg (nI_pos (by omega)), if_neg (nI_pos (by omega)), if_neg (nI_pos (by omega)), if_neg (nI_nlt (by omega) (by omega)), if_neg (nI_nlt (by omega) (by omega)), pk_sub (by omega), pk_sub (by omega), if_neg (nI_nlt (by omega) (by omega)), if_neg (nI_nlt (by omega) (by omega)), show (40 : Int32) = nI 40 from rfl, pk_mul, pk_mul, nI_add, nI_add]
                exact e1
              · intro s' h4
                rw [a1 35 (by decide), a1 36 (by decide)]
                obtain ⟨y1, y2, y3⟩ := k4 s' h4
                by_cases z : s' = o
                · subst z
                  rw [fu_eq]
                  refine ⟨y1, y2, fun k hk => ?_⟩
                  show _ = ((sh s').2.2.take j' ++ (((sh s).2.2.drop i').take n2 ++ (sh s').2.2.drop (j' + n2))).getD k 0
                  rw [a2, cpy_at (by omega) (by omega)]
                  by_cases y : j' ≤ k ∧ k < j' + n2
                  · rw [if_pos (by omega), if_pos y, show 40 * s + i' + (40 * s' + k - (40 * s' + j')) = 40 * s + (i' + (k - j')) by omega]
                    exact (k4 s hs4).2.2 _ (by omega)
                  · rw [if_neg (by omega), if_neg y]
                    exact y3 k hk
                · rw [fu_ne _ _ z]
                  refine ⟨y1, y2, fun k hk => ?_⟩
                  rw [a2, if_neg (by omega)]
                  exact y3 k hk
        · refine ⟨(-13), _, ok, ?_, ?_⟩
          · intro d h K
            refine ⟨h, ?_, K, FrC.rf h⟩
            obtain ⟨ps, H, _, _, _, _, _, _, S, _⟩ := K
            rw [e_130]
            simp only [H.o0, H.o1, H.o2, H.o3, H.o4, H.o5, H.o6, H.o7, H.o8, H.o9, H.o10, H.b0, H.b1, H.b2, H.b3, H.b4, H.v3, H.v4, dR_ref, dA_ref, dA_null, dN_ref, dN_null, dD_ref, dD_int, cI_s, cV_s, cR_r, cR_n, cJ_s, bI_0, bI_1, zr_bI, zr_0, zr_1, eq_self, if_true, if_false, i10, i20, i01, i21, i02, i12, ior0, iad0, Bool.true_eq_false, Bool.false_eq_true, c_156 H S hs4, c_156 H S ho4, S.vv hs4, c_45 S hs4, decide_eq_false q2, S.vv ho4, c_45 S ho4, decide_eq_false q3, S.g0 hs4, S.g0 ho4, if_neg q4]
          · intro d h K
            refine ⟨h, ?_, K, Fr.rf h⟩
            obtain ⟨F, A, H, k1, k2, k3, k4, k5⟩ := K
            rw [rhead d h F A H k4, if_neg q2, if_neg q3, if_neg q4]
