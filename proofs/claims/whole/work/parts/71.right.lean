/-! likely, right: the pairs -/
section PQS
variable {c w : Nat} {b : Int32} {hs : List Ent} {T : Txt}
theorem c_152 {h : MHeap} {lc lw : Int32} {ps : List Nat} (H : CB h c w b hs lc lw ps) (C : CS h) (Ca : CA h c w b hs T) (d : Nat) : ∃ h1, call (d + 8) 152 [.ref 3] h = some (none, h1) ∧ wsF (wts c w b hs T) h h1 := by
  have hb := H.bd
  have C' := C
  obtain ⟨u0, v, n, s, ⟨c1, d1⟩, ⟨c2, d2⟩, ⟨c3, d3⟩, ⟨c4, d4⟩⟩ := C'
  have I0 : wsF (fun _ => 0) h (h.set 23 (100, (List.replicate v.length 0).map .int)) := by
    refine ⟨FC.s23 C (by simp; exact d2), _, gset c2 _, by simp; exact d2, ?_⟩
    intro j hj
    rw [List.getD_eq_getElem?_getD, List.getElem?_replicate, if_pos (by omega)]
    rfl
  have H0 := H.fc C I0.1
  have key : ∀ i, i ≤ 12 → ∀ g h1, wsF g h h1 → ∀ j, ∃ h2, ex (d + 7) 152 47 [sv (.ref 3), sv (.int (nI (fln c w hs b))), sv (.int (nI i)), j] [] h1 = some (none, h2) ∧ wsF (lq (wgs c w b hs T) (12 - i) i g) h h2 := by
    intro i hi
    refine up_ind (n := 12) (P := fun i => ∀ g h1, wsF g h h1 → ∀ j, ∃ h2, ex (d + 7) 152 47 [sv (.ref 3), sv (.int (nI (fln c w hs b))), sv (.int (nI i)), j] [] h1 = some (none, h2) ∧ wsF (lq (wgs c w b hs T) (12 - i) i g) h h2) ?_ ?_ hi
    · intro g h1 I j
      refine ⟨h1, ?_, I⟩
      rw [e_152_47, if_neg (by decide)]
    · intro i hi ih g h1 I j
      have H1 := H.fc C I.1
      -- the second half
      have half : ∀ g1 h2, wsF g1 h h2 → g1 = (if i < c then fu g (1 + i) (w1 c w b hs T i) else g) → ∀ j, ∃ h3, ex (d + 7) 152 107 [sv (.ref 3), sv (.int (nI (fln c w hs b))), sv (.int (nI i)), j] [] h2 = some (none, h3) ∧ wsF (lq (wgs c w b hs T) (12 - i) i g) h h3 := by
        intro g1 h2 I2 hg1 j
        have H2 := H.fc C I2.1
        have e0 : lq (wgs c w b hs T) (12 - i) i g = lq (wgs c w b hs T) (12 - (i + 1)) (i + 1) (wgs c w b hs T i g) := by
          rw [show 12 - i = (12 - (i + 1)) + 1 by omega]; rfl
        have eg : wgs c w b hs T i g = if i + 1 < c ∧ unl b i (i + 1) = true then fu g1 (21 + i) (w2 c w b hs T i) else g1 := by rw [hg1]; rfl
        rw [e0, e_152_107]
        simp only [H2.o0, H2.o8, H2.b2, H2.v4, H2.v3, dR_ref, dA_ref, dA_null, dN_ref, dN_null, dD_ref, dD_int, cI_s, cV_s, cR_r, cR_n, cJ_s, bI_0, bI_1, zr_bI, zr_0, zr_1, eq_self, if_true, if_false, i10, i20, i01, i21, i02, i12, ior0, iad0, Bool.true_eq_false, Bool.false_eq_true, nI_1, c_5 H2, inR_nI (show i + 1 < 2 ^ 31 by omega) (show c - 1 < 2 ^ 31 by omega), c_7b H2]
        by_cases q1 : i + 1 < c
        · rw [decide_eq_true (show i + 1 ≤ c - 1 by omega), if_neg (by decide)]
          cases q2 : unl b i (i + 1) with
          | false =>
            rw [if_pos rfl, e_152_185, nI_1]
            rw [if_neg (by rw [q2]; simp)] at eg
            rw [eg]
            exact ih g1 h2 I2 j
          | true =>
            rw [if_pos ⟨q1, q2⟩] at eg
            rw [if_neg (by decide), eg]
            simp only [e_135, bit_nI (show i < 31 by omega), bit_nI (show i + 1 < 31 by omega), cI_s, c_21 H2, H2.o0, H2.o8, dR_ref, H2.v4, H2.v3, bI_0]
            have es : (b ^^^ nI (2 ^ i)) ^^^ nI (2 ^ (i + 1)) = swd b i (i + 1) := rfl
            rw [es]
            by_cases q3 : sgs c w hs (swd b i (i + 1)) = 0
            · obtain ⟨h3, e3, G3⟩ := Ca (d + 1) h2 I2.1 1 i (by decide) (by omega)
              have e3 : call (d + 7) 143 [.ref 3, .int 1, .int (nI i), .int (nI (fln c w hs b))] h2 = _ := e3
              have sy := syN_ok (c := c) (w := w) (b := b) (hs := hs) (T := T) 1 i
              have ew : w2 c w b hs T i = syN c w b hs T 1 i := if_pos q3
              obtain ⟨h4, e4, I4⟩ := (I2.fd G3).set (k := 21 + i) (by omega) (w2 c w b hs T i)
              obtain ⟨h5, e5, I5⟩ := ih _ h4 I4 (sv (.int (swd b i (i + 1))))
              refine ⟨h5, ?_, I5⟩
              rw [decide_eq_true q3, if_neg (by decide), e3, cI_s, e_152_184, dR_ref, sy.2, ← ew, show (21 : Int32) = nI 21 from rfl, nI_add, e4, e_152_185, nI_1]
              exact e5
            · have ew : w2 c w b hs T i = 0 := if_neg q3
              obtain ⟨h4, e4, I4⟩ := I2.set (k := 21 + i) (by omega) (w2 c w b hs T i)
              obtain ⟨h5, e5, I5⟩ := ih _ h4 I4 (sv (.int (swd b i (i + 1))))
              refine ⟨h5, ?_, I5⟩
              rw [ew] at e4
              rw [decide_eq_false q3, if_pos rfl, e_152_184, dR_ref, show (21 : Int32) = nI 21 from rfl, nI_add]
              have e4 : ∀ K : MHeap → MRes, asI none h2 23 (nI (21 + i)) 0 K = K h4 := e4
              rw [e4, e_152_185, nI_1]
              exact e5
        · rw [decide_eq_false (show ¬ i + 1 ≤ c - 1 by omega), if_pos rfl, e_152_185, nI_1]
          rw [if_neg (fun z => q1 z.1)] at eg
          rw [eg]
          exact ih g1 h2 I2 j
      rw [e_152_47, if_pos (show nI i < (12 : Int32) from nI_lt (b := 12) hi (by decide))]
      simp only [H1.o0, H1.o8, H1.b2, H1.v4, H1.v3, dR_ref, dA_ref, dA_null, dN_ref, dN_null, dD_ref, dD_int, cI_s, cV_s, cR_r, cR_n, cJ_s, bI_0, bI_1, zr_bI, zr_0, zr_1, eq_self, if_true, if_false, i10, i20, i01, i21, i02, i12, ior0, iad0, Bool.true_eq_false, Bool.false_eq_true, c_5 H1, inR_nI (show i < 2 ^ 31 by omega) (show c - 1 < 2 ^ 31 by omega), e_135, bit_nI (show i < 31 by omega), c_21 H1]
      by_cases q1 : i < c
      · rw [decide_eq_true (show i ≤ c - 1 by omega), if_neg (by decide)]
        by_cases q3 : sgs c w hs (b ^^^ nI (2 ^ i)) = 0
        · obtain ⟨h3, e3, G3⟩ := Ca (d + 1) h1 I.1 0 i (by decide) (by omega)
          have e3 : call (d + 7) 143 [.ref 3, .int 0, .int (nI i), .int (nI (fln c w hs b))] h1 = _ := e3
          have sy := syN_ok (c := c) (w := w) (b := b) (hs := hs) (T := T) 0 i
          have ew : w1 c w b hs T i = syN c w b hs T 0 i := if_pos q3
          obtain ⟨h4, e4, I4⟩ := (I.fd G3).set (k := 1 + i) (by omega) (w1 c w b hs T i)
          rw [decide_eq_true q3, if_neg (by decide), e3, cI_s, sy.2, ← ew, show (1 : Int32) = nI 1 from rfl, nI_add, e4]
          exact half _ h4 I4 (by rw [if_pos q1]) _
        · have ew : w1 c w b hs T i = 0 := if_neg q3
          obtain ⟨h4, e4, I4⟩ := I.set (k := 1 + i) (by omega) (w1 c w b hs T i)
          rw [ew] at e4
          have e4 : ∀ K : MHeap → MRes, asI none h1 23 (nI (1 + i)) 0 K = K h4 := e4
          rw [decide_eq_false q3, if_pos rfl, show (1 : Int32) = nI 1 from rfl, nI_add, e4]
          exact half _ h4 I4 (by rw [if_pos q1]) _
      · rw [decide_eq_false (show ¬ i ≤ c - 1 by omega), if_pos rfl]
        exact half g h1 I (by rw [if_neg q1]) j
  have fin : ∀ h1, wsF (fu (fun _ => 0) 0 (w0 c w b hs)) h h1 → ∃ h2, ex (d + 7) 152 47 [sv (.ref 3), sv (.int (nI (fln c w hs b))), sv (.int 0), none] [] h1 = some (none, h2) ∧ wsF (wts c w b hs T) h h2 := by
    intro h1 I
    obtain ⟨h2, e2, I2⟩ := key 0 (by omega) _ h1 I none
    refine ⟨h2, e2, ?_⟩
    obtain ⟨G, v, hv, hl, hg⟩ := I2
    exact ⟨G, v, hv, hl, fun j hj => by rw [hg j hj]; exact congrArg nI (wgs_ok hb.2.1 j hj)⟩
  rw [e_152, H.o8, c_261 c2 (by omega), cV_s]
  simp only [H0.o0, H0.o8, H0.b2, H0.v4, dR_ref, dA_ref, dA_null, dN_ref, dN_null, dD_ref, dD_int, cI_s, cV_s, cR_r, cR_n, cJ_s, bI_0, bI_1, zr_bI, zr_0, zr_1, eq_self, if_true, if_false, i10, i20, i01, i21, i02, i12, ior0, iad0, Bool.true_eq_false, Bool.false_eq_true, c_19 H0, c_21 H0]
  obtain ⟨h4, e4, I4⟩ := I0.set (k := 0) (by decide) (w0 c w b hs)
  by_cases q3 : sgs c w hs b = 0
  · have ew : w0 c w b hs = 100 := if_pos q3
    rw [ew] at e4
    have e4 : ∀ K : MHeap → MRes, asI none _ 23 0 100 K = K h4 := e4
    rw [decide_eq_true q3, if_neg (by decide), e4]
    exact fin h4 I4
  · have ew : w0 c w b hs = 0 := if_neg q3
    rw [ew] at e4
    have e4 : ∀ K : MHeap → MRes, asI none _ 23 0 0 K = K h4 := e4
    rw [decide_eq_false q3, if_pos rfl, e4]
    exact fin h4 I4
abbrev scv (c w : Nat) (b : Int32) (hs : List Ent) (T : Txt) : Int32 × Nat × Nat := lq (scn (wts c w b hs T)) 33 0 (-1, 0, 0)
theorem c_153 {h h1 : MHeap} {lc lw : Int32} {ps : List Nat} (H : CB h c w b hs lc lw ps) (C : CS h) (I : wsF (wts c w b hs T) h h1) (d : Nat) : call (d + 1) 153 [.ref 3] h1 = some (some (.int (scv c w b hs T).1), h1) := by
  have H1 := H.fc C I.1
  obtain ⟨_, v, hv, hl, hg⟩ := I
  rw [e_153]
  refine lq_ind (J := Unit) (scn (wts c w b hs T)) (fun i s _ => ex d 153 6 [sv (.ref 3), sv (.int s.1), sv (.int (nI s.2.1)), sv (.int (nI i))] [] h1) (fun s => some (some (.int s.1), h1)) 33 (fun _ s => s.2.1 ≤ 100) ?_ ?_ 0 (-1, 0, 0) () (by omega) (by decide)
  · intro s _ _
    show ex _ _ _ _ _ _ = _; rw [e_153_6]
    simp only [H1.o8, dR_ref, ar_ln hv, hl, if_neg (nI_nlt (Nat.le_refl 33) (show 33 < 2 ^ 31 by decide))]
  · intro i s _ hi hI IH
    show ex _ _ _ _ _ _ = _; rw [e_153_6]
    have hw := wts_le (c := c) (w := w) (b := b) (hs := hs) (T := T) i
    simp only [H1.o8, dR_ref, ar_ln hv, hl, if_pos (nI_lt hi (show 33 < 2 ^ 31 by decide)), ar_al hv (show i < v.length by omega) (show v.length < 2 ^ 31 by omega), hg i hi, nI_1]
    unfold scn
    by_cases q : s.2.1 < wts c w b hs T i
    · rw [if_pos (nI_lt q (by omega)), if_pos q]
      exact IH (_, _, _) () hw
    · rw [if_neg (nI_nlt (by omega) (by omega)), if_neg q]
      exact IH (s.1, s.2.1, s.2.2 + wts c w b hs T i) () hI
theorem c_155 {h h1 : MHeap} {lc lw : Int32} {ps : List Nat} (H : CB h c w b hs lc lw ps) (C : CS h) (I : wsF (wts c w b hs T) h h1) (d : Nat) : call (d + 1) 155 [.ref 3] h1 = some (some (.int (nI (scv c w b hs T).2.2)), h1) := by
  have H1 := H.fc C I.1
  obtain ⟨_, v, hv, hl, hg⟩ := I
  rw [e_155, H1.o8, dA_ref, dA_ref, dR_ref, ar_ln hv, hl]
  refine lq_in0 (J := MSl) (scn (wts c w b hs T)) (fun i s j => ex d 155 13 [sv (.ref 3), sv (.int (nI s.2.2)), sv (.ref 23), sv (.int (nI 33)), sv (.int (nI i)), j] [] h1) (fun s => some (some (.int (nI s.2.2)), h1)) 33 ?_ ?_ 0 (-1, 0, 0) none (by omega)
  · intro s _
    show ex _ _ _ _ _ _ = _; rw [e_155_13]
    rw [if_neg (by decide)]
  · intro i s _ hi IH
    show ex _ _ _ _ _ _ = _; rw [e_155_13]
    rw [if_pos (nI_lt hi (by decide)), dA_ref, dR_ref, ar_al hv (by omega) (by omega), hg i hi, nI_1, nI_add]
    have e : (scn (wts c w b hs T) i s).2.2 = s.2.2 + wts c w b hs T i := by unfold scn; split <;> rfl
    have := IH (scn (wts c w b hs T) i s) (sv (.int (nI (wts c w b hs T i))))
    rw [e] at this
    exact this
theorem c_154 {h h1 : MHeap} {lc lw : Int32} {ps : List Nat} (H : CB h c w b hs lc lw ps) (C : CS h) (I : wsF (wts c w b hs T) h h1) (d : Nat) : call (d + 2) 154 [.ref 3, .int (scv c w b hs T).1] h1 = some (some (.int (nI (scv c w b hs T).2.1)), h1) := by
  have H1 := H.fc C I.1
  obtain ⟨_, v, hv, hl, hg⟩ := I
  obtain ⟨_, _, z⟩ := scn_inv (wts c w b hs T) wts_le 33
  rw [e_154, H1.o8, dR_ref, ar_ln hv, hl, c_133, cI_s, show nI 33 - 1 = nI 32 from by decide]
  simp only [bI_0]
  rcases z with ⟨z1, z2, _⟩ | ⟨i, z1, z2, z3, z4⟩
  · rw [z1, z2, if_pos (by decide)]; rfl
  · rw [z2, z3, inR_nI (by omega) (by decide), decide_eq_true (show i ≤ 32 by omega), if_neg (by decide), H1.o8, dR_ref, ar_al hv (by omega) (by omega), hg i z1]
/-- the reference's fields of ways -/
def wyR (F : Nat → Int32) (s : Int32 × Nat × Nat) : Prop := F 36 = s.1 ∧ F 37 = nI s.2.1 ∧ F 38 = nI s.2.2
theorem r_234 {h : MHeap} {F : Nat → Int32} {A : Nat → List Int32} (H : RB h F A c w b hs) (L : Lk A c w hs) (d : Nat) {s : Int32 × Nat × Nat} (hw : wyR F s) {k x : Nat} (hx : x ≤ 100) (hs1 : s.2.1 ≤ 100) (l : Int32) {W : Nat → Nat} (hW : W k = if sgs c w hs l = 0 then x else 0) : ∃ h' F', call (d + 4) 234 [.ref 28, .int (nI k), .int (nI x), .int l] h = some (none, h') ∧ RB h' F' A c w b hs ∧ SS F A F' A ∧ Fr h h' ∧ wyR F' (scn W k s) := by
  obtain ⟨w1, w2, w3⟩ := hw
  rw [e_234]
  rcases Nat.eq_zero_or_pos x with x0 | x0
  · subst x0
    rw [if_neg (by decide)]
    refine ⟨h, F, rfl, H, SS.rf F A, Fr.rf h, ?_⟩
    rw [scn_0 (by rw [hW]; split <;> rfl)]
    exact ⟨w1, w2, w3⟩
  · rw [if_pos (show (0 : Int32) < nI x from nI_lt (a := 0) x0 (by omega)), H.v, r_209 H L, cI_s]
    simp only [bI_0]
    by_cases q : sgs c w hs l = 0
    · rw [if_pos q] at hW
      rw [decide_eq_true q, if_neg (by decide), H.1.f37, w2]
      have P : ∀ a b' c' : Int32, RB (((h.set 28 (rC (fu F 36 a))).set 28 (rC (fu (fu F 36 a) 37 b'))).set 28 (rC (fu (fu (fu F 36 a) 37 b') 38 c'))) (fu (fu (fu F 36 a) 37 b') 38 c') A c w b hs ∧ SS F A (fu (fu (fu F 36 a) 37 b') 38 c') A := by
        intro a b' c'
        have S1 : SS F A (fu (fu (fu F 36 a) 37 b') 38 c') A := ((SS.f F A (by decide) a).tr (SS.f _ A (by decide) b')).tr (SS.f _ A (by decide) c')
        exact ⟨H.sc (((H.1.setF _).setF _).setF _) S1, S1⟩
      have R1 : ∀ a : Int32, RH (h.set 28 (rC (fu F 36 a))) (fu F 36 a) A := fun a => H.1.setF _
      have R2 : ∀ a b' : Int32, RH ((h.set 28 (rC (fu F 36 a))).set 28 (rC (fu (fu F 36 a) 37 b'))) (fu (fu F 36 a) 37 b') A := fun a b' => (R1 a).setF _
      have fr : ∀ a b' c' : Int32, Fr h (((h.set 28 (rC (fu F 36 a))).set 28 (rC (fu (fu F 36 a) 37 b'))).set 28 (rC (fu (fu (fu F 36 a) 37 b') 38 c'))) := fun a b' c' => ((Fr.st _ (by decide) (by decide) _).tr (Fr.st _ (by decide) (by decide) _)).tr (Fr.st _ (by decide) (by decide) _)
      by_cases q2 : s.2.1 < x
      · refine ⟨_, fu (fu (fu F 36 (nI k)) 37 (nI x)) 38 (nI s.2.2 + nI x), ?_, (P _ _ _).1, (P _ _ _).2, fr _ _ _, ?_⟩
        · rw [if_pos (nI_lt q2 (by omega)), H.1.p36, (R1 _).f37, fu_ne _ _ (by decide), w2, if_pos (nI_lt q2 (by omega)), (R1 _).p37, (R2 _ _).f38, fu_ne _ _ (by decide), fu_ne _ _ (by decide), w3, (R2 _ _).p38]
        · unfold scn
          rw [hW, if_pos q2]
          refine ⟨?_, ?_, ?_⟩
          · rw [fu_ne _ _ (by decide), fu_ne _ _ (by decide), fu_eq]
          · rw [fu_ne _ _ (by decide), fu_eq]
          · rw [fu_eq, nI_add]
      · refine ⟨_, fu (fu (fu F 36 (F 36)) 37 (F 37)) 38 (nI s.2.2 + nI x), ?_, (P _ _ _).1, (P _ _ _).2, fr _ _ _, ?_⟩
        · rw [if_neg (nI_nlt (by omega) (by omega)), H.1.f36, H.1.p36, (R1 _).f37, fu_ne _ _ (by decide), w2, if_neg (nI_nlt (by omega) (by omega)), (R1 _).f37, fu_ne _ _ (by decide), (R1 _).p37, (R2 _ _).f38, fu_ne _ _ (by decide), fu_ne _ _ (by decide), w3, (R2 _ _).p38, w2]
        · unfold scn
          rw [hW, if_neg q2]
          refine ⟨?_, ?_, ?_⟩
          · rw [fu_ne _ _ (by decide), fu_ne _ _ (by decide), fu_eq, w1]
          · rw [fu_ne _ _ (by decide), fu_eq, w2]
          · rw [fu_eq, nI_add]
    · rw [if_neg q] at hW
      rw [decide_eq_false q, if_pos rfl]
      exact ⟨h, F, rfl, H, SS.rf F A, Fr.rf h, by rw [scn_0 hW]; exact ⟨w1, w2, w3⟩⟩
end PQS
