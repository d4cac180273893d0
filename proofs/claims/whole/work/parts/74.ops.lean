/-! calls that change the board's backs, the law, the image -/
theorem FrC.st (h : MHeap) {o : Nat} (ho : (0 < o ∧ o < 28) ∨ 44 < o) (x : MCell) : FrC h (h.set o x) := ⟨fun a ha => gset_ne x (by omega), by rw [List.length_set]; exact Nat.le_refl _, by rw [List.length_set]; omega⟩
theorem FrC.rf (h : MHeap) : FrC h h := ⟨fun _ _ => rfl, Nat.le_refl _, by omega⟩
section CVS
variable {h : MHeap} {c w B : Nat} {hs : List Ent} {L : Nat} {Ts : List Txt} {tp : List Nat} {im : Img} {sh : Nat → Sht}
theorem CV.bk (K : CV h (c, w, B, hs, L, Ts, tp, im, sh)) (B' : Nat) : CV (h.set 4 (c4 c w (nI B') hs.length)) (c, w, B', hs, L, Ts, tp, im, sh) := by
  obtain ⟨ps, ⟨b1, b2, b3, b4, b5, b6⟩, h2, h3, h4, h5, h6, h7, h8, h9, h10, h11⟩ := K
  have e : ∀ a : Nat, a ≠ 4 → (h.set 4 (c4 c w (nI B') hs.length))[a]? = h[a]? := fun a ha => gset_ne _ (fun z => ha z.symm)
  refine ⟨ps, ⟨b1, by rw [e 3 (by decide)]; exact b2, gset b3 _, by rw [e 5 (by decide)]; exact b4, b5, ?_⟩, h2, h3, h4.tr (fun a ha => e a (by omega)), by unfold CIm; rw [e 6 (by decide)]; exact h5, h6.tr (fun a ha => e a (by omega)), h7.tr (e 12 (by decide)) (fun a ha _ => e a (by omega)), h8.tr (fun a ha => e a (by omega)), h9.tr (fun a ha => e a (by omega)), h10.tr (fun a ha => e a (by omega)), by rw [List.length_set]; exact h11⟩
  intro i x hx
  obtain ⟨q1, p, q2, q3⟩ := b6 i x hx
  exact ⟨q1, p, q2, by rw [e p (by have := h2 p (List.mem_of_getElem? q2); omega)]; exact q3⟩
theorem CV.lw (K : CV h (c, w, B, hs, L, Ts, tp, im, sh)) (L' : Nat) : CV (h.set 3 (c3 (nI Ts.length) (nI L'))) (c, w, B, hs, L', Ts, tp, im, sh) := by
  obtain ⟨ps, ⟨b1, b2, b3, b4, b5, b6⟩, h2, h3, h4, h5, h6, h7, h8, h9, h10, h11⟩ := K
  have e : ∀ a : Nat, a ≠ 3 → (h.set 3 (c3 (nI Ts.length) (nI L')))[a]? = h[a]? := fun a ha => gset_ne _ (fun z => ha z.symm)
  refine ⟨ps, ⟨b1, gset b2 _, by rw [e 4 (by decide)]; exact b3, by rw [e 5 (by decide)]; exact b4, b5, ?_⟩, h2, h3, h4.tr (fun a ha => e a (by omega)), by unfold CIm; rw [e 6 (by decide)]; exact h5, h6.tr (fun a ha => e a (by omega)), h7.tr (e 12 (by decide)) (fun a ha _ => e a (by omega)), h8.tr (fun a ha => e a (by omega)), h9.tr (fun a ha => e a (by omega)), h10.tr (fun a ha => e a (by omega)), by rw [List.length_set]; exact h11⟩
  intro i x hx
  obtain ⟨q1, p, q2, q3⟩ := b6 i x hx
  exact ⟨q1, p, q2, by rw [e p (by have := h2 p (List.mem_of_getElem? q2); omega)]; exact q3⟩
theorem CV.imS (K : CV h (c, w, B, hs, L, Ts, tp, im, sh)) (im' : Img) : CV (h.set 6 (4, [.int (bI im'.1), .int (nI im'.2.1), .int (nI im'.2.2.1), .int (nI im'.2.2.2.1), .int (nI im'.2.2.2.2.1), .int (nI im'.2.2.2.2.2)])) (c, w, B, hs, L, Ts, tp, im', sh) := by
  obtain ⟨ps, h1, h2, h3, h4, h5, h6, h7, h8, h9, h10, h11⟩ := K
  have e : ∀ (x : MCell) (a : Nat), a ≠ 6 → (h.set 6 x)[a]? = h[a]? := fun x a ha => gset_ne _ (fun z => ha z.symm)
  exact ⟨ps, h1.tr h2 (fun a ha _ => e _ a (by omega)), h2, h3, h4.tr (fun a ha => e _ a (by omega)), gset h5 _, h6.tr (fun a ha => e _ a (by omega)), h7.tr (e _ 12 (by decide)) (fun a ha _ => e _ a (by omega)), h8.tr (fun a ha => e _ a (by omega)), h9.tr (fun a ha => e _ a (by omega)), h10.tr (fun a ha => e _ a (by omega)), by rw [List.length_set]; exact h11⟩
theorem CB.p2 {b : Int32} {lc lw : Int32} {ps : List Nat} (H : CB h c w b hs lc lw ps) (x : Int32) (k : MHeap → MRes) : pfI none h 4 [0] 2 x k = k (h.set 4 (c4 c w x hs.length)) := pfI_at H.2.2.1 rfl (by show 2 < 5; decide) x k
theorem CB.p5 {b : Int32} {lc lw : Int32} {ps : List Nat} (H : CB h c w b hs lc lw ps) (x : Int32) (k : MHeap → MRes) : pfI none h 3 [11] 5 x k = k (h.set 3 (c3 lc x)) := pfI_at H.2.1 rfl (by show 5 < 11; decide) x k
end CVS
abbrev RVr (F : Nat → Int32) (A : Nat → List Int32) (L : Nat) (Ts : List Txt) (tp : List Nat) (im : Img) (sh : Nat → Sht) : Prop := RIm F im ∧ RTp F A tp ∧ RTs F A L Ts ∧ RSh A sh ∧ A 39 = wds
theorem RVr.ss {F F' : Nat → Int32} {A A' : Nat → List Int32} {L : Nat} {Ts : List Txt} {tp : List Nat} {im : Img} {sh : Nat → Sht} (S : SS F A F' A') (h2 : RVr F A L Ts tp im sh) : RVr F' A' L Ts tp im sh := by
  unfold RVr RIm RTp RTs RSh RTx
  rw [S.1 13 (by decide), S.1 14 (by decide), S.1 15 (by decide), S.1 16 (by decide), S.1 17 (by decide), S.1 18 (by decide), S.1 8 (by decide), S.1 11 (by decide), S.1 12 (by decide), S.2 32 (by decide), S.2 33 (by decide), S.2 34 (by decide), S.2 35 (by decide), S.2 36 (by decide), S.2 37 (by decide), S.2 39 (by decide)]
  exact h2
section RVS
variable {h : MHeap} {F : Nat → Int32} {A : Nat → List Int32} {c w B : Nat} {hs : List Ent} {L : Nat} {Ts : List Txt} {tp : List Nat} {im : Img} {sh : Nat → Sht}
theorem RB.bk (H : RB h F A c w (nI B) hs) (B' : Nat) : RB (h.set 28 (rC (fu F 2 (nI B')))) (fu F 2 (nI B')) A c w (nI B') hs := ⟨H.1.setF _, H.2.1, ⟨H.2.2.1.1, H.2.2.1.2.1, rfl, H.2.2.1.2.2.2⟩, H.2.2.2⟩
theorem RVr.bk (K : RVr F A L Ts tp im sh) (x : Int32) : RVr (fu F 2 x) A L Ts tp im sh := K
end RVS
theorem OKS.bk {c w B : Nat} {hs : List Ent} {L : Nat} {Ts : List Txt} {tp : List Nat} {im : Img} {sh : Nat → Sht} (ok : OKS (c, w, B, hs, L, Ts, tp, im, sh)) {B' : Nat} (hB : B' < 2 ^ c) : OKS (c, w, B', hs, L, Ts, tp, im, sh) := ⟨hB, ok.2⟩
theorem op_turn (a : Int32) : OP 85 174 [.int a]
  | (c, w, B, hs, L, Ts, tp, im, sh), ok => by
    have ok' := ok
    obtain ⟨oB, oL, o3, o4, o5, o6, o7, o8, o9, ob⟩ := ok'
    have hp := p2c ob.2.1
    cases x1 : inR a 0 (nI (2 ^ c - 1)) with
    | false =>
      refine ⟨(-2), _, ok, ?_, ?_⟩
      · intro d h K
        refine ⟨h, ?_, K, FrC.rf h⟩
        obtain ⟨ps, H, _⟩ := K
        rw [e_85]
        simp only [H.o0, H.o1, H.o2, H.o3, H.o4, H.o5, H.o6, H.o7, H.o8, H.o9, H.o10, H.b0, H.b1, H.b2, H.b3, H.b4, H.v3, H.v4, dR_ref, dA_ref, dA_null, dN_ref, dN_null, dD_ref, dD_int, cI_s, cV_s, cR_r, cR_n, cJ_s, bI_0, bI_1, zr_bI, zr_0, zr_1, eq_self, if_true, if_false, i10, i20, i01, i21, i02, i12, ior0, iad0, Bool.true_eq_false, Bool.false_eq_true, c_6 H, x1]
      · intro d h K
        refine ⟨h, ?_, K, Fr.rf h⟩
        obtain ⟨F, A, H, _⟩ := K
        rw [e_174]
        simp only [H.v, dR_ref, dA_ref, dA_null, dN_ref, dN_null, dD_ref, dD_int, cI_s, cV_s, cR_r, cR_n, cJ_s, bI_0, bI_1, zr_bI, zr_0, zr_1, eq_self, if_true, if_false, i10, i20, i01, i21, i02, i12, ior0, iad0, Bool.true_eq_false, Bool.false_eq_true, r_172 H, x1]
    | true =>
      obtain ⟨j, hj, rfl⟩ := inR_of (by omega) x1
      have hB' : B ^^^ j < 2 ^ c := Nat.xor_lt_two_pow oB (by omega)
      refine ⟨(nI (B ^^^ j)), (c, w, B ^^^ j, hs, L, Ts, tp, im, sh), ok.bk hB', ?_, ?_⟩
      · intro d h K
        have K1 := K.bk (B ^^^ j)
        refine ⟨_, ?_, K1, FrC.st h (by decide) _⟩
        obtain ⟨ps, H, _⟩ := K
        obtain ⟨ps1, H1, _⟩ := K1
        rw [e_85]
        simp only [H.o0, H.o1, H.o2, H.o3, H.o4, H.o5, H.o6, H.o7, H.o8, H.o9, H.o10, H.b0, H.b1, H.b2, H.b3, H.b4, H.v3, H.v4, dR_ref, dA_ref, dA_null, dN_ref, dN_null, dD_ref, dD_int, cI_s, cV_s, cR_r, cR_n, cJ_s, bI_0, bI_1, zr_bI, zr_0, zr_1, eq_self, if_true, if_false, i10, i20, i01, i21, i02, i12, ior0, iad0, Bool.true_eq_false, Bool.false_eq_true, c_6 H, x1, fa_xor, H.p2, H1.o0, H1.b2]
      · intro d h K
        obtain ⟨F, A, H, h2⟩ := K
        have H1 := H.bk (B ^^^ j)
        refine ⟨_, ?_, ⟨_, _, H1, RVr.bk h2 _⟩, Fr.st h (by decide) (by decide) _⟩
        rw [e_174]
        simp only [H.v, dR_ref, dA_ref, dA_null, dN_ref, dN_null, dD_ref, dD_int, cI_s, cV_s, cR_r, cR_n, cJ_s, bI_0, bI_1, zr_bI, zr_0, zr_1, eq_self, if_true, if_false, i10, i20, i01, i21, i02, i12, ior0, iad0, Bool.true_eq_false, Bool.false_eq_true, r_172 H, x1, H.f2, fa_xor, H.1.p2, H1.f2]
theorem swd_nI (B i k : Nat) : swd (nI B) i k = nI (B ^^^ 2 ^ i ^^^ 2 ^ k) := by
  unfold swd; rw [fa_xor, fa_xor]
theorem op_swap (a g : Int32) : OP 86 176 [.int a, .int g]
  | (c, w, B, hs, L, Ts, tp, im, sh), ok => by
    have ok' := ok
    obtain ⟨oB, oL, o3, o4, o5, o6, o7, o8, o9, ob⟩ := ok'
    have hp := p2c ob.2.1
    by_cases bad : inR a 0 (nI (c - 1)) = false ∨ inR g 0 (nI (c - 1)) = false ∨ a = g
    · refine ⟨(-5), _, ok, ?_, ?_⟩
      · intro d h K
        refine ⟨h, ?_, K, FrC.rf h⟩
        obtain ⟨ps, H, _⟩ := K
        rw [e_86]
        simp only [H.o0, H.o1, H.o2, H.o3, H.o4, H.o5, H.o6, H.o7, H.o8, H.o9, H.o10, H.b0, H.b1, H.b2, H.b3, H.b4, H.v3, H.v4, dR_ref, dA_ref, dA_null, dN_ref, dN_null, dD_ref, dD_int, cI_s, cV_s, cR_r, cR_n, cJ_s, bI_0, bI_1, zr_bI, zr_0, zr_1, eq_self, if_true, if_false, i10, i20, i01, i21, i02, i12, ior0, iad0, Bool.true_eq_false, Bool.false_eq_true, c_5 H]
        cases x1 : inR a 0 (nI (c - 1)) with
        | false => rfl
        | true =>
          cases x2 : inR g 0 (nI (c - 1)) with
          | false => rfl
          | true =>
            rw [x1, x2] at bad
            have : a = g := by rcases bad with z | z | z <;> first | exact z | cases z
            simp only [dR_ref, dA_ref, dA_null, dN_ref, dN_null, dD_ref, dD_int, cI_s, cV_s, cR_r, cR_n, cJ_s, bI_0, bI_1, zr_bI, zr_0, zr_1, eq_self, if_true, if_false, i10, i20, i01, i21, i02, i12, ior0, iad0, Bool.true_eq_false, Bool.false_eq_true, if_pos this]
      · intro d h K
        refine ⟨h, ?_, K, Fr.rf h⟩
        obtain ⟨F, A, H, _⟩ := K
        rw [e_176]
        simp only [H.v, dR_ref, dA_ref, dA_null, dN_ref, dN_null, dD_ref, dD_int, cI_s, cV_s, cR_r, cR_n, cJ_s, bI_0, bI_1, zr_bI, zr_0, zr_1, eq_self, if_true, if_false, i10, i20, i01, i21, i02, i12, ior0, iad0, Bool.true_eq_false, Bool.false_eq_true, r_169 H]
        cases x1 : inR a 0 (nI (c - 1)) with
        | false => rfl
        | true =>
          cases x2 : inR g 0 (nI (c - 1)) with
          | false => rfl
          | true =>
            rw [x1, x2] at bad
            have : a = g := by rcases bad with z | z | z <;> first | exact z | cases z
            simp only [dR_ref, dA_ref, dA_null, dN_ref, dN_null, dD_ref, dD_int, cI_s, cV_s, cR_r, cR_n, cJ_s, bI_0, bI_1, zr_bI, zr_0, zr_1, eq_self, if_true, if_false, i10, i20, i01, i21, i02, i12, ior0, iad0, Bool.true_eq_false, Bool.false_eq_true, if_pos this]
    · have x1 : inR a 0 (nI (c - 1)) = true := by cases x : inR a 0 (nI (c - 1)) with
        | false => exact absurd (Or.inl x) bad
        | true => rfl
      have x2 : inR g 0 (nI (c - 1)) = true := by cases x : inR g 0 (nI (c - 1)) with
        | false => exact absurd (Or.inr (Or.inl x)) bad
        | true => rfl
      have x3 : ¬ a = g := fun z => bad (Or.inr (Or.inr z))
      obtain ⟨i, hi, rfl⟩ := inR_of (by omega) x1
      obtain ⟨k, hk, rfl⟩ := inR_of (by omega) x2
      have hik : i ≠ k := fun z => x3 (by rw [z])
      cases u : unl (nI B) i k with
      | false =>
        refine ⟨0, _, ok, ?_, ?_⟩
        · intro d h K
          refine ⟨h, ?_, K, FrC.rf h⟩
          obtain ⟨ps, H, _⟩ := K
          rw [e_86]
          simp only [H.o0, H.o1, H.o2, H.o3, H.o4, H.o5, H.o6, H.o7, H.o8, H.o9, H.o10, H.b0, H.b1, H.b2, H.b3, H.b4, H.v3, H.v4, dR_ref, dA_ref, dA_null, dN_ref, dN_null, dD_ref, dD_int, cI_s, cV_s, cR_r, cR_n, cJ_s, bI_0, bI_1, zr_bI, zr_0, zr_1, eq_self, if_true, if_false, i10, i20, i01, i21, i02, i12, ior0, iad0, Bool.true_eq_false, Bool.false_eq_true, c_5 H, x1, x2, if_neg x3, c_7b H, u]
        · intro d h K
          obtain ⟨F, A, H, h2⟩ := K
          have H1 := H.bk B
          refine ⟨_, ?_, ⟨_, _, H1, RVr.bk h2 _⟩, Fr.st h (by decide) (by decide) _⟩
          rw [e_176]
          simp only [H.v, dR_ref, dA_ref, dA_null, dN_ref, dN_null, dD_ref, dD_int, cI_s, cV_s, cR_r, cR_n, cJ_s, bI_0, bI_1, zr_bI, zr_0, zr_1, eq_self, if_true, if_false, i10, i20, i01, i21, i02, i12, ior0, iad0, Bool.true_eq_false, Bool.false_eq_true, r_169 H, x1, x2, if_neg x3, H.f2, r_175 _ (nI B) hik (show i < 30 by omega) (show k < 30 by omega), u, H.1.p2, H1.f2]
      | true =>
        have hB' : B ^^^ 2 ^ i ^^^ 2 ^ k < 2 ^ c := Nat.xor_lt_two_pow (Nat.xor_lt_two_pow oB (Nat.pow_lt_pow_right (by decide) (by omega))) (Nat.pow_lt_pow_right (by decide) (by omega))
        refine ⟨1, (c, w, B ^^^ 2 ^ i ^^^ 2 ^ k, hs, L, Ts, tp, im, sh), ok.bk hB', ?_, ?_⟩
        · intro d h K
          have K1 := K.bk (B ^^^ 2 ^ i ^^^ 2 ^ k)
          refine ⟨_, ?_, K1, FrC.st h (by decide) _⟩
          obtain ⟨ps, H, _⟩ := K
          rw [e_86]
          simp only [H.o0, H.o1, H.o2, H.o3, H.o4, H.o5, H.o6, H.o7, H.o8, H.o9, H.o10, H.b0, H.b1, H.b2, H.b3, H.b4, H.v3, H.v4, dR_ref, dA_ref, dA_null, dN_ref, dN_null, dD_ref, dD_int, cI_s, cV_s, cR_r, cR_n, cJ_s, bI_0, bI_1, zr_bI, zr_0, zr_1, eq_self, if_true, if_false, i10, i20, i01, i21, i02, i12, ior0, iad0, Bool.true_eq_false, Bool.false_eq_true, c_5 H, x1, x2, if_neg x3, c_7b H, u, e_135, bit_nI (show i < 31 by omega), bit_nI (show k < 31 by omega), bits2 hik, ixa, fa_xor, H.p2]
          rw [Nat.xor_assoc]
        · intro d h K
          obtain ⟨F, A, H, h2⟩ := K
          have H1 := H.bk (B ^^^ 2 ^ i ^^^ 2 ^ k)
          have hne := swd_ne (b := nI B) hik (by omega) (by omega)
          rw [swd_nI] at hne
          refine ⟨_, ?_, ⟨_, _, H1, RVr.bk h2 _⟩, Fr.st h (by decide) (by decide) _⟩
          rw [e_176]
          simp only [H.v, dR_ref, dA_ref, dA_null, dN_ref, dN_null, dD_ref, dD_int, cI_s, cV_s, cR_r, cR_n, cJ_s, bI_0, bI_1, zr_bI, zr_0, zr_1, eq_self, if_true, if_false, i10, i20, i01, i21, i02, i12, ior0, iad0, Bool.true_eq_false, Bool.false_eq_true, r_169 H, x1, x2, if_neg x3, H.f2, r_175 _ (nI B) hik (show i < 30 by omega) (show k < 30 by omega), u, swd_nI, H.1.p2, H1.f2, if_neg hne]
theorem op_even (a : Int32) : OP 104 219 [.int a]
  | (c, w, B, hs, L, Ts, tp, im, sh), ok => by
    have ok' := ok
    obtain ⟨oB, oL, o3, o4, o5, o6, o7, o8, o9, ob⟩ := ok'
    have hp := p2c ob.2.1
    cases x1 : inR a 0 (nI (2 ^ c - 1)) with
    | false =>
      refine ⟨(-2), _, ok, ?_, ?_⟩
      · intro d h K
        refine ⟨h, ?_, K, FrC.rf h⟩
        obtain ⟨ps, H, _⟩ := K
        rw [e_104]
        simp only [H.o0, H.o1, H.o2, H.o3, H.o4, H.o5, H.o6, H.o7, H.o8, H.o9, H.o10, H.b0, H.b1, H.b2, H.b3, H.b4, H.v3, H.v4, dR_ref, dA_ref, dA_null, dN_ref, dN_null, dD_ref, dD_int, cI_s, cV_s, cR_r, cR_n, cJ_s, bI_0, bI_1, zr_bI, zr_0, zr_1, eq_self, if_true, if_false, i10, i20, i01, i21, i02, i12, ior0, iad0, Bool.true_eq_false, Bool.false_eq_true, c_6 H, x1]
      · intro d h K
        refine ⟨h, ?_, K, Fr.rf h⟩
        obtain ⟨F, A, H, _⟩ := K
        rw [e_219]
        simp only [H.v, dR_ref, dA_ref, dA_null, dN_ref, dN_null, dD_ref, dD_int, cI_s, cV_s, cR_r, cR_n, cJ_s, bI_0, bI_1, zr_bI, zr_0, zr_1, eq_self, if_true, if_false, i10, i20, i01, i21, i02, i12, ior0, iad0, Bool.true_eq_false, Bool.false_eq_true, r_172 H, x1]
    | true =>
      obtain ⟨j, hj, rfl⟩ := inR_of (by omega) x1
      have kc : ∀ (d : Nat) (h : MHeap) (lc lw : Int32) (ps : List Nat), CB h c w (nI B) hs lc lw ps → call (d + 199) 145 [.ref 3, .int 0, .int (nI j), .int 0] h = some (some (.int (oI (fwq (fwp c w (nI B) hs 0 j 0) (j + 1)))), h) := by
        intro d h lc lw ps H
        have := c_145 H (d + 193) (f := 0) (s := j) (by omega) (by omega) (by omega) (ys := List.replicate hs.length 0) (by simp) (fun y hy => by rw [List.eq_of_mem_replicate hy]; decide)
        rw [pkN_zero] at this
        exact this
      cases x3 : fwq (fwp c w (nI B) hs 0 j 0) (j + 1) with
      | none =>
        refine ⟨(-1), _, ok, ?_, ?_⟩
        · intro d h K
          refine ⟨h, ?_, K, FrC.rf h⟩
          obtain ⟨ps, H, _⟩ := K
          rw [e_104]
          simp only [H.o0, H.o1, H.o2, H.o3, H.o4, H.o5, H.o6, H.o7, H.o8, H.o9, H.o10, H.b0, H.b1, H.b2, H.b3, H.b4, H.v3, H.v4, dR_ref, dA_ref, dA_null, dN_ref, dN_null, dD_ref, dD_int, cI_s, cV_s, cR_r, cR_n, cJ_s, bI_0, bI_1, zr_bI, zr_0, zr_1, eq_self, if_true, if_false, i10, i20, i01, i21, i02, i12, ior0, iad0, Bool.true_eq_false, Bool.false_eq_true, c_6 H, x1, kc d h _ _ ps H, x3, show oI none = -1 from rfl]
        · intro d h K
          obtain ⟨F, A, H, h2⟩ := K
          obtain ⟨h', A', e1, H1, F1, S1⟩ := r_217 H (d + 193) (s := j) (v := 0) (by omega) (by decide)
          have e1 : call (d + 199) 217 [.ref 28, .int (nI j), .int 0] h = _ := e1
          have H2 := H1.bk B
          refine ⟨_, ?_, ⟨_, _, H2, RVr.bk (RVr.ss S1 h2) _⟩, F1.tr (Fr.st h' (by decide) (by decide) _)⟩
          rw [e_219]
          simp only [H.v, dR_ref, dA_ref, dA_null, dN_ref, dN_null, dD_ref, dD_int, cI_s, cV_s, cR_r, cR_n, cJ_s, bI_0, bI_1, zr_bI, zr_0, zr_1, eq_self, if_true, if_false, i10, i20, i01, i21, i02, i12, ior0, iad0, Bool.true_eq_false, Bool.false_eq_true, r_172 H, x1, e1, x3, show oI none = -1 from rfl, H1.f2, ixr0, H1.1.p2]
      | some i =>
        have hi := fwq_lt _ _ i x3
        have hB' : B ^^^ i < 2 ^ c := Nat.xor_lt_two_pow oB (by omega)
        refine ⟨(nI (onN i)), (c, w, B ^^^ i, hs, L, Ts, tp, im, sh), ok.bk hB', ?_, ?_⟩
        · intro d h K
          have K1 := K.bk (B ^^^ i)
          refine ⟨_, ?_, K1, FrC.st h (by decide) _⟩
          obtain ⟨ps, H, _⟩ := K
          rw [e_104]
          simp only [H.o0, H.o1, H.o2, H.o3, H.o4, H.o5, H.o6, H.o7, H.o8, H.o9, H.o10, H.b0, H.b1, H.b2, H.b3, H.b4, H.v3, H.v4, dR_ref, dA_ref, dA_null, dN_ref, dN_null, dD_ref, dD_int, cI_s, cV_s, cR_r, cR_n, cJ_s, bI_0, bI_1, zr_bI, zr_0, zr_1, eq_self, if_true, if_false, i10, i20, i01, i21, i02, i12, ior0, iad0, Bool.true_eq_false, Bool.false_eq_true, c_6 H, x1, kc d h _ _ ps H, x3, show oI (some i) = nI i from rfl, if_neg (nI_m1 (show i < 2 ^ 31 by omega)), fa_xor, H.p2, c_138 _ (show i < 4096 by omega)]
        · intro d h K
          obtain ⟨F, A, H, h2⟩ := K
          obtain ⟨h', A', e1, H1, F1, S1⟩ := r_217 H (d + 193) (s := j) (v := 0) (by omega) (by decide)
          have e1 : call (d + 199) 217 [.ref 28, .int (nI j), .int 0] h = _ := e1
          have H2 := H1.bk (B ^^^ i)
          refine ⟨_, ?_, ⟨_, _, H2, RVr.bk (RVr.ss S1 h2) _⟩, F1.tr (Fr.st h' (by decide) (by decide) _)⟩
          rw [e_219]
          simp only [H.v, dR_ref, dA_ref, dA_null, dN_ref, dN_null, dD_ref, dD_int, cI_s, cV_s, cR_r, cR_n, cJ_s, bI_0, bI_1, zr_bI, zr_0, zr_1, eq_self, if_true, if_false, i10, i20, i01, i21, i02, i12, ior0, iad0, Bool.true_eq_false, Bool.false_eq_true, r_172 H, x1, e1, x3, show oI (some i) = nI i from rfl, if_neg (nI_m1 (show i < 2 ^ 31 by omega)), H1.f2, fa_xor, H1.1.p2, r_168 _ (show i < 2 ^ 31 by omega)]
theorem op_cut (a : Int32) : OP 111 229 [.int a]
  | (c, w, B, hs, L, Ts, tp, im, sh), ok => by
    have ok' := ok
    obtain ⟨oB, oL, o3, o4, o5, o6, o7, o8, o9, ob⟩ := ok'
    have hp := p2c ob.2.1
    have hc1 : nI c - 1 = nI (c - 1) := by rw [show (1 : Int32) = nI 1 from rfl, pk_sub (by omega)]
    cases x1 : inR a 0 (nI (c - 1)) with
    | false =>
      refine ⟨(-2), _, ok, ?_, ?_⟩
      · intro d h K
        refine ⟨h, ?_, K, FrC.rf h⟩
        obtain ⟨ps, H, _⟩ := K
        rw [e_111]
        simp only [H.o0, H.o1, H.o2, H.o3, H.o4, H.o5, H.o6, H.o7, H.o8, H.o9, H.o10, H.b0, H.b1, H.b2, H.b3, H.b4, H.v3, H.v4, dR_ref, dA_ref, dA_null, dN_ref, dN_null, dD_ref, dD_int, cI_s, cV_s, cR_r, cR_n, cJ_s, bI_0, bI_1, zr_bI, zr_0, zr_1, eq_self, if_true, if_false, i10, i20, i01, i21, i02, i12, ior0, iad0, Bool.true_eq_false, Bool.false_eq_true, c_133, hc1, x1]
      · intro d h K
        refine ⟨h, ?_, K, Fr.rf h⟩
        obtain ⟨F, A, H, _⟩ := K
        rw [e_229]
        simp only [H.v, dR_ref, dA_ref, dA_null, dN_ref, dN_null, dD_ref, dD_int, cI_s, cV_s, cR_r, cR_n, cJ_s, bI_0, bI_1, zr_bI, zr_0, zr_1, eq_self, if_true, if_false, i10, i20, i01, i21, i02, i12, ior0, iad0, Bool.true_eq_false, Bool.false_eq_true, r_169 H, x1]
    | true =>
      obtain ⟨j, hj, rfl⟩ := inR_of (by omega) x1
      refine ⟨(nI (ctN c B j)), (c, w, ctN c B j, hs, L, Ts, tp, im, sh), ok.bk (ct_lt (by omega) oB), ?_, ?_⟩
      · intro d h K
        have K1 := K.bk (ctN c B j)
        refine ⟨_, ?_, K1, FrC.st h (by decide) _⟩
        obtain ⟨ps, H, _⟩ := K
        obtain ⟨ps1, H1, _⟩ := K1
        rw [e_111]
        simp only [H.o0, H.o1, H.o2, H.o3, H.o4, H.o5, H.o6, H.o7, H.o8, H.o9, H.o10, H.b0, H.b1, H.b2, H.b3, H.b4, H.v3, H.v4, dR_ref, dA_ref, dA_null, dN_ref, dN_null, dD_ref, dD_int, cI_s, cV_s, cR_r, cR_n, cJ_s, bI_0, bI_1, zr_bI, zr_0, zr_1, eq_self, if_true, if_false, i10, i20, i01, i21, i02, i12, ior0, iad0, Bool.true_eq_false, Bool.false_eq_true, c_133, hc1, x1, c_9 H oB _ (show j ≤ c by omega), H.p2, H1.o0, H1.b2]
      · intro d h K
        obtain ⟨F, A, H, h2⟩ := K
        have H1 := H.bk (ctN c B j)
        refine ⟨_, ?_, ⟨_, _, H1, RVr.bk h2 _⟩, Fr.st h (by decide) (by decide) _⟩
        rw [e_229]
        simp only [H.v, dR_ref, dA_ref, dA_null, dN_ref, dN_null, dD_ref, dD_int, cI_s, cV_s, cR_r, cR_n, cJ_s, bI_0, bI_1, zr_bI, zr_0, zr_1, eq_self, if_true, if_false, i10, i20, i01, i21, i02, i12, ior0, iad0, Bool.true_eq_false, Bool.false_eq_true, r_169 H, x1, r_228 H oB _ (show j ≤ c by omega), H.1.p2, H1.f2]
