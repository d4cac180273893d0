/-! table, drop, back, heap: the calls -/
section CVS
variable {h : MHeap} {c w B : Nat} {hs : List Ent} {L : Nat} {Ts : List Txt} {tp : List Nat} {im : Img} {sh : Nat → Sht}
/-- heaps' cells aren't laws' cells -/
theorem ps_not {ps : List Nat} {b lc lw : Int32} (H : CB h c w b hs lc lw ps) {p q : Nat} {T : Txt} (K : LwC h p q T) : p ∉ ps ∧ q ∉ ps := by
  obtain ⟨k1, k2, _, _⟩ := K
  have tg5 : ∀ k, k ≤ 5 → tg k ≠ 5 ∧ tg k ≠ 100 := by
    intro k hk
    rcases kcases hk with z | z | z | z | z | z <;> subst z <;> decide
  constructor
  · intro hm
    obtain ⟨i, hi⟩ := List.getElem?_of_mem hm
    have hl : i < ps.length := (List.getElem?_eq_some_iff.1 hi).1
    obtain ⟨e, he⟩ : ∃ e, hs[i]? = some e := ⟨_, List.getElem?_eq_getElem (by rw [← H.2.2.2.2.1]; exact hl)⟩
    obtain ⟨x1, p', x2, x3⟩ := H.2.2.2.2.2 i e he
    rw [hi] at x2; cases x2
    rw [k1] at x3
    exact (tg5 e.1 x1.1).1 (congrArg (fun x => (x.getD (0, [])).1) x3).symm
  · intro hm
    obtain ⟨i, hi⟩ := List.getElem?_of_mem hm
    have hl : i < ps.length := (List.getElem?_eq_some_iff.1 hi).1
    obtain ⟨e, he⟩ : ∃ e, hs[i]? = some e := ⟨_, List.getElem?_eq_getElem (by rw [← H.2.2.2.2.1]; exact hl)⟩
    obtain ⟨x1, p', x2, x3⟩ := H.2.2.2.2.2 i e he
    rw [hi] at x2; cases x2
    rw [k2] at x3
    exact (tg5 e.1 x1.1).2 (congrArg (fun x => (x.getD (0, [])).1) x3).symm
theorem CV.lie (K : CV h (c, w, B, hs, L, Ts, tp, im, sh)) {c' w' : Nat} (q1 : 0 < c') (q2 : c' ≤ 12) (q3 : 0 < w') (q4 : w' ≤ 12) (B' : Nat) (d : Nat) : ∃ h', call (d + 7) 3 [.ref 4, .int (nI c'), .int (nI w'), .int (nI B')] h = some (none, h') ∧ CV h' (c', w', B', hs, L, Ts, tp, im, sh) ∧ FrC h h' ∧ h'.length = h.length := by
  obtain ⟨ps, h1, h2, h3, h4, h5, h6, h7, h8, h9, h10, h11⟩ := K
  obtain ⟨h', e1, H', fr, l1⟩ := c_3 h1 h2 h3 q1 q2 q3 q4 (nI B') d
  have np : ∀ a : Nat, a ≤ 44 → a ∉ ps := fun a ha z => by have := h2 a z; omega
  have e : ∀ a : Nat, a ≤ 44 → a ≠ 4 → h'[a]? = h[a]? := fun a ha hb => fr a hb (np a ha)
  refine ⟨h', e1, ⟨ps, H', h2, h3, h4.tr (fun a ha => e a (by omega) (by omega)), by unfold CIm; rw [e 6 (by decide) (by decide)]; exact h5, h6.tr (fun a ha => e a (by omega) (by omega)), ?_, h8.tr (fun a ha => e a (by omega) (by omega)), h9.tr (fun a ha => e a (by omega) (by omega)), ?_, by omega⟩, ⟨fun a ha => e a (by omega) (by omega), by omega, by omega⟩, l1⟩
  · obtain ⟨lp, k1, k2, k3⟩ := h7
    refine ⟨lp, by rw [e 12 (by decide) (by decide)]; exact k1, k2, ?_⟩
    intro i T hT
    obtain ⟨p, q, k4, k5⟩ := k3 i T hT
    have nn := ps_not h1 k5
    obtain ⟨y1, y2, y3, y4⟩ := k5
    exact ⟨p, q, k4, by rw [fr p (by omega) nn.1]; exact y1, by rw [fr q (by omega) nn.2]; exact y2, y3, y4⟩
  · intro a t xs ha hx
    by_cases hm : a ∈ ps
    · obtain ⟨i, hi⟩ := List.getElem?_of_mem hm
      have hl : i < ps.length := (List.getElem?_eq_some_iff.1 hi).1
      obtain ⟨ee, he⟩ : ∃ e, hs[i]? = some e := ⟨_, List.getElem?_eq_getElem (by rw [← H'.2.2.2.2.1]; exact hl)⟩
      obtain ⟨x1, p', x2, x3⟩ := H'.2.2.2.2.2 i ee he
      rw [hi] at x2; cases x2
      rw [hx] at x3
      cases x3
      show 3 ≤ 160
      decide
    · rw [fr a (by omega) hm] at hx
      exact h10 a t xs ha hx
theorem CV.keep (K : CV h (c, w, B, hs, L, Ts, tp, im, sh)) {m : Nat} (hm : m ≤ hs.length) (d : Nat) : ∃ h', call (d + 2) 13 [.ref 4, .int (nI m)] h = some (none, h') ∧ CV h' (c, w, B, hs.take m, L, Ts, tp, im, sh) ∧ FrC h h' ∧ h'.length = h.length := by
  obtain ⟨ps, h1, h2, h3, h4, h5, h6, h7, h8, h9, h10, h11⟩ := K
  have e : ∀ a : Nat, a ≠ 4 → a ≠ 5 → ((h.set 5 (c5 (ps.take m))).set 4 (c4 c w (nI B) m))[a]? = h[a]? := fun a ha hb => by rw [gset_ne _ (fun z => ha z.symm), gset_ne _ (fun z => hb z.symm)]
  exact ⟨_, c_13 h1 hm d, ⟨ps.take m, h1.take h2 hm, fun p hp => h2 p (List.mem_of_mem_take hp), h3.sublist (List.take_sublist m ps), h4.tr (fun a ha => e a (by omega) (by omega)), by unfold CIm; rw [e 6 (by decide) (by decide)]; exact h5, h6.tr (fun a ha => e a (by omega) (by omega)), h7.tr (e 12 (by decide) (by decide)) (fun a ha _ => e a (by omega) (by omega)), h8.tr (fun a ha => e a (by omega) (by omega)), h9.tr (fun a ha => e a (by omega) (by omega)), h10.tr (fun a ha => e a (by omega) (by omega)), by rw [List.length_set, List.length_set]; exact h11⟩, ⟨fun a ha => e a (by omega) (by omega), by rw [List.length_set, List.length_set]; exact Nat.le_refl _, by rw [List.length_set, List.length_set]; omega⟩, by rw [List.length_set, List.length_set]⟩
end CVS
theorem FrC.tr {h1 h2 h3 : MHeap} (a : FrC h1 h2) (b : FrC h2 h3) (hl : h3.length ≤ h1.length + 8) : FrC h1 h3 := ⟨fun p hp => (b.1 p hp).trans (a.1 p hp), by have := a.2.1; have := b.2.1; omega, hl⟩
theorem in112 {a : Int32} (h : inR a 1 12 = true) : ∃ n, 0 < n ∧ n ≤ 12 ∧ a = nI n := by
  have y2 : ¬ a < 1 ∧ ¬ 12 < a := by simpa [inR] using h
  obtain ⟨n, hn, rfl⟩ := nI_of (fun z => y2.1 (Int32.lt_trans z (by decide)))
  refine ⟨n, ?_, ?_, rfl⟩
  · rcases Nat.eq_zero_or_pos n with q | q
    · subst q; exact absurd (show nI 0 < (1 : Int32) by decide) y2.1
    · exact q
  · rcases Nat.lt_or_ge 12 n with q | q
    · exact absurd (show (12 : Int32) < nI n from nI_lt (a := 12) q hn) y2.2
    · exact q
theorem op_table (a g : Int32) : OP 84 173 [.int a, .int g]
  | (c, w, B, hs, L, Ts, tp, im, sh), ok => by
    have ok' := ok
    obtain ⟨oB, oL, o3, o4, o5, o6, o7, o8, o9, ob⟩ := ok'
    by_cases bad : inR a 1 12 = false ∨ inR g 1 12 = false
    · refine ⟨(-2), _, ok, ?_, ?_⟩
      · intro d h K
        refine ⟨h, ?_, K, FrC.rf h⟩
        rw [e_84]
        simp only [dR_ref, dA_ref, dA_null, dN_ref, dN_null, dD_ref, dD_int, cI_s, cV_s, cR_r, cR_n, cJ_s, bI_0, bI_1, zr_bI, zr_0, zr_1, eq_self, if_true, if_false, i10, i20, i01, i21, i02, i12, ior0, iad0, Bool.true_eq_false, Bool.false_eq_true, c_133]
        revert bad
        cases inR a 1 12 <;> cases inR g 1 12 <;> intro bad <;> first | rfl | (rcases bad with z | z <;> cases z)
      · intro d h K
        refine ⟨h, ?_, K, Fr.rf h⟩
        rw [e_173]
        simp only [dR_ref, dA_ref, dA_null, dN_ref, dN_null, dD_ref, dD_int, cI_s, cV_s, cR_r, cR_n, cJ_s, bI_0, bI_1, zr_bI, zr_0, zr_1, eq_self, if_true, if_false, i10, i20, i01, i21, i02, i12, ior0, iad0, Bool.true_eq_false, Bool.false_eq_true, r_166]
        revert bad
        cases inR a 1 12 <;> cases inR g 1 12 <;> intro bad <;> first | rfl | (rcases bad with z | z <;> cases z)
    · have x1 : inR a 1 12 = true := by cases x : inR a 1 12 with
        | false => exact absurd (Or.inl x) bad
        | true => rfl
      have x2 : inR g 1 12 = true := by cases x : inR g 1 12 with
        | false => exact absurd (Or.inr x) bad
        | true => rfl
      obtain ⟨c', q1, q2, rfl⟩ := in112 x1
      obtain ⟨w', q3, q4, rfl⟩ := in112 x2
      refine ⟨(nI c), (c', w', 0, hs, L, Ts, tp, im, sh), ⟨Nat.two_pow_pos _, oL, o3, o4, o5, o6, o7, o8, o9, ⟨q1, q2, q3, q4, ob.2.2.2.2⟩⟩, ?_, ?_⟩
      · intro d h K
        obtain ⟨h', e1, K1, G1, _⟩ := K.lie q1 q2 q3 q4 0 (d + 192)
        have e1 : call (d + 199) 3 [.ref 4, .int (nI c'), .int (nI w'), .int 0] h = _ := e1
        refine ⟨h', ?_, K1, G1⟩
        obtain ⟨ps, H, _⟩ := K
        rw [e_84]
        simp only [H.o0, H.o1, H.o2, H.o3, H.o4, H.o5, H.o6, H.o7, H.o8, H.o9, H.o10, H.b0, H.b1, H.b2, H.b3, H.b4, H.v3, H.v4, dR_ref, dA_ref, dA_null, dN_ref, dN_null, dD_ref, dD_int, cI_s, cV_s, cR_r, cR_n, cJ_s, bI_0, bI_1, zr_bI, zr_0, zr_1, eq_self, if_true, if_false, i10, i20, i01, i21, i02, i12, ior0, iad0, Bool.true_eq_false, Bool.false_eq_true, c_133, x1, x2, e1]
      · intro d h K
        obtain ⟨F, A, H, h2⟩ := K
        have P : ∀ G : Nat → Int32, RH (h.set 28 (rC G)) G A := fun G => H.1.setF G
        have s1 : ∀ (G G' : Nat → Int32), (h.set 28 (rC G)).set 28 (rC G') = h.set 28 (rC G') := fun G G' => List.set_set ..
        refine ⟨h.set 28 (rC (fu (fu (fu F 0 (nI c')) 1 (nI w')) 2 0)), ?_, ⟨fu (fu (fu F 0 (nI c')) 1 (nI w')) 2 0, A, ⟨P _, ⟨q1, q2, q3, q4, ob.2.2.2.2⟩, ⟨rfl, rfl, rfl, H.2.2.1.2.2.2⟩, H.2.2.2⟩, h2⟩, Fr.st h (by decide) (by decide) _⟩
        rw [e_173]
        simp only [dR_ref, dA_ref, dA_null, dN_ref, dN_null, dD_ref, dD_int, cI_s, cV_s, cR_r, cR_n, cJ_s, bI_0, bI_1, zr_bI, zr_0, zr_1, eq_self, if_true, if_false, i10, i20, i01, i21, i02, i12, ior0, iad0, Bool.true_eq_false, Bool.false_eq_true, r_166, x1, x2]
        rw [H.f0, H.1.p0, (P _).p1, s1, (P _).p2, s1]
theorem RB.take {h h' : MHeap} {F F' : Nat → Int32} {A : Nat → List Int32} {c w c' w' : Nat} {b b' : Int32} {hs : List Ent} (H : RB h F A c w b hs) {m : Nat} (hm : m ≤ hs.length) (R : RH h' F' A) (q : 0 < c' ∧ c' ≤ 12 ∧ 0 < w' ∧ w' ≤ 12) (f : F' 0 = nI c' ∧ F' 1 = nI w' ∧ F' 2 = b' ∧ F' 3 = nI m) : RB h' F' A c' w' b' (hs.take m) := by
  have hl : (hs.take m).length = m := by rw [List.length_take]; omega
  have hb := H.bd
  refine ⟨R, ⟨q.1, q.2.1, q.2.2.1, q.2.2.2, by omega⟩, by rw [hl]; exact f, ?_⟩
  intro i e he
  rw [List.getElem?_take] at he
  split at he
  · exact H.2.2.2 i e he
  · cases he
theorem op_drop : OP 93 198 []
  | (c, w, B, hs, L, Ts, tp, im, sh), ok => by
    have ok' := ok
    obtain ⟨oB, oL, o3, o4, o5, o6, o7, o8, o9, ob⟩ := ok'
    rcases Nat.eq_zero_or_pos hs.length with z | z
    · refine ⟨(-3), _, ok, ?_, ?_⟩
      · intro d h K
        refine ⟨h, ?_, K, FrC.rf h⟩
        obtain ⟨ps, H, _⟩ := K
        rw [e_93]
        simp only [H.o0, H.o1, H.o2, H.o3, H.o4, H.o5, H.o6, H.o7, H.o8, H.o9, H.o10, H.b0, H.b1, H.b2, H.b3, H.b4, H.v3, H.v4, dR_ref, dA_ref, dA_null, dN_ref, dN_null, dD_ref, dD_int, cI_s, cV_s, cR_r, cR_n, cJ_s, bI_0, bI_1, zr_bI, zr_0, zr_1, eq_self, if_true, if_false, i10, i20, i01, i21, i02, i12, ior0, iad0, Bool.true_eq_false, Bool.false_eq_true, z, if_pos (show nI 0 < (1 : Int32) by decide)]
      · intro d h K
        refine ⟨h, ?_, K, Fr.rf h⟩
        obtain ⟨F, A, H, _⟩ := K
        rw [e_198, H.f3, z, if_pos (show nI 0 = (0 : Int32) from rfl)]
    · have hl : (hs.take (hs.length - 1)).length = hs.length - 1 := by rw [List.length_take]; omega
      have hc1 : nI hs.length - 1 = nI (hs.length - 1) := by rw [show (1 : Int32) = nI 1 from rfl, pk_sub (by omega)]
      refine ⟨(nI (hs.length - 1)), (c, w, B, hs.take (hs.length - 1), L, Ts, tp, (im.1 && decide (im.2.2.2.2.1 ≤ hs.length - 1), im.2), sh), ⟨oB, oL, o3, o4, o5, o6, o7, ?_, o9, ⟨ob.1, ob.2.1, ob.2.2.1, ob.2.2.2.1, by omega⟩⟩, ?_, ?_⟩
      · intro hk
        have hk : (im.1 && decide (im.2.2.2.2.1 ≤ hs.length - 1)) = true := hk
        rw [Bool.and_eq_true, decide_eq_true_iff] at hk
        obtain ⟨y1, y2, y3, y4, y5, y6, y7⟩ := o8 hk.1
        exact ⟨y1, y2, y3, y4, y5, by rw [hl]; exact hk.2, y7⟩
      · intro d h K
        obtain ⟨h', e1, K1, G1, l1⟩ := K.keep (m := hs.length - 1) (by omega) (d + 197)
        have K1' := K1
        obtain ⟨ps, H, _⟩ := K
        obtain ⟨ps1, H1, hp1, _, _, i1, _⟩ := K1'
        have g4 : ∀ k : Int32 → MRes, gfI none h' 6 [4] 4 k = k (nI im.2.2.2.2.1) := fun k => gfI_at i1 rfl rfl k
        rw [e_93]
        simp only [H.o0, H.o1, H.o2, H.o3, H.o4, H.o5, H.o6, H.o7, H.o8, H.o9, H.o10, H.b0, H.b1, H.b2, H.b3, H.b4, H.v3, H.v4, dR_ref, dA_ref, dA_null, dN_ref, dN_null, dD_ref, dD_int, cI_s, cV_s, cR_r, cR_n, cJ_s, bI_0, bI_1, zr_bI, zr_0, zr_1, eq_self, if_true, if_false, i10, i20, i01, i21, i02, i12, ior0, iad0, Bool.true_eq_false, Bool.false_eq_true, if_neg (show ¬ nI hs.length < (1 : Int32) from nI_nlt (b := 1) z (by omega)), hc1, e1, H1.o0, H1.o1, H1.b3, g4, hl]
        by_cases q : im.2.2.2.2.1 ≤ hs.length - 1
        · refine ⟨h', ?_, ?_, G1⟩
          · rw [if_neg (nI_nlt q (by omega))]
          · rw [decide_eq_true q, Bool.and_true]; exact K1
        · have K2 := K1.imS (false, im.2)
          refine ⟨h'.set 6 (4, [.int (bI false), .int (nI im.2.1), .int (nI im.2.2.1), .int (nI im.2.2.2.1), .int (nI im.2.2.2.2.1), .int (nI im.2.2.2.2.2)]), ?_, ?_, G1.tr (FrC.st h' (by decide) _) (by rw [List.length_set]; omega)⟩
          · obtain ⟨ps2, H2, _⟩ := K2
            have P0 : ∀ K : MHeap → MRes, pfI none h' 6 [4] 0 0 K = K (h'.set 6 (4, [.int (bI false), .int (nI im.2.1), .int (nI im.2.2.1), .int (nI im.2.2.2.1), .int (nI im.2.2.2.2.1), .int (nI im.2.2.2.2.2)])) := fun K => pfI_at i1 rfl (by show 0 < 6; decide) 0 K
            rw [if_pos (nI_lt (by omega) (by omega)), P0]
            rw [H2.o0, dR_ref, H2.b3, hl]
          · rw [decide_eq_false q, Bool.and_false]; exact K2
      · intro d h K
        obtain ⟨F, A, H, k1, k2, k3, k4⟩ := K
        have P : ∀ G : Nat → Int32, RH (h.set 28 (rC G)) G A := fun G => H.1.setF G
        have s1 : ∀ (G G' : Nat → Int32), (h.set 28 (rC G)).set 28 (rC G') = h.set 28 (rC G') := fun G G' => List.set_set ..
        have fin : ∀ kb : Bool, kb = (im.1 && decide (im.2.2.2.2.1 ≤ hs.length - 1)) → RV (h.set 28 (rC (fu (fu F 3 (nI (hs.length - 1))) 13 (bI kb)))) (c, w, B, hs.take (hs.length - 1), L, Ts, tp, (im.1 && decide (im.2.2.2.2.1 ≤ hs.length - 1), im.2), sh) := by
          intro kb hkb
          refine ⟨fu (fu F 3 (nI (hs.length - 1))) 13 (bI kb), A, H.take (by omega) (P _) ⟨ob.1, ob.2.1, ob.2.2.1, ob.2.2.2.1⟩ ⟨H.2.2.1.1, H.2.2.1.2.1, H.2.2.1.2.2.1, rfl⟩, ⟨?_, k1.2⟩, k2, k3, k4⟩
          rw [fu_eq, hkb]
        rw [e_198, H.f3, if_neg (nI_ne0 z (by omega)), H.f3, hc1, H.1.p3, (P _).f13]
        have f13 : fu F 3 (nI (hs.length - 1)) 13 = bI im.1 := k1.1
        have f17 : fu F 3 (nI (hs.length - 1)) 17 = nI im.2.2.2.2.1 := k1.2.2.2.2.1
        have f3 : fu F 3 (nI (hs.length - 1)) 3 = nI (hs.length - 1) := rfl
        have f3' : ∀ x, fu (fu F 3 (nI (hs.length - 1))) 13 x 3 = nI (hs.length - 1) := fun _ => rfl
        rw [f13]
        simp only [bI_0]
        cases hk : im.1 with
        | false =>
          refine ⟨_, ?_, by rw [← hk]; exact fin false (by rw [hk]; rfl), Fr.st h (by decide) (by decide) _⟩
          rw [if_pos rfl, zr_0, (P _).p13, s1, show (0 : Int32) = bI false from rfl, (P _).f3, f3']
        | true =>
          rw [if_neg (by decide), (P _).f17, (P _).f3, f17, f3]
          by_cases q : im.2.2.2.2.1 ≤ hs.length - 1
          · refine ⟨_, ?_, by rw [← hk]; exact fin true (by rw [hk, decide_eq_true q]; rfl), Fr.st h (by decide) (by decide) _⟩
            rw [if_neg (nI_nlt q (by omega)), zr_1, (P _).p13, s1, show (1 : Int32) = bI true from rfl, (P _).f3, f3']
          · refine ⟨_, ?_, by rw [← hk]; exact fin false (by rw [hk, decide_eq_false q]; rfl), Fr.st h (by decide) (by decide) _⟩
            rw [if_pos (nI_lt (by omega) (by omega)), zr_0, (P _).p13, s1, show (0 : Int32) = bI false from rfl, (P _).f3, f3']
theorem op_back : OP 127 253 []
  | (c, w, B, hs, L, Ts, tp, im, sh), ok => by
    have ok' := ok
    obtain ⟨oB, oL, o3, o4, o5, o6, o7, o8, o9, ob⟩ := ok'
    cases hk : im.1 with
    | false =>
      refine ⟨(-3), _, ok, ?_, ?_⟩
      · intro d h K
        refine ⟨h, ?_, K, FrC.rf h⟩
        obtain ⟨ps, H, _, _, _, i1, _⟩ := K
        have g0 : ∀ k : Int32 → MRes, gfI none h 6 [4] 0 k = k (bI im.1) := fun k => gfI_at i1 rfl rfl k
        rw [e_127]
        simp only [H.o0, H.o1, H.o2, H.o3, H.o4, H.o5, H.o6, H.o7, H.o8, H.o9, H.o10, H.b0, H.b1, H.b2, H.b3, H.b4, H.v3, H.v4, dR_ref, dA_ref, dA_null, dN_ref, dN_null, dD_ref, dD_int, cI_s, cV_s, cR_r, cR_n, cJ_s, bI_0, bI_1, zr_bI, zr_0, zr_1, eq_self, if_true, if_false, i10, i20, i01, i21, i02, i12, ior0, iad0, Bool.true_eq_false, Bool.false_eq_true, g0, hk]
      · intro d h K
        refine ⟨h, ?_, K, Fr.rf h⟩
        obtain ⟨F, A, H, k1, _⟩ := K
        rw [e_253, H.1.f13, k1.1, hk, if_pos (show bI false = (0 : Int32) from rfl)]
    | true =>
      obtain ⟨y1, y2, y3, y4, y5, y6, y7⟩ := o8 hk
      have hl : (hs.take im.2.2.2.2.1).length = im.2.2.2.2.1 := by rw [List.length_take]; omega
      refine ⟨(nI im.2.2.2.1), (im.2.1, im.2.2.1, im.2.2.2.1, hs.take im.2.2.2.2.1, im.2.2.2.2.2, Ts, tp, im, sh), ⟨y5, y7, o3, o4, o5, o6, o7, fun _ => ⟨y1, y2, y3, y4, y5, by rw [hl]; exact Nat.le_refl _, y7⟩, o9, ⟨y1, y2, y3, y4, by omega⟩⟩, ?_, ?_⟩
      · intro d h K
        obtain ⟨h1, e1, K1, G1, l1⟩ := K.keep (m := im.2.2.2.2.1) y6 (d + 197)
        obtain ⟨h2, e2, K2, G2, l2⟩ := K1.lie y1 y2 y3 y4 im.2.2.2.1 (d + 192)
        have K3 := K2.lw im.2.2.2.2.2
        refine ⟨_, ?_, K3, (G1.tr G2 (by omega)).tr (FrC.st h2 (by decide) _) (by rw [List.length_set]; omega)⟩
        have gI : ∀ (h : MHeap), CIm h im → (∀ k : Int32 → MRes, gfI none h 6 [4] 0 k = k (bI im.1)) ∧ (∀ k : Int32 → MRes, gfI none h 6 [4] 1 k = k (nI im.2.1)) ∧ (∀ k : Int32 → MRes, gfI none h 6 [4] 2 k = k (nI im.2.2.1)) ∧ (∀ k : Int32 → MRes, gfI none h 6 [4] 3 k = k (nI im.2.2.2.1)) ∧ (∀ k : Int32 → MRes, gfI none h 6 [4] 4 k = k (nI im.2.2.2.2.1)) ∧ (∀ k : Int32 → MRes, gfI none h 6 [4] 5 k = k (nI im.2.2.2.2.2)) := fun h i1 => ⟨fun k => gfI_at i1 rfl rfl k, fun k => gfI_at i1 rfl rfl k, fun k => gfI_at i1 rfl rfl k, fun k => gfI_at i1 rfl rfl k, fun k => gfI_at i1 rfl rfl k, fun k => gfI_at i1 rfl rfl k⟩
        obtain ⟨ps, H, _, _, _, i0, _⟩ := K
        obtain ⟨ps1, H1, _, _, _, i1, _⟩ := K1
        obtain ⟨ps2, H2, _, _, _, i2, _⟩ := K2
        obtain ⟨ps3, H3, _⟩ := K3
        rw [e_127]
        simp only [H.o0, H.o1, H.o2, H.o3, H.o4, H.o5, H.o6, H.o7, H.o8, H.o9, H.o10, H.b0, H.b1, H.b2, H.b3, H.b4, H.v3, H.v4, dR_ref, dA_ref, dA_null, dN_ref, dN_null, dD_ref, dD_int, cI_s, cV_s, cR_r, cR_n, cJ_s, bI_0, bI_1, zr_bI, zr_0, zr_1, eq_self, if_true, if_false, i10, i20, i01, i21, i02, i12, ior0, iad0, Bool.true_eq_false, Bool.false_eq_true, (gI h i0).1, (gI h i0).2.2.2.2.1, hk, e1, H1.o0, H1.o1, H1.v4, (gI h1 i1).2.1, (gI h1 i1).2.2.1, (gI h1 i1).2.2.2.1, e2, H2.o1, (gI h2 i2).2.2.2.2.2, H2.p5, H3.o0, H3.b2]
      · intro d h K
        obtain ⟨F, A, H, k1, k2, k3, k4⟩ := K
        have P : ∀ G : Nat → Int32, RH (h.set 28 (rC G)) G A := fun G => H.1.setF G
        have s1 : ∀ (G G' : Nat → Int32), (h.set 28 (rC G)).set 28 (rC G') = h.set 28 (rC G') := fun G G' => List.set_set ..
        refine ⟨h.set 28 (rC (fu (fu (fu (fu (fu F 0 (nI im.2.1)) 1 (nI im.2.2.1)) 2 (nI im.2.2.2.1)) 3 (nI im.2.2.2.2.1)) 12 (nI im.2.2.2.2.2))), ?_, ⟨_, A, H.take y6 (P _) ⟨y1, y2, y3, y4⟩ ⟨rfl, rfl, rfl, rfl⟩, k1, k2, ⟨k3.1, rfl, k3.2.2⟩, k4⟩, Fr.st h (by decide) (by decide) _⟩
        rw [e_253, H.1.f13, k1.1, hk, if_neg (by decide), H.1.f14, k1.2.1, H.1.p0, (P _).f15]
        have f15 : ∀ x, fu F 0 x 15 = nI im.2.2.1 := fun _ => k1.2.2.1
        rw [f15, (P _).p1, s1, (P _).f16]
        have f16 : ∀ x y, fu (fu F 0 x) 1 y 16 = nI im.2.2.2.1 := fun _ _ => k1.2.2.2.1
        rw [f16, (P _).p2, s1, (P _).f17]
        have f17 : ∀ x y z, fu (fu (fu F 0 x) 1 y) 2 z 17 = nI im.2.2.2.2.1 := fun _ _ _ => k1.2.2.2.2.1
        rw [f17, (P _).p3, s1, (P _).f18]
        have f18 : ∀ x y z t, fu (fu (fu (fu F 0 x) 1 y) 2 z) 3 t 18 = nI im.2.2.2.2.2 := fun _ _ _ _ => k1.2.2.2.2.2
        rw [f18, (P _).p12, s1, (P _).f2]
        rfl
