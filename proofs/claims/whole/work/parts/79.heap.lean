/-! heap -/
theorem gapp {h : MHeap} {a : Nat} (x : MCell) (ha : a < h.length) : (h ++ [x])[a]? = h[a]? := List.getElem?_append_left ha
theorem gnew (h : MHeap) (x : MCell) : (h ++ [x])[h.length]? = some x := by rw [List.getElem?_append_right (Nat.le_refl _), Nat.sub_self]; rfl
theorem nwO_e (h : MHeap) (t : Nat) (cs : List Value) (k : Nat → MHeap → MRes) : nwO h t cs k = k h.length (h ++ [(t, cs)]) := rfl
theorem c_161 {k m r : Nat} (hk : k ≤ 5) (h : MHeap) (d : Nat) : call (d + 5) 161 [.int (nI k), .int (nI m), .int (nI r)] h = some (some (.ref h.length), h ++ [(tg k, [.int (nI m), .int (nI r), .int 0])]) := by
  have q28 : ∀ (d t : Nat), [1, 2, 3, 6, 8, 10].contains t = true → call (d + 2) 28 [.ref h.length, .int (nI m), .int (nI r)] (h ++ [(t, [.int 0, .int 0, .int 0])]) = some (none, h ++ [(t, [.int (nI m), .int (nI r), .int 0])]) := by
    intro d t ht
    have s : ∀ x y : MCell, (h ++ [x]).set h.length y = h ++ [y] := by
      intro x y
      rw [List.set_append_right _ _ (Nat.le_refl _), Nat.sub_self]; rfl
    rw [e_28, c_obj, cV_s, pfI_at (gnew h _) ht (by show 0 < 3; decide), s, pfI_at (gnew h _) ht (by show 1 < 3; decide), s]
    rfl
  rw [e_161]
  rcases kcases hk with z | z | z | z | z | z <;> subst z
  · rw [if_neg (by decide), if_neg (by decide), if_neg (by decide), if_neg (by decide), if_neg (by decide), nwO_e, q28 (d + 2) 3 rfl]; rfl
  · rw [if_pos (by decide), nwO_e, e_41, q28 (d + 1) 6 rfl]; rfl
  · rw [if_neg (by decide), if_pos (by decide), nwO_e, e_25, q28 (d + 1) 2 rfl]; rfl
  · rw [if_neg (by decide), if_neg (by decide), if_pos (by decide), nwO_e, e_22, e_41, q28 d 1 rfl]; rfl
  · rw [if_neg (by decide), if_neg (by decide), if_neg (by decide), if_pos (by decide), nwO_e, e_50, q28 (d + 1) 8 rfl]; rfl
  · rw [if_neg (by decide), if_neg (by decide), if_neg (by decide), if_neg (by decide), if_pos (by decide), nwO_e, e_79, e_25, q28 d 10 rfl]; rfl
section CVS
variable {h : MHeap} {c w B : Nat} {hs : List Ent} {L : Nat} {Ts : List Txt} {tp : List Nat} {im : Img} {sh : Nat → Sht}
theorem CV.add (K : CV h (c, w, B, hs, L, Ts, tp, im, sh)) {e : Ent} (ok : okE e) (hn : hs.length < 7) (d : Nat) : ∃ h', call (d + 7) 12 [.ref 4, .ref h.length] (h ++ [(tg e.1, [Value.int (nI e.2.1), Value.int (nI e.2.2), Value.int 0])]) = some (none, h') ∧ CV h' (c, w, B, hs ++ [e], L, Ts, tp, im, sh) ∧ FrC h h' ∧ h'.length = h.length + 1 := by
  obtain ⟨ps, ⟨b1, b2, b3, b4, b5, b6⟩, h2, h3, h4, h5, h6, h7, h8, h9, h10, h11⟩ := K
  have g0 : (h ++ [(tg e.1, [Value.int (nI e.2.1), Value.int (nI e.2.2), Value.int 0])])[h.length]? = some (tg e.1, [.int (nI e.2.1), .int (nI e.2.2), .int 0]) := gnew h _
  have k4 : (h ++ [(tg e.1, [Value.int (nI e.2.1), Value.int (nI e.2.2), Value.int 0])])[4]? = some (c4 c w (nI B) hs.length) := by rw [gapp _ (by omega)]; exact b3
  have k5 : (h ++ [(tg e.1, [Value.int (nI e.2.1), Value.int (nI e.2.2), Value.int 0])])[5]? = some (c5 ps) := by rw [gapp _ (by omega)]; exact b4
  have lp : ∀ p ∈ ps, p < h.length := by
    intro p hp
    obtain ⟨i, hi⟩ := List.getElem?_of_mem hp
    have hl : i < ps.length := (List.getElem?_eq_some_iff.1 hi).1
    obtain ⟨ee, he⟩ : ∃ e, hs[i]? = some e := ⟨_, List.getElem?_eq_getElem (by rw [← b5]; exact hl)⟩
    obtain ⟨x1, p', x2, x3⟩ := b6 i ee he
    rw [hi] at x2; cases x2
    exact (List.getElem?_eq_some_iff.1 x3).1
  have c32 := c_32 (d + 1) (c := c) (w := w) g0 ok.1 ok.2.1 ok.2.2 b1.2.2.1 b1.2.2.2.1 b1.2.1
  have s0 : (h ++ [(tg e.1, [Value.int (nI e.2.1), Value.int (nI e.2.2), Value.int 0])]).set h.length (hpC e (inN c w e)) = h ++ [hpC e (inN c w e)] := by
    rw [List.set_append_right _ _ (Nat.le_refl _), Nat.sub_self]; rfl
  rw [s0] at c32
  have v32 : ∀ k : Nat → MRes, vd none (h ++ [(tg e.1, [Value.int (nI e.2.1), Value.int (nI e.2.2), Value.int 0])]) h.length [1, 32, 2, 32, 3, 32, 6, 32, 8, 32, 10, 32] k = k 32 := by
    intro k
    refine vd_at g0 ?_ k
    rcases kcases ok.1 with y | y | y | y | y | y <;> rw [y] <;> rfl
  have j4 : (h ++ [hpC e (inN c w e)])[4]? = some (c4 c w (nI B) hs.length) := by rw [gapp _ (by omega)]; exact b3
  have j5 : (h ++ [hpC e (inN c w e)])[5]? = some (c5 ps) := by rw [gapp _ (by omega)]; exact b4
  have l7 : (ps.map Value.ref ++ List.replicate (7 - ps.length) Value.null).length = 7 := by simp; omega
  have l5 : ∀ k : Int32 → MRes, aln none (h ++ [(tg e.1, [Value.int (nI e.2.1), Value.int (nI e.2.2), Value.int 0])]) 5 k = k 7 := by
    intro k
    simp only [aln, k5, c5, l7]
    rfl
  have lps : (ps ++ [h.length]).length = hs.length + 1 := by rw [List.length_append, b5]; rfl
  have c5s : (ps.map Value.ref ++ List.replicate (7 - ps.length) Value.null).set hs.length (.ref h.length) = (ps ++ [h.length]).map Value.ref ++ List.replicate (7 - (ps ++ [h.length]).length) Value.null := by
    apply List.ext_getElem?
    intro j
    by_cases z : j = hs.length
    · subst z
      rw [List.getElem?_set_self (by omega), c5_get]
      rw [List.getElem?_append_right (by omega), b5, Nat.sub_self]; rfl
    · rw [List.getElem?_set_ne (fun y => z y.symm)]
      rcases Nat.lt_or_ge j hs.length with y | y
      · obtain ⟨p, hp⟩ : ∃ p, ps[j]? = some p := ⟨_, List.getElem?_eq_getElem (by omega)⟩
        rw [c5_get hp, c5_get]
        rw [List.getElem?_append_left (by omega)]; exact hp
      · rcases Nat.lt_or_ge j 7 with x | x
        · rw [c5_null (by omega) x, c5_null (by omega) x]
        · rw [List.getElem?_eq_none (by omega), List.getElem?_eq_none (by simp; omega)]
  have as5 : ∀ k : MHeap → MRes, asV none (h ++ [hpC e (inN c w e)]) 5 (nI hs.length) (.ref h.length) k = k ((h ++ [hpC e (inN c w e)]).set 5 (c5 (ps ++ [h.length]))) := by
    intro k
    have m1 : mok 101 (tg e.1) = true := by rcases kcases ok.1 with y | y | y | y | y | y <;> rw [y] <;> rfl
    simp only [asV, j5, c5, nI_clamp (show hs.length < 2 ^ 31 by omega), nI_pos (show hs.length < 2 ^ 31 by omega), l7, hn, gnew h (hpC e (inN c w e)), m1, c5s]
    rfl
  have i4 : ((h ++ [hpC e (inN c w e)]).set 5 (c5 (ps ++ [h.length])))[4]? = some (c4 c w (nI B) hs.length) := by rw [gset_ne _ (by decide)]; exact j4
  refine ⟨((h ++ [hpC e (inN c w e)]).set 5 (c5 (ps ++ [h.length]))).set 4 (c4 c w (nI B) (hs.length + 1)), ?_, ?_, ?_, by rw [List.length_set, List.length_set, List.length_append]; rfl⟩
  · have q3 : ∀ k : Int32 → MRes, gfI none (h ++ [(tg e.1, [Value.int (nI e.2.1), Value.int (nI e.2.2), Value.int 0])]) 4 [0] 3 k = k (nI hs.length) := fun k => gfI_at k4 rfl rfl k
    have q0 : ∀ k : Int32 → MRes, gfI none (h ++ [(tg e.1, [Value.int (nI e.2.1), Value.int (nI e.2.2), Value.int 0])]) 4 [0] 0 k = k (nI c) := fun k => gfI_at k4 rfl rfl k
    have q1 : ∀ k : Int32 → MRes, gfI none (h ++ [(tg e.1, [Value.int (nI e.2.1), Value.int (nI e.2.2), Value.int 0])]) 4 [0] 1 k = k (nI w) := fun k => gfI_at k4 rfl rfl k
    have q4 : ∀ k : Value → MRes, gfV none (h ++ [(tg e.1, [Value.int (nI e.2.1), Value.int (nI e.2.2), Value.int 0])]) 4 [0] 4 k = k (.ref 5) := fun k => gfV_at k4 rfl rfl k
    have r4 : ∀ k : Value → MRes, gfV none (h ++ [hpC e (inN c w e)]) 4 [0] 4 k = k (.ref 5) := fun k => gfV_at j4 rfl rfl k
    have r3 : ∀ k : Int32 → MRes, gfI none (h ++ [hpC e (inN c w e)]) 4 [0] 3 k = k (nI hs.length) := fun k => gfI_at j4 rfl rfl k
    have t3 : ∀ k : Int32 → MRes, gfI none ((h ++ [hpC e (inN c w e)]).set 5 (c5 (ps ++ [h.length]))) 4 [0] 3 k = k (nI hs.length) := fun k => gfI_at i4 rfl rfl k
    rw [e_12, q3, q4, dR_ref, l5, c_133, cI_s, show (7 : Int32) - 1 = nI 6 from by decide, inR_nI (by omega) (by decide), decide_eq_true (show hs.length ≤ 6 by omega), if_neg (by decide), q0, q1, v32, c32, cV_s, r4, r3, dR_ref, as5, t3, nI_1, pfI_at i4 rfl (by show 3 < 5; decide)]
    rfl
  · have ee : ∀ a : Nat, a ≠ 4 → a ≠ 5 → a < h.length → (((h ++ [hpC e (inN c w e)]).set 5 (c5 (ps ++ [h.length]))).set 4 (c4 c w (nI B) (hs.length + 1)))[a]? = h[a]? := fun a ha hb hl => by rw [gset_ne _ (fun z => ha z.symm), gset_ne _ (fun z => hb z.symm), gapp _ hl]
    have en : (((h ++ [hpC e (inN c w e)]).set 5 (c5 (ps ++ [h.length]))).set 4 (c4 c w (nI B) (hs.length + 1)))[h.length]? = some (hpC e (inN c w e)) := by rw [gset_ne _ (by omega), gset_ne _ (by omega), gnew]
    refine ⟨ps ++ [h.length], ⟨⟨b1.1, b1.2.1, b1.2.2.1, b1.2.2.2.1, by rw [List.length_append]; show hs.length + 1 ≤ 7; omega⟩, by rw [ee 3 (by decide) (by decide) (by omega)]; exact b2, by rw [List.length_append]; exact gset i4 _, ?_, by rw [lps, List.length_append]; rfl, ?_⟩, ?_, ?_, h4.tr (fun a ha => ee a (by omega) (by omega) (by omega)), by unfold CIm; rw [ee 6 (by decide) (by decide) (by omega)]; exact h5, h6.tr (fun a ha => ee a (by omega) (by omega) (by omega)), h7.tr (ee 12 (by decide) (by decide) (by omega)) (fun a ha hl => ee a (by omega) (by omega) hl), h8.tr (fun a ha => ee a (by omega) (by omega) (by omega)), h9.tr (fun a ha => ee a (by omega) (by omega) (by omega)), ?_, by rw [List.length_set, List.length_set, List.length_append]; omega⟩
    · rw [gset_ne _ (by decide)]; exact gset j5 _
    · intro i x hx
      rcases Nat.lt_or_ge i hs.length with z | z
      · rw [List.getElem?_append_left z] at hx
        obtain ⟨x1, p, x2, x3⟩ := b6 i x hx
        have hm := List.mem_of_getElem? x2
        have := h2 p hm
        exact ⟨x1, p, by rw [List.getElem?_append_left (by omega)]; exact x2, by rw [ee p (by omega) (by omega) (lp p hm)]; exact x3⟩
      · rw [List.getElem?_append_right z] at hx
        have hi : i - hs.length = 0 := by
          have := (List.getElem?_eq_some_iff.1 hx).1
          have : i - hs.length < 1 := this
          omega
        rw [hi] at hx
        cases hx
        exact ⟨ok, h.length, by rw [List.getElem?_append_right (by omega), b5, hi]; rfl, en⟩
    · intro p hp
      rcases List.mem_append.1 hp with z | z
      · exact h2 p z
      · have := List.mem_singleton.1 z; omega
    · rw [List.nodup_append]
      refine ⟨h3, by simp, ?_⟩
      intro a ha b hb e2
      have := List.mem_singleton.1 hb
      have := lp a ha
      omega
    · intro a t xs ha hx
      rcases Nat.lt_trichotomy a h.length with z | z | z
      · rw [ee a (by omega) (by omega) z] at hx
        exact h10 a t xs ha hx
      · subst z
        rw [en] at hx
        cases hx
        show 3 ≤ 160
        decide
      · rw [List.getElem?_eq_none (by rw [List.length_set, List.length_set, List.length_append]; show h.length + 1 ≤ a; omega)] at hx
        cases hx
  · refine ⟨fun a ha => ?_, by rw [List.length_set, List.length_set, List.length_append]; omega, by rw [List.length_set, List.length_set, List.length_append]; show h.length + 1 ≤ _; omega⟩
    rw [gset_ne _ (by omega), gset_ne _ (by omega), gapp _ (by omega)]
end CVS
theorem r_196 (d : Nat) (k m r : Int32) (h : MHeap) : call (d + 2) 196 [.int k, .int m, .int r] h = some (some (.int (bI (inR k 0 5 && (inR m 0 4095 && inR r 0 9)))), h) := by
  rw [e_196]
  simp only [dR_ref, dA_ref, dA_null, dN_ref, dN_null, dD_ref, dD_int, cI_s, cV_s, cR_r, cR_n, cJ_s, bI_0, bI_1, zr_bI, zr_0, zr_1, eq_self, if_true, if_false, i10, i20, i01, i21, i02, i12, ior0, iad0, Bool.true_eq_false, Bool.false_eq_true, r_166]
  cases inR k 0 5 <;> cases inR m 0 4095 <;> cases inR r 0 9 <;> rfl
theorem RB.add {h : MHeap} {F : Nat → Int32} {A : Nat → List Int32} {c w B : Nat} {hs : List Ent} {L : Nat} {Ts : List Txt} {tp : List Nat} {im : Img} {sh : Nat → Sht} (H : RB h F A c w (nI B) hs) (K : RVr F A L Ts tp im sh) {e : Ent} (ok : okE e) (hn : hs.length < 7) (d : Nat) : ∃ h2, call (d + 3) 197 [.ref 28, .int (nI e.1), .int (nI e.2.1), .int (nI e.2.2)] h = some (some (.int (nI hs.length)), h2) ∧ RV h2 (c, w, B, hs ++ [e], L, Ts, tp, im, sh) ∧ Fr h h2 := by
  have hb := H.bd
  have x1 : inR (nI e.1) 0 5 = true := by rw [show (5 : Int32) = nI 5 from rfl, inR_nI (by have := ok.1; omega) (by decide)]; exact decide_eq_true ok.1
  have x2 : inR (nI e.2.1) 0 4095 = true := by rw [show (4095 : Int32) = nI 4095 from rfl, inR_nI (by have := ok.2.1; omega) (by decide)]; exact decide_eq_true ok.2.1
  have x3 : inR (nI e.2.2) 0 9 = true := by rw [show (9 : Int32) = nI 9 from rfl, inR_nI (by have := ok.2.2; omega) (by decide)]; exact decide_eq_true ok.2.2
  have l29 : (A 29).length = 7 := (H.1.2 29 (by decide) (by decide)).2
  have l30 : (A 30).length = 7 := (H.1.2 30 (by decide) (by decide)).2
  have l31 : (A 31).length = 7 := (H.1.2 31 (by decide) (by decide)).2
  have R1 := H.1.setA (o := 29) (by decide) (by decide) (xs := (A 29).set hs.length (nI e.1)) (by rw [List.length_set]; exact l29)
  have R2 := R1.setA (o := 30) (by decide) (by decide) (xs := (A 30).set hs.length (nI e.2.1)) (by rw [List.length_set]; exact l30)
  have R3 := R2.setA (o := 31) (by decide) (by decide) (xs := (A 31).set hs.length (nI e.2.2)) (by rw [List.length_set]; exact l31)
  have R4 := R3.setF (fu F 3 (nI (hs.length + 1)))
  have ll : (hs ++ [e]).length = hs.length + 1 := by rw [List.length_append]; rfl
  have F3 := H.2.2.1.2.2.2
  refine ⟨_, ?_, ⟨_, _, ⟨R4, ⟨hb.1, hb.2.1, hb.2.2.1, hb.2.2.2.1, by omega⟩, ⟨H.2.2.1.1, H.2.2.1.2.1, H.2.2.1.2.2.1, by rw [fu_eq, ll]⟩, ?_⟩, K⟩, (((Fr.st h (by decide) (by decide) _).tr (Fr.st _ (by decide) (by decide) _)).tr (Fr.st _ (by decide) (by decide) _)).tr (Fr.st _ (by decide) (by decide) _)⟩
  · rw [e_197, r_196, cI_s, x1, x2, x3]
    show (if bI true = 0 then _ else _) = _
    rw [if_neg (by decide), H.f3, if_neg (show ¬ nI hs.length = (7 : Int32) from fun z => by have := (nI_eq (b := 7) (by omega) (by decide)).1 z; omega), H.f4, H.f3, dR_ref, H.1.as (by decide) (by decide) (show hs.length < 7 from hn), R1.f5, R1.f3, F3, dR_ref, R1.as (by decide) (by decide) (show hs.length < 7 from hn), fu_ne _ _ (by decide), R2.f6, R2.f3, F3, dR_ref, R2.as (by decide) (by decide) (show hs.length < 7 from hn), fu_ne _ _ (by decide), fu_ne _ _ (by decide), R3.f3, F3, nI_1, R3.p3, R4.f3, fu_eq, nI_s1]
  · intro i x hx
    have g29 : (fu (fu (fu A 29 ((A 29).set hs.length (nI e.1))) 30 ((A 30).set hs.length (nI e.2.1))) 31 ((A 31).set hs.length (nI e.2.2))) 29 = (A 29).set hs.length (nI e.1) := rfl
    have g30 : (fu (fu (fu A 29 ((A 29).set hs.length (nI e.1))) 30 ((A 30).set hs.length (nI e.2.1))) 31 ((A 31).set hs.length (nI e.2.2))) 30 = (A 30).set hs.length (nI e.2.1) := rfl
    have g31 : (fu (fu (fu A 29 ((A 29).set hs.length (nI e.1))) 30 ((A 30).set hs.length (nI e.2.1))) 31 ((A 31).set hs.length (nI e.2.2))) 31 = (A 31).set hs.length (nI e.2.2) := rfl
    rw [g29, g30, g31, getD_set (by omega), getD_set (by omega), getD_set (by omega)]
    rcases Nat.lt_or_ge i hs.length with z | z
    · rw [List.getElem?_append_left z] at hx
      rw [if_neg (by omega), if_neg (by omega), if_neg (by omega)]
      exact H.2.2.2 i x hx
    · rw [List.getElem?_append_right z] at hx
      have hi : i - hs.length = 0 := by
        have := (List.getElem?_eq_some_iff.1 hx).1
        have : i - hs.length < 1 := this
        omega
      rw [hi] at hx
      cases hx
      rw [if_pos (by omega), if_pos (by omega), if_pos (by omega)]
      exact ⟨ok, rfl, rfl, rfl⟩
/-- heap, with what it does to the heaps -/
theorem op_heap' (k m r : Int32) {c w B : Nat} {hs : List Ent} {L : Nat} {Ts : List Txt} {tp : List Nat} {im : Img} {sh : Nat → Sht} (ok : OKS (c, w, B, hs, L, Ts, tp, im, sh)) : ∃ (v : Int32) (hs' : List Ent), OKS (c, w, B, hs', L, Ts, tp, im, sh) ∧ (∀ (d : Nat) (h : MHeap), CV h (c, w, B, hs, L, Ts, tp, im, sh) → ∃ h1, call (d + 10) 92 [.ref 3, .int k, .int m, .int r] h = some (some (.int v), h1) ∧ CV h1 (c, w, B, hs', L, Ts, tp, im, sh) ∧ FrC h h1 ∧ h1.length ≤ h.length + 1) ∧ (∀ (d : Nat) (h : MHeap), RV h (c, w, B, hs, L, Ts, tp, im, sh) → ∃ h2, call (d + 10) 197 [.ref 28, .int k, .int m, .int r] h = some (some (.int v), h2) ∧ RV h2 (c, w, B, hs', L, Ts, tp, im, sh) ∧ Fr h h2) := by
  have ok' := ok
  obtain ⟨oB, oL, o3, o4, o5, o6, o7, o8, o9, ob⟩ := ok'
  by_cases bad : (inR k 0 5 && (inR m 0 4095 && inR r 0 9)) = false
  · refine ⟨-2, hs, ok, ?_, ?_⟩
    · intro d h K
      refine ⟨h, ?_, K, FrC.rf h, by omega⟩
      rw [e_92]
      simp only [dR_ref, dA_ref, dA_null, dN_ref, dN_null, dD_ref, dD_int, cI_s, cV_s, cR_r, cR_n, cJ_s, bI_0, bI_1, zr_bI, zr_0, zr_1, eq_self, if_true, if_false, i10, i20, i01, i21, i02, i12, ior0, iad0, Bool.true_eq_false, Bool.false_eq_true, c_133]
      revert bad
      cases inR k 0 5 <;> cases inR m 0 4095 <;> cases inR r 0 9 <;> intro bad <;> first | rfl | cases bad
    · intro d h K
      refine ⟨h, ?_, K, Fr.rf h⟩
      rw [e_197, r_196, cI_s, bad, if_pos (show bI false = (0 : Int32) from rfl)]
  · have g : inR k 0 5 = true ∧ inR m 0 4095 = true ∧ inR r 0 9 = true := by
      revert bad
      cases inR k 0 5 <;> cases inR m 0 4095 <;> cases inR r 0 9 <;> simp
    obtain ⟨g0, g1, g2⟩ := g
    obtain ⟨k, hk, rfl⟩ := inR_of (n := 5) (by decide) g0
    obtain ⟨m, hm, rfl⟩ := inR_of (n := 4095) (by decide) g1
    obtain ⟨r, hr, rfl⟩ := inR_of (n := 9) (by decide) g2
    have oke : okE (k, m, r) := ⟨hk, hm, hr⟩
    have c11 : ∀ (h : MHeap) (ps : List Nat), CB h c w (nI B) hs (nI Ts.length) (nI L) ps → ∀ d, call (d + 1) 11 [.ref 4] h = some (some (.int (bI (decide (hs.length < 7)))), h) := by
      intro h ps H d
      rw [e_11, H.b3, H.b4, dR_ref, H.l5, zr_0, zr_1]
      by_cases z : hs.length < 7
      · rw [if_pos (show nI hs.length < (7 : Int32) from nI_lt (b := 7) z (by decide)), decide_eq_true z]; rfl
      · rw [if_neg (show ¬ nI hs.length < (7 : Int32) from nI_nlt (b := 7) (by omega) (by omega)), decide_eq_false z]; rfl
    by_cases full : hs.length < 7
    · have ll : (hs ++ [(k, m, r)]).length = hs.length + 1 := by rw [List.length_append]; rfl
      refine ⟨nI hs.length, hs ++ [(k, m, r)], ⟨oB, oL, o3, o4, o5, o6, o7, fun z => ?_, o9, ⟨ob.1, ob.2.1, ob.2.2.1, ob.2.2.2.1, by omega⟩⟩, ?_, ?_⟩
      · obtain ⟨y1, y2, y3, y4, y5, y6, y7⟩ := o8 z
        exact ⟨y1, y2, y3, y4, y5, by rw [ll]; omega, y7⟩
      · intro d h K
        obtain ⟨h', e1, K1, G1, l1⟩ := K.add oke full (d + 2)
        refine ⟨h', ?_, K1, G1, by omega⟩
        obtain ⟨ps, H, _, _, _, _, _, _, _, _, _, h45⟩ := K
        obtain ⟨ps1, H1, _⟩ := K1
        have o0' : ∀ (x : MCell) (K : Nat → MRes), vd none (h ++ [x]) 4 [0, 12] K = K 12 := by
          intro x K
          have : (h ++ [x])[4]? = some (c4 c w (nI B) hs.length) := by rw [gapp _ (by omega)]; exact H.2.2.1
          exact vd_at this rfl K
        rw [e_92]
        simp only [H.o0, H.o1, H.o2, H.o3, H.o4, H.o5, H.o6, H.o7, H.o8, H.o9, H.o10, H.b0, H.b1, H.b2, H.b3, H.b4, H.v3, H.v4, dR_ref, dA_ref, dA_null, dN_ref, dN_null, dD_ref, dD_int, cI_s, cV_s, cR_r, cR_n, cJ_s, bI_0, bI_1, zr_bI, zr_0, zr_1, eq_self, if_true, if_false, i10, i20, i01, i21, i02, i12, ior0, iad0, Bool.true_eq_false, Bool.false_eq_true, c_133, g0, g1, g2, c11 h ps H, decide_eq_true full, c_161 hk, o0', e1, H1.o0, H1.b3, ll, nI_s1]
      · intro d h K
        obtain ⟨F, A, H, K⟩ := K
        exact RB.add H K oke full (d + 7)
    · refine ⟨-4, hs, ok, ?_, ?_⟩
      · intro d h K
        refine ⟨h, ?_, K, FrC.rf h, by omega⟩
        obtain ⟨ps, H, _⟩ := K
        rw [e_92]
        simp only [H.o0, H.o1, H.o2, H.o3, H.o4, H.o5, H.o6, H.o7, H.o8, H.o9, H.o10, H.b0, H.b1, H.b2, H.b3, H.b4, H.v3, H.v4, dR_ref, dA_ref, dA_null, dN_ref, dN_null, dD_ref, dD_int, cI_s, cV_s, cR_r, cR_n, cJ_s, bI_0, bI_1, zr_bI, zr_0, zr_1, eq_self, if_true, if_false, i10, i20, i01, i21, i02, i12, ior0, iad0, Bool.true_eq_false, Bool.false_eq_true, c_133, g0, g1, g2, c11 h ps H, decide_eq_false full]
      · intro d h K
        refine ⟨h, ?_, K, Fr.rf h⟩
        obtain ⟨F, A, H, K⟩ := K
        rw [e_197, r_196, cI_s, g0, g1, g2]
        show (if bI true = 0 then _ else _) = _
        rw [if_neg (by decide), H.f3, show hs.length = 7 by omega, if_pos (show nI 7 = (7 : Int32) from rfl)]
theorem op_heap (k m r : Int32) : OP 92 197 [.int k, .int m, .int r]
  | (c, w, B, hs, L, Ts, tp, im, sh), ok => by
    obtain ⟨v, hs', o, q1, q2⟩ := op_heap' k m r ok
    refine ⟨v, _, o, ?_, ?_⟩
    · intro d h K
      obtain ⟨h1, e1, K1, G1, _⟩ := q1 (d + 190) h K
      exact ⟨h1, e1, K1, G1⟩
    · intro d h K
      exact q2 (d + 190) h K
