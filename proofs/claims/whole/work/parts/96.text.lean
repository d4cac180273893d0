/-! text -/
theorem c12s {lp : List Nat} (x : Nat) (hl : lp.length < 6) : (lp.map Value.ref ++ List.replicate (6 - lp.length) Value.null).set lp.length (.ref x) = (lp ++ [x]).map Value.ref ++ List.replicate (6 - (lp ++ [x]).length) Value.null := by
  have e1 : (lp.map Value.ref ++ List.replicate (6 - lp.length) Value.null).set lp.length (.ref x) = lp.map Value.ref ++ (List.replicate (6 - lp.length) Value.null).set 0 (.ref x) := by
    rw [List.set_append_right _ _ (by rw [List.length_map]; exact Nat.le_refl _), List.length_map, Nat.sub_self]
  rw [e1, show 6 - lp.length = (6 - (lp.length + 1)) + 1 by omega, List.replicate_succ, List.set_cons_zero, List.map_append, List.length_append, List.append_assoc]
  rfl
theorem itm_okC (tp : List Nat) (j : Nat) (h : itm (tkt tp j) = true) : okC (tkt tp j) := by
  have a : tkt tp j < 12 ∨ (1000 ≤ tkt tp j ∧ tkt tp j < 11000) ∨ isMk (tkt tp j) = true ∨ tkt tp j = 20000 ∨ tkt tp j = 20001 := tkA_ok tp (tkb tp j)
  have b := itm_lt h
  unfold okC
  rcases a with z | z | z | z | z
  · omega
  · omega
  · have := isMk_lt z; omega
  · omega
  · omega
theorem op_text : OP 89 190 []
  | (c, w, B, hs, L, Ts, tp, im, sh), ok => by
    have ok' := ok
    obtain ⟨oB, oL, o3, o4, o5, o6, o7, o8, o9, ob⟩ := ok'
    by_cases full : Ts.length = 6
    · refine ⟨(-4), _, ok, ?_, ?_⟩
      · intro d h K
        refine ⟨h, ?_, K, FrC.rf h⟩
        obtain ⟨ps, H, _, _, _, _, _, ⟨lp, l1, l2, l3⟩, _⟩ := K
        have a12 : ∀ k : Int32 → MRes, aln none h 12 k = k (nI 6) := fun k => by
          simp only [aln, l1, c12]
          rw [if_pos (by decide)]
          have : (lp.map Value.ref ++ List.replicate (6 - lp.length) Value.null).length = 6 := by
            rw [List.length_append, List.length_map, List.length_replicate]; omega
          rw [this]
        rw [e_89, H.o4, full, if_neg (by decide), H.o4, full, H.o3, dR_ref, a12, if_neg (by decide)]
      · intro d h K
        refine ⟨h, ?_, K, Fr.rf h⟩
        obtain ⟨F, A, H, k1, k2, k3, k4⟩ := K
        rw [e_190, H.1.f11, k3.1, full, if_pos (by decide)]
    · have hl : Ts.length < 6 := by omega
      obtain ⟨N, hN1, hN2, hN3⟩ := tk_end tp
      obtain ⟨r, j, R⟩ := tx_tot hN2
      have W := tx_wf hN2 (by omega) (itm_okC tp) R
      refine ⟨(txv Ts.length (tkb tp j) r), (c, w, B, hs, L, Ts ++ r.toList, [], im, sh), ?_, ?_, ?_⟩
      · have tl : (Ts ++ r.toList).length ≤ Ts.length + 1 ∧ Ts.length ≤ (Ts ++ r.toList).length := by
          cases r with
          | none => simp
          | some T => simp
        refine ⟨oB, by show L < (Ts ++ r.toList).length; omega, by show (Ts ++ r.toList).length ≤ 6; omega, ?_, Nat.zero_le _, fun x hx => (by cases hx), o7, fun e => ?_, o9, ob⟩
        · intro T hT
          have hT : T ∈ Ts ++ r.toList := hT
          rcases List.mem_append.1 hT with z | z
          · exact o4 T z
          · exact (W.2 T (by simpa using z)).1
        · obtain ⟨x1, x2, x3, x4, x5, x6, x7⟩ := o8 e
          exact ⟨x1, x2, x3, x4, x5, x6, by show _ < (Ts ++ r.toList).length; omega⟩
      · intro d h K
        obtain ⟨ps, H, h2, h3, h4, h5, ⟨x, y, z, bs, tk, pl, it, t7, t8, tb, t9, t10, t11⟩, ⟨lp, l1, l2, l3⟩, h8, h9, h10, h11⟩ := K
        have a12 : ∀ {h : MHeap}, h[12]? = some (c12 lp) → ∀ k : Int32 → MRes, aln none h 12 k = k (nI 6) := fun {h} l1 k => by
          simp only [aln, l1, c12]
          rw [if_pos (by decide)]
          have : (lp.map Value.ref ++ List.replicate (6 - lp.length) Value.null).length = 6 := by
            rw [List.length_append, List.length_map, List.length_replicate]; omega
          rw [this]
        obtain ⟨h1, c1, ⟨x', z', tk', pl', it', u7, u9, u10, u11, up⟩, f1, n1, s1⟩ := c_57 t7 t8 tb h9.2 t9 t10 t11 o5 o6 R (d + 99)
        have c1 : call (d + 199) 57 [.ref 7] h = some (some (rvl h.length r), h1) := c1
        have hl1 : h.length ≤ h1.length ∧ h1.length ≤ h.length + 2 := by
          cases r with
          | none => have := n1 rfl; omega
          | some T => have := (s1 T rfl).1; omega
        have e3 : h1[3]? = h[3]? := f1 3 (by omega) (by decide) (by decide) (by decide) (by decide)
        have b3 : h1[3]? = some (c3 (nI Ts.length) (nI L)) := by rw [e3]; exact H.2.1
        have v7 : ∀ (m : Nat) (k : Nat → MRes), vd none h 7 [9, m] k = k m := fun m k => vd_at t7 rfl k
        have v71 : ∀ (m : Nat) (k : Nat → MRes), vd none h1 7 [9, m] k = k m := fun m k => vd_at u7 rfl k
        have g12 : ∀ k : Value → MRes, gfV none h1 3 [11] 2 k = k (.ref 7) := fun k => gfV_at b3 rfl rfl k
        -- the tape is emptied
        have c55 : call (d + 199) 55 [.ref 7] h1 = some (none, h1.set 7 (c7 0 x' (nI j) z')) := by
          rw [e_55, pfI_at u7 rfl (by show 0 < 8; decide)]
          rfl
        have w7 : (h1.set 7 (c7 0 x' (nI j) z'))[7]? = some (c7 0 x' (nI j) z') := gset u7 _
        have en : ∀ a : Nat, a ≠ 7 → (h1.set 7 (c7 0 x' (nI j) z'))[a]? = h1[a]? := fun a ha => gset_ne _ (fun e => ha e.symm)
        have hEl : (h1.set 7 (c7 0 x' (nI j) z')).length = h1.length := List.length_set
        generalize h1.set 7 (c7 0 x' (nI j) z') = hE at *
        have o2e : ∀ k : Value → MRes, gfV none hE 3 [11] 2 k = k (.ref 7) := fun k => gfV_at ((en 3 (by decide)).trans b3) rfl rfl k
        have o3e : ∀ k : Value → MRes, gfV none hE 3 [11] 3 k = k (.ref 12) := fun k => gfV_at ((en 3 (by decide)).trans b3) rfl rfl k
        have o4e : ∀ k : Int32 → MRes, gfI none hE 3 [11] 4 k = k (nI Ts.length) := fun k => gfI_at ((en 3 (by decide)).trans b3) rfl rfl k
        have v7e : ∀ (m : Nat) (k : Nat → MRes), vd none hE 7 [9, m] k = k m := fun m k => vd_at w7 rfl k
        have fe : ∀ a : Nat, a < h.length → a ≠ 7 → a ≠ 9 → a ≠ 10 → a ≠ 11 → hE[a]? = h[a]? := fun a h1 h2 h3 h4 h5 => (en a h2).trans (f1 a h1 h2 h3 h4 h5)
        have tpE : CTp hE [] := ⟨x', nI j, z', bs, tk', pl', it', w7, ⟨by rw [fe 8 (by omega) (by decide) (by decide) (by decide) (by decide)]; exact t8.1, t8.2⟩, fun i hi => (by cases hi), ⟨(en 9 (by decide)).trans u9.1, u9.2⟩, ⟨(en 10 (by decide)).trans u10.1, u10.2⟩, ⟨(en 11 (by decide)).trans u11.1, u11.2⟩⟩
        rw [e_89, H.o4, if_neg (nI_pos (by omega)), H.o4, H.o3, dR_ref, a12 l1, if_pos (nI_lt hl (by decide)), H.o2, dR_ref, v7, c1]
        cases r with
        | none =>
          have ln := n1 rfl
          have g6 : ∀ k : Int32 → MRes, gfI none hE 7 [9] 6 k = k (nI j) := fun k => gfI_at w7 rfl rfl k
          have g3 : ∀ k : Value → MRes, gfV none hE 7 [9] 3 k = k (.ref 10) := fun k => gfV_at w7 rfl rfl k
          have j160 : j ≤ 160 := by have := W.1; omega
          have c56 : call (d + 199) 56 [.ref 7] hE = some (some (.int (nI (tkb tp j))), hE) := by
            rw [e_56, g6, g3, dR_ref, ar_ln ((en 10 (by decide)).trans u10.1), u10.2, c_133, cI_s, show nI 161 - 1 = nI 160 from by decide, inR_nI (by omega) (by decide), decide_eq_true j160, if_neg (by decide), g3, g6, dR_ref, ar_al ((en 10 (by decide)).trans u10.1) (by rw [u10.2]; omega) (by rw [u10.2]; decide), up]
          refine ⟨hE, ?_, ?_, ?_⟩
          · show cR (some (some Value.null, h1)) _ = _
            rw [cR_n, dA_null, g12, dR_ref, v71, c55, cV_s, dA_null, dN_null, o2e, dR_ref, v7e, c56, cI_s]
            rfl
          · have le : hE.length = h.length := by rw [hEl, ln]
            have e' : Ts ++ (none : Option Txt).toList = Ts := List.append_nil _
            rw [e']
            refine ⟨ps, H.tr h2 (fun a ha hl2 => fe a hl2 (by omega) (by omega) (by omega) (by omega)), h2, h3, h4.tr (fun a ha => fe a (by omega) (by omega) (by omega) (by omega) (by omega)), by unfold CIm; rw [fe 6 (by omega) (by decide) (by decide) (by decide) (by decide)]; exact h5, tpE, CTx.tr ⟨lp, l1, l2, l3⟩ (fe 12 (by omega) (by decide) (by decide) (by decide) (by decide)) (fun a ha hl2 => fe a hl2 (by omega) (by omega) (by omega) (by omega)), h8.tr (fun a ha => fe a (by omega) (by omega) (by omega) (by omega) (by omega)), h9.tr (fun a ha => fe a (by omega) (by omega) (by omega) (by omega) (by omega)), h10.tr (fun a ha => ?_), by omega⟩
            rcases Nat.lt_or_ge a h.length with q | q
            · exact fe a q (by omega) (by omega) (by omega) (by omega)
            · rw [List.getElem?_eq_none (by omega), List.getElem?_eq_none (by omega)]
          · exact ⟨fun a ha => fe a (by omega) (by omega) (by omega) (by omega) (by omega), by omega, by omega⟩
        | some T =>
          obtain ⟨ln, m1, m2⟩ := s1 T rfl
          have wT := W.2 T rfl
          have m1e : hE[h.length]? = _ := (en h.length (by omega)).trans m1
          have m2e : hE[h.length + 1]? = _ := (en (h.length + 1) (by omega)).trans m2
          have l12 : hE[12]? = some (c12 lp) := by rw [fe 12 (by omega) (by decide) (by decide) (by decide) (by decide)]; exact l1
          have ll : (lp.map Value.ref ++ List.replicate (6 - lp.length) Value.null).length = 6 := by
            rw [List.length_append, List.length_map, List.length_replicate]; omega
          have as12 : ∀ k : MHeap → MRes, asV none hE 12 (nI Ts.length) (.ref h.length) k = k (hE.set 12 (c12 (lp ++ [h.length]))) := by
            intro k
            have cs := c12s (lp := lp) h.length (by omega)
            rw [l2] at cs
            simp only [asV, l12, c12, nI_clamp (show Ts.length < 2 ^ 31 by omega), nI_pos (show Ts.length < 2 ^ 31 by omega), m1e]
            rw [if_pos ⟨by decide, not_false, by rw [ll]; exact hl⟩]
            show (if mok 102 5 = true then k (hE.set 12 (102, (lp.map Value.ref ++ List.replicate (6 - lp.length) Value.null).set Ts.length (.ref h.length))) else none) = _
            rw [if_pos (show mok 102 5 = true from rfl), l2, cs]
          have q3 : (hE.set 12 (c12 (lp ++ [h.length])))[3]? = some (c3 (nI Ts.length) (nI L)) := by rw [gset_ne _ (by decide)]; exact (en 3 (by decide)).trans b3
          have q4 : ∀ k : Int32 → MRes, gfI none (hE.set 12 (c12 (lp ++ [h.length]))) 3 [11] 4 k = k (nI Ts.length) := fun k => gfI_at q3 rfl rfl k
          have q5 : ((hE.set 12 (c12 (lp ++ [h.length]))).set 3 (c3 (nI (Ts.length + 1)) (nI L)))[3]? = some (c3 (nI (Ts.length + 1)) (nI L)) := gset q3 _
          have q6 : ∀ k : Int32 → MRes, gfI none ((hE.set 12 (c12 (lp ++ [h.length]))).set 3 (c3 (nI (Ts.length + 1)) (nI L))) 3 [11] 4 k = k (nI (Ts.length + 1)) := fun k => gfI_at q5 rfl rfl k
          have q7 : ∀ k : MHeap → MRes, pfI none (hE.set 12 (c12 (lp ++ [h.length]))) 3 [11] 4 (nI (Ts.length + 1)) k = k ((hE.set 12 (c12 (lp ++ [h.length]))).set 3 (c3 (nI (Ts.length + 1)) (nI L))) := fun k => pfI_at q3 rfl (by show 4 < 11; decide) _ k
          have q8 : ((hE.set 12 (c12 (lp ++ [h.length]))).set 3 (c3 (nI (Ts.length + 1)) (nI L)))[12]? = some (c12 (lp ++ [h.length])) := by rw [gset_ne _ (by decide)]; exact gset l12 _
          have gE : ∀ a : Nat, a ≠ 3 → a ≠ 12 → ((hE.set 12 (c12 (lp ++ [h.length]))).set 3 (c3 (nI (Ts.length + 1)) (nI L)))[a]? = hE[a]? := fun a h1 h2 => by rw [gset_ne _ (fun e => h1 e.symm), gset_ne _ (fun e => h2 e.symm)]
          have gl : ((hE.set 12 (c12 (lp ++ [h.length]))).set 3 (c3 (nI (Ts.length + 1)) (nI L))).length = h.length + 2 := by rw [List.length_set, List.length_set, hEl, ln]
          refine ⟨(hE.set 12 (c12 (lp ++ [h.length]))).set 3 (c3 (nI (Ts.length + 1)) (nI L)), ?_, ?_, ?_⟩
          · show cR (some (some (Value.ref h.length), h1)) _ = _
            rw [cR_r, dA_ref, g12, dR_ref, v71, c55, cV_s, dA_ref, dN_ref, o3e, o4e, dA_ref, dR_ref, as12, q4, nI_1, q7, q6, nI_s1]
            rfl
          · generalize (hE.set 12 (c12 (lp ++ [h.length]))).set 3 (c3 (nI (Ts.length + 1)) (nI L)) = hG at *
            have ge : ∀ a : Nat, a < h.length → a ≠ 3 → a ≠ 12 → a ≠ 7 → a ≠ 9 → a ≠ 10 → a ≠ 11 → hG[a]? = h[a]? := fun a z1 z2 z3 z4 z5 z6 z7 => (gE a z2 z3).trans (fe a z1 z4 z5 z6 z7)
            have tle : (Ts ++ [T]).length = Ts.length + 1 := by rw [List.length_append]; rfl
            obtain ⟨b1, b2, b3', b4, b5, b6⟩ := H
            show CV hG (c, w, B, hs, L, Ts ++ [T], [], im, sh)
            refine ⟨ps, ⟨b1, by rw [tle]; exact q5, by rw [ge 4 (by omega) (by decide) (by decide) (by decide) (by decide) (by decide) (by decide)]; exact b3', by rw [ge 5 (by omega) (by decide) (by decide) (by decide) (by decide) (by decide) (by decide)]; exact b4, b5, fun i e he => ?_⟩, h2, h3, h4.tr (fun a ha => ge a (by omega) (by omega) (by omega) (by omega) (by omega) (by omega) (by omega)), by unfold CIm; rw [ge 6 (by omega) (by decide) (by decide) (by decide) (by decide) (by decide) (by decide)]; exact h5, tpE.tr (fun a ha => gE a (by omega) (by omega)), ⟨lp ++ [h.length], q8, by rw [List.length_append, tle, l2]; rfl, fun i T' hT' => ?_⟩, h8.tr (fun a ha => ge a (by omega) (by omega) (by omega) (by omega) (by omega) (by omega) (by omega)), h9.tr (fun a ha => ge a (by omega) (by omega) (by omega) (by omega) (by omega) (by omega) (by omega)), ?_, by omega⟩
            · obtain ⟨q1, p, q2, q3⟩ := b6 i e he
              have := h2 p (List.mem_of_getElem? q2)
              exact ⟨q1, p, q2, by rw [ge p (List.getElem?_eq_some_iff.1 q3).1 (by omega) (by omega) (by omega) (by omega) (by omega) (by omega)]; exact q3⟩
            · rcases Nat.lt_or_ge i Ts.length with z | z
              · rw [List.getElem?_append_left z] at hT'
                obtain ⟨p, q, k1, k2⟩ := l3 i T' hT'
                exact ⟨p, q, by rw [List.getElem?_append_left (by omega)]; exact k1, k2.tr (fun a ha hl2 => ge a hl2 (by omega) (by omega) (by omega) (by omega) (by omega) (by omega))⟩
              · rw [List.getElem?_append_right z] at hT'
                have i0 : i - Ts.length = 0 := by
                  have := (List.getElem?_eq_some_iff.1 hT').1
                  have : i - Ts.length < 1 := this
                  omega
                rw [i0] at hT'
                cases hT'
                exact ⟨h.length, h.length + 1, by rw [List.getElem?_append_right (by omega), l2, i0]; rfl, (gE _ (by omega) (by omega)).trans m1e, (gE _ (by omega) (by omega)).trans m2e, Or.inr (by omega), Or.inr (by omega)⟩
            · intro a t xs ha hx
              rcases Nat.lt_or_ge a h.length with z | z
              · rw [ge a z (by omega) (by omega) (by omega) (by omega) (by omega) (by omega)] at hx
                exact h10 a t xs ha hx
              · have al := (List.getElem?_eq_some_iff.1 hx).1
                rcases (show a = h.length ∨ a = h.length + 1 by omega) with y | y
                · rw [y, gE _ (by omega) (by omega), m1e] at hx
                  cases hx
                  show 3 ≤ 160
                  decide
                · rw [y, gE _ (by omega) (by omega), m2e] at hx
                  cases hx
                  rw [List.length_map, List.length_map]
                  omega
          · exact ⟨fun a ha => (gE a (by omega) (by omega)).trans (fe a (by omega) (by omega) (by omega) (by omega) (by omega)), by omega, by omega⟩
      · intro d h K
        obtain ⟨F, A, H, k1, k2, k3, k4, k5⟩ := K
        obtain ⟨h', F', A', c1, H', G', g1, g2, g3, g4, g5, g6, g7⟩ := r_190 H.1 k3.1 hl k2.1 k2.2 k5 o5 o6 R (d + 190)
        refine ⟨h', c1, ?_, G'⟩
        refine ⟨_, A', ⟨H', H.2.1, ⟨(g1 0 (by decide) (by decide) (by decide)).trans H.2.2.1.1, (g1 1 (by decide) (by decide) (by decide)).trans H.2.2.1.2.1, (g1 2 (by decide) (by decide) (by decide)).trans H.2.2.1.2.2.1, (g1 3 (by decide) (by decide) (by decide)).trans H.2.2.1.2.2.2⟩, fun i e he => by
          rw [g4 29 (by decide) (by decide) (by decide), g4 30 (by decide) (by decide) (by decide), g4 31 (by decide) (by decide) (by decide)]
          exact H.2.2.2 i e he⟩, ?_, ⟨g2, fun i hi => (by cases hi)⟩, ⟨?_, (g1 12 (by decide) (by decide) (by decide)).trans k3.2.1, fun i T hT => ?_⟩, ?_, (g4 39 (by decide) (by decide) (by decide)).trans k5⟩
        · unfold RIm
          rw [g1 13 (by decide) (by decide) (by decide), g1 14 (by decide) (by decide) (by decide), g1 15 (by decide) (by decide) (by decide), g1 16 (by decide) (by decide) (by decide), g1 17 (by decide) (by decide) (by decide), g1 18 (by decide) (by decide) (by decide)]
          exact k1
        · rw [g3]
          cases r with
          | none => rw [if_neg (by decide)]; simp
          | some T => rw [if_pos (show (some T).isSome = true from rfl)]; simp
        · rcases Nat.lt_or_ge i Ts.length with z | z
          · rw [List.getElem?_append_left z] at hT
            obtain ⟨e1, e2⟩ := k3.2.2 i T hT
            have wl := (o4 T (List.mem_of_getElem? hT)).1
            refine ⟨fun p hp => ?_, fun k hk => ?_⟩
            · rw [g6 _ (by omega)]; exact e1 p hp
            · rw [g5 _ (by omega)]; exact e2 k hk
          · rw [List.getElem?_append_right z] at hT
            cases r with
            | none => cases hT
            | some T2 =>
              have i0 : i - Ts.length = 0 := by
                have := (List.getElem?_eq_some_iff.1 hT).1
                have : i - Ts.length < 1 := this
                omega
              rw [i0] at hT
              cases hT
              rw [show i = Ts.length by omega]
              exact g7 T rfl
        · unfold RSh
          rw [g4 35 (by decide) (by decide) (by decide), g4 36 (by decide) (by decide) (by decide), g4 37 (by decide) (by decide) (by decide)]
          exact k4
