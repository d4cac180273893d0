/-! feed -/
theorem c_54 {h : MHeap} {n : Nat} {x y z : Int32} {bs : List Int32} (t1 : h[7]? = some (c7 n x y z)) (t2 : arr h 8 bs 160) (hn : n < 160) (v : Int32) (d : Nat) : call (d + 2) 54 [.ref 7, .int v] h = some (none, (h.set 8 (100, (bs.set n v).map .int)).set 7 (c7 (n + 1) x y z)) := by
  have g0 : ∀ k : Int32 → MRes, gfI none h 7 [9] 0 k = k (nI n) := fun k => gfI_at t1 rfl rfl k
  have g1 : ∀ k : Value → MRes, gfV none h 7 [9] 1 k = k (.ref 8) := fun k => gfV_at t1 rfl rfl k
  have t3 : (h.set 8 (100, (bs.set n v).map .int))[7]? = some (c7 n x y z) := by rw [gset_ne _ (by decide)]; exact t1
  have g2 : ∀ k : Int32 → MRes, gfI none (h.set 8 (100, (bs.set n v).map .int)) 7 [9] 0 k = k (nI n) := fun k => gfI_at t3 rfl rfl k
  rw [e_54, g0, g1, dR_ref, ar_ln t2.1, t2.2, c_133, cI_s, show nI 160 - 1 = nI 159 from by decide, inR_nI (by omega) (by decide), decide_eq_true (show n ≤ 159 by omega), if_neg (by decide), g1, g0, dR_ref, ar_as t2.1 (by rw [t2.2]; exact hn) (by rw [t2.2]; decide), g2, nI_1, pfI_at t3 rfl (by show 0 < 8; decide)]
  rfl
theorem CV.put {h : MHeap} {c w B : Nat} {hs : List Ent} {L : Nat} {Ts : List Txt} {tp : List Nat} {im : Img} {sh : Nat → Sht} (K : CV h (c, w, B, hs, L, Ts, tp, im, sh)) (ht : tp.length < 160) (v : Nat) : ∃ h1, (∀ d, call (d + 2) 54 [.ref 7, .int (nI v)] h = some (none, h1)) ∧ CV h1 (c, w, B, hs, L, Ts, tp ++ [v], im, sh) ∧ (∀ a : Nat, a ≠ 7 → a ≠ 8 → h1[a]? = h[a]?) ∧ h1.length = h.length := by
  obtain ⟨ps, h1, h2, h3, h4, h5, ⟨x, y, z, bs, tk, pl, it, t1, t2, t3, t4, t5, t6⟩, h7, h8, h9, h10, h11⟩ := K
  have e : ∀ a : Nat, a ≠ 7 → a ≠ 8 → ((h.set 8 (100, (bs.set tp.length (nI v)).map .int)).set 7 (c7 (tp.length + 1) x y z))[a]? = h[a]? := fun a ha hb => by rw [gset_ne _ (fun z => ha z.symm), gset_ne _ (fun z => hb z.symm)]
  refine ⟨_, fun d => c_54 t1 t2 ht (nI v) d, ⟨ps, h1.tr h2 (fun a ha _ => e a (by omega) (by omega)), h2, h3, h4.tr (fun a ha => e a (by omega) (by omega)), by unfold CIm; rw [e 6 (by decide) (by decide)]; exact h5, ⟨x, y, z, bs.set tp.length (nI v), tk, pl, it, ?_, ⟨?_, by rw [List.length_set]; exact t2.2⟩, ?_, ⟨by rw [e 9 (by decide) (by decide)]; exact t4.1, t4.2⟩, ⟨by rw [e 10 (by decide) (by decide)]; exact t5.1, t5.2⟩, ⟨by rw [e 11 (by decide) (by decide)]; exact t6.1, t6.2⟩⟩, h7.tr (e 12 (by decide) (by decide)) (fun a ha _ => e a (by omega) (by omega)), h8.tr (fun a ha => e a (by omega) (by omega)), h9.tr (fun a ha => e a (by omega) (by omega)), h10.tr (fun a ha => e a (by omega) (by omega)), by rw [List.length_set, List.length_set]; exact h11⟩, e, by rw [List.length_set, List.length_set]⟩
  · have t7 : (h.set 8 (100, (bs.set tp.length (nI v)).map .int))[7]? = some (c7 tp.length x y z) := by rw [gset_ne _ (by decide)]; exact t1
    rw [gset t7, List.length_append]; rfl
  · rw [gset_ne _ (by decide)]; exact gset t2.1 _
  · intro i hi
    rw [List.length_append] at hi
    rw [getD_set (by rw [t2.2]; exact ht)]
    by_cases q : i = tp.length
    · subst q; rw [if_pos rfl]; simp
    · have hi2 : i < tp.length := by have : [v].length = 1 := rfl; omega
      rw [if_neg q, t3 i hi2, List.getD_eq_getElem?_getD, List.getD_eq_getElem?_getD, List.getElem?_append_left hi2]
theorem RV.put {h : MHeap} {F : Nat → Int32} {A : Nat → List Int32} {c w B : Nat} {hs : List Ent} {L : Nat} {Ts : List Txt} {tp : List Nat} {im : Img} {sh : Nat → Sht} (H : RB h F A c w (nI B) hs) (K : RVr F A L Ts tp im sh) (ht : tp.length < 160) (v : Nat) : ∃ h1 h2 F2 A2, (∀ k : MHeap → MRes, asI none h 32 (nI tp.length) (nI v) k = k h1) ∧ (∀ k : Int32 → MRes, gfI none h1 28 [12] 8 k = k (nI tp.length)) ∧ (∀ k : MHeap → MRes, pfI none h1 28 [12] 8 (nI (tp.length + 1)) k = k h2) ∧ RB h2 F2 A2 c w (nI B) hs ∧ RVr F2 A2 L Ts (tp ++ [v]) im sh ∧ Fr h h2 := by
  obtain ⟨k1, k2, k3, k4⟩ := K
  have hl : (A 32).length = 160 := (H.1.2 32 (by decide) (by decide)).2
  have R1 : RH (h.set 32 (100, ((A 32).set tp.length (nI v)).map .int)) F (fu A 32 ((A 32).set tp.length (nI v))) := H.1.setA (by decide) (by decide) (by rw [List.length_set]; exact hl)
  refine ⟨_, _, fu F 8 (nI (tp.length + 1)), fu A 32 ((A 32).set tp.length (nI v)), fun k => H.1.as (by decide) (by decide) (show tp.length < 160 from ht) _ k, fun k => by rw [R1.f8, k2.1], fun k => R1.p8 _ k, ⟨R1.setF _, H.2.1, H.2.2.1, H.2.2.2⟩, ⟨k1, ⟨?_, ?_⟩, k3, k4⟩, (Fr.st h (by decide) (by decide) _).tr (Fr.st _ (by decide) (by decide) _)⟩
  · rw [fu_eq, List.length_append]; rfl
  · intro i hi
    rw [List.length_append] at hi
    rw [fu_eq, getD_set (by rw [hl]; exact ht)]
    by_cases q : i = tp.length
    · subst q; rw [if_pos rfl]; simp
    · have hi2 : i < tp.length := by have : [v].length = 1 := rfl; omega
      rw [if_neg q, k2.2 i hi2, List.getD_eq_getElem?_getD, List.getD_eq_getElem?_getD, List.getElem?_append_left hi2]
theorem r_178 (d : Nat) (a : Int32) (h : MHeap) : call (d + 2) 178 [.int a] h = some (some (.int (bI (inR a 0 255))), h) := by
  rw [e_178, r_166, cI_s, zr_bI]
theorem op_feed (n0 a b c5 d5 e5 : Int32) : OP 88 179 [.int n0, .int a, .int b, .int c5, .int d5, .int e5]
  | (c, w, B, hs, L, Ts, tp, im, sh), ok => by
    have ok' := ok
    obtain ⟨oB, oL, o3, o4, o5, o6, o7, o8, o9, ob⟩ := ok'
    by_cases bad : (inR n0 1 5 && (inR a 0 255 && (inR b 0 255 && (inR c5 0 255 && (inR d5 0 255 && inR e5 0 255))))) = false
    · refine ⟨(-2), _, ok, ?_, ?_⟩
      · intro d h K
        refine ⟨h, ?_, K, FrC.rf h⟩
        rw [e_88]
        simp only [dR_ref, dA_ref, dA_null, dN_ref, dN_null, dD_ref, dD_int, cI_s, cV_s, cR_r, cR_n, cJ_s, bI_0, bI_1, zr_bI, zr_0, zr_1, eq_self, if_true, if_false, i10, i20, i01, i21, i02, i12, ior0, iad0, Bool.true_eq_false, Bool.false_eq_true, c_133, c_134]
        revert bad
        cases inR n0 1 5 <;> cases inR a 0 255 <;> cases inR b 0 255 <;> cases inR c5 0 255 <;> cases inR d5 0 255 <;> cases inR e5 0 255 <;> intro bad <;> first | rfl | cases bad
      · intro d h K
        refine ⟨h, ?_, K, Fr.rf h⟩
        rw [e_179]
        simp only [dR_ref, dA_ref, dA_null, dN_ref, dN_null, dD_ref, dD_int, cI_s, cV_s, cR_r, cR_n, cJ_s, bI_0, bI_1, zr_bI, zr_0, zr_1, eq_self, if_true, if_false, i10, i20, i01, i21, i02, i12, ior0, iad0, Bool.true_eq_false, Bool.false_eq_true, r_166, r_178]
        revert bad
        cases inR n0 1 5 <;> cases inR a 0 255 <;> cases inR b 0 255 <;> cases inR c5 0 255 <;> cases inR d5 0 255 <;> cases inR e5 0 255 <;> intro bad <;> first | rfl | cases bad
    · have g : inR n0 1 5 = true ∧ inR a 0 255 = true ∧ inR b 0 255 = true ∧ inR c5 0 255 = true ∧ inR d5 0 255 = true ∧ inR e5 0 255 = true := by
        revert bad
        cases inR n0 1 5 <;> cases inR a 0 255 <;> cases inR b 0 255 <;> cases inR c5 0 255 <;> cases inR d5 0 255 <;> cases inR e5 0 255 <;> simp
      obtain ⟨g0, g1, g2, g3, g4, g5⟩ := g
      have y2 : ¬ n0 < 1 ∧ ¬ 5 < n0 := by simpa [inR] using g0
      obtain ⟨n, hn, rfl⟩ := nI_of (fun z => y2.1 (Int32.lt_trans z (by decide)))
      have n1 : 0 < n := by
        rcases Nat.eq_zero_or_pos n with q | q
        · subst q; exact absurd (show nI 0 < (1 : Int32) by decide) y2.1
        · exact q
      have n2 : n ≤ 5 := by
        rcases Nat.lt_or_ge 5 n with q | q
        · exact absurd (show (5 : Int32) < nI n from nI_lt (a := 5) q hn) y2.2
        · exact q
      obtain ⟨a, ha, rfl⟩ := inR_of (n := 255) (by decide) g1
      obtain ⟨b, hb, rfl⟩ := inR_of (n := 255) (by decide) g2
      obtain ⟨c5, hc, rfl⟩ := inR_of (n := 255) (by decide) g3
      obtain ⟨d5, hd, rfl⟩ := inR_of (n := 255) (by decide) g4
      obtain ⟨e5, he, rfl⟩ := inR_of (n := 255) (by decide) g5
      by_cases full : 160 < tp.length + n
      · refine ⟨(-4), _, ok, ?_, ?_⟩
        · intro d h K
          refine ⟨h, ?_, K, FrC.rf h⟩
          obtain ⟨ps, H, _, _, _, _, ⟨x, y, z, bs, tk, pl, it, t1, _⟩, _⟩ := K
          have q0 : ∀ k : Int32 → MRes, gfI none h 7 [9] 0 k = k (nI tp.length) := fun k => gfI_at t1 rfl rfl k
          rw [e_88]
          simp only [H.o0, H.o1, H.o2, H.o3, H.o4, H.o5, H.o6, H.o7, H.o8, H.o9, H.o10, H.b0, H.b1, H.b2, H.b3, H.b4, H.v3, H.v4, dR_ref, dA_ref, dA_null, dN_ref, dN_null, dD_ref, dD_int, cI_s, cV_s, cR_r, cR_n, cJ_s, bI_0, bI_1, zr_bI, zr_0, zr_1, eq_self, if_true, if_false, i10, i20, i01, i21, i02, i12, ior0, iad0, Bool.true_eq_false, Bool.false_eq_true, c_133, c_134, g0, g1, g2, g3, g4, g5, q0, show (160 : Int32) = nI 160 from rfl, pk_sub o5, if_pos (nI_lt (show 160 - tp.length < n by omega) (show n < 2 ^ 31 by omega))]
        · intro d h K
          refine ⟨h, ?_, K, Fr.rf h⟩
          obtain ⟨F, A, H, k1, k2, k3, _⟩ := K
          rw [e_179]
          simp only [dR_ref, dA_ref, dA_null, dN_ref, dN_null, dD_ref, dD_int, cI_s, cV_s, cR_r, cR_n, cJ_s, bI_0, bI_1, zr_bI, zr_0, zr_1, eq_self, if_true, if_false, i10, i20, i01, i21, i02, i12, ior0, iad0, Bool.true_eq_false, Bool.false_eq_true, r_166, r_178, g0, g1, g2, g3, g4, g5, H.1.f8, k2.1, nI_add, show (160 : Int32) = nI 160 from rfl, if_pos (nI_lt full (show tp.length + n < 2 ^ 31 by omega))]
      · refine ⟨(nI (tp.length + n)), (c, w, B, hs, L, Ts, tp ++ [a, b, c5, d5, e5].take n, im, sh), ⟨oB, oL, o3, o4, ?_, ?_, o7, o8, o9, ob⟩, ?_, ?_⟩
        · show (tp ++ [a, b, c5, d5, e5].take n).length ≤ 160
          rw [List.length_append, List.length_take]
          have : [a, b, c5, d5, e5].length = 5 := rfl
          omega
        · intro x hx
          rcases List.mem_append.1 hx with z | z
          · exact o6 x z
          · have := List.mem_of_mem_take z
            simp only [List.mem_cons, List.not_mem_nil, or_false] at this
            omega
        · intro d h K
          have K0 := K
          have fin : ∀ (h : MHeap) (m : Nat) (tp' : List Nat), CV h (c, w, B, hs, L, Ts, tp', im, sh) → tp'.length = m → ex (d + 199) 88 131 [sv (.ref 3), sv (.int (nI n)), sv (.int (nI a)), sv (.int (nI b)), sv (.int (nI c5)), sv (.int (nI d5)), sv (.int (nI e5))] [] h = some (some (.int (nI m)), h) := by
            intro h m tp' K hm
            obtain ⟨ps, H, _, _, _, _, ⟨x, y, z, bs, tk, pl, it, t1, _⟩, _⟩ := K
            have q0 : ∀ k : Int32 → MRes, gfI none h 7 [9] 0 k = k (nI tp'.length) := fun k => gfI_at t1 rfl rfl k
            rw [e_88_131, H.o2, dR_ref, q0, hm]
          obtain ⟨ps, H, _, _, _, _, ⟨x, y, z, bs, tk, pl, it, t1, _⟩, _⟩ := K
          have q0 : ∀ k : Int32 → MRes, gfI none h 7 [9] 0 k = k (nI tp.length) := fun k => gfI_at t1 rfl rfl k
          have o2' : ∀ (h : MHeap) (tp' : List Nat), CV h (c, w, B, hs, L, Ts, tp', im, sh) → (∀ k : Value → MRes, gfV none h 3 [11] 2 k = k (.ref 7)) ∧ ∀ k : Nat → MRes, vd none h 7 [9, 54] k = k 54 := by
            intro h tp' K
            obtain ⟨ps, H, _, _, _, _, ⟨x, y, z, bs, tk, pl, it, t1, _⟩, _⟩ := K
            exact ⟨H.o2, fun k => vd_at t1 rfl k⟩
          have ro : ∀ (h h1 : MHeap), (∀ a : Nat, a ≠ 7 → a ≠ 8 → h1[a]? = h[a]?) → h1.length = h.length → FrC h h1 := fun h h1 e l => ⟨fun a ha => e a (by omega) (by omega), by omega, by omega⟩
          rw [e_88]
          simp only [H.o0, H.o1, H.o2, H.o3, H.o4, H.o5, H.o6, H.o7, H.o8, H.o9, H.o10, H.b0, H.b1, H.b2, H.b3, H.b4, H.v3, H.v4, dR_ref, dA_ref, dA_null, dN_ref, dN_null, dD_ref, dD_int, cI_s, cV_s, cR_r, cR_n, cJ_s, bI_0, bI_1, zr_bI, zr_0, zr_1, eq_self, if_true, if_false, i10, i20, i01, i21, i02, i12, ior0, iad0, Bool.true_eq_false, Bool.false_eq_true, c_133, c_134, g0, g1, g2, g3, g4, g5, q0, show (160 : Int32) = nI 160 from rfl, pk_sub o5, if_neg (nI_nlt (show n ≤ 160 - tp.length by omega) (show 160 - tp.length < 2 ^ 31 by omega))]
          have V0 := o2' h tp K0
          obtain ⟨h1, p1, K1, f1, l1⟩ := K0.put (by omega) a
          have V1 := o2' h1 _ K1
          rw [V0.2, p1 (d + 197), cV_s]
          by_cases n_1 : n = 1
          · subst n_1
            rw [if_neg (by decide), if_neg (by decide), if_neg (by decide), if_neg (by decide), fin h1 (tp.length + 1) _ K1 (by simp)]
            refine ⟨h1, rfl, ?_, ro h h1 (fun a ha hb => f1 a ha hb) (by omega)⟩
            have eT : tp ++ [a, b, c5, d5, e5].take 1 = tp ++ [a] := by simp
            rw [eT]; exact K1
          by_cases n_2 : n = 2
          · subst n_2
            obtain ⟨h2, p2, K2, f2, l2⟩ := K1.put (by simp only [List.length_append, List.length_cons, List.length_nil]; omega) b
            have V2 := o2' h2 _ K2
            rw [if_pos (by decide), V1.1, dR_ref, V1.2, p2 (d + 197), cV_s, if_neg (by decide), if_neg (by decide), if_neg (by decide), fin h2 (tp.length + 2) _ K2 (by simp)]
            refine ⟨h2, rfl, ?_, ro h h2 (fun a ha hb => (f2 a ha hb).trans (f1 a ha hb)) (by omega)⟩
            have eT : tp ++ [a, b, c5, d5, e5].take 2 = tp ++ [a] ++ [b] := by simp
            rw [eT]; exact K2
          by_cases n_3 : n = 3
          · subst n_3
            obtain ⟨h2, p2, K2, f2, l2⟩ := K1.put (by simp only [List.length_append, List.length_cons, List.length_nil]; omega) b
            have V2 := o2' h2 _ K2
            obtain ⟨h3, p3, K3, f3, l3⟩ := K2.put (by simp only [List.length_append, List.length_cons, List.length_nil]; omega) c5
            have V3 := o2' h3 _ K3
            rw [if_pos (by decide), V1.1, dR_ref, V1.2, p2 (d + 197), cV_s, if_pos (by decide), V2.1, dR_ref, V2.2, p3 (d + 197), cV_s, if_neg (by decide), if_neg (by decide), fin h3 (tp.length + 3) _ K3 (by simp)]
            refine ⟨h3, rfl, ?_, ro h h3 (fun a ha hb => ((f3 a ha hb).trans (f2 a ha hb)).trans (f1 a ha hb)) (by omega)⟩
            have eT : tp ++ [a, b, c5, d5, e5].take 3 = tp ++ [a] ++ [b] ++ [c5] := by simp
            rw [eT]; exact K3
          by_cases n_4 : n = 4
          · subst n_4
            obtain ⟨h2, p2, K2, f2, l2⟩ := K1.put (by simp only [List.length_append, List.length_cons, List.length_nil]; omega) b
            have V2 := o2' h2 _ K2
            obtain ⟨h3, p3, K3, f3, l3⟩ := K2.put (by simp only [List.length_append, List.length_cons, List.length_nil]; omega) c5
            have V3 := o2' h3 _ K3
            obtain ⟨h4, p4, K4, f4, l4⟩ := K3.put (by simp only [List.length_append, List.length_cons, List.length_nil]; omega) d5
            have V4 := o2' h4 _ K4
            rw [if_pos (by decide), V1.1, dR_ref, V1.2, p2 (d + 197), cV_s, if_pos (by decide), V2.1, dR_ref, V2.2, p3 (d + 197), cV_s, if_pos (by decide), V3.1, dR_ref, V3.2, p4 (d + 197), cV_s, if_neg (by decide), fin h4 (tp.length + 4) _ K4 (by simp)]
            refine ⟨h4, rfl, ?_, ro h h4 (fun a ha hb => (((f4 a ha hb).trans (f3 a ha hb)).trans (f2 a ha hb)).trans (f1 a ha hb)) (by omega)⟩
            have eT : tp ++ [a, b, c5, d5, e5].take 4 = tp ++ [a] ++ [b] ++ [c5] ++ [d5] := by simp
            rw [eT]; exact K4
          by_cases n_5 : n = 5
          · subst n_5
            obtain ⟨h2, p2, K2, f2, l2⟩ := K1.put (by simp only [List.length_append, List.length_cons, List.length_nil]; omega) b
            have V2 := o2' h2 _ K2
            obtain ⟨h3, p3, K3, f3, l3⟩ := K2.put (by simp only [List.length_append, List.length_cons, List.length_nil]; omega) c5
            have V3 := o2' h3 _ K3
            obtain ⟨h4, p4, K4, f4, l4⟩ := K3.put (by simp only [List.length_append, List.length_cons, List.length_nil]; omega) d5
            have V4 := o2' h4 _ K4
            obtain ⟨h5, p5, K5, f5, l5⟩ := K4.put (by simp only [List.length_append, List.length_cons, List.length_nil]; omega) e5
            have V5 := o2' h5 _ K5
            rw [if_pos (by decide), V1.1, dR_ref, V1.2, p2 (d + 197), cV_s, if_pos (by decide), V2.1, dR_ref, V2.2, p3 (d + 197), cV_s, if_pos (by decide), V3.1, dR_ref, V3.2, p4 (d + 197), cV_s, if_pos (by decide), V4.1, dR_ref, V4.2, p5 (d + 197), cV_s, fin h5 (tp.length + 5) _ K5 (by simp)]
            refine ⟨h5, rfl, ?_, ro h h5 (fun a ha hb => ((((f5 a ha hb).trans (f4 a ha hb)).trans (f3 a ha hb)).trans (f2 a ha hb)).trans (f1 a ha hb)) (by omega)⟩
            have eT : tp ++ [a, b, c5, d5, e5].take 5 = tp ++ [a] ++ [b] ++ [c5] ++ [d5] ++ [e5] := by simp
            rw [eT]; exact K5
          omega
        · intro d h K
          obtain ⟨F, A, H, K⟩ := K
          rw [e_179]
          simp only [dR_ref, dA_ref, dA_null, dN_ref, dN_null, dD_ref, dD_int, cI_s, cV_s, cR_r, cR_n, cJ_s, bI_0, bI_1, zr_bI, zr_0, zr_1, eq_self, if_true, if_false, i10, i20, i01, i21, i02, i12, ior0, iad0, Bool.true_eq_false, Bool.false_eq_true, r_166, r_178, g0, g1, g2, g3, g4, g5, H.1.f8, K.2.1.1, nI_add, show (160 : Int32) = nI 160 from rfl, if_neg (nI_nlt (show tp.length + n ≤ 160 by omega) (show 160 < 2 ^ 31 by decide))]
          have key : ∀ i, i ≤ n → ∀ h1 F1 A1, RB h1 F1 A1 c w (nI B) hs → RVr F1 A1 L Ts (tp ++ [a, b, c5, d5, e5].take i) im sh → Fr h h1 → ∃ h2, ex (d + 199) 179 68 [sv (.ref 28), sv (.int (nI n)), sv (.int (nI a)), sv (.int (nI b)), sv (.int (nI c5)), sv (.int (nI d5)), sv (.int (nI e5)), sv (.int (nI i))] [] h1 = some (some (.int (nI (tp.length + n))), h2) ∧ RV h2 (c, w, B, hs, L, Ts, tp ++ [a, b, c5, d5, e5].take n, im, sh) ∧ Fr h h2 := by
            intro i hi
            refine up_ind (n := n) (P := fun i => ∀ h1 F1 A1, RB h1 F1 A1 c w (nI B) hs → RVr F1 A1 L Ts (tp ++ [a, b, c5, d5, e5].take i) im sh → Fr h h1 → ∃ h2, ex (d + 199) 179 68 [sv (.ref 28), sv (.int (nI n)), sv (.int (nI a)), sv (.int (nI b)), sv (.int (nI c5)), sv (.int (nI d5)), sv (.int (nI e5)), sv (.int (nI i))] [] h1 = some (some (.int (nI (tp.length + n))), h2) ∧ RV h2 (c, w, B, hs, L, Ts, tp ++ [a, b, c5, d5, e5].take n, im, sh) ∧ Fr h h2) ?_ ?_ hi
            · intro h1 F1 A1 H1 K1 G1
              refine ⟨h1, ?_, ⟨F1, A1, H1, K1⟩, G1⟩
              rw [e_179_68, if_neg (nI_nlt (Nat.le_refl _) (by omega)), H1.1.f8, K1.2.1.1]
              simp only [List.length_append, List.length_take, List.length_cons, List.length_nil]
              rw [Nat.min_eq_left (by omega)]
            · intro i hi ih h1 F1 A1 H1 K1 G1
              have ln : (tp ++ [a, b, c5, d5, e5].take i).length = tp.length + i := by
                simp only [List.length_append, List.length_take, List.length_cons, List.length_nil]
                rw [Nat.min_eq_left (by omega)]
              rw [e_179_68, if_pos (nI_lt hi (by omega)), H1.1.f7, H1.1.f8, K1.2.1.1]
              rcases (show i = 0 ∨ i = 1 ∨ i = 2 ∨ i = 3 ∨ i = 4 by omega) with z | z | z | z | z <;> subst z
              · obtain ⟨h2, h3, F3, A3, p1, p2, p3, H3, K3, G3⟩ := RV.put H1 K1 (by omega) a
                rw [if_pos (by decide), dR_ref, p1, p2, nI_1, p3, nI_1]
                refine ih h3 F3 A3 H3 ?_ (G1.tr G3)
                have eT : tp ++ [a, b, c5, d5, e5].take (0 + 1) = (tp ++ [a, b, c5, d5, e5].take 0) ++ [a] := by simp
                rw [eT]; exact K3
              · obtain ⟨h2, h3, F3, A3, p1, p2, p3, H3, K3, G3⟩ := RV.put H1 K1 (by omega) b
                rw [if_neg (by decide), if_pos (by decide), dR_ref, p1, p2, nI_1, p3, nI_1]
                refine ih h3 F3 A3 H3 ?_ (G1.tr G3)
                have eT : tp ++ [a, b, c5, d5, e5].take (1 + 1) = (tp ++ [a, b, c5, d5, e5].take 1) ++ [b] := by simp
                rw [eT]; exact K3
              · obtain ⟨h2, h3, F3, A3, p1, p2, p3, H3, K3, G3⟩ := RV.put H1 K1 (by omega) c5
                rw [if_neg (by decide), if_neg (by decide), if_pos (by decide), dR_ref, p1, p2, nI_1, p3, nI_1]
                refine ih h3 F3 A3 H3 ?_ (G1.tr G3)
                have eT : tp ++ [a, b, c5, d5, e5].take (2 + 1) = (tp ++ [a, b, c5, d5, e5].take 2) ++ [c5] := by simp
                rw [eT]; exact K3
              · obtain ⟨h2, h3, F3, A3, p1, p2, p3, H3, K3, G3⟩ := RV.put H1 K1 (by omega) d5
                rw [if_neg (by decide), if_neg (by decide), if_neg (by decide), if_pos (by decide), dR_ref, p1, p2, nI_1, p3, nI_1]
                refine ih h3 F3 A3 H3 ?_ (G1.tr G3)
                have eT : tp ++ [a, b, c5, d5, e5].take (3 + 1) = (tp ++ [a, b, c5, d5, e5].take 3) ++ [d5] := by simp
                rw [eT]; exact K3
              · obtain ⟨h2, h3, F3, A3, p1, p2, p3, H3, K3, G3⟩ := RV.put H1 K1 (by omega) e5
                rw [if_neg (by decide), if_neg (by decide), if_neg (by decide), if_neg (by decide), dR_ref, p1, p2, nI_1, p3, nI_1]
                refine ih h3 F3 A3 H3 ?_ (G1.tr G3)
                have eT : tp ++ [a, b, c5, d5, e5].take (4 + 1) = (tp ++ [a, b, c5, d5, e5].take 4) ++ [e5] := by simp
                rw [eT]; exact K3
          exact key 0 (by omega) h F A H (by simpa using K) (Fr.rf h)
