/-! the class as it begins -/
theorem c_s1 {h : MHeap} (T : h[1]? = some (98, tx1.map .int)) (d : Nat) : call (d + 4) 1004 [.ref 1] h = some (some (.int (nI 37)), h) := by
  show (bif Nat.ble 3 (d + 3) then prm 4 [.ref 1] h else none) = _
  rw [show Nat.ble 3 (d + 3) = true from Nat.ble_eq_true_of_le (by omega)]
  show prm 4 [.ref 1] h = _
  simp only [prm, slen, T]
  rfl
theorem c_sc1 {h : MHeap} (T : h[1]? = some (98, tx1.map .int)) {i : Nat} (hi : i < 37) (d : Nat) : call (d + 7) 1005 [.ref 1, .int (nI i)] h = some (some (.int (nI (by1 tpi i))), h) := by
  show (bif Nat.ble 6 (d + 6) then prm 5 [.ref 1, .int (nI i)] h else none) = _
  rw [show Nat.ble 6 (d + 6) = true from Nat.ble_eq_true_of_le (by omega)]
  show sch none h 1 (nI i) _ = _
  have g : (tx1.map Value.int)[i]? = some (.int (nI (by1 tpi i))) := by
    have l : tx1.length = 37 := rfl
    rw [← tpi_ok i hi, List.getElem?_map, List.getD_eq_getElem?_getD, List.getElem?_eq_getElem (by omega)]
    rfl
  simp only [sch, T, nI_clamp (show i < 2 ^ 31 by omega), nI_pos (show i < 2 ^ 31 by omega), g]
  rw [if_pos (by simp)]
def CF (x0 : MCell) (h' : MHeap) : Prop := h'.length = 28 ∧ h'[0]? = some x0 ∧ ∀ h2 : MHeap, (∀ a : Nat, 0 < a → a < 28 → h2[a]? = h'[a]?) → h2.length = 45 → CV h2 s0
theorem mrp (n : Nat) : List.replicate n (Value.int 0) = (List.replicate n (0 : Int32)).map .int := by rw [List.map_replicate]
theorem c83_end (x0 : MCell) (d : Nat) : ∀ (m i : Nat) (h : MHeap) (bs : List Int32), i + m = 37 → h[7]? = some (c7 i 0 0 0) → arr h 8 bs 160 → (∀ k, k < i → bs.getD k 0 = nI (by1 tpi k)) → h.length = 26 → (∀ a : Nat, a ≠ 7 → a ≠ 8 → h[a]? = (cH1 x0)[a]?) → ∃ h', ex (d + 100) 83 120 [sv (.ref 3), sv (.int (nI i))] [] h = some (none, h') ∧ CF x0 h' := by
  intro m
  induction m with
  | zero =>
    intro i h bs hi t7 t8 tb hl hf
    have i37 : i = 37 := hi
    subst i37
    have t1 : h[1]? = some (98, tx1.map .int) := (hf 1 (by decide) (by decide)).trans rfl
    have t3 : h[3]? = some (c3 0 0) := (hf 3 (by decide) (by decide)).trans rfl
    have v1 : ∀ (m : Nat) (k : Nat → MRes), vd none h 1 [98, m] k = k m := fun m k => vd_at t1 rfl k
    have v7 : ∀ (m : Nat) (k : Nat → MRes), vd none h 7 [9, m] k = k m := fun m k => vd_at t7 rfl k
    have g2 : ∀ k : Value → MRes, gfV none h 3 [11] 2 k = k (.ref 7) := fun k => gfV_at t3 rfl rfl k
    have g3 : ∀ k : Value → MRes, gfV none h 3 [11] 3 k = k (.ref 12) := fun k => gfV_at t3 rfl rfl k
    obtain ⟨h1, c1, ⟨x', z', tk', pl', it', u7, u9, u10, u11, up⟩, f1, n1, s1⟩ := c_57 (tp := tpi) t7 t8 tb ((hf 2 (by decide) (by decide)).trans rfl) (tk := List.replicate 161 0) (pl := List.replicate 161 0) (it := List.replicate 160 0) ⟨(hf 9 (by decide) (by decide)).trans (by rw [← mrp]; rfl), List.length_replicate⟩ ⟨(hf 10 (by decide) (by decide)).trans (by rw [← mrp]; rfl), List.length_replicate⟩ ⟨(hf 11 (by decide) (by decide)).trans (by rw [← mrp]; rfl), List.length_replicate⟩ (by decide) (by decide) tx_T0 d
    obtain ⟨ln, m1, m2⟩ := s1 T0 rfl
    rw [hl] at ln m1 m2
    have c1 : call (d + 100) 57 [.ref 7] h = some (some (.ref 26), h1) := by rw [c1, hl]; rfl
    have fe : ∀ a : Nat, a < 26 → a ≠ 7 → a ≠ 8 → a ≠ 9 → a ≠ 10 → a ≠ 11 → h1[a]? = (cH1 x0)[a]? := fun a z1 z2 z3 z4 z5 z6 => (f1 a (by omega) z2 z4 z5 z6).trans (hf a z2 z3)
    have l12 : h1[12]? = some (102, List.replicate 6 Value.null) := (fe 12 (by decide) (by decide) (by decide) (by decide) (by decide) (by decide)).trans rfl
    have as12 : ∀ k : MHeap → MRes, asV none h1 12 0 (.ref 26) k = k (h1.set 12 (c12 [26])) := by
      intro k
      simp only [asV, l12, m1]
      rfl
    -- the object, the tape, the row of texts behind it
    have b3 : (h1.set 12 (c12 [26]))[3]? = some (c3 0 0) := by rw [gset_ne _ (by decide)]; exact (fe 3 (by decide) (by decide) (by decide) (by decide) (by decide) (by decide)).trans rfl
    have b7 : (h1.set 12 (c12 [26]))[7]? = some (c7 37 x' (nI 11) z') := by rw [gset_ne _ (by decide)]; exact u7
    have b12 : (h1.set 12 (c12 [26]))[12]? = some (c12 [26]) := gset l12 _
    have be : ∀ a : Nat, a ≠ 12 → (h1.set 12 (c12 [26]))[a]? = h1[a]? := fun a ha => gset_ne _ (fun e => ha e.symm)
    have bl : (h1.set 12 (c12 [26])).length = 28 := by rw [List.length_set, ln]
    generalize h1.set 12 (c12 [26]) = hA at *
    have c55 : call (d + 100) 55 [.ref 7] hA = some (none, hA.set 7 (c7 0 x' (nI 11) z')) := by
      rw [e_55, pfI_at b7 rfl (by show 0 < 8; decide)]
      rfl
    have w7 : (hA.set 7 (c7 0 x' (nI 11) z'))[7]? = some (c7 0 x' (nI 11) z') := gset b7 _
    have we : ∀ a : Nat, a ≠ 7 → (hA.set 7 (c7 0 x' (nI 11) z'))[a]? = hA[a]? := fun a ha => gset_ne _ (fun e => ha e.symm)
    have wl : (hA.set 7 (c7 0 x' (nI 11) z')).length = 28 := by rw [List.length_set, bl]
    have g2A : ∀ k : Value → MRes, gfV none hA 3 [11] 2 k = k (.ref 7) := fun k => gfV_at b3 rfl rfl k
    have v7A : ∀ (m : Nat) (k : Nat → MRes), vd none hA 7 [9, m] k = k m := fun m k => vd_at b7 rfl k
    generalize hA.set 7 (c7 0 x' (nI 11) z') = hB at *
    have w3 : hB[3]? = some (c3 0 0) := (we 3 (by decide)).trans b3
    have q4 : ∀ k : MHeap → MRes, pfI none hB 3 [11] 4 1 k = k (hB.set 3 (c3 1 0)) := fun k => pfI_at w3 rfl (by show 4 < 11; decide) _ k
    have y3 : (hB.set 3 (c3 1 0))[3]? = some (c3 1 0) := gset w3 _
    have q5 : ∀ k : MHeap → MRes, pfI none (hB.set 3 (c3 1 0)) 3 [11] 5 0 k = k ((hB.set 3 (c3 1 0)).set 3 (c3 1 0)) := fun k => pfI_at y3 rfl (by show 5 < 11; decide) _ k
    refine ⟨(hB.set 3 (c3 1 0)).set 3 (c3 1 0), ?_, ?_⟩
    · rw [e_83_120, v1, c_s1 t1 (d + 96), cI_s, if_neg (show ¬ nI 37 < nI 37 by decide), g3, g2, dR_ref, v7, c1, cR_r, dR_ref, as12, g2A, dR_ref, v7A, c55, cV_s, q4, q5]
    · have z3 : ((hB.set 3 (c3 1 0)).set 3 (c3 1 0))[3]? = some (c3 1 0) := gset y3 _
      have ze : ∀ a : Nat, a ≠ 3 → ((hB.set 3 (c3 1 0)).set 3 (c3 1 0))[a]? = hB[a]? := fun a ha => by rw [gset_ne _ (fun e => ha e.symm), gset_ne _ (fun e => ha e.symm)]
      have zl : ((hB.set 3 (c3 1 0)).set 3 (c3 1 0)).length = 28 := by rw [List.length_set, List.length_set, wl]
      generalize (hB.set 3 (c3 1 0)).set 3 (c3 1 0) = hC at *
      have fC : ∀ a : Nat, a < 26 → a ≠ 3 → a ≠ 7 → a ≠ 8 → a ≠ 9 → a ≠ 10 → a ≠ 11 → a ≠ 12 → hC[a]? = (cH1 x0)[a]? := fun a y1 y2 y3 y4 y5 y6 y7 y8 => (ze a y2).trans ((we a y3).trans ((be a y8).trans (fe a y1 y3 y4 y5 y6 y7)))
      refine ⟨zl, (fC 0 (by decide) (by decide) (by decide) (by decide) (by decide) (by decide) (by decide) (by decide)).trans rfl, fun h2 e2 l2 => ?_⟩
      have f2 : ∀ a : Nat, 0 < a → a < 26 → a ≠ 3 → a ≠ 7 → a ≠ 8 → a ≠ 9 → a ≠ 10 → a ≠ 11 → a ≠ 12 → h2[a]? = (cH1 x0)[a]? := fun a y0 y1 y2 y3 y4 y5 y6 y7 y8 => (e2 a y0 (by omega)).trans (fC a y1 y2 y3 y4 y5 y6 y7 y8)
      have x26 : h2[26]? = _ := (e2 26 (by decide) (by decide)).trans ((ze 26 (by decide)).trans ((we 26 (by decide)).trans ((be 26 (by decide)).trans m1)))
      have x27 : h2[27]? = _ := (e2 27 (by decide) (by decide)).trans ((ze 27 (by decide)).trans ((we 27 (by decide)).trans ((be 27 (by decide)).trans m2)))
      have x8 : h2[8]? = h[8]? := (e2 8 (by decide) (by decide)).trans ((ze 8 (by decide)).trans ((we 8 (by decide)).trans ((be 8 (by decide)).trans (f1 8 (by omega) (by decide) (by decide) (by decide) (by decide)))))
      have x9 : h2[9]? = h1[9]? := (e2 9 (by decide) (by decide)).trans ((ze 9 (by decide)).trans ((we 9 (by decide)).trans (be 9 (by decide))))
      have x10 : h2[10]? = h1[10]? := (e2 10 (by decide) (by decide)).trans ((ze 10 (by decide)).trans ((we 10 (by decide)).trans (be 10 (by decide))))
      have x11 : h2[11]? = h1[11]? := (e2 11 (by decide) (by decide)).trans ((ze 11 (by decide)).trans ((we 11 (by decide)).trans (be 11 (by decide))))
      have x12 : h2[12]? = some (c12 [26]) := (e2 12 (by decide) (by decide)).trans ((ze 12 (by decide)).trans ((we 12 (by decide)).trans b12))
      have x7 : h2[7]? = some (c7 0 x' (nI 11) z') := (e2 7 (by decide) (by decide)).trans ((ze 7 (by decide)).trans w7)
      have rp : ∀ (a n : Nat), (cH1 x0)[a]? = some (100, List.replicate n (.int 0)) → 0 < a → a < 26 → a ≠ 3 → a ≠ 7 → a ≠ 8 → a ≠ 9 → a ≠ 10 → a ≠ 11 → a ≠ 12 → h2[a]? = some (100, (List.replicate n (0 : Int32)).map .int) := fun a n e y0 y1 y2 y3 y4 y5 y6 y7 y8 => by rw [f2 a y0 y1 y2 y3 y4 y5 y6 y7 y8, e, mrp]
      refine ⟨[], ⟨by decide, (e2 3 (by decide) (by decide)).trans z3, (f2 4 (by decide) (by decide) (by decide) (by decide) (by decide) (by decide) (by decide) (by decide) (by decide)).trans rfl, (f2 5 (by decide) (by decide) (by decide) (by decide) (by decide) (by decide) (by decide) (by decide) (by decide)).trans rfl, rfl, fun i e he => (by cases he)⟩, fun p hp => (by cases hp), List.nodup_nil, ⟨List.replicate 299 0, List.replicate 33 0, List.replicate 6 0, List.replicate 160 0, ⟨rp 22 299 rfl (by decide) (by decide) (by decide) (by decide) (by decide) (by decide) (by decide) (by decide) (by decide), List.length_replicate⟩, ⟨rp 23 33 rfl (by decide) (by decide) (by decide) (by decide) (by decide) (by decide) (by decide) (by decide) (by decide), List.length_replicate⟩, ⟨rp 24 6 rfl (by decide) (by decide) (by decide) (by decide) (by decide) (by decide) (by decide) (by decide) (by decide), List.length_replicate⟩, ⟨rp 25 160 rfl (by decide) (by decide) (by decide) (by decide) (by decide) (by decide) (by decide) (by decide) (by decide), List.length_replicate⟩⟩, (f2 6 (by decide) (by decide) (by decide) (by decide) (by decide) (by decide) (by decide) (by decide) (by decide)).trans rfl, ⟨x', nI 11, z', bs, tk', pl', it', x7, ⟨x8.trans t8.1, t8.2⟩, fun i hi => (by cases hi), ⟨x9.trans u9.1, u9.2⟩, ⟨x10.trans u10.1, u10.2⟩, ⟨x11.trans u11.1, u11.2⟩⟩, ⟨[26], x12, rfl, fun i T hT => ?_⟩, ⟨(f2 13 (by decide) (by decide) (by decide) (by decide) (by decide) (by decide) (by decide) (by decide) (by decide)).trans rfl, fun s hs => ?_⟩, ⟨(f2 1 (by decide) (by decide) (by decide) (by decide) (by decide) (by decide) (by decide) (by decide) (by decide)).trans rfl, (f2 2 (by decide) (by decide) (by decide) (by decide) (by decide) (by decide) (by decide) (by decide) (by decide)).trans rfl⟩, ?_, by omega⟩
      · have i0 : i < 1 := (List.getElem?_eq_some_iff.1 hT).1
        have i0 : i = 0 := by omega
        subst i0
        cases hT
        exact ⟨26, 27, rfl, x26, x27, Or.inl rfl, Or.inl rfl⟩
      · rcases (show s = 0 ∨ s = 1 ∨ s = 2 ∨ s = 3 by omega) with z | z | z | z <;> subst z
        · exact ⟨(f2 14 (by decide) (by decide) (by decide) (by decide) (by decide) (by decide) (by decide) (by decide) (by decide)).trans rfl, rp 15 40 rfl (by decide) (by decide) (by decide) (by decide) (by decide) (by decide) (by decide) (by decide) (by decide), List.length_replicate⟩
        · exact ⟨(f2 16 (by decide) (by decide) (by decide) (by decide) (by decide) (by decide) (by decide) (by decide) (by decide)).trans rfl, rp 17 40 rfl (by decide) (by decide) (by decide) (by decide) (by decide) (by decide) (by decide) (by decide) (by decide), List.length_replicate⟩
        · exact ⟨(f2 18 (by decide) (by decide) (by decide) (by decide) (by decide) (by decide) (by decide) (by decide) (by decide)).trans rfl, rp 19 40 rfl (by decide) (by decide) (by decide) (by decide) (by decide) (by decide) (by decide) (by decide) (by decide), List.length_replicate⟩
        · exact ⟨(f2 20 (by decide) (by decide) (by decide) (by decide) (by decide) (by decide) (by decide) (by decide) (by decide)).trans rfl, rp 21 40 rfl (by decide) (by decide) (by decide) (by decide) (by decide) (by decide) (by decide) (by decide) (by decide), List.length_replicate⟩
      · intro a t ys ha hy
        have al := (List.getElem?_eq_some_iff.1 hy).1
        rcases (show a = 26 ∨ a = 27 by omega) with z | z
        · rw [z, x26] at hy
          cases hy
          show 3 ≤ 160
          decide
        · rw [z, x27] at hy
          cases hy
          show 5 ≤ 160
          decide
  | succ m ih =>
    intro i h bs hi t7 t8 tb hl hf
    have t1 : h[1]? = some (98, tx1.map .int) := (hf 1 (by decide) (by decide)).trans rfl
    have t3 : h[3]? = some (c3 0 0) := (hf 3 (by decide) (by decide)).trans rfl
    have v1 : ∀ (m : Nat) (k : Nat → MRes), vd none h 1 [98, m] k = k m := fun m k => vd_at t1 rfl k
    have v7 : ∀ (m : Nat) (k : Nat → MRes), vd none h 7 [9, m] k = k m := fun m k => vd_at t7 rfl k
    have g2 : ∀ k : Value → MRes, gfV none h 3 [11] 2 k = k (.ref 7) := fun k => gfV_at t3 rfl rfl k
    obtain ⟨h', e, K⟩ := ih (i + 1) ((h.set 8 (100, (bs.set i (nI (by1 tpi i))).map .int)).set 7 (c7 (i + 1) 0 0 0)) (bs.set i (nI (by1 tpi i))) (by omega) (gset (y := c7 i 0 0 0) (by rw [gset_ne _ (by decide)]; exact t7) _) ⟨by rw [gset_ne _ (by decide)]; exact gset t8.1 _, by rw [List.length_set]; exact t8.2⟩ (fun k hk => by
      rw [getD_set (by rw [t8.2]; omega)]
      by_cases z : k = i
      · rw [if_pos z, z]
      · rw [if_neg z]; exact tb k (by omega)) (by rw [List.length_set, List.length_set]; exact hl) (fun a z1 z2 => by rw [gset_ne _ (fun e => z1 e.symm), gset_ne _ (fun e => z2 e.symm)]; exact hf a z1 z2)
    refine ⟨h', ?_, K⟩
    rw [e_83_120, v1, c_s1 t1 (d + 96), cI_s, if_pos (nI_lt (by omega) (by decide)), g2, v1, c_sc1 t1 (by omega) (d + 93), cI_s, dR_ref, v7, c_54 t7 t8 (by omega) _ (d + 98), cV_s, nI_1]
    exact e
theorem c_start (x0 : MCell) (d : Nat) : ∃ h', call (d + 101) 83 [.ref 3] [x0, (98, tx1.map .int), (98, tx2.map .int), (11, o11)] = some (none, h') ∧ CF x0 h' := by
  obtain ⟨h', e, K⟩ := c83_end x0 d 37 0 (cH1 x0) (List.replicate 160 0) rfl rfl ⟨by rw [← mrp]; rfl, List.length_replicate⟩ (fun k hk => absurd hk (Nat.not_lt_zero k)) rfl (fun _ _ _ => rfl)
  exact ⟨h', (k83_go x0 (d + 98)).trans e, K⟩
