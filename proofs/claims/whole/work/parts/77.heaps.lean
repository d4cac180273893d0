/-! table, drop, back, heap -/
theorem c_obj (d : Nat) (o : Nat) (h : MHeap) : call (d + 1) 1003 [.ref o] h = some (none, h) := by cases d <;> rfl
theorem c5_get {ps : List Nat} {i p : Nat} (hp : ps[i]? = some p) : (ps.map Value.ref ++ List.replicate (7 - ps.length) Value.null)[i]? = some (.ref p) := by
  have h9 : i < ps.length := (List.getElem?_eq_some_iff.1 hp).1
  rw [List.getElem?_append_left (by simpa using h9), List.getElem?_map, hp]; rfl
theorem c5_null {ps : List Nat} {i : Nat} (h1 : ps.length ≤ i) (h2 : i < 7) : (ps.map Value.ref ++ List.replicate (7 - ps.length) Value.null)[i]? = some .null := by
  rw [List.getElem?_append_right (by simpa using h1), List.getElem?_replicate]
  simp; omega
theorem alV_c5 {h : MHeap} {vs : List Value} (H : h[5]? = some (101, vs)) {i : Nat} (hi : i < 7) {v : Value} (hv : vs[i]? = some v) (k : Value → MRes) (hr : ∀ k : MRes, dA none v k = k) : alV none h 5 (nI i) k = k v := by
  simp only [alV, H, nI_clamp (show i < 2 ^ 31 by omega), hv, nI_pos (show i < 2 ^ 31 by omega), hr]
  rfl
section LIE
variable {h : MHeap} {c w : Nat} {b : Int32} {hs : List Ent} {lc lw : Int32} {ps : List Nat}
theorem c_3 (H : CB h c w b hs lc lw ps) (hp : ∀ p ∈ ps, 44 < p) (nd : ps.Nodup) {c' w' : Nat} (q1 : 0 < c') (q2 : c' ≤ 12) (q3 : 0 < w') (q4 : w' ≤ 12) (b' : Int32) (d : Nat) : ∃ h', call (d + 7) 3 [.ref 4, .int (nI c'), .int (nI w'), .int b'] h = some (none, h') ∧ CB h' c' w' b' hs lc lw ps ∧ (∀ a : Nat, a ≠ 4 → a ∉ ps → h'[a]? = h[a]?) ∧ h'.length = h.length := by
  obtain ⟨b1, b2, b3, b4, b5, b6⟩ := H
  have s1 : ∀ x y : MCell, (h.set 4 x).set 4 y = h.set 4 y := fun x y => List.set_set ..
  have e1 : call (d + 7) 3 [.ref 4, .int (nI c'), .int (nI w'), .int b'] h = ex (d + 6) 3 29 [sv (.ref 4), sv (.int (nI c')), sv (.int (nI w')), sv (.int b'), sv (.ref 5), sv (.int 7), sv (.int 0), none] [] (h.set 4 (c4 c' w' b' hs.length)) := by
    have l5 : ∀ (x : MCell) (k : Int32 → MRes), aln none (h.set 4 x) 5 k = k 7 := by
      intro x k
      have h2 : (ps.map Value.ref ++ List.replicate (7 - ps.length) Value.null).length = 7 := by simp; omega
      have h3 : (h.set 4 x)[5]? = some (c5 ps) := by rw [gset_ne _ (by decide)]; exact b4
      simp only [aln, h3, c5, h2]
      rfl
    have g4 : ∀ (x y z : Int32) (k : Value → MRes), gfV none (h.set 4 (0, [.int x, .int y, .int z, .int (nI hs.length), .ref 5])) 4 [0] 4 k = k (.ref 5) := fun x y z k => gfV_at (gset b3 _) rfl rfl k
    rw [e_3, pfI_at b3 rfl (by show 0 < 5; decide), pfI_at (gset b3 _) rfl (by show 1 < 5; decide), s1, pfI_at (gset b3 _) rfl (by show 2 < 5; decide), s1]
    show gfV none (h.set 4 (0, [.int (nI c'), .int (nI w'), .int b', .int (nI hs.length), .ref 5])) 4 [0] 4 _ = _
    rw [g4, dA_ref, dA_ref, dR_ref, l5]
    rfl
  rw [e1]
  have key : ∀ i, i ≤ 7 → ∀ h1 : MHeap, h1.length = h.length → h1[4]? = some (c4 c' w' b' hs.length) → (∀ a : Nat, a ≠ 4 → a ∉ ps → h1[a]? = h[a]?) → (∀ (k : Nat) (e : Ent) (p : Nat), hs[k]? = some e → ps[k]? = some p → h1[p]? = some (hpC e (if k < i then inN c' w' e else inN c w e))) → ∀ j, ∃ h', ex (d + 6) 3 29 [sv (.ref 4), sv (.int (nI c')), sv (.int (nI w')), sv (.int b'), sv (.ref 5), sv (.int 7), sv (.int (nI i)), j] [] h1 = some (none, h') ∧ CB h' c' w' b' hs lc lw ps ∧ (∀ a : Nat, a ≠ 4 → a ∉ ps → h'[a]? = h[a]?) ∧ h'.length = h.length := by
    intro i hi
    refine up_ind (n := 7) (P := fun i => ∀ h1 : MHeap, h1.length = h.length → h1[4]? = some (c4 c' w' b' hs.length) → (∀ a : Nat, a ≠ 4 → a ∉ ps → h1[a]? = h[a]?) → (∀ (k : Nat) (e : Ent) (p : Nat), hs[k]? = some e → ps[k]? = some p → h1[p]? = some (hpC e (if k < i then inN c' w' e else inN c w e))) → ∀ j, ∃ h', ex (d + 6) 3 29 [sv (.ref 4), sv (.int (nI c')), sv (.int (nI w')), sv (.int b'), sv (.ref 5), sv (.int 7), sv (.int (nI i)), j] [] h1 = some (none, h') ∧ CB h' c' w' b' hs lc lw ps ∧ (∀ a : Nat, a ≠ 4 → a ∉ ps → h'[a]? = h[a]?) ∧ h'.length = h.length) ?_ ?_ hi
    · intro h1 l1 k4 fr hc j
      refine ⟨h1, ?_, ⟨⟨q1, q2, q3, q4, b1.2.2.2.2⟩, ?_, k4, ?_, b5, ?_⟩, fr, l1⟩
      · rw [e_3_29, if_neg (by decide)]
      · rw [fr 3 (by decide) (fun z => by have := hp 3 z; omega)]; exact b2
      · rw [fr 5 (by decide) (fun z => by have := hp 5 z; omega)]; exact b4
      · intro k e he
        obtain ⟨x1, p, x2, x3⟩ := b6 k e he
        have hk : k < hs.length := (List.getElem?_eq_some_iff.1 he).1
        have := hc k e p he x2
        rw [if_pos (by omega)] at this
        exact ⟨x1, p, x2, this⟩
    · intro i hi ih h1 l1 k4 fr hc j
      have a5 : h1[5]? = some (c5 ps) := by rw [fr 5 (by decide) (fun z => by have := hp 5 z; omega)]; exact b4
      rw [e_3_29, if_pos (show nI i < (7 : Int32) from nI_lt (b := 7) hi (by decide)), dA_ref, dR_ref]
      rcases Nat.lt_or_ge i ps.length with z | z
      · obtain ⟨e, he⟩ : ∃ e, hs[i]? = some e := ⟨_, List.getElem?_eq_getElem (show i < hs.length by omega)⟩
        obtain ⟨x1, p, x2, x3⟩ := b6 i e he
        have hcp := hc i e p he x2
        rw [if_neg (by omega)] at hcp
        have pp := hp p (List.mem_of_getElem? x2)
        have c32 := c_32 (d + 1) (c := c') (w := w') hcp x1.1 x1.2.1 x1.2.2 q3 q4 q2
        have v32 : ∀ k : Nat → MRes, vd none h1 p [1, 32, 2, 32, 3, 32, 6, 32, 8, 32, 10, 32] k = k 32 := by
          intro k
          refine vd_at hcp ?_ k
          rcases kcases x1.1 with y | y | y | y | y | y <;> rw [y] <;> rfl
        rw [alV_c5 a5 hi (c5_get x2) _ (fun k => rfl), dA_ref, dA_ref, dN_ref, dA_ref, dR_ref, v32, c32, cV_s, nI_1]
        refine ih _ (by rw [List.length_set]; exact l1) (by rw [gset_ne _ (by omega)]; exact k4) ?_ ?_ _
        · intro a ha hb
          rw [gset_ne _ (fun y => hb (by rw [← y]; exact List.mem_of_getElem? x2))]
          exact fr a ha hb
        · intro k e2 p2 he2 hp2
          by_cases y : k = i
          · subst y
            rw [he] at he2; cases he2
            rw [x2] at hp2; cases hp2
            rw [gset hcp, if_pos (by omega)]
          · have hne : p ≠ p2 := by
              intro y2
              subst y2
              have hk2 : k < ps.length := (List.getElem?_eq_some_iff.1 hp2).1
              exact y ((List.getElem?_inj hk2 nd).1 (hp2.trans x2.symm))
            rw [gset_ne _ hne, hc k e2 p2 he2 hp2]
            by_cases y3 : k < i
            · rw [if_pos y3, if_pos (by omega)]
            · rw [if_neg y3, if_neg (by omega)]
      · rw [alV_c5 a5 hi (c5_null z hi) _ (fun k => rfl), dA_null, dA_null, dN_null, nI_1]
        refine ih h1 l1 k4 fr ?_ _
        intro k e2 p2 he2 hp2
        have hk2 : k < ps.length := (List.getElem?_eq_some_iff.1 hp2).1
        rw [hc k e2 p2 he2 hp2, if_pos (by omega), if_pos (by omega)]
  refine key 0 (by omega) _ List.length_set (gset b3 _) (fun a ha _ => gset_ne _ (fun z => ha z.symm)) ?_ none
  intro k e p he hpk
  obtain ⟨x1, p', x2, x3⟩ := b6 k e he
  rw [hpk] at x2
  cases x2
  have pp := hp p (List.mem_of_getElem? hpk)
  rw [gset_ne _ (by omega), if_neg (by omega)]
  exact x3
theorem c_13 (H : CB h c w b hs lc lw ps) {m : Nat} (hm : m ≤ hs.length) (d : Nat) : call (d + 2) 13 [.ref 4, .int (nI m)] h = some (none, (h.set 5 (c5 (ps.take m))).set 4 (c4 c w b m)) := by
  obtain ⟨b1, b2, b3, b4, b5, b6⟩ := H
  rw [e_13, c_max0 _ (by omega), cI_s]
  have key : ∀ i, i ≤ 7 → m ≤ i → ∀ vs : List Value, vs.length = 7 → (∀ j, j < m → vs[j]? = (ps.map Value.ref)[j]?) → (∀ j, m ≤ j → j < i → vs[j]? = some .null) → ex (d + 1) 13 6 [sv (.ref 4), sv (.int (nI m)), sv (.int (nI i))] [] (h.set 5 (101, vs)) = some (none, (h.set 5 (c5 (ps.take m))).set 4 (c4 c w b m)) := by
    intro i hi
    refine up_ind (n := 7) (P := fun i => m ≤ i → ∀ vs : List Value, vs.length = 7 → (∀ j, j < m → vs[j]? = (ps.map Value.ref)[j]?) → (∀ j, m ≤ j → j < i → vs[j]? = some .null) → ex (d + 1) 13 6 [sv (.ref 4), sv (.int (nI m)), sv (.int (nI i))] [] (h.set 5 (101, vs)) = some (none, (h.set 5 (c5 (ps.take m))).set 4 (c4 c w b m))) ?_ ?_ hi
    · intro _ vs hl h1 h2
      have k4 : (h.set 5 (101, vs))[4]? = some (c4 c w b hs.length) := by rw [gset_ne _ (by decide)]; exact b3
      have g4 : ∀ k : Value → MRes, gfV none (h.set 5 (101, vs)) 4 [0] 4 k = k (.ref 5) := fun k => gfV_at k4 rfl rfl k
      have g3 : ∀ k : Int32 → MRes, gfI none (h.set 5 (101, vs)) 4 [0] 3 k = k (nI hs.length) := fun k => gfI_at k4 rfl rfl k
      have l5 : ∀ k : Int32 → MRes, aln none (h.set 5 (101, vs)) 5 k = k 7 := by
        intro k
        simp only [aln, gset b4 (101, vs), hl]
        rfl
      have e0 : vs = (ps.take m).map Value.ref ++ List.replicate (7 - (ps.take m).length) Value.null := by
        apply List.ext_getElem?
        intro j
        have hlt : (ps.take m).length = m := by rw [List.length_take]; omega
        rcases Nat.lt_or_ge j m with z | z
        · rw [h1 j z, List.getElem?_append_left (by simp; omega), List.getElem?_map, List.getElem?_map, List.getElem?_take, if_pos z]
        · rcases Nat.lt_or_ge j 7 with y | y
          · rw [h2 j z y, c5_null (by omega) y]
          · rw [List.getElem?_eq_none (by omega), List.getElem?_eq_none (by simp; omega)]
      rw [e_13_6, g4, dR_ref, l5, if_neg (by decide), g3, c_min, cI_s]
      have em : (if nI m < nI hs.length then nI m else nI hs.length) = nI m := by
        rcases Nat.lt_or_ge m hs.length with z | z
        · rw [if_pos (nI_lt z (by omega))]
        · rw [if_neg (nI_nlt z (by omega)), show hs.length = m by omega]
      rw [em, pfI_at k4 rfl (by show 3 < 5; decide), e0]
      rfl
    · intro i hi ih hmi vs hl h1 h2
      have k4 : (h.set 5 (101, vs))[4]? = some (c4 c w b hs.length) := by rw [gset_ne _ (by decide)]; exact b3
      have g4 : ∀ k : Value → MRes, gfV none (h.set 5 (101, vs)) 4 [0] 4 k = k (.ref 5) := fun k => gfV_at k4 rfl rfl k
      have l5 : ∀ k : Int32 → MRes, aln none (h.set 5 (101, vs)) 5 k = k 7 := by
        intro k
        simp only [aln, gset b4 (101, vs), hl]
        rfl
      have as5 : ∀ k : MHeap → MRes, asV none (h.set 5 (101, vs)) 5 (nI i) .null k = k (h.set 5 (101, vs.set i .null)) := by
        intro k
        simp only [asV, gset b4 (101, vs), nI_clamp (show i < 2 ^ 31 by omega), nI_pos (show i < 2 ^ 31 by omega), hl, hi, List.set_set]
        rfl
      rw [e_13_6, g4, dR_ref, l5, if_pos (show nI i < (7 : Int32) from nI_lt (b := 7) hi (by decide)), g4, dR_ref, as5, nI_1]
      refine ih (by omega) _ (by rw [List.length_set]; exact hl) ?_ ?_
      · intro j hj
        rw [List.getElem?_set_ne (by omega)]
        exact h1 j hj
      · intro j h3 h4
        by_cases z : j = i
        · subst z; rw [List.getElem?_set_self (by omega)]
        · rw [List.getElem?_set_ne (fun y => z y.symm)]
          exact h2 j h3 (by omega)
  have := key m (by omega) (Nat.le_refl _) (ps.map Value.ref ++ List.replicate (7 - ps.length) Value.null) (by simp; omega) (fun j hj => by rw [List.getElem?_append_left (by simp; omega)]) (fun j h1 h2 => by omega)
  rw [set_self b4] at this
  exact this
theorem CB.take (H : CB h c w b hs lc lw ps) (hp : ∀ p ∈ ps, 44 < p) {m : Nat} (hm : m ≤ hs.length) : CB ((h.set 5 (c5 (ps.take m))).set 4 (c4 c w b m)) c w b (hs.take m) lc lw (ps.take m) := by
  obtain ⟨b1, b2, b3, b4, b5, b6⟩ := H
  have hl : (hs.take m).length = m := by rw [List.length_take]; omega
  have k4 : (h.set 5 (c5 (ps.take m)))[4]? = some (c4 c w b hs.length) := by rw [gset_ne _ (by decide)]; exact b3
  refine ⟨⟨b1.1, b1.2.1, b1.2.2.1, b1.2.2.2.1, by omega⟩, ?_, ?_, ?_, by rw [List.length_take, List.length_take, b5], ?_⟩
  · rw [gset_ne _ (by decide), gset_ne _ (by decide)]; exact b2
  · rw [hl]; exact gset k4 _
  · rw [gset_ne _ (by decide)]; exact gset b4 _
  · intro i e he
    rw [List.getElem?_take] at he
    split at he
    · rename_i hi
      obtain ⟨x1, p, x2, x3⟩ := b6 i e he
      have := hp p (List.mem_of_getElem? x2)
      refine ⟨x1, p, by rw [List.getElem?_take, if_pos hi]; exact x2, ?_⟩
      rw [gset_ne _ (by omega), gset_ne _ (by omega)]
      exact x3
    · cases he
end LIE
