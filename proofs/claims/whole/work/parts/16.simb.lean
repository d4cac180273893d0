/-! one step of the small machine is one of the real one: what reads and writes cells -/
theorem enc_obj {ad : Nat → Nat} {cA : Nat → ClassId} {t : Nat} {fs : List Value} (h : t < 13) : enc ad cA (t, fs) = .inr (t, fs.map (shv ad)) := by
  unfold enc
  rw [if_pos h]
theorem enc_int {ad : Nat → Nat} {cA : Nat → ClassId} {vs : List Value} : enc ad cA (100, vs) = .inl (cA 0, vs.length, .inl fun j => toI (vs.getD j .null)) := rfl
theorem enc_ref {ad : Nat → Nat} {cA : Nat → ClassId} {t : Nat} {vs : List Value} (h : 101 ≤ t) : enc ad cA (t, vs) = .inl (cA (t - 100), vs.length, .inr (.inr (.inr (.inr fun j => toR ad (vs.getD j .null))))) := by
  unfold enc
  rw [if_neg (by show ¬ t < 13; omega), if_neg (by show ¬ t = 100; omega)]
theorem cls_lt {t : Nat} {r : vw_C} (h : clsL[t]? = some r) : t < 13 := (List.getElem?_eq_some_iff.mp h).1
/-- a cell that is no script and no text lies behind the first three -/
theorem pre_at {h : MHeap} {xs : List Int32} {t1 t2 : List Value} (hp : h.take 3 = prF xs t1 t2) {o t : Nat} {vs : List Value} (ho : h[o]? = some (t, vs)) (ht : t ≠ 99 ∧ t ≠ 98) : 3 ≤ o := by
  rcases Nat.lt_or_ge o 3 with q | q
  · exfalso
    have h1 : (h.take 3)[o]? = some (t, vs) := by rw [List.getElem?_take, if_pos q]; exact ho
    rw [hp] at h1
    unfold prF at h1
    match o, q, h1 with
    | 0, _, h1 => simp at h1; exact ht.1 h1.1.symm
    | 1, _, h1 => simp at h1; exact ht.2 h1.1.symm
    | 2, _, h1 => simp at h1; exact ht.2 h1.1.symm
  · exact q
theorem pre_set {h : MHeap} {xs : List Int32} {t1 t2 : List Value} (hp : h.take 3 = prF xs t1 t2) {o : Nat} (ho : 3 ≤ o) (q : MCell) : (h.set o q).take 3 = prF xs t1 t2 := by
  rw [← hp]
  apply List.ext_getElem?
  intro k
  rw [List.getElem?_take, List.getElem?_take]
  by_cases hk : k < 3
  · rw [if_pos hk, if_pos hk, List.getElem?_set, if_neg (by omega)]
  · rw [if_neg hk, if_neg hk]
theorem pre_push {h : MHeap} {xs : List Int32} {t1 t2 : List Value} (hp : h.take 3 = prF xs t1 t2) (h3 : 3 ≤ h.length) (q : MCell) : (h ++ [q]).take 3 = prF xs t1 t2 := by
  rw [List.take_append_of_le_length h3]
  exact hp
/-- a cell is written -/
theorem Rl.set {D : va_G} {cA : Nat → ClassId} {ad : Nat → Nat} {B : Nat} {xs : List Int32} {t1 t2 : List Value} {H0 : Heap} {n0 s0 nL : Nat} {L : MLoc} {S S' : List Value} {h : MHeap} {ls : Array Slot} {H H1 : Heap} {locs locs1 : List Loc} {cells slots o : Nat} {q q' : MCell} (hR : Rl D cA ad B xs t1 t2 H0 n0 s0 nL L S h ls H locs cells slots) (hs : okS S') (ho : 3 ≤ o) (hq : h[o]? = some q) (hl : q'.2.length = q.2.length) (hz : H1.size = H.size) (hP : va_P D clsL ((toW ad cA h).set (o - 3) (ad o, enc ad cA q')) H1) (hS : va_S (fun q => B ≤ q) H0 H1 locs1) : Rl D cA ad B xs t1 t2 H0 n0 s0 nL L S' (h.set o q') ls H1 locs1 cells slots := by
  obtain ⟨a1, a2, a3, a4, a5, a6, a7, a8, a9⟩ := hR
  refine ⟨a1, hs, by rw [toW_set ho]; exact hP, by rw [hz, List.length_set]; exact a4, pre_set a5 ho q', by rw [List.length_set]; exact a6, hS, by rw [List.length_set]; exact a8, by rw [hsl_set hq hl]; exact a9⟩
theorem shv_get {ad : Nat → Nat} {fs : List Value} {j : Nat} {v : Value} (h : fs[j]? = some v) : (fs.map (shv ad))[j]? = some (shv ad v) := by
  rw [List.getElem?_map, h]; rfl
theorem shv_set (ad : Nat → Nat) (fs : List Value) (j : Nat) (v : Value) : (fs.map (shv ad)).set j (shv ad v) = (fs.set j v).map (shv ad) := by
  rw [List.map_set]
