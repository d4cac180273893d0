/-! the class's heaps: signs, what lies in them -/
theorem gset {h : MHeap} {p : Nat} {y : MCell} (hp : h[p]? = some y) (x : MCell) : (h.set p x)[p]? = some x := by
  have : p < h.length := by
    rcases Nat.lt_or_ge p h.length with q | q
    · exact q
    · rw [List.getElem?_eq_none q] at hp; cases hp
  rw [List.getElem?_set_self this]
theorem gset_ne {h : MHeap} {p q : Nat} (x : MCell) (hn : p ≠ q) : (h.set p x)[q]? = h[q]? := List.getElem?_set_ne hn
/-- a heap's cell -/
abbrev hpC (e : Ent) (y : Nat) : MCell := (tg e.1, [.int (nI e.2.1), .int (nI e.2.2), .int (nI y)])
theorem c_31 (d : Nat) {h : MHeap} {p t y : Nat} {a b : Value} (hp : h[p]? = some (t, [a, b, .int (nI y)])) (ht : [1, 2, 3, 6, 8, 10].contains t = true) (hy : y < 4096) (l : Int32) : call (d + 2) 31 [.ref p, .int l] h = some (some (.int (nI (onN (l.toBitVec.toNat &&& y) % 2))), h) := by
  obtain ⟨z, hz, ez, e1⟩ := and_nI l y
  have : z < 4096 := by omega
  rw [e_31]
  simp only [gfI, hp, ht, if_true]
  show cI (call (d + 1) 260 [.int (l &&& nI y)] h) _ = _
  rw [e1, c_260]
  simp only [cI, bc_tab z this, and1_nI]
  rw [← ez]
theorem wt_loop (d : Nat) (h : MHeap) (p : Nat) (l : Int32) {z : Nat} (hz : z < 4096) (R : MRes) (hR : ex d 52 12 [sv (.ref p), sv (.int l), sv (.int (nI z)), sv (.int (nI (wtN z))), sv (.int (nI 12))] [] h = R) : ex d 52 12 [sv (.ref p), sv (.int l), sv (.int (nI z)), sv (.int 0), sv (.int 0)] [] h = R := by
  refine up_ind (n := 12) (i := 0) (P := fun i => ex d 52 12 [sv (.ref p), sv (.int l), sv (.int (nI z)), sv (.int (nI (lp (fun i s => s + z / 2 ^ i % 2 * (i + 1)) i 0))), sv (.int (nI i))] [] h = R) hR ?_ (by decide)
  intro i hi ih
  rw [e_52_12, if_pos (show nI i < (12 : Int32) from nI_lt hi (by decide)), hb_nI (by omega) (by omega), nI_1, pk_mul, nI_add]
  exact ih
theorem wtN_lt (x : Nat) : wtN x < 2 ^ 30 := by
  have : wtN x ≤ 12 * 12 := by
    unfold wtN
    refine lp_inv (fun i s => s ≤ i * 12) ?_ (by decide)
    intro j s hj hs
    have h2 : x / 2 ^ j % 2 * (j + 1) ≤ 1 * 12 := Nat.mul_le_mul (by omega) (by omega)
    omega
  omega
theorem onN_lt (x : Nat) : onN x ≤ 12 := by
  unfold onN
  refine lp_inv (fun i s => s ≤ i) ?_ (by decide)
  intro j s hj hs
  omega
theorem c_52 (d : Nat) {h : MHeap} {p y r : Nat} {a : Value} (hp : h[p]? = some (8, [a, .int (nI r), .int (nI y)])) (hr : r ≤ 9) (hy : y < 4096) (l : Int32) : call (d + 2) 52 [.ref p, .int l] h = some (some (.int (nI (wtN (l.toBitVec.toNat &&& y) % (r + 2)))), h) := by
  obtain ⟨z, hz, ez, e1⟩ := and_nI l y
  have : z < 4096 := by omega
  rw [e_52]
  simp only [gfI, hp]
  show ex (d + 1) 52 12 [sv (.ref p), sv (.int l), sv (.int (l &&& nI y)), sv (.int 0), sv (.int 0)] [] h = _
  rw [e1, ← ez]
  apply wt_loop _ _ _ _ this
  rw [e_52_12, if_neg (show ¬ nI 12 < (12 : Int32) from by decide)]
  simp only [gfI, hp]
  show (if 0 < nI r + (2 : Int32) then _ else _) = _
  have h2 : nI r + (2 : Int32) = nI (r + 2) := nI_add r 2
  have h3 := wtN_lt z
  rw [h2, if_pos (show (0 : Int32) < nI (r + 2) from nI_lt (a := 0) (by omega) (by omega))]
  simp only [dv, nI_ne0 (show 0 < r + 2 by omega) (by omega), if_false]
  rw [pk_rem (by omega) (by omega) (by omega)]
theorem c_82 (d : Nat) {h : MHeap} {p y : Nat} {a b : Value} (hp : h[p]? = some (10, [a, b, .int (nI y)])) (hy : y < 4096) (l : Int32) : call (d + 3) 82 [.ref p, .int l] h = some (some (.int (nI (1 - onN (l.toBitVec.toNat &&& y) % 2))), h) := by
  rw [e_82]
  simp only [inO, hp]
  show cI (call (d + 2) 31 [.ref p, .int l] h) _ = _
  rw [c_31 d hp rfl hy]
  simp only [cI]
  rw [show (1 : Int32) = nI 1 from rfl, pk_sub (by omega)]
theorem kcases {k : Nat} (h : k ≤ 5) : k = 0 ∨ k = 1 ∨ k = 2 ∨ k = 3 ∨ k = 4 ∨ k = 5 := by omega
theorem c_sign (d : Nat) {h : MHeap} {p y : Nat} {e : Ent} (hp : h[p]? = some (hpC e y)) (hk : e.1 ≤ 5) (hr : e.2.2 ≤ 9) (hy : y < 4096) (l : Int32) (K : Int32 → MHeap → MRes) : vd none h p [1, 31, 2, 31, 3, 31, 6, 31, 8, 52, 10, 82] (fun m => cI (call (d + 3) m [.ref p, .int l] h) K) = K (nI (sgX e (l.toBitVec.toNat &&& y))) h := by
  obtain ⟨k, m, r⟩ := e
  rcases kcases hk with h1 | h1 | h1 | h1 | h1 | h1 <;> simp only at h1 <;> subst h1
  · simp only [vd, hp]
    show cI (call (d + 3) 31 _ h) K = _
    rw [c_31 (d + 1) hp rfl hy]; rfl
  · simp only [vd, hp]
    show cI (call (d + 3) 31 _ h) K = _
    rw [c_31 (d + 1) hp rfl hy]; rfl
  · simp only [vd, hp]
    show cI (call (d + 3) 31 _ h) K = _
    rw [c_31 (d + 1) hp rfl hy]; rfl
  · simp only [vd, hp]
    show cI (call (d + 3) 31 _ h) K = _
    rw [c_31 (d + 1) hp rfl hy]; rfl
  · simp only [vd, hp]
    show cI (call (d + 3) 52 _ h) K = _
    rw [c_52 (d + 1) hp hr hy]; rfl
  · simp only [vd, hp]
    show cI (call (d + 3) 82 _ h) K = _
    rw [c_82 d hp hy]; rfl
theorem mb_nI {m i : Nat} (hm : m < 2 ^ 31) (hi : i < 31) : (!decide ((nI m >>> (nI i &&& 31)) &&& 1 = 0)) = mem1 m i := by
  rw [hb_nI hi hm]
  unfold mem1
  rcases m2_cases (m / 2 ^ i) with q | q <;> rw [q] <;> decide
theorem fg_nI {r i : Nat} (hr : r ≤ 9) (hi : i < 12) : (!decide ((nI i >>> ((nI r &&& 3) &&& 31)) &&& 1 = 0)) = fig r i := by
  have : ∀ r, r < 10 → ∀ i, i < 12 → (!decide ((nI i >>> ((nI r &&& 3) &&& 31)) &&& 1 = 0)) = fig r i := by decide +kernel
  exact this r (by omega) i hi
theorem bI_eq (p q : Bool) : (bI p = bI q) = (p = q) := by cases p <;> cases q <;> simp [bI]
theorem bI_d (p : Prop) [Decidable p] : bI (decide p) = if p then 1 else 0 := by by_cases h : p <;> simp [bI, h]
theorem c_in (d : Nat) {h : MHeap} {p y : Nat} {e : Ent} {w i : Nat} (hp : h[p]? = some (hpC e y)) (hk : e.1 ≤ 5) (hm : e.2.1 ≤ 4095) (hr : e.2.2 ≤ 9) (hw0 : 0 < w) (hw : w ≤ 12) (hi : i < 12) (K : Int32 → MHeap → MRes) : vd none h p [1, 24, 2, 27, 3, 30, 6, 43, 8, 30, 10, 81] (fun m => cI (call (d + 4) m [.ref p, .int (nI i), .int (nI w)] h) K) = K (bI (isin w e i)) h := by
  obtain ⟨k, m, r⟩ := e
  simp only at hm hr
  have c30 : ∀ d t, [1, 2, 3, 6, 8, 10].contains t = true → h[p]? = some (t, [.int (nI m), .int (nI r), .int (nI y)]) → call (d + 2) 30 [.ref p, .int (nI i), .int (nI w)] h = some (some (.int (bI (mem1 m i))), h) := by
    intro d t ht hq
    rw [e_30]
    simp only [gfI, hq, ht, if_true]
    show cI (call (d + 1) 137 [.int (nI m), .int (nI i)] h) _ = _
    rw [c_137, mb_nI (by omega) (by omega)]
    simp only [cI, zr_bI]
  have c27 : ∀ d t, [2, 10].contains t = true → h[p]? = some (t, [.int (nI m), .int (nI r), .int (nI y)]) → call (d + 2) 27 [.ref p, .int (nI i), .int (nI w)] h = some (some (.int (bI (fig r i))), h) := by
    intro d t ht hq
    rw [e_27]
    simp only [gfI, hq, ht, if_true]
    show cI (call (d + 1) 137 [.int (nI i), .int (nI r &&& 3)] h) _ = _
    rw [c_137, fg_nI hr hi]
    simp only [cI, zr_bI]
  rcases kcases hk with h1 | h1 | h1 | h1 | h1 | h1 <;> simp only at h1 <;> subst h1
  · simp only [vd, hp]
    show cI (call (d + 4) 30 _ h) K = _
    rw [c30 (d + 2) 3 rfl hp]; rfl
  · simp only [vd, hp]
    show cI (call (d + 4) 43 _ h) K = _
    rw [e_43, c_1 _ (by omega) hw0 (by omega)]
    simp only [cI, gfI, hp]
    show (match (if nI (i / w) = nI r then _ else _ : MRes) with | some (some (.int x), h) => K x h | _ => none) = _
    have hdl : i / w ≤ i := Nat.div_le_self i w
    show _ = K (bI (decide (i / w = r))) h
    rw [bI_d]
    by_cases q : i / w = r
    · rw [if_pos (congrArg nI q), if_pos q, zr_1]
    · rw [if_neg (fun z => q ((nI_eq (by omega) (by omega)).1 z)), if_neg q, zr_0]
  · simp only [vd, hp]
    show cI (call (d + 4) 27 _ h) K = _
    rw [c27 (d + 2) 2 rfl hp]; rfl
  · simp only [vd, hp]
    show cI (call (d + 4) 24 _ h) K = _
    rw [e_24, c_2 _ (by omega) hw0 (by omega)]
    simp only [cI, gfI, hp]
    show (match (if nI (i % w) = nI r then _ else _ : MRes) with | some (some (.int x), h) => K x h | _ => none) = _
    have hdl : i % w ≤ i := Nat.mod_le i w
    show _ = K (bI (decide (i % w = r))) h
    rw [bI_d]
    by_cases q : i % w = r
    · rw [if_pos (congrArg nI q), if_pos q, zr_1]
    · rw [if_neg (fun z => q ((nI_eq (by omega) (by omega)).1 z)), if_neg q, zr_0]
  · simp only [vd, hp]
    show cI (call (d + 4) 30 _ h) K = _
    rw [c30 (d + 2) 8 rfl hp]; rfl
  · simp only [vd, hp]
    show cI (call (d + 4) 81 _ h) K = _
    rw [e_81]
    simp only [inO, hp]
    show cI (cI (call (d + 3) 27 _ h) _) K = _
    rw [c27 (d + 1) 10 rfl hp]
    simp only [cI, gfI, hp]
    show (match (cI (call (d + 3) 137 [.int (nI m), .int (nI i)] h) _ : MRes) with | some (some (.int x), h) => K x h | _ => none) = _
    rw [c_137, mb_nI (by omega) (by omega)]
    simp only [cI, bI_eq, zr_0, zr_1]
    show _ = K (bI (fig r i != mem1 m i)) h
    cases fig r i <;> cases mem1 m i <;> rfl
theorem inN_succ (c w : Nat) (e : Ent) : inN (c + 1) w e = inN c w e ||| (if isin w e c then 2 ^ c else 0) := rfl
theorem pfI_at {h : MHeap} {p t j : Nat} {fs : List Value} (hp : h[p]? = some (t, fs)) {ts : List Nat} (ht : ts.contains t = true) (hj : j < fs.length) (x : Int32) (k : MHeap → MRes) : pfI none h p ts j x k = k (h.set p (t, fs.set j (.int x))) := by
  simp only [pfI, hp, ht, hj, and_self, if_true]
theorem gfI_at {h : MHeap} {p t j : Nat} {fs : List Value} (hp : h[p]? = some (t, fs)) {ts : List Nat} (ht : ts.contains t = true) {x : Int32} (hj : fs[j]? = some (.int x)) (k : Int32 → MRes) : gfI none h p ts j k = k x := by
  simp only [gfI, hp, ht, hj, if_true]
theorem tg_in {k : Nat} (h : k ≤ 5) : [1, 2, 3, 6, 8, 10].contains (tg k) = true := by
  rcases kcases h with h1 | h1 | h1 | h1 | h1 | h1 <;> subst h1 <;> rfl
theorem c_32 (d : Nat) {h : MHeap} {p : Nat} {y0 : Value} {e : Ent} {c w : Nat} (hp : h[p]? = some (tg e.1, [.int (nI e.2.1), .int (nI e.2.2), y0])) (hk : e.1 ≤ 5) (hm : e.2.1 ≤ 4095) (hr : e.2.2 ≤ 9) (hw0 : 0 < w) (hw : w ≤ 12) (hc : c ≤ 12) : call (d + 5) 32 [.ref p, .int (nI c), .int (nI w)] h = some (none, h.set p (hpC e (inN c w e))) := by
  rw [e_32, pfI_at hp (tg_in hk) (by show 2 < 3; decide)]
  refine up_ind (n := c) (i := 0) (P := fun i => ex (d + 4) 32 7 [sv (.ref p), sv (.int (nI c)), sv (.int (nI w)), sv (.int (nI i))] [] (h.set p (hpC e (inN i w e))) = some (none, h.set p (hpC e (inN c w e)))) ?_ ?_ (by omega)
  · rw [e_32_7, if_neg (nI_nlt (Nat.le_refl _) (by omega))]
  · intro i hi ih
    have g1 := gset hp (hpC e (inN i w e))
    have hl : inN i w e < 2 ^ i := inN_lt i w e
    rw [e_32_7, if_pos (nI_lt hi (by omega)), gfI_at g1 (tg_in hk) (x := nI (inN i w e)) rfl, c_in d g1 hk hm hr hw0 hw (by omega), nI_1]
    rw [inN_succ] at ih
    simp only [bI_0]
    by_cases q : isin w e i = false
    · rw [if_pos q, pfI_at g1 (tg_in hk) (by show 2 < 3; decide)]
      rw [if_neg (by rw [q]; decide)] at ih
      rw [List.set_set, show (0 : Int32) = nI 0 from rfl, fa_or]
      exact ih
    · rw [if_neg q, e_135, bit_nI (by omega)]
      simp only [cI]
      rw [pfI_at g1 (tg_in hk) (by show 2 < 3; decide), List.set_set, fa_or]
      rw [if_pos (by simpa using q)] at ih
      exact ih
