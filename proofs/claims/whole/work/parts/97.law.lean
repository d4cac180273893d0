/-! the law's loop: each call of both, one after the other -/
def LI (xs : List Int32) (h : MHeap) (s : Sta) : Prop := OKS s ∧ CV h s ∧ RV h s ∧ h[0]? = some (99, xs.map .int)
theorem CV.v3 {h : MHeap} : ∀ {s : Sta}, CV h s → ∀ (m : Nat) (k : Nat → MRes), vd none h 3 [11, m] k = k m
  | (_, _, _, _, _, _, _, _, _), ⟨_, H, _⟩, _, k => vd_at H.2.1 rfl k
theorem RV.v {h : MHeap} : ∀ {s : Sta}, RV h s → ∀ (m : Nat) (k : Nat → MRes), vd none h 28 [12, m] k = k m
  | (_, _, _, _, _, _, _, _, _), ⟨_, _, H, _⟩, m, k => H.1.v m k
section LAWL
variable {xs : List Int32} {h : MHeap} {s : Sta}
theorem al_n {h : MHeap} (z : h[0]? = some (99, xs.map .int)) {i : Nat} (hi : i < xs.length) (hl : xs.length ≤ 448) (k : Int32 → MRes) : alI none h 0 (nI i) k = k (xs.getD i 0) := by
  simp only [alI, z, nI_clamp (show i < 2 ^ 31 by omega), nI_pos (show i < 2 ^ 31 by omega)]
  rw [if_pos (by simp), List.getElem?_map, List.getElem?_eq_getElem hi, List.getD_eq_getElem?_getD, List.getElem?_eq_getElem hi]
  rfl
theorem al_1 {h : MHeap} (z : h[0]? = some (99, xs.map .int)) {i : Nat} (hi : i + 7 ≤ xs.length) (hl : xs.length ≤ 448) (k : Int32 → MRes) : alI none h 0 (nI i + (1 : Int32)) k = k (xs.getD (i + 1) 0) := by
  rw [show (1 : Int32) = nI 1 from rfl, nI_add]
  exact al_n z (by omega) hl k
theorem al_2 {h : MHeap} (z : h[0]? = some (99, xs.map .int)) {i : Nat} (hi : i + 7 ≤ xs.length) (hl : xs.length ≤ 448) (k : Int32 → MRes) : alI none h 0 (nI i + (2 : Int32)) k = k (xs.getD (i + 2) 0) := by
  rw [show (2 : Int32) = nI 2 from rfl, nI_add]
  exact al_n z (by omega) hl k
theorem al_3 {h : MHeap} (z : h[0]? = some (99, xs.map .int)) {i : Nat} (hi : i + 7 ≤ xs.length) (hl : xs.length ≤ 448) (k : Int32 → MRes) : alI none h 0 (nI i + (3 : Int32)) k = k (xs.getD (i + 3) 0) := by
  rw [show (3 : Int32) = nI 3 from rfl, nI_add]
  exact al_n z (by omega) hl k
theorem al_4 {h : MHeap} (z : h[0]? = some (99, xs.map .int)) {i : Nat} (hi : i + 7 ≤ xs.length) (hl : xs.length ≤ 448) (k : Int32 → MRes) : alI none h 0 (nI i + (4 : Int32)) k = k (xs.getD (i + 4) 0) := by
  rw [show (4 : Int32) = nI 4 from rfl, nI_add]
  exact al_n z (by omega) hl k
theorem al_5 {h : MHeap} (z : h[0]? = some (99, xs.map .int)) {i : Nat} (hi : i + 7 ≤ xs.length) (hl : xs.length ≤ 448) (k : Int32 → MRes) : alI none h 0 (nI i + (5 : Int32)) k = k (xs.getD (i + 5) 0) := by
  rw [show (5 : Int32) = nI 5 from rfl, nI_add]
  exact al_n z (by omega) hl k
theorem al_6 {h : MHeap} (z : h[0]? = some (99, xs.map .int)) {i : Nat} (hi : i + 7 ≤ xs.length) (hl : xs.length ≤ 448) (k : Int32 → MRes) : alI none h 0 (nI i + (6 : Int32)) k = k (xs.getD (i + 6) 0) := by
  rw [show (6 : Int32) = nI 6 from rfl, nI_add]
  exact al_n z (by omega) hl k
theorem LI.op (I : LI xs h s) {mc mr : Nat} {as : List Value} (O : OP mc mr as) (d : Nat) : ∃ (v : Int32) (h1 h2 : MHeap) (s' : Sta), call (d + 200) mc (.ref 3 :: as) h = some (some (.int v), h1) ∧ call (d + 200) mr (.ref 28 :: as) h1 = some (some (.int v), h2) ∧ h1[0]? = some (99, xs.map .int) ∧ (∀ (m : Nat) (k : Nat → MRes), vd none h1 28 [12, m] k = k m) ∧ LI xs h2 s' ∧ h2.length ≤ h.length + 8 := by
  obtain ⟨ok, C, R, z⟩ := I
  obtain ⟨v, s', ok', k1, k2⟩ := O s ok
  obtain ⟨h1, e1, C1, f1, f2, f3⟩ := k1 d h C
  have R1 : RV h1 s := R.fr (fun a ha => f1 a (Or.inr ha))
  obtain ⟨h2, e2, R2, g1, g2⟩ := k2 d h1 R1
  have z1 : h1[0]? = some (99, xs.map .int) := (f1 0 (Or.inl rfl)).trans z
  exact ⟨v, h1, h2, s', e1, e2, z1, R1.v, ⟨ok', C1.fr (fun a ha => g2 a (by omega)) g1, R2, (g2 0 (by decide)).trans z1⟩, by omega⟩
theorem LI.opJ (I : LI xs h s) {mc mr : Nat} {as : List Value} (O : OPJ mc mr as) (d : Nat) : ∃ (v : Int64) (h1 h2 : MHeap) (s' : Sta), call (d + 200) mc (.ref 3 :: as) h = some (some (.long v), h1) ∧ call (d + 200) mr (.ref 28 :: as) h1 = some (some (.long v), h2) ∧ h1[0]? = some (99, xs.map .int) ∧ (∀ (m : Nat) (k : Nat → MRes), vd none h1 28 [12, m] k = k m) ∧ LI xs h2 s' ∧ h2.length ≤ h.length + 8 := by
  obtain ⟨ok, C, R, z⟩ := I
  obtain ⟨v, s', ok', k1, k2⟩ := O s ok
  obtain ⟨h1, e1, C1, f1, f2, f3⟩ := k1 d h C
  have R1 : RV h1 s := R.fr (fun a ha => f1 a (Or.inr ha))
  obtain ⟨h2, e2, R2, g1, g2⟩ := k2 d h1 R1
  have z1 : h1[0]? = some (99, xs.map .int) := (f1 0 (Or.inl rfl)).trans z
  exact ⟨v, h1, h2, s', e1, e2, z1, R1.v, ⟨ok', C1.fr (fun a ha => g2 a (by omega)) g1, R2, (g2 0 (by decide)).trans z1⟩, by omega⟩
def LG (xs : List Int32) (h : MHeap) (i d pc : Nat) : Prop := ∃ h' s', ex (d + 200) 263 pc [sv (.ref 0), sv (.ref 3), sv (.ref 28), sv (.int (nI i))] [] h = ex (d + 200) 263 18 [sv (.ref 0), sv (.ref 3), sv (.ref 28), sv (.int (nI (i + 7)))] [] h' ∧ LI xs h' s' ∧ h'.length ≤ h.length + 8
theorem l_244 (I : LI xs h s) {i : Nat} (hi : i + 7 ≤ xs.length) (hl : xs.length ≤ 448) (d : Nat) : LG xs h i d 244 := by
  obtain ⟨v, h1, h2, s', e1, e2, z1, v2, I', gl⟩ := I.op (op_table (xs.getD (i + 1) 0) (xs.getD (i + 2) 0)) d
  refine ⟨h2, s', ?_, I', gl⟩
  rw [e_263_244, al_1 I.2.2.2 hi hl, al_2 I.2.2.2 hi hl, I.2.1.v3, e1, cI_s, al_1 z1 hi hl, al_2 z1 hi hl, v2, e2, cI_s, if_pos rfl, e_263_1615, show (7 : Int32) = nI 7 from rfl, nI_add]
theorem l_277 (I : LI xs h s) {i : Nat} (hi : i + 7 ≤ xs.length) (hl : xs.length ≤ 448) (d : Nat) : LG xs h i d 277 := by
  obtain ⟨v, h1, h2, s', e1, e2, z1, v2, I', gl⟩ := I.op (op_turn (xs.getD (i + 1) 0)) d
  refine ⟨h2, s', ?_, I', gl⟩
  rw [e_263_277, al_1 I.2.2.2 hi hl, I.2.1.v3, e1, cI_s, al_1 z1 hi hl, v2, e2, cI_s, if_pos rfl, e_263_1615, show (7 : Int32) = nI 7 from rfl, nI_add]
theorem l_300 (I : LI xs h s) {i : Nat} (hi : i + 7 ≤ xs.length) (hl : xs.length ≤ 448) (d : Nat) : LG xs h i d 300 := by
  obtain ⟨v, h1, h2, s', e1, e2, z1, v2, I', gl⟩ := I.op (op_swap (xs.getD (i + 1) 0) (xs.getD (i + 2) 0)) d
  refine ⟨h2, s', ?_, I', gl⟩
  rw [e_263_300, al_1 I.2.2.2 hi hl, al_2 I.2.2.2 hi hl, I.2.1.v3, e1, cI_s, al_1 z1 hi hl, al_2 z1 hi hl, v2, e2, cI_s, if_pos rfl, e_263_1615, show (7 : Int32) = nI 7 from rfl, nI_add]
theorem l_333 (I : LI xs h s) {i : Nat} (hi : i + 7 ≤ xs.length) (hl : xs.length ≤ 448) (d : Nat) : LG xs h i d 333 := by
  obtain ⟨v, h1, h2, s', e1, e2, z1, v2, I', gl⟩ := I.op (op_count (xs.getD (i + 1) 0)) d
  refine ⟨h2, s', ?_, I', gl⟩
  rw [e_263_333, al_1 I.2.2.2 hi hl, I.2.1.v3, e1, cI_s, al_1 z1 hi hl, v2, e2, cI_s, if_pos rfl, e_263_1615, show (7 : Int32) = nI 7 from rfl, nI_add]
theorem l_356 (I : LI xs h s) {i : Nat} (hi : i + 7 ≤ xs.length) (hl : xs.length ≤ 448) (d : Nat) : LG xs h i d 356 := by
  obtain ⟨v, h1, h2, s', e1, e2, z1, v2, I', gl⟩ := I.op (op_feed (xs.getD (i + 1) 0) (xs.getD (i + 2) 0) (xs.getD (i + 3) 0) (xs.getD (i + 4) 0) (xs.getD (i + 5) 0) (xs.getD (i + 6) 0)) d
  refine ⟨h2, s', ?_, I', gl⟩
  rw [e_263_356, al_1 I.2.2.2 hi hl, al_2 I.2.2.2 hi hl, al_3 I.2.2.2 hi hl, al_4 I.2.2.2 hi hl, al_5 I.2.2.2 hi hl, al_6 I.2.2.2 hi hl, I.2.1.v3, e1, cI_s, al_1 z1 hi hl, al_2 z1 hi hl, al_3 z1 hi hl, al_4 z1 hi hl, al_5 z1 hi hl, al_6 z1 hi hl, v2, e2, cI_s, if_pos rfl, e_263_1615, show (7 : Int32) = nI 7 from rfl, nI_add]
theorem l_431 (I : LI xs h s) {i : Nat} (hi : i + 7 ≤ xs.length) (hl : xs.length ≤ 448) (d : Nat) : LG xs h i d 431 := by
  obtain ⟨v, h1, h2, s', e1, e2, z1, v2, I', gl⟩ := I.op (op_text ) d
  refine ⟨h2, s', ?_, I', gl⟩
  rw [e_263_431, I.2.1.v3, e1, cI_s, v2, e2, cI_s, if_pos rfl, e_263_1615, show (7 : Int32) = nI 7 from rfl, nI_add]
theorem l_444 (I : LI xs h s) {i : Nat} (hi : i + 7 ≤ xs.length) (hl : xs.length ≤ 448) (d : Nat) : LG xs h i d 444 := by
  obtain ⟨v, h1, h2, s', e1, e2, z1, v2, I', gl⟩ := I.op (op_force (xs.getD (i + 1) 0)) d
  refine ⟨h2, s', ?_, I', gl⟩
  rw [e_263_444, al_1 I.2.2.2 hi hl, I.2.1.v3, e1, cI_s, al_1 z1 hi hl, v2, e2, cI_s, if_pos rfl, e_263_1615, show (7 : Int32) = nI 7 from rfl, nI_add]
theorem l_467 (I : LI xs h s) {i : Nat} (hi : i + 7 ≤ xs.length) (hl : xs.length ≤ 448) (d : Nat) : LG xs h i d 467 := by
  obtain ⟨v, h1, h2, s', e1, e2, z1, v2, I', gl⟩ := I.op (op_asks (xs.getD (i + 1) 0) (xs.getD (i + 2) 0)) d
  refine ⟨h2, s', ?_, I', gl⟩
  rw [e_263_467, al_1 I.2.2.2 hi hl, al_2 I.2.2.2 hi hl, I.2.1.v3, e1, cI_s, al_1 z1 hi hl, al_2 z1 hi hl, v2, e2, cI_s, if_pos rfl, e_263_1615, show (7 : Int32) = nI 7 from rfl, nI_add]
theorem l_500 (I : LI xs h s) {i : Nat} (hi : i + 7 ≤ xs.length) (hl : xs.length ≤ 448) (d : Nat) : LG xs h i d 500 := by
  obtain ⟨v, h1, h2, s', e1, e2, z1, v2, I', gl⟩ := I.op (op_heap (xs.getD (i + 1) 0) (xs.getD (i + 2) 0) (xs.getD (i + 3) 0)) d
  refine ⟨h2, s', ?_, I', gl⟩
  rw [e_263_500, al_1 I.2.2.2 hi hl, al_2 I.2.2.2 hi hl, al_3 I.2.2.2 hi hl, I.2.1.v3, e1, cI_s, al_1 z1 hi hl, al_2 z1 hi hl, al_3 z1 hi hl, v2, e2, cI_s, if_pos rfl, e_263_1615, show (7 : Int32) = nI 7 from rfl, nI_add]
theorem l_543 (I : LI xs h s) {i : Nat} (hi : i + 7 ≤ xs.length) (hl : xs.length ≤ 448) (d : Nat) : LG xs h i d 543 := by
  obtain ⟨v, h1, h2, s', e1, e2, z1, v2, I', gl⟩ := I.op (op_drop ) d
  refine ⟨h2, s', ?_, I', gl⟩
  rw [e_263_543, I.2.1.v3, e1, cI_s, v2, e2, cI_s, if_pos rfl, e_263_1615, show (7 : Int32) = nI 7 from rfl, nI_add]
theorem l_556 (I : LI xs h s) {i : Nat} (hi : i + 7 ≤ xs.length) (hl : xs.length ≤ 448) (d : Nat) : LG xs h i d 556 := by
  obtain ⟨v, h1, h2, s', e1, e2, z1, v2, I', gl⟩ := I.op (op_told (xs.getD (i + 1) 0) (xs.getD (i + 2) 0)) d
  refine ⟨h2, s', ?_, I', gl⟩
  rw [e_263_556, al_1 I.2.2.2 hi hl, al_2 I.2.2.2 hi hl, I.2.1.v3, e1, cI_s, al_1 z1 hi hl, al_2 z1 hi hl, v2, e2, cI_s, if_pos rfl, e_263_1615, show (7 : Int32) = nI 7 from rfl, nI_add]
theorem l_589 (I : LI xs h s) {i : Nat} (hi : i + 7 ≤ xs.length) (hl : xs.length ≤ 448) (d : Nat) : LG xs h i d 589 := by
  obtain ⟨v, h1, h2, s', e1, e2, z1, v2, I', gl⟩ := I.op (op_signs (xs.getD (i + 1) 0)) d
  refine ⟨h2, s', ?_, I', gl⟩
  rw [e_263_589, al_1 I.2.2.2 hi hl, I.2.1.v3, e1, cI_s, al_1 z1 hi hl, v2, e2, cI_s, if_pos rfl, e_263_1615, show (7 : Int32) = nI 7 from rfl, nI_add]
theorem l_612 (I : LI xs h s) {i : Nat} (hi : i + 7 ≤ xs.length) (hl : xs.length ≤ 448) (d : Nat) : LG xs h i d 612 := by
  obtain ⟨v, h1, h2, s', e1, e2, z1, v2, I', gl⟩ := I.op (op_look (xs.getD (i + 1) 0)) d
  refine ⟨h2, s', ?_, I', gl⟩
  rw [e_263_612, al_1 I.2.2.2 hi hl, I.2.1.v3, e1, cI_s, al_1 z1 hi hl, v2, e2, cI_s, if_pos rfl, e_263_1615, show (7 : Int32) = nI 7 from rfl, nI_add]
theorem l_635 (I : LI xs h s) {i : Nat} (hi : i + 7 ≤ xs.length) (hl : xs.length ≤ 448) (d : Nat) : LG xs h i d 635 := by
  obtain ⟨v, h1, h2, s', e1, e2, z1, v2, I', gl⟩ := I.op (op_one ) d
  refine ⟨h2, s', ?_, I', gl⟩
  rw [e_263_635, I.2.1.v3, e1, cI_s, v2, e2, cI_s, if_pos rfl, e_263_1615, show (7 : Int32) = nI 7 from rfl, nI_add]
theorem l_648 (I : LI xs h s) {i : Nat} (hi : i + 7 ≤ xs.length) (hl : xs.length ≤ 448) (d : Nat) : LG xs h i d 648 := by
  obtain ⟨v, h1, h2, s', e1, e2, z1, v2, I', gl⟩ := I.op (op_two (xs.getD (i + 1) 0)) d
  refine ⟨h2, s', ?_, I', gl⟩
  rw [e_263_648, al_1 I.2.2.2 hi hl, I.2.1.v3, e1, cI_s, al_1 z1 hi hl, v2, e2, cI_s, if_pos rfl, e_263_1615, show (7 : Int32) = nI 7 from rfl, nI_add]
theorem l_671 (I : LI xs h s) {i : Nat} (hi : i + 7 ≤ xs.length) (hl : xs.length ≤ 448) (d : Nat) : LG xs h i d 671 := by
  obtain ⟨v, h1, h2, s', e1, e2, z1, v2, I', gl⟩ := I.op (op_counts (xs.getD (i + 1) 0)) d
  refine ⟨h2, s', ?_, I', gl⟩
  rw [e_263_671, al_1 I.2.2.2 hi hl, I.2.1.v3, e1, cI_s, al_1 z1 hi hl, v2, e2, cI_s, if_pos rfl, e_263_1615, show (7 : Int32) = nI 7 from rfl, nI_add]
theorem l_694 (I : LI xs h s) {i : Nat} (hi : i + 7 ≤ xs.length) (hl : xs.length ≤ 448) (d : Nat) : LG xs h i d 694 := by
  obtain ⟨v, h1, h2, s', e1, e2, z1, v2, I', gl⟩ := I.op (op_unseen (xs.getD (i + 1) 0)) d
  refine ⟨h2, s', ?_, I', gl⟩
  rw [e_263_694, al_1 I.2.2.2 hi hl, I.2.1.v3, e1, cI_s, al_1 z1 hi hl, v2, e2, cI_s, if_pos rfl, e_263_1615, show (7 : Int32) = nI 7 from rfl, nI_add]
theorem l_717 (I : LI xs h s) {i : Nat} (hi : i + 7 ≤ xs.length) (hl : xs.length ≤ 448) (d : Nat) : LG xs h i d 717 := by
  obtain ⟨v, h1, h2, s', e1, e2, z1, v2, I', gl⟩ := I.op (op_apart (xs.getD (i + 1) 0)) d
  refine ⟨h2, s', ?_, I', gl⟩
  rw [e_263_717, al_1 I.2.2.2 hi hl, I.2.1.v3, e1, cI_s, al_1 z1 hi hl, v2, e2, cI_s, if_pos rfl, e_263_1615, show (7 : Int32) = nI 7 from rfl, nI_add]
theorem l_740 (I : LI xs h s) {i : Nat} (hi : i + 7 ≤ xs.length) (hl : xs.length ≤ 448) (d : Nat) : LG xs h i d 740 := by
  obtain ⟨v, h1, h2, s', e1, e2, z1, v2, I', gl⟩ := I.op (op_reach (xs.getD (i + 1) 0)) d
  refine ⟨h2, s', ?_, I', gl⟩
  rw [e_263_740, al_1 I.2.2.2 hi hl, I.2.1.v3, e1, cI_s, al_1 z1 hi hl, v2, e2, cI_s, if_pos rfl, e_263_1615, show (7 : Int32) = nI 7 from rfl, nI_add]
theorem l_763 (I : LI xs h s) {i : Nat} (hi : i + 7 ≤ xs.length) (hl : xs.length ≤ 448) (d : Nat) : LG xs h i d 763 := by
  obtain ⟨v, h1, h2, s', e1, e2, z1, v2, I', gl⟩ := I.op (op_lay (xs.getD (i + 1) 0) (xs.getD (i + 2) 0)) d
  refine ⟨h2, s', ?_, I', gl⟩
  rw [e_263_763, al_1 I.2.2.2 hi hl, al_2 I.2.2.2 hi hl, I.2.1.v3, e1, cI_s, al_1 z1 hi hl, al_2 z1 hi hl, v2, e2, cI_s, if_pos rfl, e_263_1615, show (7 : Int32) = nI 7 from rfl, nI_add]
theorem l_796 (I : LI xs h s) {i : Nat} (hi : i + 7 ≤ xs.length) (hl : xs.length ≤ 448) (d : Nat) : LG xs h i d 796 := by
  obtain ⟨v, h1, h2, s', e1, e2, z1, v2, I', gl⟩ := I.op (op_even (xs.getD (i + 1) 0)) d
  refine ⟨h2, s', ?_, I', gl⟩
  rw [e_263_796, al_1 I.2.2.2 hi hl, I.2.1.v3, e1, cI_s, al_1 z1 hi hl, v2, e2, cI_s, if_pos rfl, e_263_1615, show (7 : Int32) = nI 7 from rfl, nI_add]
theorem l_819 (I : LI xs h s) {i : Nat} (hi : i + 7 ≤ xs.length) (hl : xs.length ≤ 448) (d : Nat) : LG xs h i d 819 := by
  obtain ⟨v, h1, h2, s', e1, e2, z1, v2, I', gl⟩ := I.op (op_needs (xs.getD (i + 1) 0)) d
  refine ⟨h2, s', ?_, I', gl⟩
  rw [e_263_819, al_1 I.2.2.2 hi hl, I.2.1.v3, e1, cI_s, al_1 z1 hi hl, v2, e2, cI_s, if_pos rfl, e_263_1615, show (7 : Int32) = nI 7 from rfl, nI_add]
theorem l_842 (I : LI xs h s) {i : Nat} (hi : i + 7 ≤ xs.length) (hl : xs.length ≤ 448) (d : Nat) : LG xs h i d 842 := by
  obtain ⟨v, h1, h2, s', e1, e2, z1, v2, I', gl⟩ := I.op (op_can (xs.getD (i + 1) 0)) d
  refine ⟨h2, s', ?_, I', gl⟩
  rw [e_263_842, al_1 I.2.2.2 hi hl, I.2.1.v3, e1, cI_s, al_1 z1 hi hl, v2, e2, cI_s, if_pos rfl, e_263_1615, show (7 : Int32) = nI 7 from rfl, nI_add]
theorem l_865 (I : LI xs h s) {i : Nat} (hi : i + 7 ≤ xs.length) (hl : xs.length ≤ 448) (d : Nat) : LG xs h i d 865 := by
  obtain ⟨v, h1, h2, s', e1, e2, z1, v2, I', gl⟩ := I.op (op_reads ) d
  refine ⟨h2, s', ?_, I', gl⟩
  rw [e_263_865, I.2.1.v3, e1, cI_s, v2, e2, cI_s, if_pos rfl, e_263_1615, show (7 : Int32) = nI 7 from rfl, nI_add]
theorem l_878 (I : LI xs h s) {i : Nat} (hi : i + 7 ≤ xs.length) (hl : xs.length ≤ 448) (d : Nat) : LG xs h i d 878 := by
  obtain ⟨v, h1, h2, s', e1, e2, z1, v2, I', gl⟩ := I.op (op_coin (xs.getD (i + 1) 0)) d
  refine ⟨h2, s', ?_, I', gl⟩
  rw [e_263_878, al_1 I.2.2.2 hi hl, I.2.1.v3, e1, cI_s, al_1 z1 hi hl, v2, e2, cI_s, if_pos rfl, e_263_1615, show (7 : Int32) = nI 7 from rfl, nI_add]
theorem l_901 (I : LI xs h s) {i : Nat} (hi : i + 7 ≤ xs.length) (hl : xs.length ≤ 448) (d : Nat) : LG xs h i d 901 := by
  obtain ⟨v, h1, h2, s', e1, e2, z1, v2, I', gl⟩ := I.op (op_swaps (xs.getD (i + 1) 0)) d
  refine ⟨h2, s', ?_, I', gl⟩
  rw [e_263_901, al_1 I.2.2.2 hi hl, I.2.1.v3, e1, cI_s, al_1 z1 hi hl, v2, e2, cI_s, if_pos rfl, e_263_1615, show (7 : Int32) = nI 7 from rfl, nI_add]
theorem l_924 (I : LI xs h s) {i : Nat} (hi : i + 7 ≤ xs.length) (hl : xs.length ≤ 448) (d : Nat) : LG xs h i d 924 := by
  obtain ⟨v, h1, h2, s', e1, e2, z1, v2, I', gl⟩ := I.op (op_swept (xs.getD (i + 1) 0) (xs.getD (i + 2) 0)) d
  refine ⟨h2, s', ?_, I', gl⟩
  rw [e_263_924, al_1 I.2.2.2 hi hl, al_2 I.2.2.2 hi hl, I.2.1.v3, e1, cI_s, al_1 z1 hi hl, al_2 z1 hi hl, v2, e2, cI_s, if_pos rfl, e_263_1615, show (7 : Int32) = nI 7 from rfl, nI_add]
theorem l_957 (I : LI xs h s) {i : Nat} (hi : i + 7 ≤ xs.length) (hl : xs.length ≤ 448) (d : Nat) : LG xs h i d 957 := by
  obtain ⟨v, h1, h2, s', e1, e2, z1, v2, I', gl⟩ := I.op (op_cut (xs.getD (i + 1) 0)) d
  refine ⟨h2, s', ?_, I', gl⟩
  rw [e_263_957, al_1 I.2.2.2 hi hl, I.2.1.v3, e1, cI_s, al_1 z1 hi hl, v2, e2, cI_s, if_pos rfl, e_263_1615, show (7 : Int32) = nI 7 from rfl, nI_add]
theorem l_980 (I : LI xs h s) {i : Nat} (hi : i + 7 ≤ xs.length) (hl : xs.length ≤ 448) (d : Nat) : LG xs h i d 980 := by
  obtain ⟨v, h1, h2, s', e1, e2, z1, v2, I', gl⟩ := I.op (op_cuts (xs.getD (i + 1) 0)) d
  refine ⟨h2, s', ?_, I', gl⟩
  rw [e_263_980, al_1 I.2.2.2 hi hl, I.2.1.v3, e1, cI_s, al_1 z1 hi hl, v2, e2, cI_s, if_pos rfl, e_263_1615, show (7 : Int32) = nI 7 from rfl, nI_add]
theorem l_1003 (I : LI xs h s) {i : Nat} (hi : i + 7 ≤ xs.length) (hl : xs.length ≤ 448) (d : Nat) : LG xs h i d 1003 := by
  obtain ⟨v, h1, h2, s', e1, e2, z1, v2, I', gl⟩ := I.op (op_move (xs.getD (i + 1) 0) (xs.getD (i + 2) 0)) d
  refine ⟨h2, s', ?_, I', gl⟩
  rw [e_263_1003, al_1 I.2.2.2 hi hl, al_2 I.2.2.2 hi hl, I.2.1.v3, e1, cI_s, al_1 z1 hi hl, al_2 z1 hi hl, v2, e2, cI_s, if_pos rfl, e_263_1615, show (7 : Int32) = nI 7 from rfl, nI_add]
theorem l_1036 (I : LI xs h s) {i : Nat} (hi : i + 7 ≤ xs.length) (hl : xs.length ≤ 448) (d : Nat) : LG xs h i d 1036 := by
  obtain ⟨v, h1, h2, s', e1, e2, z1, v2, I', gl⟩ := I.op (op_moves (xs.getD (i + 1) 0)) d
  refine ⟨h2, s', ?_, I', gl⟩
  rw [e_263_1036, al_1 I.2.2.2 hi hl, I.2.1.v3, e1, cI_s, al_1 z1 hi hl, v2, e2, cI_s, if_pos rfl, e_263_1615, show (7 : Int32) = nI 7 from rfl, nI_add]
theorem l_1059 (I : LI xs h s) {i : Nat} (hi : i + 7 ≤ xs.length) (hl : xs.length ≤ 448) (d : Nat) : LG xs h i d 1059 := by
  obtain ⟨v, h1, h2, s', e1, e2, z1, v2, I', gl⟩ := I.op (op_likely (xs.getD (i + 1) 0)) d
  refine ⟨h2, s', ?_, I', gl⟩
  rw [e_263_1059, al_1 I.2.2.2 hi hl, I.2.1.v3, e1, cI_s, al_1 z1 hi hl, v2, e2, cI_s, if_pos rfl, e_263_1615, show (7 : Int32) = nI 7 from rfl, nI_add]
theorem l_1082 (I : LI xs h s) {i : Nat} (hi : i + 7 ≤ xs.length) (hl : xs.length ≤ 448) (d : Nat) : LG xs h i d 1082 := by
  obtain ⟨v, h1, h2, s', e1, e2, z1, v2, I', gl⟩ := I.opJ (op_right (xs.getD (i + 1) 0)) d
  refine ⟨h2, s', ?_, I', gl⟩
  rw [e_263_1082, al_1 I.2.2.2 hi hl, I.2.1.v3, e1, cJ_s, al_1 z1 hi hl, v2, e2, cJ_s, if_pos (if_pos rfl), e_263_1615, show (7 : Int32) = nI 7 from rfl, nI_add]
theorem l_1106 (I : LI xs h s) {i : Nat} (hi : i + 7 ≤ xs.length) (hl : xs.length ≤ 448) (d : Nat) : LG xs h i d 1106 := by
  obtain ⟨v, h1, h2, s', e1, e2, z1, v2, I', gl⟩ := I.op (op_cheapest (xs.getD (i + 1) 0)) d
  refine ⟨h2, s', ?_, I', gl⟩
  rw [e_263_1106, al_1 I.2.2.2 hi hl, I.2.1.v3, e1, cI_s, al_1 z1 hi hl, v2, e2, cI_s, if_pos rfl, e_263_1615, show (7 : Int32) = nI 7 from rfl, nI_add]
theorem l_1129 (I : LI xs h s) {i : Nat} (hi : i + 7 ≤ xs.length) (hl : xs.length ≤ 448) (d : Nat) : LG xs h i d 1129 := by
  obtain ⟨v, h1, h2, s', e1, e2, z1, v2, I', gl⟩ := I.op (op_lies ) d
  refine ⟨h2, s', ?_, I', gl⟩
  rw [e_263_1129, I.2.1.v3, e1, cI_s, v2, e2, cI_s, if_pos rfl, e_263_1615, show (7 : Int32) = nI 7 from rfl, nI_add]
theorem l_1142 (I : LI xs h s) {i : Nat} (hi : i + 7 ≤ xs.length) (hl : xs.length ≤ 448) (d : Nat) : LG xs h i d 1142 := by
  obtain ⟨v, h1, h2, s', e1, e2, z1, v2, I', gl⟩ := I.op (op_idle ) d
  refine ⟨h2, s', ?_, I', gl⟩
  rw [e_263_1142, I.2.1.v3, e1, cI_s, v2, e2, cI_s, if_pos rfl, e_263_1615, show (7 : Int32) = nI 7 from rfl, nI_add]
theorem l_1155 (I : LI xs h s) {i : Nat} (hi : i + 7 ≤ xs.length) (hl : xs.length ≤ 448) (d : Nat) : LG xs h i d 1155 := by
  obtain ⟨v, h1, h2, s', e1, e2, z1, v2, I', gl⟩ := I.op (op_judge (xs.getD (i + 1) 0)) d
  refine ⟨h2, s', ?_, I', gl⟩
  rw [e_263_1155, al_1 I.2.2.2 hi hl, I.2.1.v3, e1, cI_s, al_1 z1 hi hl, v2, e2, cI_s, if_pos rfl, e_263_1615, show (7 : Int32) = nI 7 from rfl, nI_add]
theorem l_1178 (I : LI xs h s) {i : Nat} (hi : i + 7 ≤ xs.length) (hl : xs.length ≤ 448) (d : Nat) : LG xs h i d 1178 := by
  obtain ⟨v, h1, h2, s', e1, e2, z1, v2, I', gl⟩ := I.op (op_match (xs.getD (i + 1) 0) (xs.getD (i + 2) 0)) d
  refine ⟨h2, s', ?_, I', gl⟩
  rw [e_263_1178, al_1 I.2.2.2 hi hl, al_2 I.2.2.2 hi hl, I.2.1.v3, e1, cI_s, al_1 z1 hi hl, al_2 z1 hi hl, v2, e2, cI_s, if_pos rfl, e_263_1615, show (7 : Int32) = nI 7 from rfl, nI_add]
theorem l_1211 (I : LI xs h s) {i : Nat} (hi : i + 7 ≤ xs.length) (hl : xs.length ≤ 448) (d : Nat) : LG xs h i d 1211 := by
  obtain ⟨v, h1, h2, s', e1, e2, z1, v2, I', gl⟩ := I.op (op_tells (xs.getD (i + 1) 0) (xs.getD (i + 2) 0) (xs.getD (i + 3) 0)) d
  refine ⟨h2, s', ?_, I', gl⟩
  rw [e_263_1211, al_1 I.2.2.2 hi hl, al_2 I.2.2.2 hi hl, al_3 I.2.2.2 hi hl, I.2.1.v3, e1, cI_s, al_1 z1 hi hl, al_2 z1 hi hl, al_3 z1 hi hl, v2, e2, cI_s, if_pos rfl, e_263_1615, show (7 : Int32) = nI 7 from rfl, nI_add]
theorem l_1254 (I : LI xs h s) {i : Nat} (hi : i + 7 ≤ xs.length) (hl : xs.length ≤ 448) (d : Nat) : LG xs h i d 1254 := by
  obtain ⟨v, h1, h2, s', e1, e2, z1, v2, I', gl⟩ := I.op (op_film (xs.getD (i + 1) 0)) d
  refine ⟨h2, s', ?_, I', gl⟩
  rw [e_263_1254, al_1 I.2.2.2 hi hl, I.2.1.v3, e1, cI_s, al_1 z1 hi hl, v2, e2, cI_s, if_pos rfl, e_263_1615, show (7 : Int32) = nI 7 from rfl, nI_add]
theorem l_1277 (I : LI xs h s) {i : Nat} (hi : i + 7 ≤ xs.length) (hl : xs.length ≤ 448) (d : Nat) : LG xs h i d 1277 := by
  obtain ⟨v, h1, h2, s', e1, e2, z1, v2, I', gl⟩ := I.op (op_evening (xs.getD (i + 1) 0) (xs.getD (i + 2) 0)) d
  refine ⟨h2, s', ?_, I', gl⟩
  rw [e_263_1277, al_1 I.2.2.2 hi hl, al_2 I.2.2.2 hi hl, I.2.1.v3, e1, cI_s, al_1 z1 hi hl, al_2 z1 hi hl, v2, e2, cI_s, if_pos rfl, e_263_1615, show (7 : Int32) = nI 7 from rfl, nI_add]
theorem l_1310 (I : LI xs h s) {i : Nat} (hi : i + 7 ≤ xs.length) (hl : xs.length ≤ 448) (d : Nat) : LG xs h i d 1310 := by
  obtain ⟨v, h1, h2, s', e1, e2, z1, v2, I', gl⟩ := I.opJ (op_odds (xs.getD (i + 1) 0) (xs.getD (i + 2) 0) (xs.getD (i + 3) 0)) d
  refine ⟨h2, s', ?_, I', gl⟩
  rw [e_263_1310, al_1 I.2.2.2 hi hl, al_2 I.2.2.2 hi hl, al_3 I.2.2.2 hi hl, I.2.1.v3, e1, cJ_s, al_1 z1 hi hl, al_2 z1 hi hl, al_3 z1 hi hl, v2, e2, cJ_s, if_pos (if_pos rfl), e_263_1615, show (7 : Int32) = nI 7 from rfl, nI_add]
theorem l_1354 (I : LI xs h s) {i : Nat} (hi : i + 7 ≤ xs.length) (hl : xs.length ≤ 448) (d : Nat) : LG xs h i d 1354 := by
  obtain ⟨v, h1, h2, s', e1, e2, z1, v2, I', gl⟩ := I.op (op_image ) d
  refine ⟨h2, s', ?_, I', gl⟩
  rw [e_263_1354, I.2.1.v3, e1, cI_s, v2, e2, cI_s, if_pos rfl, e_263_1615, show (7 : Int32) = nI 7 from rfl, nI_add]
theorem l_1367 (I : LI xs h s) {i : Nat} (hi : i + 7 ≤ xs.length) (hl : xs.length ≤ 448) (d : Nat) : LG xs h i d 1367 := by
  obtain ⟨v, h1, h2, s', e1, e2, z1, v2, I', gl⟩ := I.op (op_back ) d
  refine ⟨h2, s', ?_, I', gl⟩
  rw [e_263_1367, I.2.1.v3, e1, cI_s, v2, e2, cI_s, if_pos rfl, e_263_1615, show (7 : Int32) = nI 7 from rfl, nI_add]
theorem l_1380 (I : LI xs h s) {i : Nat} (hi : i + 7 ≤ xs.length) (hl : xs.length ≤ 448) (d : Nat) : LG xs h i d 1380 := by
  obtain ⟨v, h1, h2, s', e1, e2, z1, v2, I', gl⟩ := I.op (op_sheet (xs.getD (i + 1) 0) (xs.getD (i + 2) 0) (xs.getD (i + 3) 0)) d
  refine ⟨h2, s', ?_, I', gl⟩
  rw [e_263_1380, al_1 I.2.2.2 hi hl, al_2 I.2.2.2 hi hl, al_3 I.2.2.2 hi hl, I.2.1.v3, e1, cI_s, al_1 z1 hi hl, al_2 z1 hi hl, al_3 z1 hi hl, v2, e2, cI_s, if_pos rfl, e_263_1615, show (7 : Int32) = nI 7 from rfl, nI_add]
theorem l_1423 (I : LI xs h s) {i : Nat} (hi : i + 7 ≤ xs.length) (hl : xs.length ≤ 448) (d : Nat) : LG xs h i d 1423 := by
  obtain ⟨v, h1, h2, s', e1, e2, z1, v2, I', gl⟩ := I.op (op_cell (xs.getD (i + 1) 0) (xs.getD (i + 2) 0) (xs.getD (i + 3) 0)) d
  refine ⟨h2, s', ?_, I', gl⟩
  rw [e_263_1423, al_1 I.2.2.2 hi hl, al_2 I.2.2.2 hi hl, al_3 I.2.2.2 hi hl, I.2.1.v3, e1, cI_s, al_1 z1 hi hl, al_2 z1 hi hl, al_3 z1 hi hl, v2, e2, cI_s, if_pos rfl, e_263_1615, show (7 : Int32) = nI 7 from rfl, nI_add]
theorem l_1466 (I : LI xs h s) {i : Nat} (hi : i + 7 ≤ xs.length) (hl : xs.length ≤ 448) (d : Nat) : LG xs h i d 1466 := by
  obtain ⟨v, h1, h2, s', e1, e2, z1, v2, I', gl⟩ := I.op (op_copy (xs.getD (i + 1) 0) (xs.getD (i + 2) 0) (xs.getD (i + 3) 0) (xs.getD (i + 4) 0) (xs.getD (i + 5) 0)) d
  refine ⟨h2, s', ?_, I', gl⟩
  rw [e_263_1466, al_1 I.2.2.2 hi hl, al_2 I.2.2.2 hi hl, al_3 I.2.2.2 hi hl, al_4 I.2.2.2 hi hl, al_5 I.2.2.2 hi hl, I.2.1.v3, e1, cI_s, al_1 z1 hi hl, al_2 z1 hi hl, al_3 z1 hi hl, al_4 z1 hi hl, al_5 z1 hi hl, v2, e2, cI_s, if_pos rfl, e_263_1615, show (7 : Int32) = nI 7 from rfl, nI_add]
theorem l_1529 (I : LI xs h s) {i : Nat} (hi : i + 7 ≤ xs.length) (hl : xs.length ≤ 448) (d : Nat) : LG xs h i d 1529 := by
  obtain ⟨v, h1, h2, s', e1, e2, z1, v2, I', gl⟩ := I.op (op_heapsBy (xs.getD (i + 1) 0) (xs.getD (i + 2) 0) (xs.getD (i + 3) 0) (xs.getD (i + 4) 0)) d
  refine ⟨h2, s', ?_, I', gl⟩
  rw [e_263_1529, al_1 I.2.2.2 hi hl, al_2 I.2.2.2 hi hl, al_3 I.2.2.2 hi hl, al_4 I.2.2.2 hi hl, I.2.1.v3, e1, cI_s, al_1 z1 hi hl, al_2 z1 hi hl, al_3 z1 hi hl, al_4 z1 hi hl, v2, e2, cI_s, if_pos rfl, e_263_1615, show (7 : Int32) = nI 7 from rfl, nI_add]
theorem l_1582 (I : LI xs h s) {i : Nat} (hi : i + 7 ≤ xs.length) (hl : xs.length ≤ 448) (d : Nat) : LG xs h i d 1582 := by
  obtain ⟨v, h1, h2, s', e1, e2, z1, v2, I', gl⟩ := I.op (op_taken (xs.getD (i + 1) 0) (xs.getD (i + 2) 0)) d
  refine ⟨h2, s', ?_, I', gl⟩
  rw [e_263_1582, al_1 I.2.2.2 hi hl, al_2 I.2.2.2 hi hl, I.2.1.v3, e1, cI_s, al_1 z1 hi hl, al_2 z1 hi hl, v2, e2, cI_s, if_pos rfl, e_263_1615, show (7 : Int32) = nI 7 from rfl, nI_add]
theorem l_cmp {n i : Nat} (hn : n ≤ 448) (hi : i ≤ n) : (nI n - 7 < nI i) = (n < i + 7) := by
  rcases Nat.lt_or_ge n 7 with q | q
  · have : ∀ a, a < 7 → ∀ b, b < 7 → nI a - 7 < nI b := by decide
    exact propext ⟨fun _ => by omega, fun _ => this n q i (by omega)⟩
  · have e : nI n - 7 = nI (n - 7) := by
      have e1 : nI n = nI (n - 7) + 7 := by rw [show (7 : Int32) = nI 7 from rfl, nI_add, show n - 7 + 7 = n by omega]
      rw [e1, Int32.add_sub_cancel]
    rw [e, nI_lt0 (by omega) (by omega)]
    exact propext ⟨fun _ => by omega, fun _ => by omega⟩
theorem aln0 {h : MHeap} (z : h[0]? = some (99, xs.map .int)) (k : Int32 → MRes) : aln none h 0 k = k (nI xs.length) := by
  simp only [aln, z]
  rw [if_pos (by simp), List.length_map]
theorem l_dis (I : LI xs h s) {i : Nat} (hi : i + 7 ≤ xs.length) (hl : xs.length ≤ 448) (d : Nat) : LG xs h i d 18 := by
  unfold LG
  rw [e_263_18, aln0 I.2.2.2, if_neg (by rw [l_cmp hl (by omega)]; omega), al_n I.2.2.2 (by omega) hl]
  generalize xs.getD i 0 &&& (63 : Int32) = y
  by_cases q : y = (0 : Int32)
  · rw [if_pos q]; exact l_244 I hi hl d
  rw [if_neg q]; clear q
  by_cases q : y = (1 : Int32)
  · rw [if_pos q]; exact l_277 I hi hl d
  rw [if_neg q]; clear q
  by_cases q : y = (2 : Int32)
  · rw [if_pos q]; exact l_300 I hi hl d
  rw [if_neg q]; clear q
  by_cases q : y = (3 : Int32)
  · rw [if_pos q]; exact l_333 I hi hl d
  rw [if_neg q]; clear q
  by_cases q : y = (4 : Int32)
  · rw [if_pos q]; exact l_356 I hi hl d
  rw [if_neg q]; clear q
  by_cases q : y = (5 : Int32)
  · rw [if_pos q]; exact l_431 I hi hl d
  rw [if_neg q]; clear q
  by_cases q : y = (6 : Int32)
  · rw [if_pos q]; exact l_444 I hi hl d
  rw [if_neg q]; clear q
  by_cases q : y = (7 : Int32)
  · rw [if_pos q]; exact l_467 I hi hl d
  rw [if_neg q]; clear q
  by_cases q : y = (8 : Int32)
  · rw [if_pos q]; exact l_500 I hi hl d
  rw [if_neg q]; clear q
  by_cases q : y = (9 : Int32)
  · rw [if_pos q]; exact l_543 I hi hl d
  rw [if_neg q]; clear q
  by_cases q : y = (10 : Int32)
  · rw [if_pos q]; exact l_556 I hi hl d
  rw [if_neg q]; clear q
  by_cases q : y = (11 : Int32)
  · rw [if_pos q]; exact l_589 I hi hl d
  rw [if_neg q]; clear q
  by_cases q : y = (12 : Int32)
  · rw [if_pos q]; exact l_612 I hi hl d
  rw [if_neg q]; clear q
  by_cases q : y = (13 : Int32)
  · rw [if_pos q]; exact l_635 I hi hl d
  rw [if_neg q]; clear q
  by_cases q : y = (14 : Int32)
  · rw [if_pos q]; exact l_648 I hi hl d
  rw [if_neg q]; clear q
  by_cases q : y = (15 : Int32)
  · rw [if_pos q]; exact l_671 I hi hl d
  rw [if_neg q]; clear q
  by_cases q : y = (16 : Int32)
  · rw [if_pos q]; exact l_694 I hi hl d
  rw [if_neg q]; clear q
  by_cases q : y = (17 : Int32)
  · rw [if_pos q]; exact l_717 I hi hl d
  rw [if_neg q]; clear q
  by_cases q : y = (18 : Int32)
  · rw [if_pos q]; exact l_740 I hi hl d
  rw [if_neg q]; clear q
  by_cases q : y = (19 : Int32)
  · rw [if_pos q]; exact l_763 I hi hl d
  rw [if_neg q]; clear q
  by_cases q : y = (20 : Int32)
  · rw [if_pos q]; exact l_796 I hi hl d
  rw [if_neg q]; clear q
  by_cases q : y = (21 : Int32)
  · rw [if_pos q]; exact l_819 I hi hl d
  rw [if_neg q]; clear q
  by_cases q : y = (22 : Int32)
  · rw [if_pos q]; exact l_842 I hi hl d
  rw [if_neg q]; clear q
  by_cases q : y = (23 : Int32)
  · rw [if_pos q]; exact l_865 I hi hl d
  rw [if_neg q]; clear q
  by_cases q : y = (24 : Int32)
  · rw [if_pos q]; exact l_878 I hi hl d
  rw [if_neg q]; clear q
  by_cases q : y = (25 : Int32)
  · rw [if_pos q]; exact l_901 I hi hl d
  rw [if_neg q]; clear q
  by_cases q : y = (26 : Int32)
  · rw [if_pos q]; exact l_924 I hi hl d
  rw [if_neg q]; clear q
  by_cases q : y = (27 : Int32)
  · rw [if_pos q]; exact l_957 I hi hl d
  rw [if_neg q]; clear q
  by_cases q : y = (28 : Int32)
  · rw [if_pos q]; exact l_980 I hi hl d
  rw [if_neg q]; clear q
  by_cases q : y = (29 : Int32)
  · rw [if_pos q]; exact l_1003 I hi hl d
  rw [if_neg q]; clear q
  by_cases q : y = (30 : Int32)
  · rw [if_pos q]; exact l_1036 I hi hl d
  rw [if_neg q]; clear q
  by_cases q : y = (31 : Int32)
  · rw [if_pos q]; exact l_1059 I hi hl d
  rw [if_neg q]; clear q
  by_cases q : y = (32 : Int32)
  · rw [if_pos q]; exact l_1082 I hi hl d
  rw [if_neg q]; clear q
  by_cases q : y = (33 : Int32)
  · rw [if_pos q]; exact l_1106 I hi hl d
  rw [if_neg q]; clear q
  by_cases q : y = (34 : Int32)
  · rw [if_pos q]; exact l_1129 I hi hl d
  rw [if_neg q]; clear q
  by_cases q : y = (35 : Int32)
  · rw [if_pos q]; exact l_1142 I hi hl d
  rw [if_neg q]; clear q
  by_cases q : y = (36 : Int32)
  · rw [if_pos q]; exact l_1155 I hi hl d
  rw [if_neg q]; clear q
  by_cases q : y = (37 : Int32)
  · rw [if_pos q]; exact l_1178 I hi hl d
  rw [if_neg q]; clear q
  by_cases q : y = (38 : Int32)
  · rw [if_pos q]; exact l_1211 I hi hl d
  rw [if_neg q]; clear q
  by_cases q : y = (39 : Int32)
  · rw [if_pos q]; exact l_1254 I hi hl d
  rw [if_neg q]; clear q
  by_cases q : y = (40 : Int32)
  · rw [if_pos q]; exact l_1277 I hi hl d
  rw [if_neg q]; clear q
  by_cases q : y = (41 : Int32)
  · rw [if_pos q]; exact l_1310 I hi hl d
  rw [if_neg q]; clear q
  by_cases q : y = (42 : Int32)
  · rw [if_pos q]; exact l_1354 I hi hl d
  rw [if_neg q]; clear q
  by_cases q : y = (43 : Int32)
  · rw [if_pos q]; exact l_1367 I hi hl d
  rw [if_neg q]; clear q
  by_cases q : y = (44 : Int32)
  · rw [if_pos q]; exact l_1380 I hi hl d
  rw [if_neg q]; clear q
  by_cases q : y = (45 : Int32)
  · rw [if_pos q]; exact l_1423 I hi hl d
  rw [if_neg q]; clear q
  by_cases q : y = (46 : Int32)
  · rw [if_pos q]; exact l_1466 I hi hl d
  rw [if_neg q]; clear q
  by_cases q : y = (47 : Int32)
  · rw [if_pos q]; exact l_1529 I hi hl d
  rw [if_neg q]; clear q
  by_cases q : y = (48 : Int32)
  · rw [if_pos q]; exact l_1582 I hi hl d
  rw [if_neg q]; clear q
  rw [e_263_1615, show (7 : Int32) = nI 7 from rfl, nI_add]
  exact ⟨h, s, rfl, I, by omega⟩
theorem l_all (hl : xs.length ≤ 448) (d : Nat) : ∀ (n i : Nat) (h : MHeap) (s : Sta), i ≤ xs.length → xs.length ≤ i + 7 * n → LI xs h s → h.length ≤ 45 + 8 * i → ∃ h' s', ex (d + 200) 263 18 [sv (.ref 0), sv (.ref 3), sv (.ref 28), sv (.int (nI i))] [] h = some (some (.int 1), h') ∧ LI xs h' s' ∧ h'.length ≤ 4000 := by
  intro n
  induction n with
  | zero =>
    intro i h s h1 h2 I h3
    refine ⟨h, s, ?_, I, by omega⟩
    rw [e_263_18, aln0 I.2.2.2, if_pos (by rw [l_cmp hl h1]; omega)]
    rfl
  | succ n ih =>
    intro i h s h1 h2 I h3
    by_cases q : xs.length < i + 7
    · refine ⟨h, s, ?_, I, by omega⟩
      rw [e_263_18, aln0 I.2.2.2, if_pos (by rw [l_cmp hl h1]; exact q)]
      rfl
    · obtain ⟨h', s', e, I', g⟩ := l_dis I (i := i) (by omega) hl d
      rw [e]
      exact ih (i + 7) h' s' (by omega) (by omega) I' (by omega)
end LAWL
