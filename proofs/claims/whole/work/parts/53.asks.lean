/-! the class's looks at its board -/
/-- bits where q holds; how many; the first -/
def otq (q : Nat → Bool) (n : Nat) : Nat := lp (fun i s => s ||| (if q i then 2 ^ i else 0)) n 0
def cnt (q : Nat → Bool) (n : Nat) : Nat := lp (fun i s => s + (if q i then 1 else 0)) n 0
theorem otq_succ (q : Nat → Bool) (n : Nat) : otq q (n + 1) = otq q n ||| (if q n then 2 ^ n else 0) := rfl
theorem cnt_succ (q : Nat → Bool) (n : Nat) : cnt q (n + 1) = cnt q n + (if q n then 1 else 0) := rfl
theorem otq_congr {q r : Nat → Bool} {n : Nat} (h : ∀ i, i < n → q i = r i) : otq q n = otq r n := lp_congr fun j s hj => by rw [h j hj]
theorem cnt_congr {q r : Nat → Bool} {n : Nat} (h : ∀ i, i < n → q i = r i) : cnt q n = cnt r n := lp_congr fun j s hj => by rw [h j hj]
theorem otq_bit (q : Nat → Bool) (n i : Nat) : (otq q n).testBit i = (decide (i < n) && q i) := by
  induction n with
  | zero => simp [otq, lp]
  | succ n ih =>
    rw [otq_succ, Nat.testBit_or, ih]
    by_cases h : i = n
    · subst h
      cases hq : q i <;> simp
    · have h2 : (2 ^ n : Nat).testBit i = false := by rw [Nat.testBit_two_pow]; simp; omega
      have h3 : decide (i < n + 1) = decide (i < n) := by simp; omega
      rw [h3]
      cases hq : q n <;> simp [h2]
theorem otq_lt (q : Nat → Bool) (n : Nat) : otq q n < 2 ^ n := by
  apply Nat.lt_pow_two_of_testBit
  intro i hi
  rw [otq_bit]; simp; omega
theorem cnt_le (q : Nat → Bool) (n : Nat) : cnt q n ≤ n := by
  unfold cnt
  refine lp_inv (fun i s => s ≤ i) ?_ (by decide)
  intro j s _ hs
  split <;> omega
theorem dm2 (x i : Nat) : x / 2 ^ i % 2 = (if x.testBit i then 1 else 0) := by
  rw [← Nat.toNat_testBit]
  cases x.testBit i <;> rfl
theorem on_otq {q : Nat → Bool} {n : Nat} (hn : n ≤ 12) : onN (otq q n) = cnt q n := by
  have key : ∀ k, k ≤ 12 → lp (fun i s => s + otq q n / 2 ^ i % 2) k 0 = cnt q (min k n) := by
    intro k
    induction k with
    | zero => intro _; simp [lp, cnt]
    | succ k ih =>
      intro hk
      show lp _ k 0 + otq q n / 2 ^ k % 2 = _
      rw [ih (by omega), dm2, otq_bit]
      by_cases h : k < n
      · rw [Nat.min_eq_left (by omega), Nat.min_eq_left (by omega), cnt_succ]
        simp [h]
      · rw [Nat.min_eq_right (by omega), Nat.min_eq_right (by omega)]
        simp [h]
  show lp _ 12 0 = _
  rw [key 12 (by omega), Nat.min_eq_right hn]
section CBS
variable {h : MHeap} {c w : Nat} {b : Int32} {hs : List Ent} {lc lw : Int32} {ps : List Nat}
theorem sl_at {c w : Nat} {hs : List Ent} {i : Nat} {e : Ent} (hi : hs[i]? = some e) (l : Int32) : (sl c w hs l).getD i 0 = sgN c w e l := by
  simp [sl, List.getD_eq_getElem?_getD, hi]
theorem pkN_lt31 {ys : List Nat} (hn : ys.length ≤ 7) (hy : ∀ y ∈ ys, y < 16) : pkN ys < 2 ^ 28 := by
  have h1 := pkN_lt hy
  have h2 : (16 : Nat) ^ ys.length ≤ 16 ^ 7 := Nat.pow_le_pow_right (by decide) hn
  exact Nat.lt_of_lt_of_le h1 h2
theorem getD_ext {xs ys : List Nat} (hl : xs.length = ys.length) (h : ∀ i, i < xs.length → xs.getD i 0 = ys.getD i 0) : xs = ys := by
  apply List.ext_getElem? 
  intro i
  by_cases hi : i < xs.length
  · have := h i hi
    rw [List.getD_eq_getElem?_getD, List.getD_eq_getElem?_getD] at this
    rw [List.getElem?_eq_getElem hi, List.getElem?_eq_getElem (show i < ys.length by omega)] at this ⊢
    simpa using this
  · rw [List.getElem?_eq_none (by omega), List.getElem?_eq_none (by omega)]
theorem c_20 (H : CB h c w b hs lc lw ps) (d : Nat) (l : Int32) {ys : List Nat} (hl : ys.length = hs.length) (hy : ∀ y ∈ ys, y < 16) : call (d + 4) 20 [.ref 4, .int l, .int (nI (pkN ys))] h = some (some (.int (bI (decide (sgs c w hs l = pkN ys)))), h) := by
  have hb := H.bd
  have hv := pkN_lt31 (by omega) hy
  have hin : (sgs c w hs l = pkN ys) ↔ sl c w hs l = ys := pkN_inj (xs := sl c w hs l) (by rw [sl_len, hl]) (sl_lt H.ok l) hy
  rw [e_20]
  refine up_ind (n := hs.length) (i := 0) (P := fun i => ∀ a4, (∀ j, j < i → (sl c w hs l).getD j 0 = ys.getD j 0) → ex (d + 3) 20 2 [sv (.ref 4), sv (.int l), sv (.int (nI (pkN ys))), sv (.int (nI i)), a4] [] h = some (some (.int (bI (decide (sgs c w hs l = pkN ys)))), h)) ?_ ?_ (by omega) none (fun j hj => by omega)
  · intro a4 hh
    rw [e_20_2, H.b3, if_neg (nI_nlt (Nat.le_refl _) (by omega)), zr_1]
    have : sgs c w hs l = pkN ys := hin.2 (getD_ext (by rw [sl_len, hl]) (fun i hi => hh i (by rw [sl_len] at hi; exact hi)))
    simp [this, bI]
  · intro i hi ih a4 hh
    obtain ⟨e, he⟩ : ∃ e, hs[i]? = some e := ⟨_, List.getElem?_eq_getElem hi⟩
    obtain ⟨p, h1, hp, h2, h3, h4⟩ := c_14 H (d + 2) he
    have h6 : sgN c w e l ≤ 10 := sgX_lt (e := e) (x := l.toBitVec.toNat &&& inN c w e) h4
    rw [e_20_2, H.b3, if_pos (nI_lt hi (by omega)), H.v4, h1, cR_r, dA_ref, dA_ref, dN_ref, dA_ref, dR_ref, c_sign d hp h2 h4 (inN12 (by omega) w e), nI_1, e_140, cI_s, sg_in (by omega) (by omega), pkN_get hy i (by omega)]
    have h7 : ys.getD i 0 < 16 := by rw [← pkN_get hy i (by omega)]; omega
    have h5 := sl_at (c := c) (w := w) he l
    show (if nI (sgN c w e l) = nI (ys.getD i 0) then _ else _) = _
    by_cases q : sgN c w e l = ys.getD i 0
    · rw [if_pos (by rw [q])]
      apply ih
      intro j hj
      rcases Nat.lt_succ_iff_lt_or_eq.1 hj with z | z
      · exact hh j z
      · rw [z, h5, q]
    · rw [if_neg (fun z => q ((nI_eq (by omega) (by omega)).1 z)), zr_0]
      have : ¬ sgs c w hs l = pkN ys := fun z => q (by rw [← h5, hin.1 z])
      simp [this, bI]
theorem c_20s (H : CB h c w b hs lc lw ps) (d : Nat) (l l2 : Int32) : call (d + 4) 20 [.ref 4, .int l, .int (nI (sgs c w hs l2))] h = some (some (.int (bI (decide (sgs c w hs l = sgs c w hs l2)))), h) := c_20 H d l (sl_len c w hs l2) (sl_lt H.ok l2)
theorem pkN_zero (n : Nat) : pkN (List.replicate n 0) = 0 := by
  induction n with
  | zero => rfl
  | succ n ih => simp [List.replicate_succ, pkN, ih]
theorem c_20z (H : CB h c w b hs lc lw ps) (d : Nat) (l : Int32) : call (d + 4) 20 [.ref 4, .int l, .int 0] h = some (some (.int (bI (decide (sgs c w hs l = 0)))), h) := by
  have := c_20 H d l (ys := List.replicate hs.length 0) (by simp) (fun y hy => by rw [List.eq_of_mem_replicate hy]; decide)
  rw [pkN_zero] at this
  exact this
theorem c_21 (H : CB h c w b hs lc lw ps) (d : Nat) (l : Int32) : call (d + 5) 21 [.ref 4, .int l] h = some (some (.int (bI (decide (sgs c w hs l = 0)))), h) := by
  rw [e_21, H.v4, c_20z H, cI_s, zr_bI]
/-- heaps whose signs are other than the wanted -/
def otN (xs ys : List Nat) : Nat := otq (fun i => !decide (xs.getD i 0 = ys.getD i 0)) xs.length
theorem c_17 (H : CB h c w b hs lc lw ps) (d : Nat) (l : Int32) {ys : List Nat} (hl : ys.length = hs.length) (hy : ∀ y ∈ ys, y < 16) : call (d + 4) 17 [.ref 4, .int l, .int (nI (pkN ys))] h = some (some (.int (nI (otN (sl c w hs l) ys))), h) := by
  have hb := H.bd
  have hv := pkN_lt31 (by omega) hy
  unfold otN
  rw [sl_len, e_17]
  refine up_ind (n := hs.length) (i := 0) (P := fun i => ∀ a4, ex (d + 3) 17 5 [sv (.ref 4), sv (.int l), sv (.int (nI (pkN ys))), sv (.int (nI (otq (fun i => !decide ((sl c w hs l).getD i 0 = ys.getD i 0)) i))), sv (.int (nI i)), a4] [] h = some (some (.int (nI (otq (fun i => !decide ((sl c w hs l).getD i 0 = ys.getD i 0)) hs.length))), h)) ?_ ?_ (by omega) none
  · intro a4
    rw [e_17_5, H.b3, if_neg (nI_nlt (Nat.le_refl _) (by omega))]
  · intro i hi ih a4
    obtain ⟨e, he⟩ : ∃ e, hs[i]? = some e := ⟨_, List.getElem?_eq_getElem hi⟩
    obtain ⟨p, h1, hp, h2, h3, h4⟩ := c_14 H (d + 2) he
    have h6 : sgN c w e l ≤ 10 := sgX_lt (e := e) (x := l.toBitVec.toNat &&& inN c w e) h4
    rw [e_17_5, H.b3, if_pos (nI_lt hi (by omega)), H.v4, h1, cR_r, dA_ref, dA_ref, dN_ref, dA_ref, dR_ref, c_sign d hp h2 h4 (inN12 (by omega) w e), nI_1, e_140, cI_s, sg_in (by omega) (by omega), pkN_get hy i (by omega)]
    have h7 : ys.getD i 0 < 16 := by rw [← pkN_get hy i (by omega)]; omega
    have h5 := sl_at (c := c) (w := w) he l
    have ih := ih (sv (.ref p))
    rw [otq_succ, h5] at ih
    show (if nI (sgN c w e l) = nI (ys.getD i 0) then _ else _) = _
    by_cases q : sgN c w e l = ys.getD i 0
    · rw [if_pos (by rw [q]), show (0 : Int32) = nI 0 from rfl, fa_or]
      rw [if_neg (by rw [decide_eq_true q]; decide)] at ih
      exact ih
    · rw [if_neg (fun z => q ((nI_eq (by omega) (by omega)).1 z)), e_135, cI_s, bit_nI (by omega), fa_or]
      rw [if_pos (by rw [decide_eq_false q]; rfl)] at ih
      exact ih
theorem c_17s (H : CB h c w b hs lc lw ps) (d : Nat) (l l2 : Int32) : call (d + 4) 17 [.ref 4, .int l, .int (nI (sgs c w hs l2))] h = some (some (.int (nI (otN (sl c w hs l) (sl c w hs l2)))), h) := c_17 H d l (sl_len c w hs l2) (sl_lt H.ok l2)
/-- heaps that fail -/
def fl (c w : Nat) (hs : List Ent) (l : Int32) : Nat := otq (fun i => !decide ((sl c w hs l).getD i 0 = 0)) hs.length
theorem c_17z (H : CB h c w b hs lc lw ps) (d : Nat) (l : Int32) : call (d + 4) 17 [.ref 4, .int l, .int 0] h = some (some (.int (nI (fl c w hs l))), h) := by
  have := c_17 H d l (ys := List.replicate hs.length 0) (by simp) (fun y hy => by rw [List.eq_of_mem_replicate hy]; decide)
  rw [pkN_zero] at this
  have h2 : otN (sl c w hs l) (List.replicate hs.length 0) = fl c w hs l := by
    unfold otN fl
    rw [sl_len]
    apply otq_congr
    intro i hi
    rw [show (List.replicate hs.length 0).getD i 0 = 0 by simp [List.getD_eq_getElem?_getD, List.getElem?_replicate]; split <;> rfl]
  rw [h2] at this
  exact this
theorem c_18 (H : CB h c w b hs lc lw ps) (d : Nat) (l : Int32) : call (d + 5) 18 [.ref 4, .int l] h = some (some (.int (nI (fl c w hs l))), h) := by
  rw [e_18, H.v4, c_17z H, cI_s]
/-- how many fail -/
def fln (c w : Nat) (hs : List Ent) (l : Int32) : Nat := cnt (fun i => !decide ((sl c w hs l).getD i 0 = 0)) hs.length
theorem fl_lt {c w : Nat} {hs : List Ent} (hn : hs.length ≤ 7) (l : Int32) : fl c w hs l < 128 := by
  have h1 : fl c w hs l < 2 ^ hs.length := otq_lt _ _
  have h2 : (2 : Nat) ^ hs.length ≤ 2 ^ 7 := Nat.pow_le_pow_right (by decide) hn
  omega
theorem c_19 (H : CB h c w b hs lc lw ps) (d : Nat) : call (d + 6) 19 [.ref 4] h = some (some (.int (nI (fln c w hs b))), h) := by
  have hb := H.bd
  have h3 := fl_lt (c := c) (w := w) (hs := hs) (by omega) b
  rw [e_19, H.b2, H.v4, c_18 H, cI_s, c_260, cI_s, bc_tab _ (by omega)]
  unfold fl fln
  rw [on_otq (by omega)]
/-- cards of a row -/
def rwq (w : Nat) (a : Int32) (i : Nat) : Bool := decide (nI (i / w) = a)
theorem c_8 (H : CB h c w b hs lc lw ps) (d : Nat) (a : Int32) : call (d + 2) 8 [.ref 4, .int a] h = some (some (.int (nI (otq (rwq w a) c))), h) := by
  have hb := H.bd
  rw [e_8]
  refine up_ind (n := c) (i := 0) (P := fun i => ex (d + 1) 8 4 [sv (.ref 4), sv (.int a), sv (.int (nI (otq (rwq w a) i))), sv (.int (nI i))] [] h = some (some (.int (nI (otq (rwq w a) c))), h)) ?_ ?_ (by omega)
  · rw [e_8_4, H.b0, if_neg (nI_nlt (Nat.le_refl _) (by omega))]
  · intro i hi ih
    rw [e_8_4, H.b0, if_pos (nI_lt hi (by omega)), H.b1, c_1 _ (by omega) (by omega) (by omega), cI_s, e_135, cI_s, bit_nI (by omega), show (0 : Int32) = nI 0 from rfl, fa_or, fa_or, nI_1]
    rw [otq_succ] at ih
    by_cases q : nI (i / w) = a
    · rw [if_pos q]
      rw [if_pos (by simp [rwq, q])] at ih
      exact ih
    · rw [if_neg q]
      rw [if_neg (by simp [rwq, q])] at ih
      exact ih
/-- cards by which, turned, all holds -/
def mdq (c w : Nat) (hs : List Ent) (l : Int32) (i : Nat) : Bool := decide (sgs c w hs (l ^^^ nI (2 ^ i)) = 0)
theorem c_144 (H : CB h c w b hs lc lw ps) (d : Nat) (l : Int32) : call (d + 6) 144 [.ref 3, .int l] h = some (some (.int (nI (otq (mdq c w hs l) c))), h) := by
  have hb := H.bd
  rw [e_144]
  refine up_ind (n := c) (i := 0) (P := fun i => ex (d + 5) 144 4 [sv (.ref 3), sv (.int l), sv (.int (nI (otq (mdq c w hs l) i))), sv (.int (nI i))] [] h = some (some (.int (nI (otq (mdq c w hs l) c))), h)) ?_ ?_ (by omega)
  · rw [e_144_4, H.o0, dR_ref, H.b0, if_neg (nI_nlt (Nat.le_refl _) (by omega))]
  · intro i hi ih
    rw [otq_succ] at ih
    rw [e_144_4]
    simp only [H.o0, H.o1, H.o2, H.o3, H.o4, H.o5, H.o6, H.o7, H.o8, H.o9, H.o10, H.b0, H.b1, H.b2, H.b3, H.b4, H.v3, H.v4, dR_ref, dA_ref, dA_null, dN_ref, dN_null, dD_ref, dD_int, cI_s, cV_s, cR_r, cR_n, cJ_s, bI_0, zr_bI, zr_0, zr_1, e_135, bit_nI (show i < 31 by omega), if_pos (nI_lt hi (show c < 2 ^ 31 by omega)), c_21 H]
    rw [show (0 : Int32) = nI 0 from rfl, fa_or, fa_or, nI_1]
    by_cases q : mdq c w hs l i = true
    · rw [if_neg (by simpa [mdq] using q)]
      rw [if_pos q] at ih
      exact ih
    · rw [if_pos (by simpa [mdq] using q)]
      rw [if_neg q] at ih
      exact ih
end CBS
