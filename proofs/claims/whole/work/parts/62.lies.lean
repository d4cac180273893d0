/-! lies, idle -/
theorem lq_lp {σ : Type} (f : Nat → σ → σ) (s : σ) : ∀ n, lq f n 0 s = lp f n s := by
  intro n
  induction n with
  | zero => rfl
  | succ n ih =>
    rw [lq_add n 1 0 s, ih, Nat.zero_add]
    rfl
theorem cnt_0 {q : Nat → Bool} : ∀ {n : Nat}, cnt q n = 0 ↔ ∀ i, i < n → q i = false := by
  intro n
  induction n with
  | zero => exact ⟨fun _ i hi => by omega, fun _ => rfl⟩
  | succ n ih =>
    rw [cnt_succ]
    constructor
    · intro h i hi
      have h1 : cnt q n = 0 := by omega
      rcases Nat.lt_succ_iff_lt_or_eq.1 hi with z | z
      · exact ih.1 h1 i z
      · subst z
        cases x : q i with
        | false => rfl
        | true => rw [x] at h; simp at h
    · intro h
      rw [ih.2 (fun i hi => h i (by omega)), h n (by omega)]; rfl
theorem cnt_1 {q : Nat → Bool} : ∀ {n : Nat}, cnt q n = 1 ↔ ∃ k, k < n ∧ q k = true ∧ ∀ i, i < n → i ≠ k → q i = false := by
  intro n
  induction n with
  | zero => exact ⟨fun h => by simp [cnt, lp] at h, fun ⟨k, hk, _⟩ => by omega⟩
  | succ n ih =>
    rw [cnt_succ]
    cases x : q n with
    | false =>
      rw [if_neg (by decide), Nat.add_zero, ih]
      constructor
      · rintro ⟨k, h1, h2, h3⟩
        refine ⟨k, by omega, h2, ?_⟩
        intro i hi hne
        rcases Nat.lt_succ_iff_lt_or_eq.1 hi with z | z
        · exact h3 i z hne
        · subst z; exact x
      · rintro ⟨k, h1, h2, h3⟩
        have : k ≠ n := fun z => by subst z; rw [x] at h2; cases h2
        exact ⟨k, by omega, h2, fun i hi => h3 i (by omega)⟩
    | true =>
      rw [if_pos rfl]
      have e : cnt q n + 1 = 1 ↔ cnt q n = 0 := by omega
      rw [e, cnt_0]
      constructor
      · intro h
        refine ⟨n, by omega, x, ?_⟩
        intro i hi hne
        exact h i (by omega)
      · rintro ⟨k, h1, h2, h3⟩ i hi
        have : k = n := by
          rcases Nat.lt_succ_iff_lt_or_eq.1 h1 with z | z
          · have := h3 n (by omega) (by omega)
            rw [x] at this; cases this
          · exact z
        exact h3 i (by omega) (by omega)
/-- only k's may be -/
def onq (q : Nat → Bool) (n k : Nat) : Bool := decide (cnt q n = 0) || (decide (cnt q n = 1) && q k)
theorem onq_iff {q : Nat → Bool} {n k : Nat} (hk : k < n) : onq q n k = true ↔ ∀ i, i < n → i ≠ k → q i = false := by
  unfold onq
  rw [Bool.or_eq_true, Bool.and_eq_true, decide_eq_true_iff, decide_eq_true_iff, cnt_0, cnt_1]
  constructor
  · rintro (h | ⟨⟨j, h1, h2, h3⟩, h4⟩) i hi hne
    · exact h i hi
    · have : j = k := Classical.byContradiction fun z => by rw [h3 k hk (fun y => z y.symm)] at h4; cases h4
      subst this
      exact h3 i hi hne
  · intro h
    cases x : q k with
    | false =>
      refine Or.inl (fun i hi => ?_)
      by_cases z : i = k
      · subst z; exact x
      · exact h i hi z
    | true => exact Or.inr ⟨⟨k, hk, x, h⟩, rfl⟩
theorem nib {x k : Nat} (hx : x < 2 ^ 28) (hk : k < 7) : (nI x &&& ((15 : Int32) <<< ((4 * nI k) &&& 31) ^^^ -1) = 0) ↔ ∀ i, i < 7 → i ≠ k → x / 16 ^ i % 16 = 0 := by
  have h1 : (2 : Nat) ^ (4 * k) ≤ 2 ^ 24 := Nat.pow_le_pow_right (by decide) (by omega)
  have h2 : 15 * 2 ^ (4 * k) < 2 ^ 31 := by omega
  have e0 : (15 : Int32) <<< ((4 * nI k) &&& 31) = nI (15 * 2 ^ (4 * k)) := by
    rw [show (4 : Int32) = nI 4 from rfl, pk_mul, show (15 : Int32) = nI 15 from rfl, shl_nI (by omega) (by omega)]
  have e1 : (nI x &&& (nI (15 * 2 ^ (4 * k)) ^^^ -1) = 0) ↔ sbq (15 * 2 ^ (4 * k)) x = true := by simp [sbq]
  rw [e0, e1, sbq_iff h2 (by omega), decide_eq_true_iff]
  have hm : ∀ j, (15 * 2 ^ (4 * k)).testBit j = (decide (4 * k ≤ j) && decide (j - 4 * k < 4)) := by
    intro j
    rw [Nat.testBit_mul_two_pow, show 15 = 2 ^ 4 - 1 from rfl, Nat.testBit_two_pow_sub_one]
  have hn : ∀ i t, (x / 16 ^ i % 16).testBit t = (decide (t < 4) && x.testBit (4 * i + t)) := by
    intro i t
    rw [p16, show 16 = 2 ^ 4 from rfl, Nat.testBit_mod_two_pow, Nat.testBit_div_two_pow, Nat.add_comm]
  constructor
  · intro h i hi hne
    apply Nat.eq_of_testBit_eq
    intro t
    rw [hn, Nat.zero_testBit]
    by_cases ht : t < 4
    · have e2 : x.testBit (4 * i + t) = false := by
        rw [← h, Nat.testBit_and, hm]
        have : (decide (4 * k ≤ 4 * i + t) && decide (4 * i + t - 4 * k < 4)) = false := by
          rcases Nat.lt_or_ge (4 * i + t) (4 * k) with z | z
          · rw [decide_eq_false (by omega)]; rfl
          · rw [decide_eq_false (show ¬ 4 * i + t - 4 * k < 4 by omega), Bool.and_false]
        rw [this, Bool.and_false]
      rw [e2, Bool.and_false]
    · rw [decide_eq_false ht]; rfl
  · intro h
    apply Nat.eq_of_testBit_eq
    intro j
    rw [Nat.testBit_and, hm]
    cases xj : x.testBit j with
    | false => rfl
    | true =>
      have hj : j < 28 := by
        rcases Nat.lt_or_ge j 28 with z | z
        · exact z
        · rw [Nat.testBit_lt_two_pow (Nat.lt_of_lt_of_le hx (Nat.pow_le_pow_right (by decide) z))] at xj; cases xj
      have hjk : j / 4 = k := by
        apply Classical.byContradiction
        intro z
        have h3 := congrArg (fun y => y.testBit (j % 4)) (h (j / 4) (by omega) z)
        simp only [hn, Nat.zero_testBit, Nat.div_add_mod, xj] at h3
        rw [decide_eq_true (by omega)] at h3
        cases h3
      rw [decide_eq_true (show 4 * k ≤ j by omega), decide_eq_true (show j - 4 * k < 4 by omega)]
      rfl
theorem otq_all (n : Nat) : otq (fun _ => true) n = 2 ^ n - 1 := by
  apply Nat.eq_of_testBit_eq
  intro i
  rw [otq_bit, Nat.testBit_two_pow_sub_one, Bool.and_true]
theorem otq_or (q r : Nat → Bool) (n : Nat) : otq q n ||| otq r n = otq (fun i => q i || r i) n := by
  apply Nat.eq_of_testBit_eq
  intro i
  rw [Nat.testBit_or, otq_bit, otq_bit, otq_bit]
  cases decide (i < n) <;> rfl
theorem otq_no (n : Nat) : otq (fun _ => false) n = 0 := by
  apply Nat.eq_of_testBit_eq
  intro i
  rw [otq_bit, Nat.zero_testBit, Bool.and_false]
theorem otq_z {q : Nat → Bool} {n : Nat} : otq q n = 0 ↔ cnt q n = 0 := by
  rw [cnt_0]
  constructor
  · intro h i hi
    have := congrArg (fun x => x.testBit i) h
    simp only [otq_bit, Nat.zero_testBit, decide_eq_true hi, Bool.true_and] at this
    exact this
  · intro h
    apply Nat.eq_of_testBit_eq
    intro i
    rw [otq_bit, Nat.zero_testBit]
    by_cases hi : i < n
    · rw [h i hi, Bool.and_false]
    · rw [decide_eq_false hi]; rfl
section PQS
variable {c w : Nat} {b : Int32} {hs : List Ent}
/-- heaps that fail, by their numbers -/
def flq (c w : Nat) (hs : List Ent) (l : Int32) (i : Nat) : Bool := !decide ((sl c w hs l).getD i 0 = 0)
def olq (c w : Nat) (hs : List Ent) (l : Int32) (k : Nat) : Bool := onq (flq c w hs l) hs.length k
theorem c_149 {h : MHeap} {lc lw : Int32} {ps : List Nat} (H : CB h c w b hs lc lw ps) (d : Nat) (l : Int32) : call (d + 6) 149 [.ref 3, .int l] h = some (some (.int (nI (otq (olq c w hs l) hs.length))), h) := by
  have hb := H.bd
  have h3 := fl_lt (c := c) (w := w) (hs := hs) (by omega) l
  rw [e_149]
  simp only [H.o0, H.o1, H.o2, H.o3, H.o4, H.o5, H.o6, H.o7, H.o8, H.o9, H.o10, H.b0, H.b1, H.b2, H.b3, H.b4, H.v3, H.v4, dR_ref, dA_ref, dA_null, dN_ref, dN_null, dD_ref, dD_int, cI_s, cV_s, cR_r, cR_n, cJ_s, bI_0, bI_1, zr_bI, zr_0, zr_1, eq_self, if_true, if_false, i10, i20, i01, i21, i02, i12, ior0, iad0, Bool.true_eq_false, Bool.false_eq_true, c_18 H, c_15 H, c_260, bc_tab _ (show fl c w hs l < 4096 by omega)]
  have e1 : fl c w hs l = otq (flq c w hs l) hs.length := rfl
  have l1 := cnt_le (flq c w hs l) hs.length
  rw [e1] at h3 ⊢
  rw [on_otq (by omega)]
  by_cases q0 : cnt (flq c w hs l) hs.length = 0
  · have e2 : otq (olq c w hs l) hs.length = 2 ^ hs.length - 1 := by
      rw [← otq_all]
      apply otq_congr
      intro i hi
      show onq _ _ _ = true
      unfold onq
      rw [decide_eq_true q0]; rfl
    rw [if_pos (by rw [otq_z.2 q0]; rfl), e2]
  · rw [if_neg (fun z => q0 (otq_z.1 ((nI_z (by omega)).1 z)))]
    by_cases q1 : cnt (flq c w hs l) hs.length = 1
    · have e2 : otq (olq c w hs l) hs.length = otq (flq c w hs l) hs.length := by
        apply otq_congr
        intro i hi
        show onq _ _ _ = _
        unfold onq
        rw [decide_eq_true q1, decide_eq_false q0]; rfl
      rw [if_pos (by rw [q1]; rfl), e2]
    · have e2 : otq (olq c w hs l) hs.length = 0 := by
        rw [← otq_no hs.length]
        apply otq_congr
        intro i hi
        show onq _ _ _ = _
        unfold onq
        rw [decide_eq_false q1, decide_eq_false q0]; rfl
      rw [if_neg (show ¬ nI (cnt (flq c w hs l) hs.length) = (1 : Int32) from fun z => q1 ((nI_eq (b := 1) (by omega) (by decide)).1 z)), e2]
      rfl
theorem sg_nib (hn : hs.length ≤ 7) (he : ∀ e ∈ hs, okE e) (l : Int32) : ∀ i, i < 7 → sgs c w hs l / 16 ^ i % 16 = (sl c w hs l).getD i 0 := by
  intro i hi
  rw [sgs_sl]
  rcases Nat.lt_or_ge i hs.length with z | z
  · rw [pkN_get (sl_lt he l) i (by rw [sl_len]; exact z)]
  · have h1 := pkN_lt (sl_lt (c := c) (w := w) he l)
    rw [sl_len] at h1
    have h2 : (16 : Nat) ^ hs.length ≤ 16 ^ i := Nat.pow_le_pow_right (by decide) z
    rw [Nat.div_eq_of_lt (Nat.lt_of_lt_of_le h1 h2), List.getD_eq_getElem?_getD, List.getElem?_eq_none (by rw [sl_len]; exact z)]
    rfl
theorem ol_nib (hn : hs.length ≤ 7) (he : ∀ e ∈ hs, okE e) (l : Int32) {k : Nat} (hk : k < hs.length) : (nI (sgs c w hs l) &&& ((15 : Int32) <<< ((4 * nI k) &&& 31) ^^^ -1) = 0) ↔ olq c w hs l k = true := by
  rw [nib (sgs_lt hn he l) (by omega)]
  show _ ↔ onq _ _ _ = true
  rw [onq_iff hk]
  constructor
  · intro h i hi hne
    have := h i (by omega) hne
    rw [sg_nib hn he l i (by omega)] at this
    unfold flq
    rw [this]; rfl
  · intro h i hi hne
    rw [sg_nib hn he l i hi]
    rcases Nat.lt_or_ge i hs.length with z | z
    · have := h i z hne
      simpa [flq] using this
    · rw [List.getD_eq_getElem?_getD, List.getElem?_eq_none (by rw [sl_len]; exact z)]; rfl
def lyg (c w : Nat) (b : Int32) (hs : List Ent) (i : Nat) (t : Nat → Bool) : Nat → Bool := fun k => t k || olq c w hs (b ^^^ nI (2 ^ i)) k
def lyt (c w : Nat) (b : Int32) (hs : List Ent) : Nat → Bool := lq (lyg c w b hs) c 0 (olq c w hs b)
theorem q_lies : PQ c w b hs 118 240 [] := by
  refine ⟨(nI (otq (lyt c w b hs) hs.length)), ?_, ?_⟩
  · intro d h lc lw ps H
    have hb := H.bd
    rw [e_118]
    simp only [H.o0, H.o1, H.o2, H.o3, H.o4, H.o5, H.o6, H.o7, H.o8, H.o9, H.o10, H.b0, H.b1, H.b2, H.b3, H.b4, H.v3, H.v4, dR_ref, dA_ref, dA_null, dN_ref, dN_null, dD_ref, dD_int, cI_s, cV_s, cR_r, cR_n, cJ_s, bI_0, bI_1, zr_bI, zr_0, zr_1, eq_self, if_true, if_false, i10, i20, i01, i21, i02, i12, ior0, iad0, Bool.true_eq_false, Bool.false_eq_true, c_149 H]
    refine lq_in0 (J := Unit) (lyg c w b hs) (fun i t _ => ex (d + 19) 118 14 [sv (.ref 3), sv (.int (nI (otq t hs.length))), sv (.int (nI i))] [] h) (fun t => some (some (.int (nI (otq t hs.length))), h)) c ?_ ?_ 0 (olq c w hs b) () (by omega)
    · intro s j
      show ex _ _ _ _ _ _ = _; rw [e_118_14]
      simp only [H.o0, H.o1, H.o2, H.o3, H.o4, H.o5, H.o6, H.o7, H.o8, H.o9, H.o10, H.b0, H.b1, H.b2, H.b3, H.b4, H.v3, H.v4, dR_ref, dA_ref, dA_null, dN_ref, dN_null, dD_ref, dD_int, cI_s, cV_s, cR_r, cR_n, cJ_s, bI_0, bI_1, zr_bI, zr_0, zr_1, eq_self, if_true, if_false, i10, i20, i01, i21, i02, i12, ior0, iad0, Bool.true_eq_false, Bool.false_eq_true, if_neg (nI_nlt (Nat.le_refl c) (by omega))]
    · intro i t j hi IH
      show ex _ _ _ _ _ _ = _; rw [e_118_14]
      simp only [H.o0, H.o1, H.o2, H.o3, H.o4, H.o5, H.o6, H.o7, H.o8, H.o9, H.o10, H.b0, H.b1, H.b2, H.b3, H.b4, H.v3, H.v4, dR_ref, dA_ref, dA_null, dN_ref, dN_null, dD_ref, dD_int, cI_s, cV_s, cR_r, cR_n, cJ_s, bI_0, bI_1, zr_bI, zr_0, zr_1, eq_self, if_true, if_false, i10, i20, i01, i21, i02, i12, ior0, iad0, Bool.true_eq_false, Bool.false_eq_true, if_pos (nI_lt hi (show c < 2 ^ 31 by omega)), nI_1, e_135, bit_nI (show i < 31 by omega), c_149 H, fa_or, otq_or]
      exact IH (lyg c w b hs i t) ()
  · intro d h F A H
    have hb := H.bd
    obtain ⟨h', A', e1, H1, L1, F1, S1⟩ := r_203 H (d + 15)
    refine ⟨h', F, A', ?_, H1, F1, S1⟩
    rw [e_240]
    simp only [H.v, e1, dR_ref, dA_ref, dA_null, dN_ref, dN_null, dD_ref, dD_int, cI_s, cV_s, cR_r, cR_n, cJ_s, bI_0, bI_1, zr_bI, zr_0, zr_1, eq_self, if_true, if_false, i10, i20, i01, i21, i02, i12, ior0, iad0, Bool.true_eq_false, Bool.false_eq_true]
    have key : ∀ k, k < hs.length → ∀ (a1 : Int32) (is : Bool), is = olq c w hs b k → ex (d + 19) 240 48 [sv (.ref 28), sv (.int a1), sv (.int (nI k)), sv (.int ((15 : Int32) <<< ((4 * nI k) &&& 31) ^^^ -1)), sv (.int (bI is)), sv (.int 0)] [] h' = ex (d + 19) 240 8 [sv (.ref 28), sv (.int (a1 ||| nI (if lyt c w b hs k then 2 ^ k else 0))), sv (.int (nI (k + 1))), sv (.int ((15 : Int32) <<< ((4 * nI k) &&& 31) ^^^ -1)), sv (.int (bI (lyt c w b hs k))), sv (.int (nI c))] [] h' := by
      intro k hk a1 is his
      have hst : lq (fun i (s : Bool) => s || olq c w hs (b ^^^ nI (2 ^ i)) k) c 0 is = lyt c w b hs k := by
        have := lq_sim (f := fun i (s : Bool) => s || olq c w hs (b ^^^ nI (2 ^ i)) k) (g := lyg c w b hs) (fun _ (s : Bool) (t : Nat → Bool) => s = t k) c 0 is (olq c w hs b) (fun i s t _ _ h => by rw [h]; rfl) his
        exact this
      rw [← hst]
      refine lq_in0 (J := Unit) (fun i (s : Bool) => s || olq c w hs (b ^^^ nI (2 ^ i)) k) (fun i s _ => ex (d + 19) 240 48 [sv (.ref 28), sv (.int a1), sv (.int (nI k)), sv (.int ((15 : Int32) <<< ((4 * nI k) &&& 31) ^^^ -1)), sv (.int (bI s)), sv (.int (nI i))] [] h') (fun s => ex (d + 19) 240 8 [sv (.ref 28), sv (.int (a1 ||| nI (if s then 2 ^ k else 0))), sv (.int (nI (k + 1))), sv (.int ((15 : Int32) <<< ((4 * nI k) &&& 31) ^^^ -1)), sv (.int (bI s)), sv (.int (nI c))] [] h') c ?_ ?_ 0 is () (by omega)
      · intro s j
        show ex _ _ _ _ _ _ = _; rw [e_240_48]
        simp only [H1.f0, H1.f1, H1.f2, H1.f3, H1.v, dR_ref, dA_ref, dA_null, dN_ref, dN_null, dD_ref, dD_int, cI_s, cV_s, cR_r, cR_n, cJ_s, bI_0, bI_1, zr_bI, zr_0, zr_1, eq_self, if_true, if_false, i10, i20, i01, i21, i02, i12, ior0, iad0, Bool.true_eq_false, Bool.false_eq_true, if_neg (nI_nlt (Nat.le_refl c) (by omega)), nI_1, bit_nI (show k < 31 by omega)]
        cases s
        · show _ = ex _ _ _ [_, sv (.int (a1 ||| nI 0)), _, _, _, _] _ _
          rw [show nI 0 = 0 from rfl, ior0]; rfl
        · rfl
      · intro i s j hi IH
        show ex _ _ _ _ _ _ = _; rw [e_240_48]
        simp only [H1.f0, H1.f1, H1.f2, H1.f3, H1.v, dR_ref, dA_ref, dA_null, dN_ref, dN_null, dD_ref, dD_int, cI_s, cV_s, cR_r, cR_n, cJ_s, bI_0, bI_1, zr_bI, zr_0, zr_1, eq_self, if_true, if_false, i10, i20, i01, i21, i02, i12, ior0, iad0, Bool.true_eq_false, Bool.false_eq_true, if_pos (nI_lt hi (show c < 2 ^ 31 by omega)), nI_1, bit_nI (show i < 31 by omega), r_204 H1 L1]
        cases s
        · by_cases q : olq c w hs (b ^^^ nI (2 ^ i)) k = true
          · rw [if_pos rfl, if_pos ((ol_nib hb.2.2.2.2 H1.ok _ hk).2 q), q]; exact IH true ()
          · rw [if_pos rfl, if_neg (fun z => q ((ol_nib hb.2.2.2.2 H1.ok _ hk).1 z)), Bool.eq_false_iff.2 q]; exact IH false ()
        · exact IH true ()
    refine up_ind (n := hs.length) (i := 0) (P := fun k => ∀ j : MSl × MSl × MSl, ex (d + 19) 240 8 [sv (.ref 28), sv (.int (nI (otq (lyt c w b hs) k))), sv (.int (nI k)), j.1, j.2.1, j.2.2] [] h' = some (some (.int (nI (otq (lyt c w b hs) hs.length))), h')) ?_ ?_ (by omega) (none, none, none)
    · intro j
      show ex _ _ _ _ _ _ = _; rw [e_240_8]
      simp only [H1.f0, H1.f1, H1.f2, H1.f3, H1.v, dR_ref, dA_ref, dA_null, dN_ref, dN_null, dD_ref, dD_int, cI_s, cV_s, cR_r, cR_n, cJ_s, bI_0, bI_1, zr_bI, zr_0, zr_1, eq_self, if_true, if_false, i10, i20, i01, i21, i02, i12, ior0, iad0, Bool.true_eq_false, Bool.false_eq_true, if_neg (nI_nlt (Nat.le_refl hs.length) (by omega))]
    · intro k hk ih j
      show ex _ _ _ _ _ _ = _; rw [e_240_8]
      simp only [H1.f0, H1.f1, H1.f2, H1.f3, H1.v, dR_ref, dA_ref, dA_null, dN_ref, dN_null, dD_ref, dD_int, cI_s, cV_s, cR_r, cR_n, cJ_s, bI_0, bI_1, zr_bI, zr_0, zr_1, eq_self, if_true, if_false, i10, i20, i01, i21, i02, i12, ior0, iad0, Bool.true_eq_false, Bool.false_eq_true, if_pos (nI_lt hk (show hs.length < 2 ^ 31 by omega)), r_204 H1 L1]
      rw [otq_succ, ← fa_or] at ih
      by_cases q : olq c w hs b k = true
      · rw [if_pos ((ol_nib hb.2.2.2.2 H1.ok _ hk).2 q)]
        exact (key k hk _ true q.symm).trans (ih (_, _, _))
      · rw [if_neg (fun z => q ((ol_nib hb.2.2.2.2 H1.ok _ hk).1 z))]
        exact (key k hk _ false (Bool.eq_false_iff.2 q).symm).trans (ih (_, _, _))
/-! idle -/
def dfq (c w : Nat) (b : Int32) (hs : List Ent) (l : Int32) (i : Nat) : Bool := !decide ((sl c w hs l).getD i 0 = (sl c w hs b).getD i 0)
/-- the only heap whose sign changes -/
def owq (c w : Nat) (b : Int32) (hs : List Ent) (l : Int32) (k : Nat) : Bool := decide (cnt (dfq c w b hs l) hs.length = 1) && dfq c w b hs l k
def idg (c w : Nat) (b : Int32) (hs : List Ent) (g : Nat → Int32) (i : Nat) (t : Nat → Bool) : Nat → Bool := fun k => t k && !owq c w b hs (g i) k
theorem idg_iff (g : Nat → Int32) (k : Nat) : ∀ m j t, (lq (idg c w b hs g) m j t) k = true ↔ t k = true ∧ ∀ i, j ≤ i → i < j + m → owq c w b hs (g i) k = false := by
  intro m
  induction m with
  | zero => intro j t; exact ⟨fun h => ⟨h, fun i _ _ => by omega⟩, fun h => h.1⟩
  | succ m ih =>
    intro j t
    show (lq (idg c w b hs g) m (j + 1) (idg c w b hs g j t)) k = true ↔ _
    rw [ih]
    have e : idg c w b hs g j t k = true ↔ t k = true ∧ owq c w b hs (g j) k = false := by
      unfold idg
      cases t k <;> cases owq c w b hs (g j) k <;> simp
    rw [e]
    constructor
    · rintro ⟨⟨h1, h2⟩, h3⟩
      refine ⟨h1, fun i hi hi2 => ?_⟩
      by_cases z : i = j
      · subst z; exact h2
      · exact h3 i (by omega) (by omega)
    · rintro ⟨h1, h2⟩
      exact ⟨⟨h1, h2 j (by omega) (by omega)⟩, fun i hi hi2 => h2 i (by omega) (by omega)⟩
theorem iand_self (x : Int32) : x &&& x = x := by
  rw [nI_tn x, fa_and, Nat.and_self]
theorem andnot {q r : Nat → Bool} {n : Nat} (hn : n ≤ 31) : nI (otq q n) &&& (nI (otq r n) ^^^ -1) = nI (otq (fun k => q k && !r k) n) := by
  rw [show (-1 : Int32) = nI (2 ^ 32 - 1) from by decide, fa_xor, fa_and]
  congr 1
  apply Nat.eq_of_testBit_eq
  intro i
  rw [Nat.testBit_and, Nat.testBit_xor, Nat.testBit_two_pow_sub_one, otq_bit, otq_bit, otq_bit]
  by_cases h : i < n
  · rw [decide_eq_true h, decide_eq_true (show i < 32 by omega)]
    cases q i <;> cases r i <;> rfl
  · rw [decide_eq_false h]; rfl
theorem andbit {q : Nat → Bool} {n k : Nat} (hn : n ≤ 31) (hk : k < n) : nI (otq q n) &&& (nI (2 ^ k) ^^^ -1) = nI (otq (fun i => q i && !decide (i = k)) n) := by
  have : 2 ^ k = otq (fun i => decide (i = k)) n := by
    apply Nat.eq_of_testBit_eq
    intro i
    rw [otq_bit, Nat.testBit_two_pow]
    by_cases h : i = k
    · subst h; simp [hk]
    · have : ¬ k = i := fun z => h z.symm
      simp [h, this]
  rw [this, andnot hn]
theorem xor_nib {x y i : Nat} : ((x ^^^ y) / 16 ^ i % 16 = 0) ↔ x / 16 ^ i % 16 = y / 16 ^ i % 16 := by
  have hn : ∀ x t, (x / 16 ^ i % 16).testBit t = (decide (t < 4) && x.testBit (4 * i + t)) := by
    intro x t
    rw [p16, show 16 = 2 ^ 4 from rfl, Nat.testBit_mod_two_pow, Nat.testBit_div_two_pow, Nat.add_comm]
  constructor
  · intro h
    apply Nat.eq_of_testBit_eq
    intro t
    have h1 := congrArg (fun z => z.testBit t) h
    simp only [hn, Nat.testBit_xor, Nat.zero_testBit] at h1
    rw [hn, hn]
    revert h1
    generalize decide (t < 4) = p
    generalize x.testBit (4 * i + t) = q
    generalize y.testBit (4 * i + t) = r
    revert p q r
    decide
  · intro h
    apply Nat.eq_of_testBit_eq
    intro t
    have h1 := congrArg (fun z => z.testBit t) h
    simp only [hn] at h1
    rw [hn, Nat.testBit_xor, Nat.zero_testBit]
    revert h1
    generalize decide (t < 4) = p
    generalize x.testBit (4 * i + t) = q
    generalize y.testBit (4 * i + t) = r
    revert p q r
    decide
theorem ow_nib (hn : hs.length ≤ 7) (he : ∀ e ∈ hs, okE e) (l : Int32) {k : Nat} (hk : k < hs.length) : (¬ (nI (sgs c w hs l) ^^^ nI (sgs c w hs b)) = 0 ∧ (nI (sgs c w hs l) ^^^ nI (sgs c w hs b)) &&& ((15 : Int32) <<< ((4 * nI k) &&& 31) ^^^ -1) = 0) ↔ owq c w b hs l k = true := by
  have l1 := sgs_lt (c := c) (w := w) hn he l
  have l2 := sgs_lt (c := c) (w := w) hn he b
  have l3 : sgs c w hs l ^^^ sgs c w hs b < 2 ^ 28 := Nat.xor_lt_two_pow l1 l2
  have d0 : ∀ i, i < 7 → ((sgs c w hs l ^^^ sgs c w hs b) / 16 ^ i % 16 = 0 ↔ dfq c w b hs l i = false) := by
    intro i hi
    rw [xor_nib, sg_nib hn he l i hi, sg_nib hn he b i hi]
    unfold dfq
    by_cases z : (sl c w hs l).getD i 0 = (sl c w hs b).getD i 0 <;> simp [z]
  have dz : ∀ i, hs.length ≤ i → dfq c w b hs l i = false := by
    intro i hi
    unfold dfq
    rw [List.getD_eq_getElem?_getD, List.getD_eq_getElem?_getD, List.getElem?_eq_none (by rw [sl_len]; exact hi), List.getElem?_eq_none (by rw [sl_len]; exact hi)]
    rfl
  have e1 : (sgs c w hs l ^^^ sgs c w hs b = 0) ↔ cnt (dfq c w b hs l) hs.length = 0 := by
    rw [cnt_0]
    constructor
    · intro h i hi
      rw [← d0 i (by omega), h]; simp
    · intro h
      have h2 : sl c w hs l = sl c w hs b := by
        apply getD_ext (by rw [sl_len, sl_len])
        intro i hi
        rw [sl_len] at hi
        have := h i hi
        simpa [dfq] using this
      rw [sgs_sl, sgs_sl, h2, Nat.xor_self]
  rw [fa_xor, nib l3 (by omega), nI_z (by omega), e1]
  unfold owq
  rw [Bool.and_eq_true, decide_eq_true_iff]
  have e2 : (∀ i, i < 7 → i ≠ k → (sgs c w hs l ^^^ sgs c w hs b) / 16 ^ i % 16 = 0) ↔ onq (dfq c w b hs l) hs.length k = true := by
    rw [onq_iff hk]
    constructor
    · intro h i hi hne; exact (d0 i (by omega)).1 (h i (by omega) hne)
    · intro h i hi hne
      rw [d0 i hi]
      rcases Nat.lt_or_ge i hs.length with z | z
      · exact h i z hne
      · exact dz i z
  rw [e2]
  unfold onq
  rw [Bool.or_eq_true, Bool.and_eq_true, decide_eq_true_iff, decide_eq_true_iff]
  constructor
  · rintro ⟨h1, h2 | h2⟩
    · exact absurd h2 h1
    · exact h2
  · intro h
    exact ⟨by omega, Or.inr h⟩
end PQS
section PQS2
variable {c w B : Nat} {hs : List Ent}
theorem q_idle (hB : B < 2 ^ c) : PQ c w (nI B) hs 119 241 [] := by
  refine ⟨(nI (otq (lq (idg c w (nI B) hs (fun i => nI i)) (2 ^ c) 0 (fun _ => true)) hs.length)), ?_, ?_⟩
  · intro d h lc lw ps H
    have hb := H.bd
    have hp := p2c hb.2.1
    rw [e_119]
    simp only [H.o0, H.o1, H.o2, H.o3, H.o4, H.o5, H.o6, H.o7, H.o8, H.o9, H.o10, H.b0, H.b1, H.b2, H.b3, H.b4, H.v3, H.v4, dR_ref, dA_ref, dA_null, dN_ref, dN_null, dD_ref, dD_int, cI_s, cV_s, cR_r, cR_n, cJ_s, bI_0, bI_1, zr_bI, zr_0, zr_1, eq_self, if_true, if_false, i10, i20, i01, i21, i02, i12, ior0, iad0, Bool.true_eq_false, Bool.false_eq_true, c_16 H, c_15 H]
    rw [← otq_all]
    refine lq_in0 (J := MSl) (idg c w (nI B) hs (fun i => nI i)) (fun i t j => ex (d + 19) 119 25 [sv (.ref 3), sv (.int (nI (sgs c w hs (nI B)))), sv (.int (nI (otq t hs.length))), sv (.int (nI i)), j] [] h) (fun t => some (some (.int (nI (otq t hs.length))), h)) (2 ^ c) ?_ ?_ 0 (fun _ => true) none (by omega)
    · intro t j
      show ex _ _ _ _ _ _ = _; rw [e_119_25]
      simp only [H.o0, H.o1, H.o2, H.o3, H.o4, H.o5, H.o6, H.o7, H.o8, H.o9, H.o10, H.b0, H.b1, H.b2, H.b3, H.b4, H.v3, H.v4, dR_ref, dA_ref, dA_null, dN_ref, dN_null, dD_ref, dD_int, cI_s, cV_s, cR_r, cR_n, cJ_s, bI_0, bI_1, zr_bI, zr_0, zr_1, eq_self, if_true, if_false, i10, i20, i01, i21, i02, i12, ior0, iad0, Bool.true_eq_false, Bool.false_eq_true, c_4 H, if_pos (nI_lt (show 2 ^ c - 1 < 2 ^ c by omega) (show 2 ^ c < 2 ^ 31 by omega))]
    · intro i t j hi IH
      show ex _ _ _ _ _ _ = _; rw [e_119_25]
      have e1 : otN (sl c w hs (nI i)) (sl c w hs (nI B)) = otq (dfq c w (nI B) hs (nI i)) hs.length := by unfold otN; rw [sl_len]; rfl
      have l1 := otq_lt (dfq c w (nI B) hs (nI i)) hs.length
      have l2 : (2 : Nat) ^ hs.length ≤ 2 ^ 7 := Nat.pow_le_pow_right (by decide) hb.2.2.2.2
      have l3 := cnt_le (dfq c w (nI B) hs (nI i)) hs.length
      simp only [H.o0, H.o1, H.o2, H.o3, H.o4, H.o5, H.o6, H.o7, H.o8, H.o9, H.o10, H.b0, H.b1, H.b2, H.b3, H.b4, H.v3, H.v4, dR_ref, dA_ref, dA_null, dN_ref, dN_null, dD_ref, dD_int, cI_s, cV_s, cR_r, cR_n, cJ_s, bI_0, bI_1, zr_bI, zr_0, zr_1, eq_self, if_true, if_false, i10, i20, i01, i21, i02, i12, ior0, iad0, Bool.true_eq_false, Bool.false_eq_true, c_4 H, if_neg (nI_nlt (show i ≤ 2 ^ c - 1 by omega) (show 2 ^ c - 1 < 2 ^ 31 by omega)), c_17s H, e1, c_260, bc_tab _ (show otq (dfq c w (nI B) hs (nI i)) hs.length < 4096 by omega), on_otq (show hs.length ≤ 12 by omega), nI_1, andnot (show hs.length ≤ 31 by omega)]
      by_cases q : cnt (dfq c w (nI B) hs (nI i)) hs.length = 1
      · rw [if_pos (by rw [q]; rfl)]
        have e2 : idg c w (nI B) hs (fun i => nI i) i t = fun k => t k && !dfq c w (nI B) hs (nI i) k := by
          funext k; unfold idg owq; rw [decide_eq_true q]; rfl
        rw [e2]
        exact IH _ _
      · rw [if_neg (show ¬ nI (cnt (dfq c w (nI B) hs (nI i)) hs.length) = (1 : Int32) from fun z => q ((nI_eq (b := 1) (by omega) (by decide)).1 z))]
        have e2 : idg c w (nI B) hs (fun i => nI i) i t = t := by
          funext k; unfold idg owq; rw [decide_eq_false q]; cases t k <;> rfl
        rw [e2]
        exact IH _ _
  · intro d h F A H
    have hb := H.bd
    have hp := p2c hb.2.1
    obtain ⟨h', A', e1, H1, L1, F1, S1⟩ := r_203 H (d + 15)
    refine ⟨h', F, A', ?_, H1, F1, S1⟩
    have h3 : 0 < (2 : Nat) ^ hs.length := Nat.two_pow_pos _
    rw [e_241]
    simp only [H.v, e1, H1.f0, H1.f1, H1.f2, H1.f3, H1.v, dR_ref, dA_ref, dA_null, dN_ref, dN_null, dD_ref, dD_int, cI_s, cV_s, cR_r, cR_n, cJ_s, bI_0, bI_1, zr_bI, zr_0, zr_1, eq_self, if_true, if_false, i10, i20, i01, i21, i02, i12, ior0, iad0, Bool.true_eq_false, Bool.false_eq_true, r_204 H1 L1, bit_nI (show hs.length < 31 by omega)]
    rw [show nI (2 ^ hs.length) - 1 = nI (2 ^ hs.length - 1) by rw [show (1 : Int32) = nI 1 from rfl, pk_sub (by omega)], ← otq_all]
    have fin : otq (lq (idg c w (nI B) hs (fun i => nI i)) (2 ^ c) 0 (fun _ => true)) hs.length = otq (lq (idg c w (nI B) hs (fun i => nI B ^^^ nI i)) (2 ^ c) 0 (fun _ => true)) hs.length := by
      apply otq_congr
      intro k hk
      rw [Bool.eq_iff_iff, idg_iff, idg_iff]
      constructor
      · rintro ⟨_, h2⟩
        refine ⟨rfl, fun i _ hi => ?_⟩
        rw [fa_xor]
        exact h2 (B ^^^ i) (by omega) (by have := Nat.xor_lt_two_pow hB (show i < 2 ^ c by omega); omega)
      · rintro ⟨_, h2⟩
        refine ⟨rfl, fun i _ hi => ?_⟩
        have := h2 (B ^^^ i) (by omega) (by have := Nat.xor_lt_two_pow hB (show i < 2 ^ c by omega); omega)
        rw [fa_xor, ← Nat.xor_assoc, Nat.xor_self, Nat.zero_xor] at this
        exact this
    rw [fin]
    refine lq_in0 (J := MSl × MSl × MSl) (idg c w (nI B) hs (fun i => nI B ^^^ nI i)) (fun i t j => ex (d + 19) 241 24 [sv (.ref 28), sv (.int (nI (sgs c w hs (nI B)))), sv (.int (nI (otq t hs.length))), sv (.int (nI i)), j.1, j.2.1, j.2.2] [] h') (fun t => some (some (.int (nI (otq t hs.length))), h')) (2 ^ c) ?_ ?_ 0 (fun _ => true) (none, none, none) (by omega)
    · intro t j
      show ex _ _ _ _ _ _ = _; rw [e_241_24]
      simp only [H1.f0, H1.f1, H1.f2, H1.f3, H1.v, dR_ref, dA_ref, dA_null, dN_ref, dN_null, dD_ref, dD_int, cI_s, cV_s, cR_r, cR_n, cJ_s, bI_0, bI_1, zr_bI, zr_0, zr_1, eq_self, if_true, if_false, i10, i20, i01, i21, i02, i12, ior0, iad0, Bool.true_eq_false, Bool.false_eq_true, r_171 H1, if_pos (nI_lt (show 2 ^ c - 1 < 2 ^ c by omega) (show 2 ^ c < 2 ^ 31 by omega))]
    · intro i t j hi IH
      show ex _ _ _ _ _ _ = _; rw [e_241_24]
      simp only [H1.f0, H1.f1, H1.f2, H1.f3, H1.v, dR_ref, dA_ref, dA_null, dN_ref, dN_null, dD_ref, dD_int, cI_s, cV_s, cR_r, cR_n, cJ_s, bI_0, bI_1, zr_bI, zr_0, zr_1, eq_self, if_true, if_false, i10, i20, i01, i21, i02, i12, ior0, iad0, Bool.true_eq_false, Bool.false_eq_true, r_171 H1, if_neg (nI_nlt (show i ≤ 2 ^ c - 1 by omega) (show 2 ^ c - 1 < 2 ^ 31 by omega)), r_204 H1 L1]
      have e0 : otq (fun k => t k && !(decide (k < 0) && owq c w (nI B) hs (nI B ^^^ nI i) k)) hs.length = otq t hs.length := otq_congr (fun k _ => by simp)
      have e9 : otq (fun k => t k && !(decide (k < hs.length) && owq c w (nI B) hs (nI B ^^^ nI i) k)) hs.length = otq (idg c w (nI B) hs (fun i => nI B ^^^ nI i) i t) hs.length := otq_congr (fun k hk => by rw [decide_eq_true hk]; rfl)
      rw [← e0]
      refine up_ind (n := hs.length) (i := 0) (P := fun m => ∀ j : MSl, ex (d + 19) 241 49 [sv (.ref 28), sv (.int (nI (sgs c w hs (nI B)))), sv (.int (nI (otq (fun k => t k && !(decide (k < m) && owq c w (nI B) hs (nI B ^^^ nI i) k)) hs.length))), sv (.int (nI i)), sv (.int (nI (sgs c w hs (nI B ^^^ nI i)) ^^^ nI (sgs c w hs (nI B)))), sv (.int (nI m)), j] [] h' = _) ?_ ?_ (by omega) j.2.2
      · intro j
        show ex _ _ _ _ _ _ = _; rw [e_241_49]
        simp only [H1.f0, H1.f1, H1.f2, H1.f3, H1.v, dR_ref, dA_ref, dA_null, dN_ref, dN_null, dD_ref, dD_int, cI_s, cV_s, cR_r, cR_n, cJ_s, bI_0, bI_1, zr_bI, zr_0, zr_1, eq_self, if_true, if_false, i10, i20, i01, i21, i02, i12, ior0, iad0, Bool.true_eq_false, Bool.false_eq_true, if_neg (nI_nlt (Nat.le_refl hs.length) (by omega)), nI_1]
        rw [e9]
        exact IH _ (_, _, _)
      · intro m hm ih j
        show ex _ _ _ _ _ _ = _; rw [e_241_49]
        have ow := ow_nib (c := c) (w := w) (b := nI B) hb.2.2.2.2 H1.ok (nI B ^^^ nI i) hm
        simp only [H1.f0, H1.f1, H1.f2, H1.f3, H1.v, dR_ref, dA_ref, dA_null, dN_ref, dN_null, dD_ref, dD_int, cI_s, cV_s, cR_r, cR_n, cJ_s, bI_0, bI_1, zr_bI, zr_0, zr_1, eq_self, if_true, if_false, i10, i20, i01, i21, i02, i12, ior0, iad0, Bool.true_eq_false, Bool.false_eq_true, if_pos (nI_lt hm (show hs.length < 2 ^ 31 by omega)), nI_1, iand_self, bit_nI (show m < 31 by omega), andbit (show hs.length ≤ 31 by omega) hm]
        cases x : owq c w (nI B) hs (nI B ^^^ nI i) m with
        | true =>
          have y := ow.2 x
          rw [if_neg y.1, if_pos y.2]
          have e5 : otq (fun k => (t k && !(decide (k < m) && owq c w (nI B) hs (nI B ^^^ nI i) k)) && !decide (k = m)) hs.length = otq (fun k => t k && !(decide (k < m + 1) && owq c w (nI B) hs (nI B ^^^ nI i) k)) hs.length := otq_congr (fun k _ => by
            by_cases z : k = m
            · subst z; rw [x]; simp
            · have : decide (k < m + 1) = decide (k < m) := by simp; omega
              rw [this]; simp [z])
          rw [e5]
          exact ih _
        | false =>
          have e5 : otq (fun k => t k && !(decide (k < m) && owq c w (nI B) hs (nI B ^^^ nI i) k)) hs.length = otq (fun k => t k && !(decide (k < m + 1) && owq c w (nI B) hs (nI B ^^^ nI i) k)) hs.length := otq_congr (fun k _ => by
            by_cases z : k = m
            · subst z; rw [x]; simp
            · have : decide (k < m + 1) = decide (k < m) := by simp; omega
              rw [this])
          rw [e5]
          by_cases q1 : (nI (sgs c w hs (nI B ^^^ nI i)) ^^^ nI (sgs c w hs (nI B))) = 0
          · rw [if_pos q1]; exact ih _
          · rw [if_neg q1, if_neg (fun z => by have := ow.1 ⟨q1, z⟩; rw [x] at this; cases this)]; exact ih _
end PQS2
