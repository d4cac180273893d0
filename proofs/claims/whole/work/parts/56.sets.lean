/-! questions that go through all sets of cards -/
theorem inR_of {a : Int32} {n : Nat} (hn : n < 2 ^ 31) (h : inR a 0 (nI n) = true) : ∃ j, j ≤ n ∧ a = nI j := by
  by_cases h1 : a < 0
  · simp [inR, h1] at h
  · obtain ⟨j, hj, rfl⟩ := nI_of h1
    refine ⟨j, ?_, rfl⟩
    rcases Nat.lt_or_ge n j with q | q
    · have : nI n < nI j := nI_lt q hj
      simp [inR, this] at h
    · exact q
theorem inR_nI {j n : Nat} (hj : j < 2 ^ 31) (hn : n < 2 ^ 31) : inR (nI j) 0 (nI n) = decide (j ≤ n) := by
  have h1 := nI_pos hj
  by_cases q : j ≤ n
  · simp [inR, h1, q, nI_nlt q hn]
  · have : nI n < nI j := nI_lt (by omega) hj
    simp [inR, q, this]
theorem inR_1 {a : Int32} (h : inR a 0 1 = true) : a = 0 ∨ a = 1 := by
  obtain ⟨j, hj, rfl⟩ := inR_of (n := 1) (by decide) h
  rcases (show j = 0 ∨ j = 1 by omega) with z | z <;> subst z
  · exact Or.inl rfl
  · exact Or.inr rfl
theorem inR_2 {a : Int32} (h : inR a 0 2 = true) : a = 0 ∨ a = 1 ∨ a = 2 := by
  obtain ⟨j, hj, rfl⟩ := inR_of (n := 2) (by decide) h
  rcases (show j = 0 ∨ j = 1 ∨ j = 2 by omega) with z | z | z <;> subst z
  · exact Or.inl rfl
  · exact Or.inr (Or.inl rfl)
  · exact Or.inr (Or.inr rfl)
theorem inR_3 {a : Int32} (h : inR a 0 3 = true) : a = 0 ∨ a = 1 ∨ a = 2 ∨ a = 3 := by
  obtain ⟨j, hj, rfl⟩ := inR_of (n := 3) (by decide) h
  rcases (show j = 0 ∨ j = 1 ∨ j = 2 ∨ j = 3 by omega) with z | z | z | z <;> subst z
  · exact Or.inl rfl
  · exact Or.inr (Or.inl rfl)
  · exact Or.inr (Or.inr (Or.inl rfl))
  · exact Or.inr (Or.inr (Or.inr rfl))
theorem p2c {c : Nat} (hc : c ≤ 12) : 0 < 2 ^ c ∧ 2 ^ c ≤ 4096 := ⟨Nat.two_pow_pos _, Nat.pow_le_pow_right (by decide) hc⟩
theorem lp_keep {σ : Type} {f : Nat → σ → σ} {t s : σ} {k n : Nat} (hk : k ≤ n) (h : lp f k s = t) (hs : ∀ j, k ≤ j → j < n → f j t = t) : lp f n s = t := by
  induction n with
  | zero => have : k = 0 := by omega
            subst this; exact h
  | succ n ih =>
    rcases Nat.lt_or_ge n k with q | q
    · have : k = n + 1 := by omega
      subst this; exact h
    · show f n (lp f n s) = t
      rw [ih q (fun j h1 h2 => hs j h1 (by omega))]
      exact hs n q (by omega)
/-- none as -1 -/
def oI : Option Nat → Int32
  | none => -1
  | some j => nI j
theorem nI_m1 {j : Nat} (h : j < 2 ^ 31) : ¬ nI j = -1 := by
  intro e
  have := nI_pos h
  rw [e] at this
  exact this (by decide)
/-- the fewest cards, then the least, for which q holds -/
def fwq (q : Nat → Bool) (n : Nat) : Option Nat := lp (fun i s => if q i && (match s with
  | none => true
  | some j => decide (onN i < onN j)) then some i else s) n none
theorem fwq_succ (q : Nat → Bool) (n : Nat) : fwq q (n + 1) = if q n && (match fwq q n with
  | none => true
  | some j => decide (onN n < onN j)) then some n else fwq q n := rfl
theorem fwq_lt (q : Nat → Bool) (n : Nat) : ∀ j, fwq q n = some j → j < n := by
  induction n with
  | zero => intro j h; cases h
  | succ n ih =>
    intro j h
    rw [fwq_succ] at h
    generalize (q n && _) = t at h
    cases t with
    | true => rw [if_pos rfl] at h; cases h; omega
    | false => rw [if_neg (by decide)] at h; have := ih j h; omega
theorem fwq_skip {q : Nat → Bool} {k n : Nat} (hk : k ≤ n) (h : ∀ i, k ≤ i → i < n → q i = false) : fwq q n = fwq q k := lp_keep hk rfl (fun j h1 h2 => by rw [h j h1 h2]; rfl)
theorem fwq_congr {q r : Nat → Bool} {n : Nat} (h : ∀ i, i < n → q i = r i) : fwq q n = fwq r n := lp_congr fun j s hj => by rw [h j hj]
/-- a set within another -/
def sbq (s i : Nat) : Bool := decide (nI i &&& (nI s ^^^ -1) = 0)
theorem sbq_iff {s i : Nat} (hs : s < 2 ^ 31) (hi : i < 2 ^ 31) : sbq s i = decide (i &&& s = i) := by
  have h1 : nI i &&& (nI s ^^^ -1) = nI (i &&& (s ^^^ (2 ^ 32 - 1))) := by
    rw [show (-1 : Int32) = nI (2 ^ 32 - 1) from by decide, fa_xor, fa_and]
  have h2 : i &&& (s ^^^ (2 ^ 32 - 1)) ≤ i := Nat.and_le_left
  unfold sbq
  rw [h1]
  have h3 : (nI (i &&& (s ^^^ (2 ^ 32 - 1))) = 0) ↔ i &&& s = i := by
    rw [nI_z (by omega)]
    constructor
    · intro e
      apply Nat.eq_of_testBit_eq
      intro k
      have e1 := congrArg (fun x => x.testBit k) e
      simp only [Nat.testBit_and, Nat.testBit_xor, Nat.testBit_two_pow_sub_one, Nat.zero_testBit] at e1
      rw [Nat.testBit_and]
      by_cases hk : k < 32
      · simp only [hk, decide_true] at e1
        cases x1 : i.testBit k <;> cases x2 : s.testBit k <;> simp_all
      · have : i.testBit k = false := Nat.testBit_lt_two_pow (Nat.lt_of_lt_of_le hi (Nat.pow_le_pow_right (by decide) (by omega)))
        rw [this]; rfl
    · intro e
      apply Nat.eq_of_testBit_eq
      intro k
      have e1 := congrArg (fun x => x.testBit k) e
      simp only [Nat.testBit_and] at e1
      simp only [Nat.testBit_and, Nat.testBit_xor, Nat.testBit_two_pow_sub_one, Nat.zero_testBit]
      cases x1 : i.testBit k with
      | false => rfl
      | true =>
        rw [x1] at e1
        cases x2 : s.testBit k with
        | false => rw [x2] at e1; cases e1
        | true =>
          by_cases hk : k < 32
          · rw [decide_eq_true hk]; rfl
          · have h9 : (2 : Nat) ^ 31 ≤ 2 ^ k := Nat.pow_le_pow_right (by decide) (by omega)
            rw [Nat.testBit_lt_two_pow (Nat.lt_of_lt_of_le hi h9)] at x1; cases x1
  simp only [h3]
theorem sbq_gt {s i : Nat} (hi : i < 2 ^ 31) (h : s < i) : sbq s i = false := by
  rw [sbq_iff (by omega) hi, decide_eq_false_iff_not]
  intro e
  have : i &&& s ≤ s := Nat.and_le_right
  omega
theorem sbq_all {c i : Nat} (hc : c ≤ 12) (hi : i < 2 ^ c) : sbq (2 ^ c - 1) i = true := by
  have := p2c hc
  rw [sbq_iff (by omega) (by omega), decide_eq_true_iff, Nat.and_two_pow_sub_one_eq_mod, Nat.mod_eq_of_lt hi]
section CBS
variable {h : MHeap} {c w : Nat} {b : Int32} {hs : List Ent} {lc lw : Int32} {ps : List Nat}
def fwp (c w : Nat) (b : Int32) (hs : List Ent) (f s v i : Nat) : Bool := decide (f ≤ i) && (sbq s i && decide (sgs c w hs (b ^^^ nI i) = v))
theorem c_145 (H : CB h c w b hs lc lw ps) (d : Nat) {f s : Nat} (hf : f ≤ s + 1) (hf1 : f ≤ 1) (hs1 : s < 4096) {ys : List Nat} (hl : ys.length = hs.length) (hy : ∀ y ∈ ys, y < 16) : call (d + 6) 145 [.ref 3, .int (nI f), .int (nI s), .int (nI (pkN ys))] h = some (some (.int (oI (fwq (fwp c w b hs f s (pkN ys)) (s + 1)))), h) := by
  have hb := H.bd
  have h0 : fwq (fwp c w b hs f s (pkN ys)) f = none := by
    rw [fwq_skip (k := 0) (by omega) (fun i _ h2 => by simp only [fwp]; rw [decide_eq_false (by omega)]; rfl)]; rfl
  rw [e_145]
  have key := up_ind (n := s + 1) (i := f) (P := fun i => f ≤ i → ∀ a6, ex (d + 5) 145 6 [sv (.ref 3), sv (.int (nI f)), sv (.int (nI s)), sv (.int (nI (pkN ys))), sv (.int (oI (fwq (fwp c w b hs f s (pkN ys)) i))), sv (.int (nI i)), a6] [] h = some (some (.int (oI (fwq (fwp c w b hs f s (pkN ys)) (s + 1)))), h)) ?_ ?_ hf (Nat.le_refl _) none
  · rw [h0] at key; exact key
  · intro _ a6
    rw [e_145_6, if_pos (nI_lt (by omega) (by omega))]
  · intro i hi ih hfi a6
    have ih := ih (by omega)
    rw [fwq_succ] at ih
    rw [e_145_6, if_neg (nI_nlt (by omega) (by omega))]
    simp only [H.o0, H.o1, H.o2, H.o3, H.o4, H.o5, H.o6, H.o7, H.o8, H.o9, H.o10, H.b0, H.b1, H.b2, H.b3, H.b4, H.v3, H.v4, dR_ref, dA_ref, dA_null, dN_ref, dN_null, dD_ref, dD_int, cI_s, cV_s, cR_r, cR_n, cJ_s, bI_0, zr_bI, zr_0, zr_1, c_20 H _ _ hl hy, c_260, nI_1, bc_tab i (by omega), show ¬ (1 : Int32) = 0 from by decide, if_false]
    have e3 : fwp c w b hs f s (pkN ys) i = (sbq s i && decide (sgs c w hs (b ^^^ nI i) = pkN ys)) := by
      simp only [fwp]; rw [decide_eq_true hfi]; rfl
    rw [e3] at ih
    have e4 : (nI i &&& (nI s ^^^ -1) = 0) ↔ sbq s i = true := by simp [sbq]
    simp only [e4]
    cases x1 : sbq s i <;> cases x2 : decide (sgs c w hs (b ^^^ nI i) = pkN ys) <;> rw [x1, x2] at ih <;> simp only [x1, x2, if_true, if_false, Bool.false_eq_true, Bool.true_eq_false]
    all_goals
      cases x3 : fwq (fwp c w b hs f s (pkN ys)) i with
      | none => rw [x3] at ih; simp only [oI, if_true]; exact ih _
      | some j =>
        have hj := fwq_lt _ _ j x3
        rw [x3] at ih
        simp only [oI, if_neg (nI_m1 (show j < 2 ^ 31 by omega)), bc_tab j (by omega)]
        have q1 := onN_lt i
        have q2 := onN_lt j
        by_cases q : onN i < onN j
        · rw [if_pos (nI_lt q (by omega))]
          simp only [decide_eq_true q] at ih
          exact ih _
        · rw [if_neg (nI_nlt (by omega) (by omega))]
          simp only [decide_eq_false q] at ih
          exact ih _
end CBS
section RBS
variable {h : MHeap} {F : Nat → Int32} {A : Nat → List Int32} {c w : Nat} {b : Int32} {hs : List Ent}
theorem r_217 (H : RB h F A c w b hs) (d : Nat) {s v : Nat} (hs1 : s < 2 ^ c) (hv : v < 2 ^ 31) : ∃ h' A', call (d + 6) 217 [.ref 28, .int (nI s), .int (nI v)] h = some (some (.int (oI (fwq (fwp c w b hs 0 s v) (s + 1)))), h') ∧ RB h' F A' c w b hs ∧ Fr h h' ∧ SS F A F A' := by
  have hb := H.bd
  have hp := p2c hb.2.1
  obtain ⟨h', A', e1, H1, L1, F1, S1⟩ := r_203 H (d + 1)
  refine ⟨h', A', ?_, H1, F1, S1⟩
  rw [e_217, H.v, e1, cV_s]
  have hsk : fwq (fwp c w b hs 0 s v) (s + 1) = fwq (fwp c w b hs 0 s v) (2 ^ c) := (fwq_skip (by omega) (fun i h1 h2 => by simp only [fwp]; rw [sbq_gt (by omega) (by omega)]; rfl)).symm
  rw [hsk]
  refine up_ind (n := 2 ^ c) (i := 0) (P := fun i => ∀ a5, ex (d + 5) 217 9 [sv (.ref 28), sv (.int (nI s)), sv (.int (nI v)), sv (.int (oI (fwq (fwp c w b hs 0 s v) i))), sv (.int (nI i)), a5] [] h' = some (some (.int (oI (fwq (fwp c w b hs 0 s v) (2 ^ c)))), h')) ?_ ?_ (by omega) none
  · intro a5
    rw [e_217_9, H1.v, r_171 H1, cI_s, if_pos (nI_lt (by omega) (by omega))]
  · intro i hi ih a5
    rw [fwq_succ] at ih
    rw [e_217_9, H1.v, r_171 H1, cI_s, if_neg (nI_nlt (by omega) (by omega))]
    simp only [H1.f2, H1.v, dR_ref, dA_ref, dA_null, dN_ref, dN_null, dD_ref, dD_int, cI_s, cV_s, cR_r, cR_n, cJ_s, bI_0, zr_bI, zr_0, zr_1, r_204 H1 L1, r_168 _ (show i < 2 ^ 31 by omega), nI_1, show ¬ (1 : Int32) = 0 from by decide, if_false, if_true]
    have e3 : fwp c w b hs 0 s v i = (sbq s i && decide (sgs c w hs (b ^^^ nI i) = v)) := by
      simp only [fwp]; rw [decide_eq_true (Nat.zero_le _)]; rfl
    rw [e3] at ih
    have e4 : (nI i &&& (nI s ^^^ -1) = 0) ↔ sbq s i = true := by simp [sbq]
    have hsg := sgs_lt (c := c) (w := w) (by omega) H1.ok (b ^^^ nI i)
    have e5 : (nI (sgs c w hs (b ^^^ nI i)) = nI v) ↔ decide (sgs c w hs (b ^^^ nI i) = v) = true := by
      rw [nI_eq (by omega) hv]; simp
    simp only [e4, e5]
    cases x1 : sbq s i <;> cases x2 : decide (sgs c w hs (b ^^^ nI i) = v) <;> rw [x1, x2] at ih <;> simp only [x1, x2, if_true, if_false, Bool.false_eq_true, Bool.true_eq_false]
    all_goals
      cases x3 : fwq (fwp c w b hs 0 s v) i with
      | none => rw [x3] at ih; simp only [oI, if_true]; exact ih _
      | some j =>
        have hj := fwq_lt _ _ j x3
        rw [x3] at ih
        simp only [oI, if_neg (nI_m1 (show j < 2 ^ 31 by omega)), r_168 _ (show j < 2 ^ 31 by omega), cI_s, H1.f2, H1.v, r_204 H1 L1, e5, x2, if_true, if_false, Bool.false_eq_true]
        have q1 := onN_lt i
        have q2 := onN_lt j
        by_cases q : onN i < onN j
        · try rw [if_pos (nI_lt q (by omega))]
          simp only [decide_eq_true q] at ih
          exact ih _
        · try rw [if_neg (nI_nlt (by omega) (by omega))]
          simp only [decide_eq_false q] at ih
          exact ih _
end RBS
