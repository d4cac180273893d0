/-! loops from the front; two, needs, can, reads, coin -/
theorem i10 : ((1 : Int32) = 0) = False := eq_false (by decide)
theorem i20 : ((2 : Int32) = 0) = False := eq_false (by decide)
theorem i01 : ((0 : Int32) = 1) = False := eq_false (by decide)
theorem i21 : ((2 : Int32) = 1) = False := eq_false (by decide)
theorem i02 : ((0 : Int32) = 2) = False := eq_false (by decide)
theorem i12 : ((1 : Int32) = 2) = False := eq_false (by decide)
theorem ior0 (x : Int32) : x ||| 0 = x := by
  rw [nI_tn x, show (0 : Int32) = nI 0 from rfl, fa_or, Nat.or_zero]
theorem iad0 (x : Int32) : x + 0 = x := by
  rw [nI_tn x, show (0 : Int32) = nI 0 from rfl, nI_add, Nat.add_zero]
theorem ixr0 (x : Int32) : x ^^^ 0 = x := by
  rw [nI_tn x, show (0 : Int32) = nI 0 from rfl, fa_xor, Nat.xor_zero]
theorem bI_1 (p : Bool) : (bI p = 1) = (p = true) := by cases p <;> simp [bI]
def lq {σ : Type} (f : Nat → σ → σ) : Nat → Nat → σ → σ
  | 0, _, s => s
  | m + 1, i, s => lq f m (i + 1) (f i s)
theorem lq_ind {σ J : Type} (f : Nat → σ → σ) (X : Nat → σ → J → MRes) (R : σ → MRes) (n : Nat) (I : Nat → σ → Prop) (hfin : ∀ s j, I n s → X n s j = R s) (hs : ∀ i s j, i < n → I i s → (∀ s' j', I (i + 1) s' → X (i + 1) s' j' = R (lq f (n - (i + 1)) (i + 1) s')) → X i s j = R (lq f (n - (i + 1)) (i + 1) (f i s))) : ∀ i s j, i ≤ n → I i s → X i s j = R (lq f (n - i) i s) := by
  intro i s j hi
  refine up_ind (n := n) (P := fun i => ∀ s j, I i s → X i s j = R (lq f (n - i) i s)) ?_ ?_ hi s j
  · intro s j hI; rw [Nat.sub_self]; exact hfin s j hI
  · intro i hi ih s j hI
    have e : n - i = (n - (i + 1)) + 1 := by omega
    rw [e]
    exact hs i s j hi hI ih
theorem lq_in0 {σ J : Type} (f : Nat → σ → σ) (X : Nat → σ → J → MRes) (R : σ → MRes) (n : Nat) (hfin : ∀ s j, X n s j = R s) (hs : ∀ i s j, i < n → (∀ s' j', X (i + 1) s' j' = R (lq f (n - (i + 1)) (i + 1) s')) → X i s j = R (lq f (n - (i + 1)) (i + 1) (f i s))) (i : Nat) (s : σ) (j : J) (hi : i ≤ n) : X i s j = R (lq f (n - i) i s) :=
  lq_ind f X R n (fun _ _ => True) (fun s j _ => hfin s j) (fun i s j h1 _ h2 => hs i s j h1 (fun s' j' => h2 s' j' trivial)) i s j hi trivial
theorem lq_fix {σ : Type} {f : Nat → σ → σ} {s : σ} (h : ∀ i, f i s = s) : ∀ m i, lq f m i s = s := by
  intro m
  induction m with
  | zero => intro i; rfl
  | succ m ih => intro i; show lq f m (i + 1) (f i s) = s; rw [h]; exact ih _
theorem lq_inv {σ : Type} {f : Nat → σ → σ} (I : Nat → σ → Prop) : ∀ m k s, (∀ i s, k ≤ i → i < k + m → I i s → I (i + 1) (f i s)) → I k s → I (k + m) (lq f m k s) := by
  intro m
  induction m with
  | zero => intro k s _ h; exact h
  | succ m ih =>
    intro k s h h0
    have := ih (k + 1) (f k s) (fun i s h1 h2 => h i s (by omega) (by omega)) (h k s (by omega) (by omega) h0)
    rw [show k + (m + 1) = k + 1 + m by omega]
    exact this
theorem lq_sim {σ τ : Type} {f : Nat → σ → σ} {g : Nat → τ → τ} (T : Nat → σ → τ → Prop) : ∀ m k s t, (∀ i s t, k ≤ i → i < k + m → T i s t → T (i + 1) (f i s) (g i t)) → T k s t → T (k + m) (lq f m k s) (lq g m k t) := by
  intro m
  induction m with
  | zero => intro k s t _ h; exact h
  | succ m ih =>
    intro k s t h h0
    have := ih (k + 1) (f k s) (g k t) (fun i s t h1 h2 => h i s t (by omega) (by omega)) (h k s t (by omega) (by omega) h0)
    rw [show k + (m + 1) = k + 1 + m by omega]
    exact this
theorem lq_congr {σ : Type} {f g : Nat → σ → σ} : ∀ m k s, (∀ i s, k ≤ i → i < k + m → f i s = g i s) → lq f m k s = lq g m k s := by
  intro m
  induction m with
  | zero => intro k s _; rfl
  | succ m ih =>
    intro k s h
    show lq f m (k + 1) (f k s) = lq g m (k + 1) (g k s)
    rw [h k s (by omega) (by omega)]
    exact ih _ _ (fun i s h1 h2 => h i s (by omega) (by omega))
theorem lq_add {σ : Type} {f : Nat → σ → σ} : ∀ m n k s, lq f (m + n) k s = lq f n (k + m) (lq f m k s) := by
  intro m
  induction m with
  | zero => intro n k s; rw [Nat.zero_add]; rfl
  | succ m ih =>
    intro n k s
    rw [show m + 1 + n = m + n + 1 by omega, show k + (m + 1) = k + 1 + m by omega]
    exact ih n (k + 1) (f k s)
theorem lq_skip {σ : Type} {f : Nat → σ → σ} {m n k : Nat} {s : σ} (hm : m ≤ n) (h : ∀ i s, k + m ≤ i → i < k + n → f i s = s) : lq f n k s = lq f m k s := by
  obtain ⟨r, rfl⟩ : ∃ r, n = m + r := ⟨n - m, by omega⟩
  rw [lq_add]
  have : ∀ r' k' s, k + m ≤ k' → k' + r' ≤ k + (m + r) → lq f r' k' s = s := by
    intro r'
    induction r' with
    | zero => intro k' s _ _; rfl
    | succ r' ih =>
      intro k' s h1 h2
      show lq f r' (k' + 1) (f k' s) = s
      rw [h k' s h1 (by omega)]
      exact ih (k' + 1) s (by omega) (by omega)
  exact this r (k + m) _ (Nat.le_refl _) (by omega)
theorem and1c (x : Int32) : x &&& 1 = 0 ∨ x &&& 1 = 1 := by
  obtain ⟨z, hz, _, e⟩ := and_nI x 1
  rw [show (1 : Int32) = nI 1 from rfl, e]
  rcases (show z = 0 ∨ z = 1 by omega) with q | q <;> subst q
  · exact Or.inl rfl
  · exact Or.inr rfl
/-- a bit of an int -/
def bt (b : Int32) (i : Nat) : Bool := !decide ((b >>> (nI i &&& 31)) &&& 1 = 0)
theorem bt_1 (b : Int32) (i : Nat) : ((b >>> (nI i &&& 31)) &&& 1 = 1) ↔ bt b i = true := by
  unfold bt
  rcases and1c (b >>> (nI i &&& 31)) with q | q <;> rw [q] <;> decide
theorem bt_0 (b : Int32) (i : Nat) : ((b >>> (nI i &&& 31)) &&& 1 = 0) ↔ bt b i = false := by
  unfold bt
  rcases and1c (b >>> (nI i &&& 31)) with q | q <;> rw [q] <;> decide
theorem c_137b (d : Nat) (a : Int32) (i : Nat) (h : MHeap) : call (d + 1) 137 [.int a, .int (nI i)] h = some (some (.int (bI (bt a i))), h) := c_137 d a (nI i) h
theorem bits2 {a k : Nat} (h : a ≠ k) : nI (2 ^ a) ||| nI (2 ^ k) = nI (2 ^ a) ^^^ nI (2 ^ k) := by
  rw [fa_or, fa_xor]
  congr 1
  apply Nat.eq_of_testBit_eq
  intro i
  rw [Nat.testBit_or, Nat.testBit_xor, Nat.testBit_two_pow, Nat.testBit_two_pow]
  by_cases h1 : a = i
  · by_cases h2 : k = i
    · omega
    · simp [h1, h2]
  · simp [h1]
theorem ixa (a b c : Int32) : a ^^^ (b ^^^ c) = (a ^^^ b) ^^^ c := by
  rw [nI_tn a, nI_tn b, nI_tn c, fa_xor, fa_xor, fa_xor, fa_xor, Nat.xor_assoc]
section PQS
variable {c w : Nat} {b : Int32} {hs : List Ent}
/-- two cards by which all hold -/
def twq (c w : Nat) (b : Int32) (hs : List Ent) (a k : Nat) : Bool := decide (sgs c w hs ((b ^^^ nI (2 ^ a)) ^^^ nI (2 ^ k)) = 0)
def twf (c w : Nat) (b : Int32) (hs : List Ent) (a k : Nat) (s : Int32 × Int32) : Int32 × Int32 := if twq c w b hs a k then (s.1 + 1, if s.2 = -1 then 100 * nI a + nI k else s.2) else s
def twg (c w : Nat) (b : Int32) (hs : List Ent) (a : Nat) (s : Int32 × Int32) : Int32 × Int32 := lq (twf c w b hs a) (c - (a + 1)) (a + 1) s
theorem tw_keep (a : Nat) : ∀ m k s, s.2 ≠ -1 → (lq (twf c w b hs a) m k s).2 = s.2 := by
  intro m
  induction m with
  | zero => intro k s _; rfl
  | succ m ih =>
    intro k s h
    show (lq (twf c w b hs a) m (k + 1) (twf c w b hs a k s)).2 = s.2
    have h1 : (twf c w b hs a k s).2 = s.2 := by
      unfold twf
      cases twq c w b hs a k
      · rfl
      · show (if s.2 = -1 then _ else s.2) = s.2
        rw [if_neg h]
    rw [ih _ _ (by rw [h1]; exact h), h1]
theorem tw_keep2 : ∀ m k s, s.2 ≠ -1 → (lq (twg c w b hs) m k s).2 = s.2 := by
  intro m
  induction m with
  | zero => intro k s _; rfl
  | succ m ih =>
    intro k s h
    show (lq (twg c w b hs) m (k + 1) (twg c w b hs k s)).2 = s.2
    have h1 : (twg c w b hs k s).2 = s.2 := tw_keep k _ _ _ h
    rw [ih _ _ (by rw [h1]; exact h), h1]
def twv (c w : Nat) (b : Int32) (hs : List Ent) : Int32 × Int32 := lq (twg c w b hs) c 0 (0, -1)
theorem as2 {a k : Nat} (h1 : a < 12) (h2 : k < 12) : (100 * nI a + nI k : Int32) ≠ -1 := by
  rw [show (100 : Int32) = nI 100 from rfl, pk_mul, nI_add]
  exact nI_m1 (by omega)
theorem q_two (a : Int32) : PQ c w b hs 98 212 [.int a] := by
  refine ⟨(if inR a 0 1 then if a = 0 then (twv c w b hs).1 else (twv c w b hs).2 else -2), ?_, ?_⟩
  · intro d h lc lw ps H
    have hb := H.bd
    rw [e_98, c_133, cI_s]
    simp only [bI_0]
    cases x2 : inR a 0 1 with
    | false => rfl
    | true =>
      simp only [dR_ref, dA_ref, dA_null, dN_ref, dN_null, dD_ref, dD_int, cI_s, cV_s, cR_r, cR_n, cJ_s, bI_0, bI_1, zr_bI, zr_0, zr_1, eq_self, if_true, if_false, i10, i20, i01, i21, i02, i12, ior0, iad0, Bool.true_eq_false, Bool.false_eq_true]
      rcases inR_1 x2 with z | z <;> subst z
      · simp only [dR_ref, dA_ref, dA_null, dN_ref, dN_null, dD_ref, dD_int, cI_s, cV_s, cR_r, cR_n, cJ_s, bI_0, bI_1, zr_bI, zr_0, zr_1, eq_self, if_true, if_false, i10, i20, i01, i21, i02, i12, ior0, iad0, Bool.true_eq_false, Bool.false_eq_true]
        refine lq_in0 (J := MSl) (twg c w b hs) (fun i s j => ex (d + 19) 98 16 [sv (.ref 3), sv (.int 0), sv (.int s.1), sv (.int (nI i)), j] [] h) (fun s => some (some (.int s.1), h)) c ?_ ?_ 0 (0, -1) none (by omega)
        · intro s j
          show ex _ _ _ _ _ _ = _
          rw [e_98_16]
          simp only [H.o0, H.o1, H.o2, H.o3, H.o4, H.o5, H.o6, H.o7, H.o8, H.o9, H.o10, H.b0, H.b1, H.b2, H.b3, H.b4, H.v3, H.v4, dR_ref, dA_ref, dA_null, dN_ref, dN_null, dD_ref, dD_int, cI_s, cV_s, cR_r, cR_n, cJ_s, bI_0, bI_1, zr_bI, zr_0, zr_1, eq_self, if_true, if_false, i10, i20, i01, i21, i02, i12, ior0, iad0, Bool.true_eq_false, Bool.false_eq_true, if_neg (nI_nlt (Nat.le_refl c) (by omega))]
        · intro i s j hi IH
          show ex _ _ _ _ _ _ = _
          rw [e_98_16]
          simp only [H.o0, H.o1, H.o2, H.o3, H.o4, H.o5, H.o6, H.o7, H.o8, H.o9, H.o10, H.b0, H.b1, H.b2, H.b3, H.b4, H.v3, H.v4, dR_ref, dA_ref, dA_null, dN_ref, dN_null, dD_ref, dD_int, cI_s, cV_s, cR_r, cR_n, cJ_s, bI_0, bI_1, zr_bI, zr_0, zr_1, eq_self, if_true, if_false, i10, i20, i01, i21, i02, i12, ior0, iad0, Bool.true_eq_false, Bool.false_eq_true, if_pos (nI_lt hi (show c < 2 ^ 31 by omega)), nI_1]
          refine lq_in0 (J := Unit) (twf c w b hs i) (fun k s _ => ex (d + 19) 98 32 [sv (.ref 3), sv (.int 0), sv (.int s.1), sv (.int (nI i)), sv (.int (nI k))] [] h) (fun s => some (some (.int (lq (twg c w b hs) (c - (i + 1)) (i + 1) s).1), h)) c ?_ ?_ (i + 1) s () (by omega)
          · intro s _
            show ex _ _ _ _ _ _ = _
            rw [e_98_32]
            simp only [H.o0, H.o1, H.o2, H.o3, H.o4, H.o5, H.o6, H.o7, H.o8, H.o9, H.o10, H.b0, H.b1, H.b2, H.b3, H.b4, H.v3, H.v4, dR_ref, dA_ref, dA_null, dN_ref, dN_null, dD_ref, dD_int, cI_s, cV_s, cR_r, cR_n, cJ_s, bI_0, bI_1, zr_bI, zr_0, zr_1, eq_self, if_true, if_false, i10, i20, i01, i21, i02, i12, ior0, iad0, Bool.true_eq_false, Bool.false_eq_true, if_neg (nI_nlt (Nat.le_refl c) (by omega)), nI_1]
            exact IH s _
          · intro k s _ hk IH2
            show ex _ _ _ _ _ _ = _
            rw [e_98_32]
            simp only [H.o0, H.o1, H.o2, H.o3, H.o4, H.o5, H.o6, H.o7, H.o8, H.o9, H.o10, H.b0, H.b1, H.b2, H.b3, H.b4, H.v3, H.v4, dR_ref, dA_ref, dA_null, dN_ref, dN_null, dD_ref, dD_int, cI_s, cV_s, cR_r, cR_n, cJ_s, bI_0, bI_1, zr_bI, zr_0, zr_1, eq_self, if_true, if_false, i10, i20, i01, i21, i02, i12, ior0, iad0, Bool.true_eq_false, Bool.false_eq_true, if_pos (nI_lt hk (show c < 2 ^ 31 by omega)), nI_1, e_135, bit_nI (show i < 31 by omega), bit_nI (show k < 31 by omega), c_21 H]
            have e : decide (sgs c w hs ((b ^^^ nI (2 ^ i)) ^^^ nI (2 ^ k)) = 0) = twq c w b hs i k := rfl
            rw [e]
            unfold twf
            cases twq c w b hs i k
            · exact IH2 s ()
            · exact IH2 (_, _) ()
      · simp only [dR_ref, dA_ref, dA_null, dN_ref, dN_null, dD_ref, dD_int, cI_s, cV_s, cR_r, cR_n, cJ_s, bI_0, bI_1, zr_bI, zr_0, zr_1, eq_self, if_true, if_false, i10, i20, i01, i21, i02, i12, ior0, iad0, Bool.true_eq_false, Bool.false_eq_true]
        refine lq_ind (J := MSl) (twg c w b hs) (fun i s j => ex (d + 19) 98 16 [sv (.ref 3), sv (.int 1), sv (.int 0), sv (.int (nI i)), j] [] h) (fun s => some (some (.int s.2), h)) c (fun _ s => s.2 = -1) ?_ ?_ 0 (0, -1) none (by omega) rfl
        · intro s j hI
          show ex _ _ _ _ _ _ = _
          rw [e_98_16]
          simp only [H.o0, H.o1, H.o2, H.o3, H.o4, H.o5, H.o6, H.o7, H.o8, H.o9, H.o10, H.b0, H.b1, H.b2, H.b3, H.b4, H.v3, H.v4, dR_ref, dA_ref, dA_null, dN_ref, dN_null, dD_ref, dD_int, cI_s, cV_s, cR_r, cR_n, cJ_s, bI_0, bI_1, zr_bI, zr_0, zr_1, eq_self, if_true, if_false, i10, i20, i01, i21, i02, i12, ior0, iad0, Bool.true_eq_false, Bool.false_eq_true, if_neg (nI_nlt (Nat.le_refl c) (by omega)), hI]
        · intro i s j hi hI IH
          show ex _ _ _ _ _ _ = _
          rw [e_98_16]
          simp only [H.o0, H.o1, H.o2, H.o3, H.o4, H.o5, H.o6, H.o7, H.o8, H.o9, H.o10, H.b0, H.b1, H.b2, H.b3, H.b4, H.v3, H.v4, dR_ref, dA_ref, dA_null, dN_ref, dN_null, dD_ref, dD_int, cI_s, cV_s, cR_r, cR_n, cJ_s, bI_0, bI_1, zr_bI, zr_0, zr_1, eq_self, if_true, if_false, i10, i20, i01, i21, i02, i12, ior0, iad0, Bool.true_eq_false, Bool.false_eq_true, if_pos (nI_lt hi (show c < 2 ^ 31 by omega)), nI_1]
          refine lq_ind (J := Unit) (twf c w b hs i) (fun k s _ => ex (d + 19) 98 32 [sv (.ref 3), sv (.int 1), sv (.int 0), sv (.int (nI i)), sv (.int (nI k))] [] h) (fun s => some (some (.int (lq (twg c w b hs) (c - (i + 1)) (i + 1) s).2), h)) c (fun _ s => s.2 = -1) ?_ ?_ (i + 1) s () (by omega) hI
          · intro s _ hI
            show ex _ _ _ _ _ _ = _
            rw [e_98_32]
            simp only [H.o0, H.o1, H.o2, H.o3, H.o4, H.o5, H.o6, H.o7, H.o8, H.o9, H.o10, H.b0, H.b1, H.b2, H.b3, H.b4, H.v3, H.v4, dR_ref, dA_ref, dA_null, dN_ref, dN_null, dD_ref, dD_int, cI_s, cV_s, cR_r, cR_n, cJ_s, bI_0, bI_1, zr_bI, zr_0, zr_1, eq_self, if_true, if_false, i10, i20, i01, i21, i02, i12, ior0, iad0, Bool.true_eq_false, Bool.false_eq_true, if_neg (nI_nlt (Nat.le_refl c) (by omega)), nI_1]
            exact IH s _ hI
          · intro k s _ hk hI2 IH2
            show ex _ _ _ _ _ _ = _
            rw [e_98_32]
            simp only [H.o0, H.o1, H.o2, H.o3, H.o4, H.o5, H.o6, H.o7, H.o8, H.o9, H.o10, H.b0, H.b1, H.b2, H.b3, H.b4, H.v3, H.v4, dR_ref, dA_ref, dA_null, dN_ref, dN_null, dD_ref, dD_int, cI_s, cV_s, cR_r, cR_n, cJ_s, bI_0, bI_1, zr_bI, zr_0, zr_1, eq_self, if_true, if_false, i10, i20, i01, i21, i02, i12, ior0, iad0, Bool.true_eq_false, Bool.false_eq_true, if_pos (nI_lt hk (show c < 2 ^ 31 by omega)), nI_1, e_135, e_141, bit_nI (show i < 31 by omega), bit_nI (show k < 31 by omega), c_21 H]
            have e : decide (sgs c w hs ((b ^^^ nI (2 ^ i)) ^^^ nI (2 ^ k)) = 0) = twq c w b hs i k := rfl
            rw [e]
            have e2 : twf c w b hs i k s = if twq c w b hs i k then (s.1 + 1, 100 * nI i + nI k) else s := by unfold twf; rw [if_pos hI2]
            rw [e2]
            cases twq c w b hs i k
            · exact IH2 s () hI2
            · simp only [dR_ref, dA_ref, dA_null, dN_ref, dN_null, dD_ref, dD_int, cI_s, cV_s, cR_r, cR_n, cJ_s, bI_0, bI_1, zr_bI, zr_0, zr_1, eq_self, if_true, if_false, i10, i20, i01, i21, i02, i12, ior0, iad0, Bool.true_eq_false, Bool.false_eq_true]
              have q := as2 (show i < 12 by omega) (show k < 12 by omega)
              have q1 := tw_keep (c := c) (w := w) (b := b) (hs := hs) i (c - (k + 1)) (k + 1) (s.1 + 1, 100 * nI i + nI k) q
              rw [tw_keep2 _ _ _ (by rw [q1]; exact q), q1]
  · intro d h F A H
    have hb := H.bd
    rw [e_212, r_166, cI_s]
    simp only [bI_0]
    cases x2 : inR a 0 1 with
    | false => exact ⟨h, F, A, rfl, H, Fr.rf h, SS.rf F A⟩
    | true =>
      obtain ⟨h', A', e1, H1, L1, F1, S1⟩ := r_203 H (d + 15)
      refine ⟨h', F, A', ?_, H1, F1, S1⟩
      simp only [H.v, e1, dR_ref, dA_ref, dA_null, dN_ref, dN_null, dD_ref, dD_int, cI_s, cV_s, cR_r, cR_n, cJ_s, bI_0, bI_1, zr_bI, zr_0, zr_1, eq_self, if_true, if_false, i10, i20, i01, i21, i02, i12, ior0, iad0, Bool.true_eq_false, Bool.false_eq_true]
      refine lq_in0 (J := MSl) (twg c w b hs) (fun i s j => ex (d + 19) 212 23 [sv (.ref 28), sv (.int a), sv (.int s.1), sv (.int s.2), sv (.int (nI i)), j] [] h') (fun s => some (some (.int (if a = 0 then s.1 else s.2)), h')) c ?_ ?_ 0 (0, -1) none (by omega)
      · intro s j
        show ex _ _ _ _ _ _ = _
        rw [e_212_23]
        simp only [H1.f0, H1.f1, H1.f2, H1.f3, H1.v, dR_ref, dA_ref, dA_null, dN_ref, dN_null, dD_ref, dD_int, cI_s, cV_s, cR_r, cR_n, cJ_s, bI_0, bI_1, zr_bI, zr_0, zr_1, eq_self, if_true, if_false, i10, i20, i01, i21, i02, i12, ior0, iad0, Bool.true_eq_false, Bool.false_eq_true, if_neg (nI_nlt (Nat.le_refl c) (by omega))]
        split <;> rfl
      · intro i s j hi IH
        show ex _ _ _ _ _ _ = _
        rw [e_212_23]
        simp only [H1.f0, H1.f1, H1.f2, H1.f3, H1.v, dR_ref, dA_ref, dA_null, dN_ref, dN_null, dD_ref, dD_int, cI_s, cV_s, cR_r, cR_n, cJ_s, bI_0, bI_1, zr_bI, zr_0, zr_1, eq_self, if_true, if_false, i10, i20, i01, i21, i02, i12, ior0, iad0, Bool.true_eq_false, Bool.false_eq_true, if_pos (nI_lt hi (show c < 2 ^ 31 by omega)), nI_1]
        refine lq_ind (J := Unit) (twf c w b hs i) (fun k s _ => ex (d + 19) 212 38 [sv (.ref 28), sv (.int a), sv (.int s.1), sv (.int s.2), sv (.int (nI i)), sv (.int (nI k))] [] h') (fun s => some (some (.int (if a = 0 then (lq (twg c w b hs) (c - (i + 1)) (i + 1) s).1 else (lq (twg c w b hs) (c - (i + 1)) (i + 1) s).2)), h')) c (fun k _ => i < k) ?_ ?_ (i + 1) s () (by omega) (by omega)
        · intro s _ _
          show ex _ _ _ _ _ _ = _
          rw [e_212_38]
          simp only [H1.f0, H1.f1, H1.f2, H1.f3, H1.v, dR_ref, dA_ref, dA_null, dN_ref, dN_null, dD_ref, dD_int, cI_s, cV_s, cR_r, cR_n, cJ_s, bI_0, bI_1, zr_bI, zr_0, zr_1, eq_self, if_true, if_false, i10, i20, i01, i21, i02, i12, ior0, iad0, Bool.true_eq_false, Bool.false_eq_true, if_neg (nI_nlt (Nat.le_refl c) (by omega)), nI_1]
          exact IH s _
        · intro k s _ hk hI IH2
          show ex _ _ _ _ _ _ = _
          rw [e_212_38]
          simp only [H1.f0, H1.f1, H1.f2, H1.f3, H1.v, dR_ref, dA_ref, dA_null, dN_ref, dN_null, dD_ref, dD_int, cI_s, cV_s, cR_r, cR_n, cJ_s, bI_0, bI_1, zr_bI, zr_0, zr_1, eq_self, if_true, if_false, i10, i20, i01, i21, i02, i12, ior0, iad0, Bool.true_eq_false, Bool.false_eq_true, if_pos (nI_lt hk (show c < 2 ^ 31 by omega)), nI_1, bit_nI (show i < 31 by omega), bit_nI (show k < 31 by omega), bits2 (show i ≠ k by omega), ixa, r_209 H1 L1]
          have e : decide (sgs c w hs ((b ^^^ nI (2 ^ i)) ^^^ nI (2 ^ k)) = 0) = twq c w b hs i k := rfl
          rw [e]
          unfold twf
          cases twq c w b hs i k
          · exact IH2 s () (by omega)
          · simp only [dR_ref, dA_ref, dA_null, dN_ref, dN_null, dD_ref, dD_int, cI_s, cV_s, cR_r, cR_n, cJ_s, bI_0, bI_1, zr_bI, zr_0, zr_1, eq_self, if_true, if_false, i10, i20, i01, i21, i02, i12, ior0, iad0, Bool.true_eq_false, Bool.false_eq_true]
            by_cases q : s.2 = -1
            · rw [if_pos q, if_pos q]; exact IH2 (_, _) () (by omega)
            · rw [if_neg q, if_neg q]; exact IH2 (_, _) () (by omega)
/-- the least r with 2 to the r no less than n, r and 1 -/
def ndN (n : Nat) : Nat → Nat → Nat
  | 0, r => r
  | k + 1, r => if 2 ^ r < n + r + 1 then ndN n k (r + 1) else r
theorem q_needs (a : Int32) : PQ c w b hs 105 220 [.int a] := by
  refine ⟨(if inR a 0 9999 then nI (ndN a.toBitVec.toNat 14 0) else -2), ?_, ?_⟩
  · intro d h lc lw ps H
    rw [e_105, c_133, cI_s]
    simp only [bI_0]
    cases x2 : inR a 0 9999 with
    | false => rfl
    | true =>
      obtain ⟨n, hn, rfl⟩ := inR_of (n := 9999) (by decide) x2
      simp only [dR_ref, dA_ref, dA_null, dN_ref, dN_null, dD_ref, dD_int, cI_s, cV_s, cR_r, cR_n, cJ_s, bI_0, bI_1, zr_bI, zr_0, zr_1, eq_self, if_true, if_false, i10, i20, i01, i21, i02, i12, ior0, iad0, Bool.true_eq_false, Bool.false_eq_true, pk_tn (show n < 2 ^ 32 by omega)]
      refine up_ind (n := 14) (i := 0) (P := fun r => ex (d + 19) 105 16 [sv (.ref 3), sv (.int (nI n)), sv (.int (nI r))] [] h = some (some (.int (nI (ndN n (14 - r) r))), h)) ?_ ?_ (by decide)
      · rw [e_105_16, if_pos (by decide), bit_nI (by decide), nI_add, nI_1, if_neg (nI_nlt (show n + 14 + 1 ≤ 2 ^ 14 by omega) (by decide))]
        rfl
      · intro r hr ih
        have h2 : (2 : Nat) ^ r < 2 ^ 14 := Nat.pow_lt_pow_right (by decide) hr
        have e0 : ndN n (14 - r) r = if 2 ^ r < n + r + 1 then ndN n (14 - (r + 1)) (r + 1) else r := by rw [show 14 - r = (14 - (r + 1)) + 1 by omega]; rfl
        rw [e_105_16, if_pos (show nI r < (31 : Int32) from nI_lt (b := 31) (by omega) (by decide)), bit_nI (by omega), nI_add, nI_1, nI_1, e0]
        by_cases q : 2 ^ r < n + r + 1
        · rw [if_pos (nI_lt q (by omega)), if_pos q]; exact ih
        · rw [if_neg (nI_nlt (by omega) (by omega)), if_neg q]
  · intro d h F A H
    refine ⟨h, F, A, ?_, H, Fr.rf h, SS.rf F A⟩
    rw [e_220, r_166, cI_s]
    simp only [bI_0]
    cases x2 : inR a 0 9999 with
    | false => rfl
    | true =>
      obtain ⟨n, hn, rfl⟩ := inR_of (n := 9999) (by decide) x2
      simp only [dR_ref, dA_ref, dA_null, dN_ref, dN_null, dD_ref, dD_int, cI_s, cV_s, cR_r, cR_n, cJ_s, bI_0, bI_1, zr_bI, zr_0, zr_1, eq_self, if_true, if_false, i10, i20, i01, i21, i02, i12, ior0, iad0, Bool.true_eq_false, Bool.false_eq_true, pk_tn (show n < 2 ^ 32 by omega)]
      refine up_ind (n := 14) (i := 0) (P := fun r => ex (d + 19) 220 16 [sv (.ref 28), sv (.int (nI n)), sv (.int (nI r))] [] h = some (some (.int (nI (ndN n (14 - r) r))), h)) ?_ ?_ (by decide)
      · rw [e_220_16, bit_nI (by decide), nI_add, nI_1, if_neg (nI_nlt (show n + 14 + 1 ≤ 2 ^ 14 by omega) (by decide))]
        rfl
      · intro r hr ih
        have h2 : (2 : Nat) ^ r < 2 ^ 14 := Nat.pow_lt_pow_right (by decide) hr
        have e0 : ndN n (14 - r) r = if 2 ^ r < n + r + 1 then ndN n (14 - (r + 1)) (r + 1) else r := by rw [show 14 - r = (14 - (r + 1)) + 1 by omega]; rfl
        rw [e_220_16, bit_nI (by omega), nI_add, nI_1, nI_1, e0]
        by_cases q : 2 ^ r < n + r + 1
        · rw [if_pos (nI_lt q (by omega)), if_pos q]; exact ih
        · rw [if_neg (nI_nlt (by omega) (by omega)), if_neg q]
def bcN (x : Nat) : Nat :=
  let a := x - (x / 2 &&& 1431655765)
  let b := (a &&& 858993459) + (a / 4 &&& 858993459)
  let c := (b + b / 16) &&& 252645135
  let d := c + c / 256
  (d + d / 65536) &&& 63
theorem ush {x k : Nat} (hx : x < 2 ^ 32) (hk : k < 32) : (Int32.toUInt32 (nI x) >>> (Int32.toUInt32 (nI k) &&& Int32.toUInt32 31)).toInt32 = nI (x / 2 ^ k) := by
  apply Int32.toBitVec_inj.1
  apply BitVec.eq_of_toNat_eq
  have e1 : (Int32.toUInt32 (nI x)).toNat = x := by
    show x % 2 ^ 32 = x
    exact Nat.mod_eq_of_lt hx
  have e2 : ∀ k, k < 32 → (Int32.toUInt32 (nI k) &&& Int32.toUInt32 31).toNat = k := by decide +kernel
  show (Int32.toUInt32 (nI x) >>> (Int32.toUInt32 (nI k) &&& Int32.toUInt32 31)).toNat = (x / 2 ^ k) % 2 ^ 32
  have h3 : x / 2 ^ k ≤ x := Nat.div_le_self _ _
  rw [UInt32.toNat_shiftRight, e1, e2 k hk, Nat.mod_eq_of_lt hk, Nat.shiftRight_eq_div_pow, Nat.mod_eq_of_lt (by omega)]
theorem and_le_half (x : Nat) : (x / 2 &&& 1431655765) ≤ x := Nat.le_trans Nat.and_le_left (Nat.div_le_self _ _)
theorem bc_N {x : Nat} (hx : x < 2 ^ 32) : bcI (nI x) = nI (bcN x) := by
  have h1 : bc1 (nI x) = nI (x - (x / 2 &&& 1431655765)) := by
    unfold bc1
    rw [show (1 : Int32) = nI 1 from rfl, ush hx (by decide), show (1431655765 : Int32) = nI 1431655765 from rfl, fa_and, Nat.pow_one, pk_sub (and_le_half x)]
  have l1 : x - (x / 2 &&& 1431655765) < 2 ^ 32 := by omega
  have h2 : ∀ a, a < 2 ^ 32 → bc2 (nI a) = nI ((a &&& 858993459) + (a / 4 &&& 858993459)) := by
    intro a ha
    unfold bc2
    rw [show (2 : Int32) = nI 2 from rfl, ush ha (by decide), show (858993459 : Int32) = nI 858993459 from rfl, fa_and, fa_and, nI_add]
  have l2 : ∀ a, (a &&& 858993459) + (a / 4 &&& 858993459) < 2 ^ 31 := by
    intro a
    have := Nat.and_le_right (n := a) (m := 858993459)
    have := Nat.and_le_right (n := a / 4) (m := 858993459)
    omega
  have h3 : ∀ a, a < 2 ^ 31 → bc3 (nI a) = nI ((a + a / 16) &&& 252645135) := by
    intro a ha
    unfold bc3
    rw [show (4 : Int32) = nI 4 from rfl, ush (by omega) (by decide), show (252645135 : Int32) = nI 252645135 from rfl, nI_add, fa_and]
  have l3 : ∀ a, (a + a / 16) &&& 252645135 < 2 ^ 28 := by
    intro a
    have := Nat.and_le_right (n := a + a / 16) (m := 252645135)
    omega
  have h4 : ∀ a, a < 2 ^ 28 → bc4 (nI a) = nI (a + a / 256) := by
    intro a ha
    unfold bc4
    rw [show (8 : Int32) = nI 8 from rfl, ush (by omega) (by decide), nI_add]
  have h5 : ∀ a, a < 2 ^ 29 → bc5 (nI a) = nI (a + a / 65536) := by
    intro a ha
    unfold bc5
    rw [show (16 : Int32) = nI 16 from rfl, ush (by omega) (by decide), nI_add]
  unfold bcI
  have q3 := l3 (((x - (x / 2 &&& 1431655765)) &&& 858993459) + ((x - (x / 2 &&& 1431655765)) / 4 &&& 858993459))
  rw [h1, h2 _ l1, h3 _ (l2 _), h4 _ q3, h5 _ (by omega), show (63 : Int32) = nI 63 from rfl, fa_and]
  rfl
def cnk (s : Nat) : Nat → Bool
  | 0 => true
  | m + 1 => bif Nat.beq (s + m) 0 then cnk s m else bif Nat.beq ((s + m) &&& (s + m - 1)) 0 then bif Nat.beq (bcN (s + m)) 1 then cnk s m else false else bif Nat.beq (bcN (s + m)) 1 then false else cnk s m
theorem cnk_ok {s : Nat} : ∀ m, cnk s m = true → ∀ k, k < m → 0 < s + k → ((bcN (s + k) = 1) ↔ ((s + k) &&& (s + k - 1) = 0)) := by
  intro m
  induction m with
  | zero => intro _ k hk; omega
  | succ m ih =>
    intro h k hk h0
    unfold cnk at h
    cases x0 : Nat.beq (s + m) 0 <;> cases x1 : Nat.beq ((s + m) &&& (s + m - 1)) 0 <;> cases x2 : Nat.beq (bcN (s + m)) 1 <;> simp only [x0, x1, x2, cond_true, cond_false, Bool.false_eq_true] at h
    all_goals
      rcases Nat.lt_succ_iff_lt_or_eq.1 hk with z | z
      · exact ih h k z h0
      · subst z
        first
        | exact absurd (Nat.eq_of_beq_eq_true x0) (by omega)
        | exact ⟨fun e => absurd e (Nat.ne_of_beq_eq_false x2), fun e => absurd e (Nat.ne_of_beq_eq_false x1)⟩
        | exact ⟨fun _ => Nat.eq_of_beq_eq_true x1, fun _ => Nat.eq_of_beq_eq_true x2⟩
theorem lt_st {p : Nat → Prop} {n : Nat} (h : ∀ k, k < n → p k) (hn : p n) : ∀ k, k < n + 1 → p k := by
  intro k hk
  rcases Nat.lt_succ_iff_lt_or_eq.1 hk with z | z
  · exact h k z
  · subst z; exact hn
theorem cnk_0 : cnk 0 4096 = true := by decide +kernel
theorem cnk_1 : cnk 4096 4096 = true := by decide +kernel
theorem cnk_2 : cnk 8192 4096 = true := by decide +kernel
theorem cnk_3 : cnk 12288 4096 = true := by decide +kernel
theorem cnk_4 : cnk 16384 4096 = true := by decide +kernel
theorem cnk_5 : cnk 20480 4096 = true := by decide +kernel
theorem cnk_6 : cnk 24576 4096 = true := by decide +kernel
theorem cnk_7 : cnk 28672 4096 = true := by decide +kernel
theorem cnk_8 : cnk 32768 4096 = true := by decide +kernel
theorem cnk_9 : cnk 36864 4096 = true := by decide +kernel
theorem cnk_10 : cnk 40960 4096 = true := by decide +kernel
theorem cnk_11 : cnk 45056 4096 = true := by decide +kernel
theorem cnk_12 : cnk 49152 4096 = true := by decide +kernel
theorem cnk_13 : cnk 53248 4096 = true := by decide +kernel
theorem cnk_14 : cnk 57344 4096 = true := by decide +kernel
theorem cnk_15 : cnk 61440 4096 = true := by decide +kernel
theorem cnk_16 : cnk 65536 4096 = true := by decide +kernel
theorem cnk_17 : cnk 69632 4096 = true := by decide +kernel
theorem cnk_18 : cnk 73728 4096 = true := by decide +kernel
theorem cnk_19 : cnk 77824 4096 = true := by decide +kernel
theorem cnk_20 : cnk 81920 4096 = true := by decide +kernel
theorem cnk_21 : cnk 86016 4096 = true := by decide +kernel
theorem cnk_22 : cnk 90112 4096 = true := by decide +kernel
theorem cnk_23 : cnk 94208 4096 = true := by decide +kernel
theorem cnk_24 : cnk 98304 4096 = true := by decide +kernel
theorem can_tab : ∀ a, a < 25 → cnk (4096 * a) 4096 = true := (lt_st (lt_st (lt_st (lt_st (lt_st (lt_st (lt_st (lt_st (lt_st (lt_st (lt_st (lt_st (lt_st (lt_st (lt_st (lt_st (lt_st (lt_st (lt_st (lt_st (lt_st (lt_st (lt_st (lt_st (lt_st (p := fun a => cnk (4096 * a) 4096 = true) (fun k hk => absurd hk (Nat.not_lt_zero k)) cnk_0) cnk_1) cnk_2) cnk_3) cnk_4) cnk_5) cnk_6) cnk_7) cnk_8) cnk_9) cnk_10) cnk_11) cnk_12) cnk_13) cnk_14) cnk_15) cnk_16) cnk_17) cnk_18) cnk_19) cnk_20) cnk_21) cnk_22) cnk_23) cnk_24)
theorem can_eq {n : Nat} (h0 : 0 < n) (h : n < 102400) : (bcN n = 1) ↔ (n &&& (n - 1) = 0) := by
  have := cnk_ok 4096 (can_tab (n / 4096) (by omega)) (n % 4096) (by omega)
  rw [Nat.div_add_mod] at this
  exact this h0
theorem q_can (a : Int32) : PQ c w b hs 106 222 [.int a] := by
  refine ⟨(if inR a 1 99999 then if bcI a = 1 then 1 else 0 else -2), ?_, ?_⟩
  · intro d h lc lw ps H
    rw [e_106, c_133, cI_s, c_260, cI_s]
    simp only [bI_0]
    cases x2 : inR a 1 99999 with
    | false => rfl
    | true =>
      simp only [dR_ref, dA_ref, dA_null, dN_ref, dN_null, dD_ref, dD_int, cI_s, cV_s, cR_r, cR_n, cJ_s, bI_0, bI_1, zr_bI, zr_0, zr_1, eq_self, if_true, if_false, i10, i20, i01, i21, i02, i12, ior0, iad0, Bool.true_eq_false, Bool.false_eq_true]
      by_cases q : bcI a = 1
      · rw [if_pos q, if_pos q]
      · rw [if_neg q, if_neg q]
  · intro d h F A H
    refine ⟨h, F, A, ?_, H, Fr.rf h, SS.rf F A⟩
    rw [e_222, r_166, cI_s]
    simp only [bI_0]
    cases x2 : inR a 1 99999 with
    | false => rfl
    | true =>
      have x3 : ¬ a < 1 ∧ ¬ 99999 < a := by simpa [inR] using x2
      have x4 : ¬ a < 0 := fun z => x3.1 (Int32.lt_trans z (by decide))
      obtain ⟨n, hn, rfl⟩ := nI_of x4
      have x5 : 0 < n := by
        rcases Nat.eq_zero_or_pos n with q | q
        · subst q; exact absurd (show nI 0 < (1 : Int32) by decide) x3.1
        · exact q
      have x6 : n < 102400 := by
        rcases Nat.lt_or_ge 99999 n with q | q
        · exact absurd (show (99999 : Int32) < nI n from nI_lt (a := 99999) q hn) x3.2
        · omega
      have x7 := can_eq x5 x6
      have l1 : bcN n < 2 ^ 31 := by
        have : bcN n ≤ 63 := Nat.and_le_right
        omega
      have l2 : n &&& (n - 1) < 2 ^ 31 := Nat.lt_of_le_of_lt Nat.and_le_left hn
      have e1 : (bcI (nI n) = 1) ↔ (nI n &&& (nI n - 1) = 0) := by
        rw [bc_N (by omega), show (1 : Int32) = nI 1 from rfl, pk_sub x5, fa_and, nI_eq l1 (by decide), show (0 : Int32) = nI 0 from rfl, nI_eq l2 (by decide)]
        exact x7
      rw [e_221]
      by_cases q : bcI (nI n) = 1
      · rw [if_pos (e1.1 q), if_pos q]; rfl
      · rw [if_neg (fun z => q (e1.2 z)), if_neg q]; rfl
theorem twos_tab : ∀ c, c < 13 → ((¬ (8 : Int32) < nI c ∧ bcI (nI c) = 1) ↔ (c = 0 ∨ nI c &&& (nI c - 1) = 0) ∧ c ≠ 0) := by decide +kernel
/-- how many cards there are is one of TWOS -/
def twos (c : Nat) : Bool := decide (nI c &&& (nI c - 1) = 0)
theorem c_150 {h : MHeap} {lc lw : Int32} {ps : List Nat} (H : CB h c w b hs lc lw ps) (d : Nat) : call (d + 2) 150 [.ref 3] h = some (some (.int (bI (twos c))), h) := by
  have hb := H.bd
  have q := twos_tab c (by omega)
  simp only [e_150, H.o0, H.o1, H.o2, H.o3, H.o4, H.o5, H.o6, H.o7, H.o8, H.o9, H.o10, H.b0, H.b1, H.b2, H.b3, H.b4, H.v3, H.v4, dR_ref, dA_ref, dA_null, dN_ref, dN_null, dD_ref, dD_int, cI_s, cV_s, cR_r, cR_n, cJ_s, bI_0, bI_1, zr_bI, zr_0, zr_1, eq_self, if_true, if_false, i10, i20, i01, i21, i02, i12, ior0, iad0, Bool.true_eq_false, Bool.false_eq_true, c_260]
  have e1 : (¬ (8 : Int32) < nI c ∧ bcI (nI c) = 1) ↔ twos c = true := by
    rw [q]; unfold twos
    constructor
    · rintro ⟨z | z, z2⟩
      · exact absurd z z2
      · exact decide_eq_true z
    · intro z; exact ⟨Or.inr (of_decide_eq_true z), by omega⟩
  cases x : twos c with
  | false =>
    rw [x] at e1
    by_cases q1 : (8 : Int32) < nI c
    · rw [if_pos q1]; rfl
    · rw [if_neg q1, if_neg (fun z => absurd (e1.1 ⟨q1, z⟩) (by decide))]; rfl
  | true =>
    obtain ⟨q1, q2⟩ := e1.2 x
    rw [if_neg q1, if_pos q2]; rfl
theorem r_221 (d : Nat) (h : MHeap) : call (d + 1) 221 [.int (nI c)] h = some (some (.int (bI (twos c))), h) := by
  rw [e_221]
  unfold twos
  by_cases q : nI c &&& (nI c - 1) = 0
  · rw [if_pos q, decide_eq_true q]; rfl
  · rw [if_neg q, decide_eq_false q]; rfl
/-- numbers of cards that show their backs, together -/
def nbf (b : Int32) (i : Nat) (s : Int32) : Int32 := if bt b i then s ^^^ nI i else s
theorem c_151 {h : MHeap} {lc lw : Int32} {ps : List Nat} (H : CB h c w b hs lc lw ps) (d : Nat) : call (d + 2) 151 [.ref 3] h = some (some (.int (lq (nbf b) c 0 0)), h) := by
  have hb := H.bd
  rw [e_151]
  refine lq_in0 (J := Unit) (nbf b) (fun i s _ => ex (d + 1) 151 4 [sv (.ref 3), sv (.int s), sv (.int (nI i))] [] h) (fun s => some (some (.int s), h)) c ?_ ?_ 0 0 () (by omega)
  · intro s _
    show ex _ _ _ _ _ _ = _
    rw [e_151_4]
    simp only [H.o0, H.o1, H.o2, H.o3, H.o4, H.o5, H.o6, H.o7, H.o8, H.o9, H.o10, H.b0, H.b1, H.b2, H.b3, H.b4, H.v3, H.v4, dR_ref, dA_ref, dA_null, dN_ref, dN_null, dD_ref, dD_int, cI_s, cV_s, cR_r, cR_n, cJ_s, bI_0, bI_1, zr_bI, zr_0, zr_1, eq_self, if_true, if_false, i10, i20, i01, i21, i02, i12, ior0, iad0, Bool.true_eq_false, Bool.false_eq_true, if_neg (nI_nlt (Nat.le_refl c) (by omega))]
  · intro i s _ hi IH
    show ex _ _ _ _ _ _ = _
    rw [e_151_4]
    simp only [H.o0, H.o1, H.o2, H.o3, H.o4, H.o5, H.o6, H.o7, H.o8, H.o9, H.o10, H.b0, H.b1, H.b2, H.b3, H.b4, H.v3, H.v4, dR_ref, dA_ref, dA_null, dN_ref, dN_null, dD_ref, dD_int, cI_s, cV_s, cR_r, cR_n, cJ_s, bI_0, bI_1, zr_bI, zr_0, zr_1, eq_self, if_true, if_false, i10, i20, i01, i21, i02, i12, ior0, iad0, Bool.true_eq_false, Bool.false_eq_true, if_pos (nI_lt hi (show c < 2 ^ 31 by omega)), nI_1, c_137b, ixr0]
    unfold nbf
    cases bt b i
    · exact IH _ ()
    · exact IH _ ()
theorem r_223 {h : MHeap} {F : Nat → Int32} {A : Nat → List Int32} (H1 : RB h F A c w b hs) (d : Nat) : call (d + 2) 223 [.ref 28] h = some (some (.int (lq (nbf b) c 0 0)), h) := by
  have hb := H1.bd
  rw [e_223]
  refine lq_in0 (J := Unit) (nbf b) (fun i s _ => ex (d + 1) 223 4 [sv (.ref 28), sv (.int s), sv (.int (nI i))] [] h) (fun s => some (some (.int s), h)) c ?_ ?_ 0 0 () (by omega)
  · intro s _
    show ex _ _ _ _ _ _ = _
    rw [e_223_4]
    simp only [H1.f0, H1.f1, H1.f2, H1.f3, H1.v, dR_ref, dA_ref, dA_null, dN_ref, dN_null, dD_ref, dD_int, cI_s, cV_s, cR_r, cR_n, cJ_s, bI_0, bI_1, zr_bI, zr_0, zr_1, eq_self, if_true, if_false, i10, i20, i01, i21, i02, i12, ior0, iad0, Bool.true_eq_false, Bool.false_eq_true, if_neg (nI_nlt (Nat.le_refl c) (by omega))]
  · intro i s _ hi IH
    show ex _ _ _ _ _ _ = _
    rw [e_223_4]
    simp only [H1.f0, H1.f1, H1.f2, H1.f3, H1.v, dR_ref, dA_ref, dA_null, dN_ref, dN_null, dD_ref, dD_int, cI_s, cV_s, cR_r, cR_n, cJ_s, bI_0, bI_1, zr_bI, zr_0, zr_1, eq_self, if_true, if_false, i10, i20, i01, i21, i02, i12, ior0, iad0, Bool.true_eq_false, Bool.false_eq_true, if_pos (nI_lt hi (show c < 2 ^ 31 by omega)), nI_1, bt_1, ixr0]
    unfold nbf
    cases bt b i
    · exact IH _ ()
    · exact IH _ ()
theorem q_reads : PQ c w b hs 107 224 [] := by
  refine ⟨(if twos c then lq (nbf b) c 0 0 else -3), ?_, ?_⟩
  · intro d h lc lw ps H
    simp only [e_107, H.o0, H.o1, H.o2, H.o3, H.o4, H.o5, H.o6, H.o7, H.o8, H.o9, H.o10, H.b0, H.b1, H.b2, H.b3, H.b4, H.v3, H.v4, dR_ref, dA_ref, dA_null, dN_ref, dN_null, dD_ref, dD_int, cI_s, cV_s, cR_r, cR_n, cJ_s, bI_0, bI_1, zr_bI, zr_0, zr_1, eq_self, if_true, if_false, i10, i20, i01, i21, i02, i12, ior0, iad0, Bool.true_eq_false, Bool.false_eq_true, c_150 H, c_151 H]
    cases twos c <;> rfl
  · intro d h F A H1
    refine ⟨h, F, A, ?_, H1, Fr.rf h, SS.rf F A⟩
    simp only [e_224, H1.f0, H1.f1, H1.f2, H1.f3, H1.v, dR_ref, dA_ref, dA_null, dN_ref, dN_null, dD_ref, dD_int, cI_s, cV_s, cR_r, cR_n, cJ_s, bI_0, bI_1, zr_bI, zr_0, zr_1, eq_self, if_true, if_false, i10, i20, i01, i21, i02, i12, ior0, iad0, Bool.true_eq_false, Bool.false_eq_true, r_221, r_223 H1]
    cases twos c <;> rfl
theorem q_coin (a : Int32) : PQ c w b hs 108 225 [.int a] := by
  refine ⟨(if inR a 0 (nI (c - 1)) then if twos c then lq (nbf b) c 0 0 ^^^ a else -3 else -2), ?_, ?_⟩
  · intro d h lc lw ps H
    simp only [e_108, H.o0, H.o1, H.o2, H.o3, H.o4, H.o5, H.o6, H.o7, H.o8, H.o9, H.o10, H.b0, H.b1, H.b2, H.b3, H.b4, H.v3, H.v4, dR_ref, dA_ref, dA_null, dN_ref, dN_null, dD_ref, dD_int, cI_s, cV_s, cR_r, cR_n, cJ_s, bI_0, bI_1, zr_bI, zr_0, zr_1, eq_self, if_true, if_false, i10, i20, i01, i21, i02, i12, ior0, iad0, Bool.true_eq_false, Bool.false_eq_true, c_5 H, c_150 H, c_151 H]
    cases inR a 0 (nI (c - 1)) <;> cases twos c <;> rfl
  · intro d h F A H1
    refine ⟨h, F, A, ?_, H1, Fr.rf h, SS.rf F A⟩
    simp only [e_225, H1.f0, H1.f1, H1.f2, H1.f3, H1.v, dR_ref, dA_ref, dA_null, dN_ref, dN_null, dD_ref, dD_int, cI_s, cV_s, cR_r, cR_n, cJ_s, bI_0, bI_1, zr_bI, zr_0, zr_1, eq_self, if_true, if_false, i10, i20, i01, i21, i02, i12, ior0, iad0, Bool.true_eq_false, Bool.false_eq_true, r_169 H1, r_221, r_223 H1]
    cases inR a 0 (nI (c - 1)) <;> cases twos c <;> rfl
end PQS
