/-! apart, reach: the pairs -/
section PQS
variable {c w : Nat} {b : Int32} {hs : List Ent}
theorem inR1_iff (a : Int32) : inR a 0 1 = true ↔ a = 0 ∨ a = 1 := by
  constructor
  · exact inR_1
  · rintro (z | z) <;> subst z <;> decide
theorem apf_n {V : Nat → Nat} {k a : Nat} {s : Bool × Option Nat} (q : V a = V k) (h : s.2 = none) : apf V k a s = (false, some (100 * a + k)) := by
  unfold apf; rw [if_pos q, h]
theorem apf_l {V : Nat → Nat} {k a v : Nat} {s : Bool × Option Nat} (q : V a = V k) (h : s.2 = some v) (h2 : 100 * a + k < v) : apf V k a s = (false, some (100 * a + k)) := by
  unfold apf; rw [if_pos q, h]; simp only [if_pos h2]
theorem apf_g {V : Nat → Nat} {k a v : Nat} {s : Bool × Option Nat} (q : V a = V k) (h : s.2 = some v) (h2 : ¬ 100 * a + k < v) : apf V k a s = (false, some v) := by
  unfold apf; rw [if_pos q, h]; simp only [if_neg h2]
theorem apf_e {V : Nat → Nat} {k a : Nat} {s : Bool × Option Nat} (q : ¬ V a = V k) : apf V k a s = s := by
  unfold apf; rw [if_neg q]
theorem q_apart (a : Int32) : PQ2 c w b hs 101 215 [.int a] := by
  refine ⟨(if a = 0 then nI (apv (vs1 c w b hs) c).1 else if a = 1 then oI (apv (vs1 c w b hs) c).2 else -2), ?_, ?_⟩
  · intro d h lc lw ps H C
    obtain ⟨o1, o2⟩ := apv_ok (vs1 c w b hs) c
    by_cases a0 : a = 0
    · subst a0
      obtain ⟨h', e1, G⟩ := c_146 H C (d + 13)
      refine ⟨h', ?_, G⟩
      rw [e_101]
      simp only [H.o0, H.o1, H.o2, H.o3, H.o4, H.o5, H.o6, H.o7, H.o8, H.o9, H.o10, H.b0, H.b1, H.b2, H.b3, H.b4, H.v3, H.v4, dR_ref, dA_ref, dA_null, dN_ref, dN_null, dD_ref, dD_int, cI_s, cV_s, cR_r, cR_n, cJ_s, bI_0, bI_1, zr_bI, zr_0, zr_1, eq_self, if_true, if_false, i10, i20, i01, i21, i02, i12, ior0, iad0, Bool.true_eq_false, Bool.false_eq_true, e1, o1]
    · refine ⟨h, ?_, FC.rf C⟩
      rw [e_101, if_neg a0, if_neg a0]
      by_cases a1 : a = 1
      · rw [if_pos a1, if_pos a1]
        simp only [H.o0, H.o1, H.o2, H.o3, H.o4, H.o5, H.o6, H.o7, H.o8, H.o9, H.o10, H.b0, H.b1, H.b2, H.b3, H.b4, H.v3, H.v4, dR_ref, dA_ref, dA_null, dN_ref, dN_null, dD_ref, dD_int, cI_s, cV_s, cR_r, cR_n, cJ_s, bI_0, bI_1, zr_bI, zr_0, zr_1, eq_self, if_true, if_false, i10, i20, i01, i21, i02, i12, ior0, iad0, Bool.true_eq_false, Bool.false_eq_true, c_147 H _ o2]
      · rw [if_neg a1, if_neg a1]
  · intro d h F A H
    have hb := H.bd
    rw [e_215, r_166, cI_s]
    simp only [bI_0]
    cases x2 : inR a 0 1 with
    | false =>
      have x3 : ¬ (a = 0 ∨ a = 1) := fun z => by rw [(inR1_iff a).2 z] at x2; cases x2
      rw [if_pos rfl, if_neg (fun z => x3 (Or.inl z)), if_neg (fun z => x3 (Or.inr z))]
      exact ⟨h, F, A, rfl, H, Fr.rf h, SS.rf F A⟩
    | true =>
      obtain ⟨h', A', e1, H1, L1, F1, S1⟩ := r_203 H (d + 15)
      refine ⟨h', F, A', ?_, H1, F1, S1⟩
      simp only [H.v, e1, dR_ref, dA_ref, dA_null, dN_ref, dN_null, dD_ref, dD_int, cI_s, cV_s, cR_r, cR_n, cJ_s, bI_0, bI_1, zr_bI, zr_0, zr_1, eq_self, if_true, if_false, i10, i20, i01, i21, i02, i12, ior0, iad0, Bool.true_eq_false, Bool.false_eq_true]
      refine lq_ind (J := MSl × MSl × MSl) (apg (vs1 c w b hs)) (fun k s j => ex (d + 19) 215 23 [sv (.ref 28), sv (.int a), sv (.int (nI s.1)), sv (.int (oI s.2)), sv (.int (nI k)), j.1, j.2.1, j.2.2] [] h') (fun s => some (some (.int (if a = 0 then nI s.1 else if a = 1 then oI s.2 else -2)), h')) c (fun _ s => ∀ v, s.2 = some v → v < 2 ^ 20) ?_ ?_ 0 (0, none) (none, none, none) (by omega) (fun v hv => by cases hv)
      · intro s j hI
        show ex _ _ _ _ _ _ = _; rw [e_215_23]
        simp only [H1.f0, H1.f1, H1.f2, H1.f3, H1.v, dR_ref, dA_ref, dA_null, dN_ref, dN_null, dD_ref, dD_int, cI_s, cV_s, cR_r, cR_n, cJ_s, bI_0, bI_1, zr_bI, zr_0, zr_1, eq_self, if_true, if_false, i10, i20, i01, i21, i02, i12, ior0, iad0, Bool.true_eq_false, Bool.false_eq_true, if_neg (nI_nlt (Nat.le_refl c) (by omega))]
        rcases inR_1 x2 with z | z <;> subst z <;> rfl
      · intro k s j hk hI IH
        show ex _ _ _ _ _ _ = _; rw [e_215_23]
        simp only [H1.f0, H1.f1, H1.f2, H1.f3, H1.v, dR_ref, dA_ref, dA_null, dN_ref, dN_null, dD_ref, dD_int, cI_s, cV_s, cR_r, cR_n, cJ_s, bI_0, bI_1, zr_bI, zr_0, zr_1, eq_self, if_true, if_false, i10, i20, i01, i21, i02, i12, ior0, iad0, Bool.true_eq_false, Bool.false_eq_true, if_pos (nI_lt hk (show c < 2 ^ 31 by omega))]
        have key := lq_ind (J := MSl) (apf (vs1 c w b hs) k) (fun i t j => ex (d + 19) 215 38 [sv (.ref 28), sv (.int a), sv (.int (nI s.1)), sv (.int (oI t.2)), sv (.int (nI k)), sv (.int (bI t.1)), sv (.int (nI i)), j] [] h') (fun t => some (some (.int (if a = 0 then nI (lq (apg (vs1 c w b hs)) (c - (k + 1)) (k + 1) (if t.1 then s.1 + 1 else s.1, t.2)).1 else if a = 1 then oI (lq (apg (vs1 c w b hs)) (c - (k + 1)) (k + 1) (if t.1 then s.1 + 1 else s.1, t.2)).2 else -2)), h')) k (fun _ t => ∀ v, t.2 = some v → v < 2 ^ 20) ?_ ?_ 0 (true, s.2) j.2.2 (by omega) hI
        · exact key
        · intro t j hI2
          show ex _ _ _ _ _ _ = _; rw [e_215_38]
          simp only [H1.f0, H1.f1, H1.f2, H1.f3, H1.v, dR_ref, dA_ref, dA_null, dN_ref, dN_null, dD_ref, dD_int, cI_s, cV_s, cR_r, cR_n, cJ_s, bI_0, bI_1, zr_bI, zr_0, zr_1, eq_self, if_true, if_false, i10, i20, i01, i21, i02, i12, ior0, iad0, Bool.true_eq_false, Bool.false_eq_true, if_neg (nI_nlt (Nat.le_refl k) (show k < 2 ^ 31 by omega)), nI_1]
          cases t.1
          · exact IH (_, t.2) (_, _, _) hI2
          · exact IH (_, t.2) (_, _, _) hI2
        · intro i t j hi hI2 IH2
          show ex _ _ _ _ _ _ = _; rw [e_215_38]
          simp only [H1.f0, H1.f1, H1.f2, H1.f3, H1.v, dR_ref, dA_ref, dA_null, dN_ref, dN_null, dD_ref, dD_int, cI_s, cV_s, cR_r, cR_n, cJ_s, bI_0, bI_1, zr_bI, zr_0, zr_1, eq_self, if_true, if_false, i10, i20, i01, i21, i02, i12, ior0, iad0, Bool.true_eq_false, Bool.false_eq_true, if_pos (nI_lt hi (show k < 2 ^ 31 by omega)), nI_1, bit_nI (show i < 31 by omega), bit_nI (show k < 31 by omega), r_204 H1 L1, sgs_nI (c := c) (w := w) hb.2.2.2.2 H1.ok, e_215_120, e_215_132, show (100 : Int32) = nI 100 from rfl, pk_mul, nI_add]
          show (if vs1 c w b hs i = vs1 c w b hs k then _ else _) = _
          by_cases q : vs1 c w b hs i = vs1 c w b hs k
          · rw [if_pos q]
            cases x3 : t.2 with
            | none =>
              rw [apf_n q x3]
              cases t.1
              · exact IH2 (false, some (100 * i + k)) _ (fun v hv => by cases hv; omega)
              · exact IH2 (false, some (100 * i + k)) _ (fun v hv => by cases hv; omega)
            | some v =>
              have hv := hI2 v x3
              simp only [show oI (some v) = nI v from rfl, if_neg (nI_m1 (show v < 2 ^ 31 by omega))]
              by_cases q2 : 100 * i + k < v
              · rw [apf_l q x3 q2]
                simp only [if_pos (nI_lt q2 (show v < 2 ^ 31 by omega))]
                cases t.1
                · exact IH2 (false, some (100 * i + k)) _ (fun v hv => by cases hv; omega)
                · exact IH2 (false, some (100 * i + k)) _ (fun v hv => by cases hv; omega)
              · rw [apf_g q x3 q2]
                simp only [if_neg (nI_nlt (show v ≤ 100 * i + k by omega) (show 100 * i + k < 2 ^ 31 by omega))]
                cases t.1
                · exact IH2 (false, some v) _ (fun v' hv' => by cases hv'; omega)
                · exact IH2 (false, some v) _ (fun v' hv' => by cases hv'; omega)
          · rw [if_neg q, apf_e q]
            obtain ⟨t1, t2⟩ := t
            cases t1
            · exact IH2 (false, t2) _ hI2
            · exact IH2 (true, t2) _ hI2
/-! reach -/
def fwk (k i : Nat) : Bool := decide (onN i ≤ k)
theorem cnt_mono {q r : Nat → Bool} (h : ∀ i, q i = true → r i = true) : ∀ n, cnt q n ≤ cnt r n := by
  intro n
  induction n with
  | zero => exact Nat.le_refl _
  | succ n ih =>
    rw [cnt_succ, cnt_succ]
    cases x : q n with
    | false => rw [if_neg (by decide)]; omega
    | true => rw [h n x, if_pos rfl]; omega
theorem cnt_grow (q : Nat → Bool) {m : Nat} : ∀ n, m ≤ n → cnt q m ≤ cnt q n := by
  intro n
  induction n with
  | zero => intro h; have : m = 0 := by omega
            subst this; exact Nat.le_refl _
  | succ n ih =>
    intro h
    rcases Nat.lt_or_ge n m with z | z
    · have : m = n + 1 := by omega
      subst this; exact Nat.le_refl _
    · rw [cnt_succ]; have := ih z; omega
def ctT (q : Nat → Bool) : Nat → Nat → Nat
  | 0, i => bif q i then 1 else 0
  | k + 1, i => ctT q k (2 * i) + ctT q k (2 * i + 1)
theorem cnt_add (q : Nat → Bool) (m : Nat) : ∀ n, cnt q (m + n) = cnt q m + cnt (fun i => q (m + i)) n := by
  intro n
  induction n with
  | zero => rfl
  | succ n ih => rw [show m + (n + 1) = (m + n) + 1 by omega, cnt_succ, cnt_succ, ih, Nat.add_assoc]
theorem ctT_ok (q : Nat → Bool) : ∀ k i, ctT q k i = cnt (fun j => q (i * 2 ^ k + j)) (2 ^ k) := by
  intro k
  induction k with
  | zero =>
    intro i
    show (bif q i then 1 else 0) = cnt _ 1
    rw [show cnt (fun j => q (i * 2 ^ 0 + j)) 1 = 0 + (if q (i * 2 ^ 0 + 0) then 1 else 0) from rfl]
    simp only [Nat.pow_zero, Nat.mul_one, Nat.add_zero, Nat.zero_add]
    cases q i <;> rfl
  | succ k ih =>
    intro i
    show ctT q k (2 * i) + ctT q k (2 * i + 1) = _
    rw [ih, ih, show (2 : Nat) ^ (k + 1) = 2 ^ k + 2 ^ k by rw [Nat.pow_succ]; omega, cnt_add]
    have e1 : ∀ j, 2 * i * 2 ^ k + j = i * (2 ^ k + 2 ^ k) + j := fun j => by rw [Nat.mul_add, Nat.mul_comm 2 i, Nat.mul_assoc, Nat.two_mul, Nat.mul_add]
    have e2 : ∀ j, (2 * i + 1) * 2 ^ k + j = i * (2 ^ k + 2 ^ k) + (2 ^ k + j) := fun j => by rw [Nat.add_mul, Nat.one_mul, Nat.mul_add, Nat.mul_comm 2 i, Nat.mul_assoc, Nat.two_mul, Nat.mul_add]; omega
    congr 1
    · exact cnt_congr (fun j _ => by rw [e1])
    · exact cnt_congr (fun j _ => by rw [e2])
theorem fw3 : ctT (fwk 3) 12 0 = 299 := by decide +kernel
theorem fwk_le {k n : Nat} (hk : k ≤ 3) (hn : n ≤ 4096) : cnt (fwk k) n ≤ 299 := by
  have h1 := cnt_mono (q := fwk k) (r := fwk 3) (fun i h => by simp [fwk] at h ⊢; omega) n
  have h2 := cnt_grow (fwk 3) 4096 hn
  have h3 := ctT_ok (fwk 3) 12 0
  rw [fw3] at h3
  have h4 : cnt (fun j => fwk 3 (0 * 2 ^ 12 + j)) (2 ^ 12) = cnt (fwk 3) 4096 := cnt_congr (fun j _ => by rw [Nat.zero_mul, Nat.zero_add])
  omega
def vs2 (c w : Nat) (b : Int32) (hs : List Ent) (i : Nat) : Nat := sgs c w hs (b ^^^ nI i)
theorem q_reach (a : Int32) : PQ2 c w b hs 102 216 [.int a] := by
  refine ⟨(if inR a 0 3 then nI (lq (dsf (vs2 c w b hs) (fwk a.toBitVec.toNat)) (2 ^ c) 0 []).length else -2), ?_, ?_⟩
  · intro d h lc lw ps H C
    have hb := H.bd
    have hp := p2c hb.2.1
    rw [e_102, c_133, cI_s]
    simp only [bI_0]
    cases x2 : inR a 0 3 with
    | false => exact ⟨h, rfl, FC.rf C⟩
    | true =>
      obtain ⟨k, hk, rfl⟩ := inR_of (n := 3) (by decide) x2
      simp only [dR_ref, dA_ref, dA_null, dN_ref, dN_null, dD_ref, dD_int, cI_s, cV_s, cR_r, cR_n, cJ_s, bI_0, bI_1, zr_bI, zr_0, zr_1, eq_self, if_true, if_false, i10, i20, i01, i21, i02, i12, ior0, iad0, Bool.true_eq_false, Bool.false_eq_true, pk_tn (show k < 2 ^ 32 by omega)]
      have key : ∀ i, i ≤ 2 ^ c → ∀ D h1, dsI D h h1 → D.length ≤ cnt (fwk k) i → ∃ h', ex (d + 19) 102 16 [sv (.ref 3), sv (.int (nI k)), sv (.int (nI D.length)), sv (.int (nI i))] [] h1 = some (some (.int (nI (lq (dsf (vs2 c w b hs) (fwk k)) (2 ^ c - i) i D).length)), h') ∧ FC h h' := by
        intro i hi
        refine up_ind (n := 2 ^ c) (P := fun i => ∀ D h1, dsI D h h1 → D.length ≤ cnt (fwk k) i → ∃ h', ex (d + 19) 102 16 [sv (.ref 3), sv (.int (nI k)), sv (.int (nI D.length)), sv (.int (nI i))] [] h1 = some (some (.int (nI (lq (dsf (vs2 c w b hs) (fwk k)) (2 ^ c - i) i D).length)), h') ∧ FC h h') ?_ ?_ hi
        · intro D h1 I _
          have H1 := H.fc C I.1
          refine ⟨h1, ?_, I.1⟩
          rw [e_102_16, H1.o0, dR_ref, H1.v4, c_4 H1, cI_s, if_pos (nI_lt (by omega) (by omega)), Nat.sub_self]
          rfl
        · intro i hi ih D h1 I hl
          have H1 := H.fc C I.1
          have hcn := fwk_le (k := k) hk (show i + 1 ≤ 4096 by omega)
          have hon := onN_lt i
          rw [cnt_succ] at hcn ih
          have e0 : lq (dsf (vs2 c w b hs) (fwk k)) (2 ^ c - i) i D = lq (dsf (vs2 c w b hs) (fwk k)) (2 ^ c - (i + 1)) (i + 1) (dsf (vs2 c w b hs) (fwk k) i D) := by
            rw [show 2 ^ c - i = (2 ^ c - (i + 1)) + 1 by omega]; rfl
          rw [e0, e_102_16, H1.o0, dR_ref, H1.v4, c_4 H1, cI_s, if_neg (nI_nlt (by omega) (by omega)), c_260, cI_s, bc_tab i (by omega)]
          cases q : fwk k i with
          | false =>
            have q1 : k < onN i := by
              have : ¬ onN i ≤ k := by simpa [fwk] using q
              omega
            rw [q, if_neg (by decide)] at ih
            obtain ⟨h', e3, G3⟩ := ih D h1 I (by omega)
            refine ⟨h', ?_, G3⟩
            rw [if_pos (nI_lt q1 (by omega)), nI_1, e3]
            unfold dsf
            rw [q]; rfl
          | true =>
            have q1 : onN i ≤ k := by simpa [fwk] using q
            rw [q, if_pos rfl] at ih hcn
            obtain ⟨h2, e2, I2⟩ := dsI_nt H C I (by omega) (sgs_lt (c := c) (w := w) hb.2.2.2.2 H.ok (b ^^^ nI i)) (d + 17)
            have hl2 := ntD_len (sgs c w hs (b ^^^ nI i)) D
            obtain ⟨h', e3, G3⟩ := ih (ntD (sgs c w hs (b ^^^ nI i)) D) h2 I2 (by omega)
            refine ⟨h', ?_, G3⟩
            rw [if_neg (nI_nlt q1 (by omega))]
            simp only [H1.o0, H1.b2, H1.v3, H1.v4, dR_ref, dA_ref, dA_null, dN_ref, dN_null, dD_ref, dD_int, cI_s, cV_s, cR_r, cR_n, cJ_s, bI_0, bI_1, zr_bI, zr_0, zr_1, eq_self, if_true, if_false, i10, i20, i01, i21, i02, i12, ior0, iad0, Bool.true_eq_false, Bool.false_eq_true, c_16 H1, e2, nI_1]
            rw [e3]
            unfold dsf
            rw [q]; rfl
      exact key 0 (by omega) [] h (dsI_0 C) (by simp)
  · intro d h F A H
    have hb := H.bd
    have hp := p2c hb.2.1
    rw [e_216, r_166, cI_s]
    simp only [bI_0]
    cases x2 : inR a 0 3 with
    | false => exact ⟨h, F, A, rfl, H, Fr.rf h, SS.rf F A⟩
    | true =>
      obtain ⟨k, hk, rfl⟩ := inR_of (n := 3) (by decide) x2
      obtain ⟨h', A', e1, H1, L1, F1, S1⟩ := r_203 H (d + 15)
      simp only [H.v, e1, dR_ref, dA_ref, dA_null, dN_ref, dN_null, dD_ref, dD_int, cI_s, cV_s, cR_r, cR_n, cJ_s, bI_0, bI_1, zr_bI, zr_0, zr_1, eq_self, if_true, if_false, i10, i20, i01, i21, i02, i12, ior0, iad0, Bool.true_eq_false, Bool.false_eq_true, pk_tn (show k < 2 ^ 32 by omega)]
      have key : ∀ i, i ≤ 2 ^ c → ∀ D h1 A1, RB h1 F A1 c w b hs → Lk A1 c w hs → Fr h h1 → SS F A F A1 → pfx (A1 44) D → (∀ x ∈ D, x < 2 ^ 28) → D.length ≤ cnt (fwk k) i → ∀ j, ∃ h' F' A', ex (d + 19) 216 20 [sv (.ref 28), sv (.int (nI k)), sv (.int (nI D.length)), sv (.int (nI i)), j] [] h1 = some (some (.int (nI (lq (dsf (vs2 c w b hs) (fwk k)) (2 ^ c - i) i D).length)), h') ∧ RB h' F' A' c w b hs ∧ Fr h h' ∧ SS F A F' A' := by
        intro i hi
        refine up_ind (n := 2 ^ c) (P := fun i => ∀ D h1 A1, RB h1 F A1 c w b hs → Lk A1 c w hs → Fr h h1 → SS F A F A1 → pfx (A1 44) D → (∀ x ∈ D, x < 2 ^ 28) → D.length ≤ cnt (fwk k) i → ∀ j, ∃ h' F' A', ex (d + 19) 216 20 [sv (.ref 28), sv (.int (nI k)), sv (.int (nI D.length)), sv (.int (nI i)), j] [] h1 = some (some (.int (nI (lq (dsf (vs2 c w b hs) (fwk k)) (2 ^ c - i) i D).length)), h') ∧ RB h' F' A' c w b hs ∧ Fr h h' ∧ SS F A F' A') ?_ ?_ hi
        · intro D h1 A1 H1 L1 F1 S1 P1 V1 _ j
          refine ⟨h1, F, A1, ?_, H1, F1, S1⟩
          rw [e_216_20, H1.v, r_171 H1, cI_s, if_pos (nI_lt (by omega) (by omega)), Nat.sub_self]
          rfl
        · intro i hi ih D h1 A1 H1 L1 F1 S1 P1 V1 hl j
          have hcn := fwk_le (k := k) hk (show i + 1 ≤ 4096 by omega)
          have hon := onN_lt i
          rw [cnt_succ] at hcn ih
          have e0 : lq (dsf (vs2 c w b hs) (fwk k)) (2 ^ c - i) i D = lq (dsf (vs2 c w b hs) (fwk k)) (2 ^ c - (i + 1)) (i + 1) (dsf (vs2 c w b hs) (fwk k) i D) := by
            rw [show 2 ^ c - i = (2 ^ c - (i + 1)) + 1 by omega]; rfl
          rw [e0, e_216_20, H1.v, r_171 H1, cI_s, if_neg (nI_nlt (by omega) (by omega)), r_168 _ (by omega), cI_s]
          cases q : fwk k i with
          | false =>
            have q1 : k < onN i := by
              have : ¬ onN i ≤ k := by simpa [fwk] using q
              omega
            rw [q, if_neg (by decide)] at ih
            obtain ⟨h', F', A', e3, G3⟩ := ih D h1 A1 H1 L1 F1 S1 P1 V1 (by omega) j
            refine ⟨h', F', A', ?_, G3⟩
            rw [if_pos (nI_lt q1 (by omega)), nI_1, e3]
            unfold dsf
            rw [q]; rfl
          | true =>
            have q1 : onN i ≤ k := by simpa [fwk] using q
            rw [q, if_pos rfl] at ih hcn
            have hv := sgs_lt (c := c) (w := w) hb.2.2.2.2 H.ok (b ^^^ nI i)
            have h44 : (A1 44).length = 300 := (H1.1.2 44 (by decide) (by decide)).2
            have ht : D.length < asz 44 := by show D.length < 300; omega
            have S2 : SS F A1 F (fu A1 44 ((A1 44).set D.length (nI (sgs c w hs (b ^^^ nI i))))) := SS.a F A1 (by decide) _
            have H2 := H1.sc (H1.1.setA (by decide) (by decide) (xs := (A1 44).set D.length (nI (sgs c w hs (b ^^^ nI i)))) (by rw [List.length_set]; exact h44)) S2
            have P2 : pfx ((A1 44).set D.length (nI (sgs c w hs (b ^^^ nI i)))) (ntD (sgs c w hs (b ^^^ nI i)) D) := by
              intro m hm
              rw [getD_set (by omega)]
              unfold ntD at hm ⊢
              by_cases hmem : sgs c w hs (b ^^^ nI i) ∈ D
              · rw [if_pos hmem] at hm ⊢
                rw [if_neg (by omega)]
                exact P1 m hm
              · rw [if_neg hmem] at hm ⊢
                rw [List.length_append] at hm
                by_cases z : m = D.length
                · subst z; rw [if_pos rfl]; simp
                · have hm2 : m < D.length := by have : [sgs c w hs (b ^^^ nI i)].length = 1 := rfl; omega
                  rw [if_neg z, P1 m hm2, List.getD_eq_getElem?_getD, List.getD_eq_getElem?_getD, List.getElem?_append_left hm2]
            have V2 : ∀ x ∈ ntD (sgs c w hs (b ^^^ nI i)) D, x < 2 ^ 28 := by
              intro x hx
              rcases (ntD_mem _ _ _).1 hx with z | z
              · exact V1 x z
              · subst z; exact hv
            have L2 : Lk (fu A1 44 ((A1 44).set D.length (nI (sgs c w hs (b ^^^ nI i))))) c w hs := by
              intro m e he
              rw [fu_ne _ _ (by decide)]
              exact L1 m e he
            have hl2 := ntD_len (sgs c w hs (b ^^^ nI i)) D
            have ih2 := fun j => ih (ntD (sgs c w hs (b ^^^ nI i)) D) _ _ H2 L2 (F1.tr (Fr.st _ (by decide) (by decide) _)) (S1.tr S2) (by rw [fu_eq]; exact P2) V2 (by omega) j
            rw [if_neg (nI_nlt q1 (by omega)), H1.1.f35, H1.f2, H1.v, r_204 H1 L1, cI_s, dR_ref, H1.1.as (by decide) (by decide) ht]
            have eD : dsf (vs2 c w b hs) (fwk k) i D = ntD (sgs c w hs (b ^^^ nI i)) D := by unfold dsf; rw [q]; rfl
            rw [eD]
            generalize hX : (A1 44).set D.length (nI (sgs c w hs (b ^^^ nI i))) = X at *
            have hXl : X.length = 300 := by rw [← hX, List.length_set]; exact h44
            have hXD : X.getD D.length 0 = nI (sgs c w hs (b ^^^ nI i)) := by rw [← hX, getD_set (by omega), if_pos rfl]
            have hXm : ∀ m, m < D.length → X.getD m 0 = nI (D.getD m 0) := by
              intro m hm; rw [← hX, getD_set (by omega), if_neg (by omega)]; exact P1 m hm
            have get : ∀ m, m ≤ D.length → ∀ k : Int32 → MRes, alI none (h1.set 44 (100, X.map .int)) 44 (nI m) k = k (X.getD m 0) := by
              intro m hm k
              rw [H2.1.al (by decide) (by decide) (show m < 300 by omega), fu_eq]
            by_cases hmem : sgs c w hs (b ^^^ nI i) ∈ D
            · obtain ⟨t, ht1⟩ := List.getElem?_of_mem hmem
              have ht2 : t < D.length := (List.getElem?_eq_some_iff.1 ht1).1
              have hDt : D.getD t 0 = sgs c w hs (b ^^^ nI i) := by rw [List.getD_eq_getElem?_getD, ht1]; rfl
              have eN : ntD (sgs c w hs (b ^^^ nI i)) D = D := if_pos hmem
              rw [eN] at ih2 ⊢
              refine up_ind (n := t) (i := 0) (P := fun m => ∃ h' F' A', ex (d + 19) 216 55 [sv (.ref 28), sv (.int (nI k)), sv (.int (nI D.length)), sv (.int (nI i)), sv (.int (nI m))] [] (h1.set 44 (100, X.map .int)) = some (some (.int (nI (lq (dsf (vs2 c w b hs) (fwk k)) (2 ^ c - (i + 1)) (i + 1) D).length)), h') ∧ RB h' F' A' c w b hs ∧ Fr h h' ∧ SS F A F' A') ?_ ?_ (by omega)
              · obtain ⟨h', F', A', e3, G3⟩ := ih2 (sv (.int (nI t)))
                refine ⟨h', F', A', ?_, G3⟩
                rw [e_216_55, H2.1.f35, dR_ref, get t (by omega), H2.1.f35, dR_ref, get D.length (by omega), hXD, hXm t ht2, hDt, if_pos rfl, if_neg (fun z => by have := (nI_eq (by omega) (by omega)).1 z; omega), iad0, nI_1]
                exact e3
              · intro m hm ⟨h', F', A', e3, G3⟩
                have hVm : D.getD m 0 < 2 ^ 28 := V1 _ (by rw [List.getD_eq_getElem?_getD, List.getElem?_eq_getElem (show m < D.length by omega)]; exact List.getElem_mem _)
                rw [e_216_55, H2.1.f35, dR_ref, get m (by omega), H2.1.f35, dR_ref, get D.length (by omega), hXD, hXm m (by omega), nI_1 m]
                by_cases z : D.getD m 0 = sgs c w hs (b ^^^ nI i)
                · obtain ⟨h', F', A', e3, G3⟩ := ih2 (sv (.int (nI m)))
                  refine ⟨h', F', A', ?_, G3⟩
                  rw [z, if_pos rfl, if_neg (fun z => by have := (nI_eq (by omega) (by omega)).1 z; omega), iad0, nI_1]
                  exact e3
                · refine ⟨h', F', A', ?_, G3⟩
                  rw [if_neg (fun y => z ((nI_eq (by omega) (by omega)).1 y))]
                  exact e3
            · have eN : ntD (sgs c w hs (b ^^^ nI i)) D = D ++ [sgs c w hs (b ^^^ nI i)] := if_neg hmem
              have eNl : (ntD (sgs c w hs (b ^^^ nI i)) D).length = D.length + 1 := by rw [eN]; simp
              rw [eNl] at ih2
              refine up_ind (n := D.length) (i := 0) (P := fun m => ∃ h' F' A', ex (d + 19) 216 55 [sv (.ref 28), sv (.int (nI k)), sv (.int (nI D.length)), sv (.int (nI i)), sv (.int (nI m))] [] (h1.set 44 (100, X.map .int)) = some (some (.int (nI (lq (dsf (vs2 c w b hs) (fwk k)) (2 ^ c - (i + 1)) (i + 1) (ntD (sgs c w hs (b ^^^ nI i)) D)).length)), h') ∧ RB h' F' A' c w b hs ∧ Fr h h' ∧ SS F A F' A') ?_ ?_ (by omega)
              · obtain ⟨h', F', A', e3, G3⟩ := ih2 (sv (.int (nI D.length)))
                refine ⟨h', F', A', ?_, G3⟩
                rw [e_216_55, H2.1.f35, dR_ref, get D.length (by omega), H2.1.f35, dR_ref, get D.length (by omega), if_pos rfl, if_pos rfl, nI_1, nI_1]
                exact e3
              · intro m hm ⟨h', F', A', e3, G3⟩
                have hDm : D.getD m 0 ∈ D := by rw [List.getD_eq_getElem?_getD, List.getElem?_eq_getElem (show m < D.length by omega)]; exact List.getElem_mem _
                have hVm : D.getD m 0 < 2 ^ 28 := V1 _ hDm
                refine ⟨h', F', A', ?_, G3⟩
                rw [e_216_55, H2.1.f35, dR_ref, get m (by omega), H2.1.f35, dR_ref, get D.length (by omega), hXD, hXm m (by omega), nI_1 m, if_neg (fun y => by
                  have := (nI_eq (by omega) (by omega)).1 y
                  rw [this] at hDm
                  exact hmem hDm)]
                exact e3
      exact key 0 (by omega) [] h' A' H1 L1 F1 S1 (fun i hi => by simp at hi) (fun x hx => by cases hx) (by simp) none
end PQS
