/-! match, tells -/
section PQS
variable {c w : Nat} {b : Int32} {hs : List Ent} {sh : Nat → Sht}
/-- signs that can't be aren't any lie's -/
theorem td_no {s : Nat} (he : ∀ e ∈ hs, okE e) (h : tdg sh s hs.length = false) (l : Int32) : ¬ sgs c w hs l = pkN (tdL sh s hs.length) := by
  intro e
  have e1 : sl c w hs l = tdL sh s hs.length := (pkN_inj (by rw [sl_len, tdL_len]) (sl_lt he l) (tdL_lt sh s hs.length)).1 e
  have : ∀ i, i < hs.length → inR ((sh s).2.2.getD i 0) 0 15 = true := by
    intro i hi
    cases x1 : inR ((sh s).2.2.getD i 0) 0 15 with
    | true => rfl
    | false =>
      exfalso
      have e2 := tdL_get sh s hi
      rw [← e1, tds_15 x1] at e2
      obtain ⟨ee, hee⟩ : ∃ e, hs[i]? = some e := ⟨_, List.getElem?_eq_getElem hi⟩
      rw [sl_at hee] at e2
      have := sgX_lt (e := ee) (x := l.toBitVec.toNat &&& inN c w ee) (he ee (List.mem_of_getElem? hee)).2.2
      unfold sgN at e2
      omega
  rw [show tdg sh s hs.length = true from decide_eq_true this] at h
  cases h
abbrev MtS : Type := Nat × Option Nat × Int32 × Int32
def mtf (q : Nat → Bool) (i : Nat) (s : MtS) : MtS := if q i then (s.1 + 1, (match s.2.1 with
  | none => some i
  | some j => some j), s.2.2.1 &&& nI i, s.2.2.2 ||| nI i) else s
def mtI (i : Nat) (s : MtS) : Prop := s.1 ≤ i ∧ (s.1 = 0 ↔ s.2.1 = none) ∧ ∀ j, s.2.1 = some j → j < i
theorem mtf_e {q : Nat → Bool} {i : Nat} {s : MtS} (h : q i = false) : mtf q i s = s := by unfold mtf; rw [if_neg (by rw [h]; decide)]
theorem mtf_n {q : Nat → Bool} {i : Nat} {s : MtS} (h : q i = true) (h1 : s.2.1 = none) : mtf q i s = (s.1 + 1, some i, s.2.2.1 &&& nI i, s.2.2.2 ||| nI i) := by unfold mtf; rw [if_pos h, h1]
theorem mtf_s {q : Nat → Bool} {i j : Nat} {s : MtS} (h : q i = true) (h1 : s.2.1 = some j) : mtf q i s = (s.1 + 1, some j, s.2.2.1 &&& nI i, s.2.2.2 ||| nI i) := by unfold mtf; rw [if_pos h, h1]
theorem mt_inv {q : Nat → Bool} {i : Nat} {s : MtS} (h : mtI i s) : mtI (i + 1) (mtf q i s) := by
  obtain ⟨h1, h2, h3⟩ := h
  cases x : q i with
  | false => rw [mtf_e x]; exact ⟨by omega, h2, fun j hj => by have := h3 j hj; omega⟩
  | true =>
    cases y : s.2.1 with
    | none =>
      rw [mtf_n x y]
      exact ⟨by show s.1 + 1 ≤ i + 1; omega, ⟨fun z => absurd z (by show ¬ s.1 + 1 = 0; omega), fun z => (by cases z)⟩, fun j hj => by cases hj; omega⟩
    | some j =>
      rw [mtf_s x y]
      exact ⟨by show s.1 + 1 ≤ i + 1; omega, ⟨fun z => absurd z (by show ¬ s.1 + 1 = 0; omega), fun z => (by cases z)⟩, fun k hk => by cases hk; have := h3 j y; omega⟩
def mtR (g : Int32) (s : MtS) : Int32 := if g = 0 then nI s.1 else if g = 1 then oI s.2.1 else if g = 2 then (if s.1 = 0 then 0 else s.2.2.1) else s.2.2.2
theorem mt_eq (q : Nat → Bool) (hc : c ≤ 12) (g : Int32) : mtR g (lq (mtf q) (2 ^ c) 0 (0, none, nI (2 ^ c - 1), 0)) = mtR g (lq (mtf q) (2 ^ c) 0 (0, none, 4095, 0)) := by
  have hp := p2c hc
  have key := lq_sim (f := mtf q) (g := mtf q) (fun _ s t => s.1 = t.1 ∧ s.2.1 = t.2.1 ∧ s.2.2.2 = t.2.2.2 ∧ (s.1 = 0 → s.2.2.1 = nI (2 ^ c - 1) ∧ t.2.2.1 = 4095) ∧ (s.1 ≠ 0 → s.2.2.1 = t.2.2.1)) (2 ^ c) 0 (0, none, nI (2 ^ c - 1), 0) (0, none, 4095, 0) (fun i s t _ hi ⟨h1, h2, h3, h4, h5⟩ => by
    cases x : q i with
    | false => rw [mtf_e x, mtf_e x]; exact ⟨h1, h2, h3, h4, h5⟩
    | true =>
      have ha : s.2.2.1 &&& nI i = t.2.2.1 &&& nI i := by
        by_cases z : s.1 = 0
        · rw [(h4 z).1, (h4 z).2, show (4095 : Int32) = nI 4095 from rfl, fa_and, fa_and, Nat.and_comm, Nat.and_two_pow_sub_one_eq_mod, Nat.mod_eq_of_lt (by omega), show 4095 = 2 ^ 12 - 1 from rfl, Nat.and_comm, Nat.and_two_pow_sub_one_eq_mod, Nat.mod_eq_of_lt (by omega)]
        · rw [h5 z]
      cases y : s.2.1 with
      | none =>
        rw [mtf_n x y, mtf_n x (h2.symm.trans y)]
        exact ⟨by show s.1 + 1 = t.1 + 1; rw [h1], rfl, by show _ ||| _ = _ ||| _; rw [h3], fun z => absurd z (by show ¬ s.1 + 1 = 0; omega), fun _ => ha⟩
      | some j =>
        rw [mtf_s x y, mtf_s x (h2.symm.trans y)]
        exact ⟨by show s.1 + 1 = t.1 + 1; rw [h1], rfl, by show _ ||| _ = _ ||| _; rw [h3], fun z => absurd z (by show ¬ s.1 + 1 = 0; omega), fun _ => ha⟩) ⟨rfl, rfl, rfl, fun _ => ⟨rfl, rfl⟩, fun z => absurd rfl z⟩
  obtain ⟨h1, h2, h3, h4, h5⟩ := key
  unfold mtR
  by_cases z : (lq (mtf q) (2 ^ c) 0 (0, none, nI (2 ^ c - 1), 0)).1 = 0
  · simp only [h2, h3, h1, if_pos (h1.symm.trans z)]
  · simp only [h2, h3, h1, h5 z]
def mtq (c w : Nat) (hs : List Ent) (sh : Nat → Sht) (s i : Nat) : Bool := decide (sgs c w hs (nI i) = pkN (tdL sh s hs.length))
theorem i30 : ((3 : Int32) = 0) = False := eq_false (by decide)
theorem i31 : ((3 : Int32) = 1) = False := eq_false (by decide)
theorem i32 : ((3 : Int32) = 2) = False := eq_false (by decide)
theorem i23 : ((2 : Int32) = 3) = False := eq_false (by decide)
theorem i03 : ((0 : Int32) = 3) = False := eq_false (by decide)
theorem i13 : ((1 : Int32) = 3) = False := eq_false (by decide)
theorem q_match (ok : okSh sh) (a g : Int32) : PQ4 c w b hs sh 121 245 [.int a, .int g] := by
  refine ⟨(if wrg sh hs.length a = 0 then if inR g 0 3 then mtR g (lq (mtf (mtq c w hs sh a.toBitVec.toNat)) (2 ^ c) 0 (0, none, nI (2 ^ c - 1), 0)) else -7 else wrg sh hs.length a), ?_, ?_⟩
  · intro d h lc lw ps H S
    have hb := H.bd
    have hp := p2c hb.2.1
    rw [e_121]
    simp only [H.o0, H.o1, H.o2, H.o3, H.o4, H.o5, H.o6, H.o7, H.o8, H.o9, H.o10, H.b0, H.b1, H.b2, H.b3, H.b4, H.v3, H.v4, dR_ref, dA_ref, dA_null, dN_ref, dN_null, dD_ref, dD_int, cI_s, cV_s, cR_r, cR_n, cJ_s, bI_0, bI_1, zr_bI, zr_0, zr_1, eq_self, if_true, if_false, i10, i20, i01, i21, i02, i12, ior0, iad0, Bool.true_eq_false, Bool.false_eq_true, c_157 H S ok, c_133]
    by_cases q : wrg sh hs.length a = 0
    · obtain ⟨s, hs4, rfl, hn⟩ := wrg_0 q
      rw [if_pos q, if_pos q]
      cases x2 : inR g 0 3 with
      | false => rfl
      | true =>
        rw [if_neg (by decide), c_158 H S ok hs4 hn, cI_s, pk_tn (show s < 2 ^ 32 by omega), H.o0, dR_ref, H.v4, c_4 H, cI_s, if_pos rfl]
        refine lq_ind (J := Unit) (mtf (mtq c w hs sh s)) (fun i t _ => ex (d + 19) 121 52 [sv (.ref 3), sv (.int (nI s)), sv (.int g), sv (.int (wrg sh hs.length (nI s))), sv (.int (nI (pkN (tdL sh s hs.length)))), sv (.int (nI t.1)), sv (.int (oI t.2.1)), sv (.int t.2.2.1), sv (.int t.2.2.2), sv (.int (nI i))] [] h) (fun t => some (some (.int (mtR g t)), h)) (2 ^ c) mtI ?_ ?_ 0 (0, none, nI (2 ^ c - 1), 0) () (by omega) ⟨Nat.le_refl 0, ⟨fun _ => rfl, fun _ => rfl⟩, fun j hj => by cases hj⟩
        · intro t _ hI
          have hI1 := hI.1
          show ex _ _ _ _ _ _ = _; rw [e_121_52]
          simp only [H.o0, H.o1, H.o2, H.o3, H.o4, H.o5, H.o6, H.o7, H.o8, H.o9, H.o10, H.b0, H.b1, H.b2, H.b3, H.b4, H.v3, H.v4, dR_ref, dA_ref, dA_null, dN_ref, dN_null, dD_ref, dD_int, cI_s, cV_s, cR_r, cR_n, cJ_s, bI_0, bI_1, zr_bI, zr_0, zr_1, eq_self, if_true, if_false, i10, i20, i01, i21, i02, i12, ior0, iad0, Bool.true_eq_false, Bool.false_eq_true, c_4 H, if_pos (nI_lt (show 2 ^ c - 1 < 2 ^ c by omega) (show 2 ^ c < 2 ^ 31 by omega)), nI_z (show t.1 < 2 ^ 31 by omega)]
          unfold mtR
          rcases inR_3 x2 with z | z | z | z <;> subst z <;> simp only [dR_ref, dA_ref, dA_null, dN_ref, dN_null, dD_ref, dD_int, cI_s, cV_s, cR_r, cR_n, cJ_s, bI_0, bI_1, zr_bI, zr_0, zr_1, eq_self, if_true, if_false, i10, i20, i01, i21, i02, i12, ior0, iad0, Bool.true_eq_false, Bool.false_eq_true, i30, i31, i32]
          by_cases z : t.1 = 0
          · rw [if_pos z, if_pos z]
          · rw [if_neg z, if_neg z]
        · intro i t _ hi hI IH
          have hI' := mt_inv (q := mtq c w hs sh s) hI
          obtain ⟨h1, h2, h3⟩ := hI
          show ex _ _ _ _ _ _ = _; rw [e_121_52]
          simp only [H.o0, H.o1, H.o2, H.o3, H.o4, H.o5, H.o6, H.o7, H.o8, H.o9, H.o10, H.b0, H.b1, H.b2, H.b3, H.b4, H.v3, H.v4, dR_ref, dA_ref, dA_null, dN_ref, dN_null, dD_ref, dD_int, cI_s, cV_s, cR_r, cR_n, cJ_s, bI_0, bI_1, zr_bI, zr_0, zr_1, eq_self, if_true, if_false, i10, i20, i01, i21, i02, i12, ior0, iad0, Bool.true_eq_false, Bool.false_eq_true, c_4 H, if_neg (nI_nlt (show i ≤ 2 ^ c - 1 by omega) (show 2 ^ c - 1 < 2 ^ 31 by omega)), nI_1, c_20 H _ _ (tdL_len sh s hs.length) (tdL_lt sh s hs.length), nI_z (show t.1 < 2 ^ 31 by omega)]
          have e : decide (sgs c w hs (nI i) = pkN (tdL sh s hs.length)) = mtq c w hs sh s i := rfl
          rw [e]
          cases x : mtq c w hs sh s i with
          | false =>
            rw [mtf_e x] at hI' ⊢
            exact IH t () hI'
          | true =>
            rw [if_neg (by decide)]
            cases y : t.2.1 with
            | none =>
              rw [mtf_n x y] at hI' ⊢
              rw [if_pos (h2.2 y)]
              exact IH (_, some i, _, _) () hI'
            | some j =>
              rw [mtf_s x y] at hI' ⊢
              rw [if_neg (fun z => by rw [h2.1 z] at y; cases y)]
              exact IH (_, some j, _, _) () hI'
    · rw [if_neg q, if_neg q]
  · intro d h F A H S
    have hb := H.bd
    have hp := p2c hb.2.1
    rw [e_245]
    simp only [H.v, dR_ref, dA_ref, dA_null, dN_ref, dN_null, dD_ref, dD_int, cI_s, cV_s, cR_r, cR_n, cJ_s, bI_0, bI_1, zr_bI, zr_0, zr_1, eq_self, if_true, if_false, i10, i20, i01, i21, i02, i12, ior0, iad0, Bool.true_eq_false, Bool.false_eq_true, r_242 H S ok, r_166]
    by_cases q : wrg sh hs.length a = 0
    · obtain ⟨s, hs4, rfl, hn⟩ := wrg_0 q
      simp only [if_pos q]
      cases x2 : inR g 0 3 with
      | false => exact ⟨h, F, A, rfl, H, Fr.rf h, SS.rf F A⟩
      | true =>
        obtain ⟨h', A', e1, H1, L1, F1, S1⟩ := r_203 H (d + 15)
        have S' : RSh A' sh := by unfold RSh; rw [S1.2 35 (by decide), S1.2 36 (by decide), S1.2 37 (by decide)]; exact S
        refine ⟨h', F, A', ?_, H1, F1, S1⟩
        rw [if_neg (by decide), e1, cV_s, H1.v, r_243 H1 S' hs4, cI_s, pk_tn (show s < 2 ^ 32 by omega), if_pos rfl, mt_eq _ hb.2.1]
        refine lq_ind (J := Unit) (mtf (mtq c w hs sh s)) (fun i t _ => ex (d + 19) 245 58 [sv (.ref 28), sv (.int (nI s)), sv (.int g), sv (.int (wrg sh hs.length (nI s))), sv (.int (if tdg sh s hs.length then nI (pkN (tdL sh s hs.length)) else -1)), sv (.int (nI t.1)), sv (.int (oI t.2.1)), sv (.int t.2.2.1), sv (.int t.2.2.2), sv (.int (nI i))] [] h') (fun t => some (some (.int (mtR g t)), h')) (2 ^ c) mtI ?_ ?_ 0 (0, none, 4095, 0) () (by omega) ⟨Nat.le_refl 0, ⟨fun _ => rfl, fun _ => rfl⟩, fun j hj => by cases hj⟩
        · intro t _ hI
          have hI1 := hI.1
          show ex _ _ _ _ _ _ = _; rw [e_245_58]
          simp only [H1.f0, H1.f1, H1.f2, H1.f3, H1.v, dR_ref, dA_ref, dA_null, dN_ref, dN_null, dD_ref, dD_int, cI_s, cV_s, cR_r, cR_n, cJ_s, bI_0, bI_1, zr_bI, zr_0, zr_1, eq_self, if_true, if_false, i10, i20, i01, i21, i02, i12, ior0, iad0, Bool.true_eq_false, Bool.false_eq_true, r_171 H1, if_pos (nI_lt (show 2 ^ c - 1 < 2 ^ c by omega) (show 2 ^ c < 2 ^ 31 by omega)), nI_z (show t.1 < 2 ^ 31 by omega)]
          unfold mtR
          rcases inR_3 x2 with z | z | z | z <;> subst z <;> simp only [dR_ref, dA_ref, dA_null, dN_ref, dN_null, dD_ref, dD_int, cI_s, cV_s, cR_r, cR_n, cJ_s, bI_0, bI_1, zr_bI, zr_0, zr_1, eq_self, if_true, if_false, i10, i20, i01, i21, i02, i12, ior0, iad0, Bool.true_eq_false, Bool.false_eq_true, i30, i31, i32, i03, i13, i23]
          by_cases z : t.1 = 0
          · rw [if_pos z, if_pos z]
          · rw [if_neg z, if_neg z]
        · intro i t _ hi hI IH
          have hI' := mt_inv (q := mtq c w hs sh s) hI
          obtain ⟨h1, h2, h3⟩ := hI
          show ex _ _ _ _ _ _ = _; rw [e_245_58]
          simp only [H1.f0, H1.f1, H1.f2, H1.f3, H1.v, dR_ref, dA_ref, dA_null, dN_ref, dN_null, dD_ref, dD_int, cI_s, cV_s, cR_r, cR_n, cJ_s, bI_0, bI_1, zr_bI, zr_0, zr_1, eq_self, if_true, if_false, i10, i20, i01, i21, i02, i12, ior0, iad0, Bool.true_eq_false, Bool.false_eq_true, r_171 H1, if_neg (nI_nlt (show i ≤ 2 ^ c - 1 by omega) (show 2 ^ c - 1 < 2 ^ 31 by omega)), nI_1, r_204 H1 L1]
          have l1 := sgs_lt (c := c) (w := w) hb.2.2.2.2 H1.ok (nI i)
          have l2 := pkN_lt31 (ys := tdL sh s hs.length) (by rw [tdL_len]; exact hb.2.2.2.2) (tdL_lt sh s hs.length)
          have e : (nI (sgs c w hs (nI i)) = if tdg sh s hs.length then nI (pkN (tdL sh s hs.length)) else -1) ↔ mtq c w hs sh s i = true := by
            cases x : tdg sh s hs.length with
            | true =>
              rw [if_pos rfl, nI_eq (by omega) (by omega)]
              unfold mtq
              rw [decide_eq_true_iff]
            | false =>
              rw [if_neg (by decide)]
              constructor
              · intro z; exact absurd z (nI_m1 (by omega))
              · intro z; exact absurd (of_decide_eq_true z) (td_no H1.ok x _)
          cases x : mtq c w hs sh s i with
          | false =>
            rw [mtf_e x] at hI' ⊢
            rw [if_neg (fun z => by rw [e.1 z] at x; cases x)]
            exact IH t () hI'
          | true =>
            rw [if_pos (e.2 x)]
            cases y : t.2.1 with
            | none =>
              rw [mtf_n x y] at hI' ⊢
              rw [if_pos (show oI none = -1 from rfl)]
              exact IH (_, some i, _, _) () hI'
            | some j =>
              have := h3 j y
              rw [mtf_s x y] at hI' ⊢
              rw [if_neg (show ¬ oI (some j) = -1 from nI_m1 (by omega))]
              exact IH (_, some j, _, _) () hI'
    · simp only [if_neg q]
      exact ⟨h, F, A, rfl, H, Fr.rf h, SS.rf F A⟩
theorem fwq_no {q : Nat → Bool} {n : Nat} (h : ∀ i, i < n → q i = false) : fwq q n = none := by
  rw [fwq_skip (k := 0) (by omega) (fun i _ h2 => h i h2)]; rfl
theorem q_tells (ok : okSh sh) (a t g : Int32) : PQ4 c w b hs sh 122 246 [.int a, .int t, .int g] := by
  refine ⟨(if wrg sh hs.length a = 0 then if inR t 0 (nI (2 ^ c - 1)) then if inR g 0 1 then if g = 0 then szo (fwq (fwp c w b hs 0 t.toBitVec.toNat (pkN (tdL sh a.toBitVec.toNat hs.length))) (t.toBitVec.toNat + 1)) else oI (fwq (fwp c w b hs 0 t.toBitVec.toNat (pkN (tdL sh a.toBitVec.toNat hs.length))) (t.toBitVec.toNat + 1)) else -7 else -7 else wrg sh hs.length a), ?_, ?_⟩
  · intro d h lc lw ps H S
    have hb := H.bd
    have hp := p2c hb.2.1
    rw [e_122]
    simp only [H.o0, H.o1, H.o2, H.o3, H.o4, H.o5, H.o6, H.o7, H.o8, H.o9, H.o10, H.b0, H.b1, H.b2, H.b3, H.b4, H.v3, H.v4, dR_ref, dA_ref, dA_null, dN_ref, dN_null, dD_ref, dD_int, cI_s, cV_s, cR_r, cR_n, cJ_s, bI_0, bI_1, zr_bI, zr_0, zr_1, eq_self, if_true, if_false, i10, i20, i01, i21, i02, i12, ior0, iad0, Bool.true_eq_false, Bool.false_eq_true, c_157 H S ok, c_133, c_6 H]
    by_cases q : wrg sh hs.length a = 0
    · obtain ⟨s, hs4, rfl, hn⟩ := wrg_0 q
      rw [if_pos q, if_pos q]
      cases x1 : inR t 0 (nI (2 ^ c - 1)) with
      | false => rfl
      | true =>
        cases x2 : inR g 0 1 with
        | false => rfl
        | true =>
          obtain ⟨j, hj, rfl⟩ := inR_of (by omega) x1
          have k1 : call (d + 19) 145 [.ref 3, .int 0, .int (nI j), .int (nI (pkN (tdL sh s hs.length)))] h = _ := c_145 H (d + 13) (f := 0) (s := j) (by omega) (by omega) (by omega) (tdL_len sh s hs.length) (tdL_lt sh s hs.length)
          simp only [dR_ref, dA_ref, dA_null, dN_ref, dN_null, dD_ref, dD_int, cI_s, cV_s, cR_r, cR_n, cJ_s, bI_0, bI_1, zr_bI, zr_0, zr_1, eq_self, if_true, if_false, i10, i20, i01, i21, i02, i12, ior0, iad0, Bool.true_eq_false, Bool.false_eq_true, c_158 H S ok hs4 hn, k1, pk_tn (show s < 2 ^ 32 by omega), pk_tn (show j < 2 ^ 32 by omega), H.v3]
          rw [c_138o _ (fun i hi => by have := fwq_lt _ _ i hi; omega), cI_s]
          by_cases q3 : g = 0
          · rw [if_pos q3, if_pos q3]
          · rw [if_neg q3, if_neg q3]
    · rw [if_neg q, if_neg q]
  · intro d h F A H S
    have hb := H.bd
    have hp := p2c hb.2.1
    rw [e_246]
    simp only [H.v, dR_ref, dA_ref, dA_null, dN_ref, dN_null, dD_ref, dD_int, cI_s, cV_s, cR_r, cR_n, cJ_s, bI_0, bI_1, zr_bI, zr_0, zr_1, eq_self, if_true, if_false, i10, i20, i01, i21, i02, i12, ior0, iad0, Bool.true_eq_false, Bool.false_eq_true, r_242 H S ok, r_166, r_172 H]
    by_cases q : wrg sh hs.length a = 0
    · obtain ⟨s, hs4, rfl, hn⟩ := wrg_0 q
      rw [if_pos q, if_pos q]
      cases x1 : inR t 0 (nI (2 ^ c - 1)) with
      | false => exact ⟨h, F, A, rfl, H, Fr.rf h, SS.rf F A⟩
      | true =>
        cases x2 : inR g 0 1 with
        | false => exact ⟨h, F, A, rfl, H, Fr.rf h, SS.rf F A⟩
        | true =>
          obtain ⟨j, hj, rfl⟩ := inR_of (by omega) x1
          have l2 := pkN_lt31 (ys := tdL sh s hs.length) (by rw [tdL_len]; exact hb.2.2.2.2) (tdL_lt sh s hs.length)
          simp only [dR_ref, dA_ref, dA_null, dN_ref, dN_null, dD_ref, dD_int, cI_s, cV_s, cR_r, cR_n, cJ_s, bI_0, bI_1, zr_bI, zr_0, zr_1, eq_self, if_true, if_false, i10, i20, i01, i21, i02, i12, ior0, iad0, Bool.true_eq_false, Bool.false_eq_true, r_243 H S hs4, pk_tn (show s < 2 ^ 32 by omega), pk_tn (show j < 2 ^ 32 by omega)]
          cases x3 : tdg sh s hs.length with
          | false =>
            refine ⟨h, F, A, ?_, H, Fr.rf h, SS.rf F A⟩
            have e0 : fwq (fwp c w b hs 0 j (pkN (tdL sh s hs.length))) (j + 1) = none := fwq_no (fun i _ => by
              unfold fwp
              rw [decide_eq_false (td_no H.ok x3 _)]; simp)
            rw [e0]
            rcases inR_1 x2 with z | z <;> subst z <;> rfl
          | true =>
            obtain ⟨h', A', e1, H1, F1, S1⟩ := r_217 H (d + 13) (s := j) (v := pkN (tdL sh s hs.length)) (by omega) (by omega)
            refine ⟨h', F, A', ?_, H1, F1, S1⟩
            simp only [dR_ref, dA_ref, dA_null, dN_ref, dN_null, dD_ref, dD_int, cI_s, cV_s, cR_r, cR_n, cJ_s, bI_0, bI_1, zr_bI, zr_0, zr_1, eq_self, if_true, if_false, i10, i20, i01, i21, i02, i12, ior0, iad0, Bool.true_eq_false, Bool.false_eq_true, if_neg (nI_m1 (show pkN (tdL sh s hs.length) < 2 ^ 31 by omega)), H.v, e1]
            rcases inR_1 x2 with z | z <;> subst z
            · cases x4 : fwq (fwp c w b hs 0 j (pkN (tdL sh s hs.length))) (j + 1) with
              | none => rfl
              | some i =>
                have := fwq_lt _ _ i x4
                rw [if_neg (by decide), show oI (some i) = nI i from rfl, if_neg (nI_m1 (by omega)), r_168 _ (by omega), cI_s]
                rfl
            · rfl
    · simp only [if_neg q]
      exact ⟨h, F, A, rfl, H, Fr.rf h, SS.rf F A⟩
end PQS
theorem op_judge (a : Int32) : OP 120 244 [.int a] := OP.q4 fun _ _ _ _ _ _ ok => q_judge ok a
theorem op_match (a g : Int32) : OP 121 245 [.int a, .int g] := OP.q4 fun _ _ _ _ _ _ ok => q_match ok a g
theorem op_tells (a t g : Int32) : OP 122 246 [.int a, .int t, .int g] := OP.q4 fun _ _ _ _ _ _ ok => q_tells ok a t g
