/-! sheets: judge, match, tells -/
abbrev okSh (sh : Nat → Sht) : Prop := ∀ s, s < 4 → (sh s).2.1 ≤ 40 ∧ (sh s).2.2.length = 40
def CQ4 (c w : Nat) (b : Int32) (hs : List Ent) (sh : Nat → Sht) (m : Nat) (as : List Value) (v : Value) : Prop := ∀ (d : Nat) (h : MHeap) (lc lw : Int32) (ps : List Nat), CB h c w b hs lc lw ps → CSh h sh → call (d + 20) m (.ref 3 :: as) h = some (some v, h)
def RQ4 (c w : Nat) (b : Int32) (hs : List Ent) (sh : Nat → Sht) (m : Nat) (as : List Value) (v : Value) : Prop := ∀ (d : Nat) (h : MHeap) (F : Nat → Int32) (A : Nat → List Int32), RB h F A c w b hs → RSh A sh → ∃ h' F' A', call (d + 20) m (.ref 28 :: as) h = some (some v, h') ∧ RB h' F' A' c w b hs ∧ Fr h h' ∧ SS F A F' A'
def PQ4 (c w : Nat) (b : Int32) (hs : List Ent) (sh : Nat → Sht) (mc mr : Nat) (as : List Value) : Prop := ∃ v : Int32, CQ4 c w b hs sh mc as (.int v) ∧ RQ4 c w b hs sh mr as (.int v)
theorem OP.q4 {mc mr : Nat} {as : List Value} (H : ∀ (c w B : Nat) (hs : List Ent) (sh : Nat → Sht), B < 2 ^ c → okSh sh → PQ4 c w (nI B) hs sh mc mr as) : OP mc mr as
  | (c, w, B, hs, L, Ts, tp, im, sh), ok => by
    have ok' := ok
    obtain ⟨oB, oL, o3, o4, o5, o6, o7, o8, o9, ob⟩ := ok'
    obtain ⟨v, q1, q2⟩ := H c w B hs sh oB o9
    refine ⟨v, _, ok, ?_, ?_⟩
    · intro d h K
      refine ⟨h, ?_, K, FrC.rf h⟩
      obtain ⟨ps, h1, _, _, _, _, _, _, h8, _⟩ := K
      exact q1 (d + 180) h _ _ ps h1 h8
    · intro d h K
      obtain ⟨F, A, h1, h2⟩ := K
      obtain ⟨h', F', A', e, H', F1, S1⟩ := q2 (d + 180) h F A h1 h2.2.2.2.1
      exact ⟨h', e, RV.ss H' S1 h2, F1⟩
section SHC
variable {h : MHeap} {c w : Nat} {b : Int32} {hs : List Ent} {lc lw : Int32} {ps : List Nat} {sh : Nat → Sht}
theorem c_156 (H : CB h c w b hs lc lw ps) (S : CSh h sh) {s : Nat} (hs4 : s < 4) (d : Nat) : call (d + 2) 156 [.ref 3, .int (nI s)] h = some (some (.ref (14 + 2 * s)), h) := by
  have l13 : ∀ k : Int32 → MRes, aln none h 13 k = k 4 := by
    intro k
    simp only [aln, S.1]
    rfl
  have v13 : ∀ k : Value → MRes, alV none h 13 (nI s) k = k (.ref (14 + 2 * s)) := by
    intro k
    have h2 : ([Value.ref 14, .ref 16, .ref 18, .ref 20])[s]? = some (.ref (14 + 2 * s)) := by
      rcases (show s = 0 ∨ s = 1 ∨ s = 2 ∨ s = 3 by omega) with z | z | z | z <;> subst z <;> rfl
    simp only [alV, S.1, nI_clamp (show s < 2 ^ 31 by omega), h2, nI_pos (show s < 2 ^ 31 by omega), dA_ref]
    rfl
  rw [e_156, H.o6, dR_ref, l13, c_133, cI_s, show (4 : Int32) - 1 = nI 3 from by decide, inR_nI (by omega) (by decide), decide_eq_true (show s ≤ 3 by omega), if_neg (by decide), H.o6, dR_ref, v13, dA_ref]
theorem c_156n (H : CB h c w b hs lc lw ps) (S : CSh h sh) {a : Int32} (ha : inR a 0 3 = false) (d : Nat) : call (d + 2) 156 [.ref 3, .int a] h = some (some .null, h) := by
  have l13 : ∀ k : Int32 → MRes, aln none h 13 k = k 4 := by
    intro k
    simp only [aln, S.1]
    rfl
  rw [e_156, H.o6, dR_ref, l13, c_133, cI_s, show (4 : Int32) - 1 = 3 from by decide, ha, if_pos (show bI false = (0 : Int32) from rfl)]
theorem CSh.g0 (S : CSh h sh) {s : Nat} (hs4 : s < 4) (k : Int32 → MRes) : gfI none h (14 + 2 * s) [7] 0 k = k (sh s).1 := gfI_at (S.2 s hs4).1 rfl rfl k
theorem CSh.g1 (S : CSh h sh) {s : Nat} (hs4 : s < 4) (k : Int32 → MRes) : gfI none h (14 + 2 * s) [7] 1 k = k (nI (sh s).2.1) := gfI_at (S.2 s hs4).1 rfl rfl k
theorem CSh.g2 (S : CSh h sh) {s : Nat} (hs4 : s < 4) (k : Value → MRes) : gfV none h (14 + 2 * s) [7] 2 k = k (.ref (15 + 2 * s)) := gfV_at (S.2 s hs4).1 rfl rfl k
theorem CSh.vv (S : CSh h sh) {s : Nat} (hs4 : s < 4) (m : Nat) (k : Nat → MRes) : vd none h (14 + 2 * s) [7, m] k = k m := vd_at (S.2 s hs4).1 rfl k
theorem CSh.ln (S : CSh h sh) {s : Nat} (hs4 : s < 4) (k : Int32 → MRes) : aln none h (15 + 2 * s) k = k 40 := by
  rw [ar_ln (S.2 s hs4).2.1, (S.2 s hs4).2.2]; rfl
theorem CSh.al (S : CSh h sh) {s : Nat} (hs4 : s < 4) {i : Nat} (hi : i < 40) (k : Int32 → MRes) : alI none h (15 + 2 * s) (nI i) k = k ((sh s).2.2.getD i 0) := ar_al (S.2 s hs4).2.1 (by rw [(S.2 s hs4).2.2]; exact hi) (by rw [(S.2 s hs4).2.2]; decide) k
theorem c_45 (S : CSh h sh) {s : Nat} (hs4 : s < 4) (d : Nat) : call (d + 1) 45 [.ref (14 + 2 * s)] h = some (some (.int (bI (decide ((sh s).1 = -1)))), h) := by
  rw [e_45, S.g0 hs4, zr_0, zr_1]
  by_cases q : (sh s).1 = -1
  · rw [if_pos q, decide_eq_true q]; rfl
  · rw [if_neg q, decide_eq_false q]; rfl
theorem c_48 (S : CSh h sh) (ok : okSh sh) {s : Nat} (hs4 : s < 4) {i : Nat} (hi : i < (sh s).2.1) (d : Nat) : call (d + 1) 48 [.ref (14 + 2 * s), .int (nI i)] h = some (some (.int ((sh s).2.2.getD i 0)), h) := by
  have hk := (ok s hs4).1
  rw [e_48, if_neg (nI_pos (by omega)), S.g1 hs4, if_pos (nI_lt hi (by omega)), S.g2 hs4, dR_ref, S.ln hs4, if_pos (show nI i < (40 : Int32) from nI_lt (b := 40) (by omega) (by decide)), S.g2 hs4, dR_ref, S.al hs4 (by omega)]
end SHC
/-- why a sheet can't tell signs -/
def wrg (sh : Nat → Sht) (n : Nat) (a : Int32) : Int32 := if inR a 0 3 then (if (sh a.toBitVec.toNat).1 = -1 then -11 else if (sh a.toBitVec.toNat).2.1 = n then 0 else -2) else -2
/-- told signs: one that can't be is 15 -/
def tds (x : Int32) : Nat := if inR x 0 15 then x.toBitVec.toNat else 15
def tdL (sh : Nat → Sht) (s n : Nat) : List Nat := (List.range n).map fun i => tds ((sh s).2.2.getD i 0)
theorem tds_lt (x : Int32) : tds x < 16 := by
  unfold tds
  split
  · rename_i h
    obtain ⟨j, hj, rfl⟩ := inR_of (n := 15) (by decide) h
    rw [pk_tn (by omega)]; omega
  · decide
theorem tds_in {x : Int32} (h : inR x 0 15 = true) : x = nI (tds x) := by
  obtain ⟨j, hj, rfl⟩ := inR_of (n := 15) (by decide) h
  unfold tds
  rw [if_pos h, pk_tn (by omega)]
theorem tds_15 {x : Int32} (h : inR x 0 15 = false) : tds x = 15 := by
  unfold tds; rw [h]; rfl
theorem tdL_len (sh : Nat → Sht) (s n : Nat) : (tdL sh s n).length = n := by simp [tdL]
theorem tdL_lt (sh : Nat → Sht) (s n : Nat) : ∀ y ∈ tdL sh s n, y < 16 := by
  intro y hy
  obtain ⟨i, _, rfl⟩ := List.mem_map.1 hy
  exact tds_lt _
theorem tdL_get (sh : Nat → Sht) (s : Nat) {n i : Nat} (hi : i < n) : (tdL sh s n).getD i 0 = tds ((sh s).2.2.getD i 0) := by
  unfold tdL
  rw [List.getD_eq_getElem?_getD, List.getElem?_map, List.getElem?_range hi]; rfl
theorem tdL_succ (sh : Nat → Sht) (s n : Nat) : tdL sh s (n + 1) = tdL sh s n ++ [tds ((sh s).2.2.getD n 0)] := by
  unfold tdL
  rw [List.range_succ, List.map_append]; rfl
/-- whether all told signs can be -/
def tdg (sh : Nat → Sht) (s n : Nat) : Bool := decide (∀ i, i < n → inR ((sh s).2.2.getD i 0) 0 15 = true)
section PQS
variable {c w : Nat} {b : Int32} {hs : List Ent} {sh : Nat → Sht}
theorem c_157 {h : MHeap} {lc lw : Int32} {ps : List Nat} (H : CB h c w b hs lc lw ps) (S : CSh h sh) (ok : okSh sh) (a : Int32) (d : Nat) : call (d + 3) 157 [.ref 3, .int a] h = some (some (.int (wrg sh hs.length a)), h) := by
  have hb := H.bd
  unfold wrg
  cases x1 : inR a 0 3 with
  | false =>
    rw [e_157]
    simp only [H.o0, H.o1, H.o2, H.o3, H.o4, H.o5, H.o6, H.o7, H.o8, H.o9, H.o10, H.b0, H.b1, H.b2, H.b3, H.b4, H.v3, H.v4, dR_ref, dA_ref, dA_null, dN_ref, dN_null, dD_ref, dD_int, cI_s, cV_s, cR_r, cR_n, cJ_s, bI_0, bI_1, zr_bI, zr_0, zr_1, eq_self, if_true, if_false, i10, i20, i01, i21, i02, i12, ior0, iad0, Bool.true_eq_false, Bool.false_eq_true, c_156n H S x1]
  | true =>
    obtain ⟨s, hs4, rfl⟩ := inR_of (n := 3) (by decide) x1
    have hk := (ok s (by omega)).1
    rw [e_157, pk_tn (show s < 2 ^ 32 by omega)]
    simp only [H.o0, H.o1, H.o2, H.o3, H.o4, H.o5, H.o6, H.o7, H.o8, H.o9, H.o10, H.b0, H.b1, H.b2, H.b3, H.b4, H.v3, H.v4, dR_ref, dA_ref, dA_null, dN_ref, dN_null, dD_ref, dD_int, cI_s, cV_s, cR_r, cR_n, cJ_s, bI_0, bI_1, zr_bI, zr_0, zr_1, eq_self, if_true, if_false, i10, i20, i01, i21, i02, i12, ior0, iad0, Bool.true_eq_false, Bool.false_eq_true, c_156 H S (show s < 4 by omega), S.vv (show s < 4 by omega), c_45 S (show s < 4 by omega), S.g1 (show s < 4 by omega)]
    by_cases q : (sh s).1 = -1
    · rw [decide_eq_true q, if_neg (by decide), if_pos q]
    · rw [decide_eq_false q, if_pos rfl, if_neg q]
      by_cases q2 : (sh s).2.1 = hs.length
      · rw [if_pos (by rw [q2]), if_pos q2]
      · rw [if_neg (fun z => q2 ((nI_eq (by omega) (by omega)).1 z)), if_neg q2]
theorem r_242 {h : MHeap} {F : Nat → Int32} {A : Nat → List Int32} (H : RB h F A c w b hs) (S : RSh A sh) (ok : okSh sh) (a : Int32) (d : Nat) : call (d + 2) 242 [.ref 28, .int a] h = some (some (.int (wrg sh hs.length a)), h) := by
  have hb := H.bd
  unfold wrg
  rw [e_242, r_166, cI_s]
  simp only [bI_0]
  cases x1 : inR a 0 3 with
  | false => rfl
  | true =>
    obtain ⟨s, hs4, rfl⟩ := inR_of (n := 3) (by decide) x1
    obtain ⟨s1, s2, s3⟩ := S s (by omega)
    have hk := (ok s (by omega)).1
    rw [if_neg (by decide), H.1.f19, dR_ref, H.1.al (by decide) (by decide) (show s < 4 by omega), s1, H.1.f20, dR_ref, H.1.al (by decide) (by decide) (show s < 4 by omega), s2, H.f3, pk_tn (show s < 2 ^ 32 by omega), if_pos rfl]
    by_cases q : (sh s).1 = -1
    · rw [if_pos q, if_pos q]
    · rw [if_neg q, if_neg q]
      by_cases q2 : (sh s).2.1 = hs.length
      · rw [if_pos (by rw [q2]), if_pos q2]
      · rw [if_neg (fun z => q2 ((nI_eq (by omega) (by omega)).1 z)), if_neg q2]
theorem wrg_0 {n : Nat} {a : Int32} (h : wrg sh n a = 0) : ∃ s, s < 4 ∧ a = nI s ∧ (sh s).2.1 = n := by
  unfold wrg at h
  cases x1 : inR a 0 3 with
  | false => rw [x1, if_neg (show ¬ false = true by decide)] at h; exact absurd h (by decide)
  | true =>
    obtain ⟨s, hs4, rfl⟩ := inR_of (n := 3) (by decide) x1
    rw [x1, if_pos rfl, pk_tn (show s < 2 ^ 32 by omega)] at h
    refine ⟨s, by omega, rfl, ?_⟩
    by_cases q : (sh s).1 = -1
    · rw [if_pos q] at h; exact absurd h (by decide)
    · rw [if_neg q] at h
      by_cases q2 : (sh s).2.1 = n
      · exact q2
      · rw [if_neg q2] at h; exact absurd h (by decide)
theorem c_158 {h : MHeap} {lc lw : Int32} {ps : List Nat} (H : CB h c w b hs lc lw ps) (S : CSh h sh) (ok : okSh sh) {s : Nat} (hs4 : s < 4) (hn : (sh s).2.1 = hs.length) (d : Nat) : call (d + 3) 158 [.ref 3, .int (nI s)] h = some (some (.int (nI (pkN (tdL sh s hs.length)))), h) := by
  have hb := H.bd
  rw [e_158, H.v3, c_156 H S hs4, cR_r, dA_ref]
  refine up_ind (n := hs.length) (i := 0) (P := fun i => ∀ j, ex (d + 2) 158 11 [sv (.ref 3), sv (.int (nI s)), sv (.ref (14 + 2 * s)), sv (.int (nI (pkN (tdL sh s i)))), sv (.int (nI i)), j] [] h = some (some (.int (nI (pkN (tdL sh s hs.length)))), h)) ?_ ?_ (by omega) none
  · intro j
    rw [e_158_11, H.o0, dR_ref, H.b3, if_neg (nI_nlt (Nat.le_refl _) (by omega))]
  · intro i hi ih j
    have h5 : pkN (tdL sh s i) < 16 ^ i := by
      have := pkN_lt (tdL_lt sh s i)
      rw [tdL_len] at this
      exact this
    rw [tdL_succ, pkN_snoc, tdL_len] at ih
    rw [e_158_11, H.o0, dR_ref, H.b3, if_pos (nI_lt hi (by omega)), dA_ref, dN_ref, dA_ref, dR_ref, S.vv hs4, c_48 S ok hs4 (by omega), cI_s, c_133, cI_s, nI_1]
    simp only [bI_0]
    cases x1 : inR ((sh s).2.2.getD i 0) 0 15 with
    | false =>
      rw [if_pos rfl, show (15 : Int32) = nI 15 from rfl, pk_step (by omega) h5 (by decide)]
      rw [tds_15 x1] at ih
      exact ih _
    | true =>
      have e1 := tds_in x1
      rw [if_neg (by decide)]
      have e2 : nI (pkN (tdL sh s i)) ||| ((sh s).2.2.getD i 0 <<< ((4 * nI i) &&& 31)) = nI (pkN (tdL sh s i) + 16 ^ i * tds ((sh s).2.2.getD i 0)) := by
        conv => lhs; rw [e1]
        exact pk_step (by omega) h5 (tds_lt _)
      rw [e2]
      exact ih _
theorem r_243 {h : MHeap} {F : Nat → Int32} {A : Nat → List Int32} (H : RB h F A c w b hs) (S : RSh A sh) {s : Nat} (hs4 : s < 4) (d : Nat) : call (d + 2) 243 [.ref 28, .int (nI s)] h = some (some (.int (if tdg sh s hs.length then nI (pkN (tdL sh s hs.length)) else -1)), h) := by
  have hb := H.bd
  obtain ⟨s1, s2, s3⟩ := S s hs4
  rw [e_243]
  refine up_ind (n := hs.length) (i := 0) (P := fun i => (∀ k, k < i → inR ((sh s).2.2.getD k 0) 0 15 = true) → ex (d + 1) 243 4 [sv (.ref 28), sv (.int (nI s)), sv (.int (nI (pkN (tdL sh s i)))), sv (.int (nI i))] [] h = some (some (.int (if tdg sh s hs.length then nI (pkN (tdL sh s hs.length)) else -1)), h)) ?_ ?_ (by omega) (fun k hk => by omega)
  · intro hk
    rw [e_243_4, H.f3, if_neg (nI_nlt (Nat.le_refl _) (by omega)), if_pos (show tdg sh s hs.length = true from decide_eq_true hk)]
  · intro i hi ih hk
    have h5 : pkN (tdL sh s i) < 16 ^ i := by
      have := pkN_lt (tdL_lt sh s i)
      rw [tdL_len] at this
      exact this
    have i2 : (40 : Int32) * nI s + nI i = nI (40 * s + i) := by rw [show (40 : Int32) = nI 40 from rfl, pk_mul, nI_add]
    rw [e_243_4, H.f3, if_pos (nI_lt hi (by omega)), H.1.f21, dR_ref, i2, H.1.al (by decide) (by decide) (show 40 * s + i < 160 by omega), s3 i (by omega), r_166, cI_s, H.1.f21, dR_ref, H.1.al (by decide) (by decide) (show 40 * s + i < 160 by omega), s3 i (by omega), nI_1]
    simp only [bI_0]
    cases x1 : inR ((sh s).2.2.getD i 0) 0 15 with
    | false =>
      rw [if_pos rfl, if_neg]
      intro z
      have := of_decide_eq_true z i hi
      rw [x1] at this; cases this
    | true =>
      have e1 := tds_in x1
      rw [if_neg (by decide)]
      have e2 : nI (pkN (tdL sh s i)) ||| ((sh s).2.2.getD i 0 <<< ((4 * nI i) &&& 31)) = nI (pkN (tdL sh s i) + 16 ^ i * tds ((sh s).2.2.getD i 0)) := by
        conv => lhs; rw [e1]
        exact pk_step (by omega) h5 (tds_lt _)
      rw [e2]
      have ih := ih (fun k hk2 => by
        by_cases z : k = i
        · subst z; exact x1
        · exact hk k (by omega))
      rw [tdL_succ, pkN_snoc, tdL_len] at ih
      exact ih
/-- the first for which q holds -/
def fst1 (q : Nat → Bool) : Nat → Nat → Option Nat
  | 0, _ => none
  | m + 1, i => if q i then some i else fst1 q m (i + 1)
theorem fst1_no {q : Nat → Bool} : ∀ m i, (∀ k, i ≤ k → k < i + m → q k = false) → fst1 q m i = none := by
  intro m
  induction m with
  | zero => intro i _; rfl
  | succ m ih =>
    intro i h
    show (if q i then some i else fst1 q m (i + 1)) = none
    rw [h i (by omega) (by omega)]
    exact ih (i + 1) (fun k h1 h2 => h k (by omega) (by omega))
theorem fst1_cut {q r : Nat → Bool} : ∀ m n i, m ≤ n → (∀ k, i ≤ k → k < i + m → q k = r k) → (∀ k, i + m ≤ k → k < i + n → q k = false) → fst1 q n i = fst1 r m i := by
  intro m
  induction m with
  | zero => intro n i _ _ h; exact fst1_no n i (fun k h1 h2 => h k (by omega) h2)
  | succ m ih =>
    intro n i hmn h1 h2
    obtain ⟨n, rfl⟩ : ∃ n', n = n' + 1 := ⟨n - 1, by omega⟩
    show (if q i then some i else fst1 q n (i + 1)) = (if r i then some i else fst1 r m (i + 1))
    rw [h1 i (by omega) (by omega), ih n (i + 1) (by omega) (fun k a b => h1 k (by omega) (by omega)) (fun k a b => h2 k (by omega) (by omega))]
theorem bt_nI {x i : Nat} (hx : x < 2 ^ 31) (hi : i < 32) : bt (nI x) i = x.testBit i := by
  unfold bt
  rw [shr_nI hi hx, and1_nI, dm2]
  cases x.testBit i <;> decide
theorem c_139 {x : Nat} (hx : x < 2 ^ 31) (h : MHeap) (d : Nat) : call (d + 2) 139 [.int (nI x)] h = some (some (.int (oI (fst1 (fun i => x.testBit i) 32 0))), h) := by
  rw [e_139]
  refine up_ind (n := 32) (i := 0) (P := fun i => ex (d + 1) 139 2 [sv (.int (nI x)), sv (.int (nI i))] [] h = some (some (.int (oI (fst1 (fun i => x.testBit i) (32 - i) i))), h)) ?_ ?_ (by decide)
  · rw [e_139_2, if_neg (by decide)]; rfl
  · intro i hi ih
    rw [e_139_2, if_pos (show nI i < (32 : Int32) from nI_lt (b := 32) hi (by decide)), c_137b, cI_s, bt_nI hx hi, nI_1, show 32 - i = (32 - (i + 1)) + 1 by omega]
    show _ = some (some (Value.int (oI (if x.testBit i then some i else fst1 (fun i => x.testBit i) (32 - (i + 1)) (i + 1)))), h)
    simp only [bI_0]
    cases x.testBit i
    · exact ih
    · rfl
def jdq (c w : Nat) (b : Int32) (hs : List Ent) (sh : Nat → Sht) (s : Nat) (i : Nat) : Bool := !decide ((sl c w hs b).getD i 0 = (tdL sh s hs.length).getD i 0)
theorem q_judge (ok : okSh sh) (a : Int32) : PQ4 c w b hs sh 120 244 [.int a] := by
  refine ⟨(if wrg sh hs.length a = 0 then oI (fst1 (jdq c w b hs sh a.toBitVec.toNat) hs.length 0) else wrg sh hs.length a), ?_, ?_⟩
  · intro d h lc lw ps H S
    have hb := H.bd
    rw [e_120]
    simp only [H.o0, H.o1, H.o2, H.o3, H.o4, H.o5, H.o6, H.o7, H.o8, H.o9, H.o10, H.b0, H.b1, H.b2, H.b3, H.b4, H.v3, H.v4, dR_ref, dA_ref, dA_null, dN_ref, dN_null, dD_ref, dD_int, cI_s, cV_s, cR_r, cR_n, cJ_s, bI_0, bI_1, zr_bI, zr_0, zr_1, eq_self, if_true, if_false, i10, i20, i01, i21, i02, i12, ior0, iad0, Bool.true_eq_false, Bool.false_eq_true, c_157 H S ok]
    by_cases q : wrg sh hs.length a = 0
    · obtain ⟨s, hs4, rfl, hn⟩ := wrg_0 q
      rw [if_pos q, if_pos q, c_158 H S ok hs4 hn, cI_s, H.v4, c_17 H _ _ (tdL_len sh s hs.length) (tdL_lt sh s hs.length), cI_s, pk_tn (show s < 2 ^ 32 by omega)]
      have e1 : otN (sl c w hs b) (tdL sh s hs.length) = otq (jdq c w b hs sh s) hs.length := by unfold otN; rw [sl_len]; rfl
      have l1 := otq_lt (jdq c w b hs sh s) hs.length
      have l2 : (2 : Nat) ^ hs.length ≤ 2 ^ 7 := Nat.pow_le_pow_right (by decide) hb.2.2.2.2
      rw [e1, c_139 (by omega), cI_s]
      rw [fst1_cut (r := jdq c w b hs sh s) hs.length 32 0 (by omega) (fun k _ h2 => by rw [otq_bit, decide_eq_true (show k < hs.length by omega)]; rfl) (fun k h1 _ => by rw [otq_bit, decide_eq_false (show ¬ k < hs.length by omega)]; rfl)]
    · rw [if_neg q, if_neg q]
  · intro d h F A H S
    have hb := H.bd
    refine ⟨h, F, A, ?_, H, Fr.rf h, SS.rf F A⟩
    rw [e_244]
    simp only [H.v, dR_ref, dA_ref, dA_null, dN_ref, dN_null, dD_ref, dD_int, cI_s, cV_s, cR_r, cR_n, cJ_s, bI_0, bI_1, zr_bI, zr_0, zr_1, eq_self, if_true, if_false, i10, i20, i01, i21, i02, i12, ior0, iad0, Bool.true_eq_false, Bool.false_eq_true, r_242 H S ok]
    by_cases q : wrg sh hs.length a = 0
    · obtain ⟨s, hs4, rfl, hn⟩ := wrg_0 q
      obtain ⟨s1, s2, s3⟩ := S s hs4
      rw [if_pos q, if_pos q, H.f2, r_202 H, cI_s, pk_tn (show s < 2 ^ 32 by omega)]
      refine up_ind (n := hs.length) (i := 0) (P := fun i => ex (d + 19) 244 24 [sv (.ref 28), sv (.int (nI s)), sv (.int (wrg sh hs.length (nI s))), sv (.int (nI (sgs c w hs b))), sv (.int (nI i))] [] h = some (some (.int (oI (fst1 (jdq c w b hs sh s) (hs.length - i) i))), h)) ?_ ?_ (by omega)
      · rw [e_244_24, H.f3, if_neg (nI_nlt (Nat.le_refl _) (by omega)), Nat.sub_self]; rfl
      · intro i hi ih
        have i2 : (40 : Int32) * nI s + nI i = nI (40 * s + i) := by rw [show (40 : Int32) = nI 40 from rfl, pk_mul, nI_add]
        have hsl := sl_getD_le H b hi
        rw [e_244_24, H.f3, if_pos (nI_lt hi (by omega)), H.1.f21, dR_ref, i2, H.1.al (by decide) (by decide) (show 40 * s + i < 160 by omega), s3 i (by omega), sg_at H b hi, nI_1, show hs.length - i = (hs.length - (i + 1)) + 1 by omega]
        show _ = some (some (Value.int (oI (if jdq c w b hs sh s i then some i else fst1 (jdq c w b hs sh s) (hs.length - (i + 1)) (i + 1)))), h)
        have ej : ((sh s).2.2.getD i 0 = nI ((sl c w hs b).getD i 0)) ↔ jdq c w b hs sh s i = false := by
          have g := tdL_get sh s hi
          unfold jdq
          rw [g]
          cases x1 : inR ((sh s).2.2.getD i 0) 0 15 with
          | false =>
            rw [tds_15 x1]
            constructor
            · intro z
              exfalso
              rw [z, show (15 : Int32) = nI 15 from rfl, inR_nI (by omega) (by decide), decide_eq_true (by omega)] at x1
              cases x1
            · intro z
              exfalso
              rw [decide_eq_false (by omega)] at z
              cases z
          | true =>
            have e1 := tds_in x1
            have l1 := tds_lt ((sh s).2.2.getD i 0)
            constructor
            · intro z
              rw [e1] at z
              have := (nI_eq (by omega) (by omega)).1 z
              rw [decide_eq_true this.symm]; rfl
            · intro z
              have z : (sl c w hs b).getD i 0 = tds ((sh s).2.2.getD i 0) := by simpa using z
              rw [z]; exact e1
        by_cases q2 : jdq c w b hs sh s i = true
        · rw [if_pos q2, if_neg (fun z => by rw [ej.1 z] at q2; cases q2)]; rfl
        · rw [if_neg q2, if_pos (ej.2 (Bool.eq_false_iff.2 q2))]
          exact ih
    · rw [if_neg q, if_neg q]
end PQS
