/-! asks, cheapest: questions that a text answers -/
def syT (c w : Nat) (b : Int32) (hs : List Ent) (T : Txt) (g i : Nat) : Int32 := clp (tvl (nms c w b hs i) T g)
def CA (h : MHeap) (c w : Nat) (b : Int32) (hs : List Ent) (T : Txt) : Prop := ∀ d h1, FC h h1 → ∀ g i, g < 3 → i < 12 → ∃ h2, call (d + 6) 143 [.ref 3, .int (nI g), .int (nI i), .int (nI (fln c w hs b))] h1 = some (some (.int (syT c w b hs T g i)), h2) ∧ FD h1 h2
def CQ3 (c w : Nat) (b : Int32) (hs : List Ent) (T : Txt) (m : Nat) (as : List Value) (v : Value) : Prop := ∀ (d : Nat) (h : MHeap) (lc lw : Int32) (ps : List Nat), CB h c w b hs lc lw ps → CS h → CA h c w b hs T → ∃ h', call (d + 20) m (.ref 3 :: as) h = some (some v, h') ∧ FC h h'
def RQ3 (c w : Nat) (b : Int32) (hs : List Ent) (T : Txt) (m : Nat) (as : List Value) (v : Value) : Prop := ∀ (d : Nat) (h : MHeap) (F : Nat → Int32) (A : Nat → List Int32) (L : Nat), RB h F A c w b hs → L < 6 → F 12 = nI L → RTx A L T → ∃ h' F' A', call (d + 20) m (.ref 28 :: as) h = some (some v, h') ∧ RB h' F' A' c w b hs ∧ Fr h h' ∧ SS F A F' A'
def PQ3 (c w : Nat) (b : Int32) (hs : List Ent) (T : Txt) (mc mr : Nat) (as : List Value) : Prop := ∃ v : Int32, CQ3 c w b hs T mc as (.int v) ∧ RQ3 c w b hs T mr as (.int v)
def PQ3J (c w : Nat) (b : Int32) (hs : List Ent) (T : Txt) (mc mr : Nat) (as : List Value) : Prop := ∃ v : Int64, CQ3 c w b hs T mc as (.long v) ∧ RQ3 c w b hs T mr as (.long v)
theorem CA.of {h : MHeap} {c w : Nat} {b : Int32} {hs : List Ent} {lc : Int32} {ps lp : List Nat} {L p q : Nat} {T : Txt} (H : CB h c w b hs lc (nI L) ps) (C : CS h) (h12 : h[12]? = some (c12 lp)) (hl6 : lp.length ≤ 6) (hp : lp[L]? = some p) (K : LwC h p q T) (W : wfT T) : CA h c w b hs T := by
  intro d h1 G g i hg hi
  obtain ⟨k1, k2, k3, k4⟩ := K
  exact c_143 (H.fc C G) G.2.2 (by rw [G.2.1 12 (by decide)]; exact h12) hl6 hp ⟨by rw [G.2.1 p (by omega)]; exact k1, by rw [G.2.1 q (by omega)]; exact k2, k3, k4⟩ W d hg hi
theorem RTx.ss {F F' : Nat → Int32} {A A' : Nat → List Int32} {L : Nat} {T : Txt} (R : RTx A L T) (S : SS F A F' A') : RTx A' L T := by
  unfold RTx
  rw [S.2 33 (by decide), S.2 34 (by decide)]
  exact R
theorem r_194s {h : MHeap} {F : Nat → Int32} {A : Nat → List Int32} {c w : Nat} {b : Int32} {hs : List Ent} (H : RB h F A c w b hs) (d : Nat) {L : Nat} (hL : L < 6) (hF : F 12 = nI L) {T : Txt} (W : wfT T) (R : RTx A L T) {g i : Nat} (hg : g < 3) (hi : i < 12) : ∃ h' A', call (d + 6) 194 [.ref 28, .int (nI g), .int (nI i)] h = some (some (.int (syT c w b hs T g i)), h') ∧ RB h' F A' c w b hs ∧ SS F A F A' ∧ Fr h h' ∧ A' 43 = A 43 := by
  obtain ⟨h', A', e1, H1, S1, F1⟩ := r_194 H d hL hF W R hg hi
  exact ⟨h', A', e1, H1, ⟨fun _ _ => rfl, fun o ho => S1 o (by omega) (by omega)⟩, F1, S1 43 (by decide) (by decide)⟩
section PQS
variable {c w : Nat} {b : Int32} {hs : List Ent} {T : Txt}
theorem q_asks (W : wfT T) (g a : Int32) : PQ3 c w b hs T 91 195 [.int g, .int a] := by
  refine ⟨(if inR a 0 (nI (c - 1)) then if inR g 0 2 then syT c w b hs T g.toBitVec.toNat a.toBitVec.toNat else -7 else -5), ?_, ?_⟩
  · intro d h lc lw ps H C Ca
    have hb := H.bd
    rw [e_91]
    simp only [H.o0, H.o1, H.o2, H.o3, H.o4, H.o5, H.o6, H.o7, H.o8, H.o9, H.o10, H.b0, H.b1, H.b2, H.b3, H.b4, H.v3, H.v4, dR_ref, dA_ref, dA_null, dN_ref, dN_null, dD_ref, dD_int, cI_s, cV_s, cR_r, cR_n, cJ_s, bI_0, bI_1, zr_bI, zr_0, zr_1, eq_self, if_true, if_false, i10, i20, i01, i21, i02, i12, ior0, iad0, Bool.true_eq_false, Bool.false_eq_true, c_5 H, c_133, c_19 H]
    cases x1 : inR a 0 (nI (c - 1)) with
    | false => exact ⟨h, rfl, FC.rf C⟩
    | true =>
      cases x2 : inR g 0 2 with
      | false => exact ⟨h, rfl, FC.rf C⟩
      | true =>
        obtain ⟨i, hi, rfl⟩ := inR_of (by omega) x1
        obtain ⟨g, hg, rfl⟩ := inR_of (n := 2) (by decide) x2
        obtain ⟨h', e1, G⟩ := Ca (d + 13) h (FC.rf C) g i (by omega) (by omega)
        refine ⟨h', ?_, G.fc⟩
        simp only [dR_ref, dA_ref, dA_null, dN_ref, dN_null, dD_ref, dD_int, cI_s, cV_s, cR_r, cR_n, cJ_s, bI_0, bI_1, zr_bI, zr_0, zr_1, eq_self, if_true, if_false, i10, i20, i01, i21, i02, i12, ior0, iad0, Bool.true_eq_false, Bool.false_eq_true, e1, pk_tn (show i < 2 ^ 32 by omega), pk_tn (show g < 2 ^ 32 by omega)]
  · intro d h F A L H hL hF R
    have hb := H.bd
    rw [e_195]
    simp only [H.v, dR_ref, dA_ref, dA_null, dN_ref, dN_null, dD_ref, dD_int, cI_s, cV_s, cR_r, cR_n, cJ_s, bI_0, bI_1, zr_bI, zr_0, zr_1, eq_self, if_true, if_false, i10, i20, i01, i21, i02, i12, ior0, iad0, Bool.true_eq_false, Bool.false_eq_true, r_169 H, r_166]
    cases x1 : inR a 0 (nI (c - 1)) with
    | false => exact ⟨h, F, A, rfl, H, Fr.rf h, SS.rf F A⟩
    | true =>
      cases x2 : inR g 0 2 with
      | false => exact ⟨h, F, A, rfl, H, Fr.rf h, SS.rf F A⟩
      | true =>
        obtain ⟨i, hi, rfl⟩ := inR_of (by omega) x1
        obtain ⟨g, hg, rfl⟩ := inR_of (n := 2) (by decide) x2
        obtain ⟨h', A', e1, H1, S1, F1, _⟩ := r_194s H (d + 13) hL hF W R (g := g) (i := i) (by omega) (by omega)
        refine ⟨h', F, A', ?_, H1, F1, S1⟩
        simp only [dR_ref, dA_ref, dA_null, dN_ref, dN_null, dD_ref, dD_int, cI_s, cV_s, cR_r, cR_n, cJ_s, bI_0, bI_1, zr_bI, zr_0, zr_1, eq_self, if_true, if_false, i10, i20, i01, i21, i02, i12, ior0, iad0, Bool.true_eq_false, Bool.false_eq_true, e1, pk_tn (show i < 2 ^ 32 by omega), pk_tn (show g < 2 ^ 32 by omega)]
/-- the cheapest of some, and all together -/
def chf (sy : Nat → Int32) (q : Nat → Bool) (i : Nat) (s : Option Nat × Int32) : Option Nat × Int32 := if q i then ((match s.1 with
  | none => some i
  | some j => if sy i < sy j then some i else some j), s.2 + sy i) else s
def lst (sy : Nat → Int32) : Option Nat → Int32
  | none => 0
  | some j => sy j
theorem chf_n {sy : Nat → Int32} {q : Nat → Bool} {i : Nat} {s : Option Nat × Int32} (h : q i = true) (h1 : s.1 = none) : chf sy q i s = (some i, s.2 + sy i) := by
  unfold chf; rw [if_pos h, h1]
theorem chf_l {sy : Nat → Int32} {q : Nat → Bool} {i j : Nat} {s : Option Nat × Int32} (h : q i = true) (h1 : s.1 = some j) (h2 : sy i < sy j) : chf sy q i s = (some i, s.2 + sy i) := by
  unfold chf; rw [if_pos h, h1]; simp only [if_pos h2]
theorem chf_g {sy : Nat → Int32} {q : Nat → Bool} {i j : Nat} {s : Option Nat × Int32} (h : q i = true) (h1 : s.1 = some j) (h2 : ¬ sy i < sy j) : chf sy q i s = (some j, s.2 + sy i) := by
  unfold chf; rw [if_pos h, h1]; simp only [if_neg h2]
theorem chf_e {sy : Nat → Int32} {q : Nat → Bool} {i : Nat} {s : Option Nat × Int32} (h : q i = false) : chf sy q i s = s := by
  unfold chf; rw [if_neg (by rw [h]; decide)]
theorem q_cheapest (W : wfT T) (a : Int32) : PQ3 c w b hs T 117 239 [.int a] := by
  refine ⟨(if inR a 0 1 then if a = 0 then oI (lq (chf (syT c w b hs T 2) (bt (nI (otq (mdq c w hs b) c)))) c 0 (none, 0)).1 else (lq (chf (syT c w b hs T 2) (bt (nI (otq (mdq c w hs b) c)))) c 0 (none, 0)).2 else -2), ?_, ?_⟩
  · intro d h lc lw ps H C Ca
    have hb := H.bd
    rw [e_117]
    simp only [H.o0, H.o1, H.o2, H.o3, H.o4, H.o5, H.o6, H.o7, H.o8, H.o9, H.o10, H.b0, H.b1, H.b2, H.b3, H.b4, H.v3, H.v4, dR_ref, dA_ref, dA_null, dN_ref, dN_null, dD_ref, dD_int, cI_s, cV_s, cR_r, cR_n, cJ_s, bI_0, bI_1, zr_bI, zr_0, zr_1, eq_self, if_true, if_false, i10, i20, i01, i21, i02, i12, ior0, iad0, Bool.true_eq_false, Bool.false_eq_true, c_133, c_144 H, c_19 H]
    cases x1 : inR a 0 1 with
    | false => exact ⟨h, rfl, FC.rf C⟩
    | true =>
      simp only [dR_ref, dA_ref, dA_null, dN_ref, dN_null, dD_ref, dD_int, cI_s, cV_s, cR_r, cR_n, cJ_s, bI_0, bI_1, zr_bI, zr_0, zr_1, eq_self, if_true, if_false, i10, i20, i01, i21, i02, i12, ior0, iad0, Bool.true_eq_false, Bool.false_eq_true]
      generalize nI (otq (mdq c w hs b) c) = S
      have key : ∀ i, i ≤ c → ∀ s h1, FC h h1 → (∀ j, s.1 = some j → j < i) → ∀ j, ∃ h', ex (d + 19) 117 44 [sv (.ref 3), sv (.int a), sv (.int S), sv (.int (nI (fln c w hs b))), sv (.int (oI s.1)), sv (.int (lst (syT c w b hs T 2) s.1)), sv (.int s.2), sv (.int (nI i)), j] [] h1 = some (some (.int (if a = 0 then oI (lq (chf (syT c w b hs T 2) (bt S)) (c - i) i s).1 else (lq (chf (syT c w b hs T 2) (bt S)) (c - i) i s).2)), h') ∧ FC h h' := by
        intro i hi
        refine up_ind (n := c) (P := fun i => ∀ s h1, FC h h1 → (∀ j, s.1 = some j → j < i) → ∀ j, ∃ h', ex (d + 19) 117 44 [sv (.ref 3), sv (.int a), sv (.int S), sv (.int (nI (fln c w hs b))), sv (.int (oI s.1)), sv (.int (lst (syT c w b hs T 2) s.1)), sv (.int s.2), sv (.int (nI i)), j] [] h1 = some (some (.int (if a = 0 then oI (lq (chf (syT c w b hs T 2) (bt S)) (c - i) i s).1 else (lq (chf (syT c w b hs T 2) (bt S)) (c - i) i s).2)), h') ∧ FC h h') ?_ ?_ hi
        · intro s h1 G _ j
          have H1 := H.fc C G
          refine ⟨h1, ?_, G⟩
          rw [e_117_44, H1.o0, dR_ref, H1.b0, if_neg (nI_nlt (Nat.le_refl _) (by omega)), Nat.sub_self]
          show _ = some (some (Value.int (if a = 0 then oI s.1 else s.2)), h1)
          split <;> rfl
        · intro i hi ih s h1 G hsj j
          have H1 := H.fc C G
          rw [e_117_44, H1.o0, dR_ref, H1.b0, if_pos (nI_lt hi (by omega)), c_137b, cI_s, show c - i = (c - (i + 1)) + 1 by omega]
          show ∃ h', _ = some (some (Value.int (if a = 0 then oI (lq (chf (syT c w b hs T 2) (bt S)) (c - (i + 1)) (i + 1) (chf (syT c w b hs T 2) (bt S) i s)).1 else (lq (chf (syT c w b hs T 2) (bt S)) (c - (i + 1)) (i + 1) (chf (syT c w b hs T 2) (bt S) i s)).2)), h') ∧ _
          simp only [bI_0, nI_1]
          cases q : bt S i with
          | false =>
            rw [if_pos rfl, chf_e q]
            exact ih s h1 G (fun j hj => by have := hsj j hj; omega) j
          | true =>
            obtain ⟨h2, e1, G1⟩ := Ca (d + 13) h1 G 2 i (by decide) (by omega)
            have e1 : call (d + 19) 143 [.ref 3, .int 2, .int (nI i), .int (nI (fln c w hs b))] h1 = _ := e1
            have G2 := G.tr G1.fc
            rw [if_neg (by decide), H1.v3, e1, cI_s]
            cases x3 : s.1 with
            | none =>
              rw [chf_n q x3, if_pos (show oI none = -1 from rfl)]
              exact ih (some i, _) h2 G2 (fun j hj => by cases hj; omega) _
            | some k =>
              have hk := hsj k x3
              rw [show oI (some k) = nI k from rfl, if_neg (nI_m1 (by omega))]
              by_cases q2 : syT c w b hs T 2 i < syT c w b hs T 2 k
              · rw [chf_l q x3 q2, if_pos (show syT c w b hs T 2 i < lst (syT c w b hs T 2) (some k) from q2)]
                exact ih (some i, _) h2 G2 (fun j hj => by cases hj; omega) _
              · rw [chf_g q x3 q2, if_neg (show ¬ syT c w b hs T 2 i < lst (syT c w b hs T 2) (some k) from q2)]
                exact ih (some k, _) h2 G2 (fun j hj => by cases hj; omega) _
      exact key 0 (by omega) (none, 0) h (FC.rf C) (fun j hj => by cases hj) none
  · intro d h F A L H hL hF R
    have hb := H.bd
    rw [e_239, r_166, cI_s]
    simp only [bI_0]
    cases x1 : inR a 0 1 with
    | false => exact ⟨h, F, A, rfl, H, Fr.rf h, SS.rf F A⟩
    | true =>
      obtain ⟨h', A', e1, H1, L1, F1, S1⟩ := r_203 H (d + 14)
      have e211 : call (d + 19) 211 [.ref 28] h = some (some (.int (nI (otq (mdq c w hs b) c))), h') := by
        rw [e_211, H.v, e1, cV_s, H1.f2, H1.v, r_210 H1 L1, cI_s]
      simp only [H.v, e211, dR_ref, dA_ref, dA_null, dN_ref, dN_null, dD_ref, dD_int, cI_s, cV_s, cR_r, cR_n, cJ_s, bI_0, bI_1, zr_bI, zr_0, zr_1, eq_self, if_true, if_false, i10, i20, i01, i21, i02, i12, ior0, iad0, Bool.true_eq_false, Bool.false_eq_true]
      generalize nI (otq (mdq c w hs b) c) = S
      have key : ∀ i, i ≤ c → ∀ s h1 A1, RB h1 F A1 c w b hs → Fr h h1 → SS F A F A1 → (∀ j, s.1 = some j → j < i) → ∃ h' F' A', ex (d + 19) 239 25 [sv (.ref 28), sv (.int a), sv (.int S), sv (.int (oI s.1)), sv (.int s.2), sv (.int (nI i))] [] h1 = some (some (.int (if a = 0 then oI (lq (chf (syT c w b hs T 2) (bt S)) (c - i) i s).1 else (lq (chf (syT c w b hs T 2) (bt S)) (c - i) i s).2)), h') ∧ RB h' F' A' c w b hs ∧ Fr h h' ∧ SS F A F' A' := by
        intro i hi
        refine up_ind (n := c) (P := fun i => ∀ s h1 A1, RB h1 F A1 c w b hs → Fr h h1 → SS F A F A1 → (∀ j, s.1 = some j → j < i) → ∃ h' F' A', ex (d + 19) 239 25 [sv (.ref 28), sv (.int a), sv (.int S), sv (.int (oI s.1)), sv (.int s.2), sv (.int (nI i))] [] h1 = some (some (.int (if a = 0 then oI (lq (chf (syT c w b hs T 2) (bt S)) (c - i) i s).1 else (lq (chf (syT c w b hs T 2) (bt S)) (c - i) i s).2)), h') ∧ RB h' F' A' c w b hs ∧ Fr h h' ∧ SS F A F' A') ?_ ?_ hi
        · intro s h1 A1 H1 F1 S1 _
          refine ⟨h1, F, A1, ?_, H1, F1, S1⟩
          rw [e_239_25, H1.f0, if_neg (nI_nlt (Nat.le_refl _) (by omega)), Nat.sub_self]
          show _ = some (some (Value.int (if a = 0 then oI s.1 else s.2)), h1)
          split <;> rfl
        · intro i hi ih s h1 A1 H1 F1 S1 hsj
          rw [e_239_25, H1.f0, if_pos (nI_lt hi (by omega)), show c - i = (c - (i + 1)) + 1 by omega]
          show ∃ h' F' A', _ = some (some (Value.int (if a = 0 then oI (lq (chf (syT c w b hs T 2) (bt S)) (c - (i + 1)) (i + 1) (chf (syT c w b hs T 2) (bt S) i s)).1 else (lq (chf (syT c w b hs T 2) (bt S)) (c - (i + 1)) (i + 1) (chf (syT c w b hs T 2) (bt S) i s)).2)), h') ∧ _
          simp only [bt_1, nI_1]
          cases q : bt S i with
          | false =>
            rw [if_neg (by decide), chf_e q]
            exact ih s h1 A1 H1 F1 S1 (fun j hj => by have := hsj j hj; omega)
          | true =>
            obtain ⟨h2, A2, e2, H2, S2, F2, _⟩ := r_194s H1 (d + 13) hL hF W (R.ss S1) (g := 2) (i := i) (by decide) (by omega)
            have e2 : call (d + 19) 194 [.ref 28, .int 2, .int (nI i)] h1 = _ := e2
            rw [if_pos rfl]
            cases x3 : s.1 with
            | none =>
              rw [chf_n q x3, if_pos (show oI none = -1 from rfl), H1.v, e2, cI_s]
              exact ih (some i, _) h2 A2 H2 (F1.tr F2) (S1.tr S2) (fun j hj => by cases hj; omega)
            | some k =>
              have hk := hsj k x3
              obtain ⟨h3, A3, e3, H3, S3, F3, _⟩ := r_194s H2 (d + 13) hL hF W (R.ss (S1.tr S2)) (g := 2) (i := k) (by decide) (by omega)
              have e3 : call (d + 19) 194 [.ref 28, .int 2, .int (nI k)] h2 = _ := e3
              obtain ⟨h4, A4, e4, H4, S4, F4, _⟩ := r_194s H3 (d + 13) hL hF W (R.ss ((S1.tr S2).tr S3)) (g := 2) (i := i) (by decide) (by omega)
              have e4 : call (d + 19) 194 [.ref 28, .int 2, .int (nI i)] h3 = _ := e4
              rw [show oI (some k) = nI k from rfl, if_neg (nI_m1 (by omega)), H1.v, e2, cI_s, H2.v, e3, cI_s]
              by_cases q2 : syT c w b hs T 2 i < syT c w b hs T 2 k
              · rw [chf_l q x3 q2, if_pos q2, H3.v, e4, cI_s]
                exact ih (some i, _) h4 A4 H4 (((F1.tr F2).tr F3).tr F4) (((S1.tr S2).tr S3).tr S4) (fun j hj => by cases hj; omega)
              · rw [chf_g q x3 q2, if_neg q2, H3.v, e4, cI_s]
                exact ih (some k, _) h4 A4 H4 (((F1.tr F2).tr F3).tr F4) (((S1.tr S2).tr S3).tr S4) (fun j hj => by cases hj; omega)
      exact key 0 (by omega) (none, 0) h' A' H1 F1 S1 (fun j hj => by cases hj)
end PQS
