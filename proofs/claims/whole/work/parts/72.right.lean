/-! likely, right: the pairs -/
section PQS
variable {c w : Nat} {b : Int32} {hs : List Ent} {T : Txt}
theorem scn_le {W : Nat → Nat} (hW : ∀ i, W i ≤ 100) {i : Nat} {s : Int32 × Nat × Nat} (h : s.2.1 ≤ 100) : (scn W i s).2.1 ≤ 100 := by
  unfold scn
  split
  · exact hW i
  · exact h
theorem scv_inv (c w : Nat) (b : Int32) (hs : List Ent) (T : Txt) : (scv c w b hs T).2.2 ≤ 3300 ∧ (scv c w b hs T).2.1 ≤ (scv c w b hs T).2.2 ∧ (((scv c w b hs T).1 = -1 ∧ (scv c w b hs T).2.1 = 0 ∧ (scv c w b hs T).2.2 = 0) ∨ (∃ i, i < 33 ∧ (scv c w b hs T).1 = nI i ∧ (scv c w b hs T).2.1 = wts c w b hs T i ∧ 0 < wts c w b hs T i)) := scn_inv (wts c w b hs T) wts_le 33
theorem r_235 {h : MHeap} {F : Nat → Int32} {A : Nat → List Int32} {L : Nat} (W : wfT T) (H : RB h F A c w b hs) (hL : L < 6) (hF : F 12 = nI L) (R : RTx A L T) (d : Nat) : ∃ h' F' A', call (d + 8) 235 [.ref 28] h = some (none, h') ∧ RB h' F' A' c w b hs ∧ Fr h h' ∧ SS F A F' A' ∧ wyR F' (scv c w b hs T) := by
  have hb := H.bd
  obtain ⟨h1, A1, e1, H1, L1, F1, S1⟩ := r_203 H (d + 3)
  have hsc : scv c w b hs T = lq (fun i => scn (wts c w b hs T) (21 + i)) (c - 1) 0 (lq (fun i => scn (wts c w b hs T) (1 + i)) c 0 (scn (wts c w b hs T) 0 (-1, 0, 0))) := scn_ref hb.2.1 (fun j hj => wts_0 hb.2.1 j hj) hb.1
  rw [hsc]
  have key2 : ∀ i, i ≤ c - 1 → ∀ s h1 F1 A1 j, RB h1 F1 A1 c w b hs → Lk A1 c w hs → Fr h h1 → SS F A F1 A1 → wyR F1 s → s.2.1 ≤ 100 → ∃ h' F' A', ex (d + 7) 235 69 [sv (.ref 28), sv (.int (nI i)), j] [] h1 = some (none, h') ∧ RB h' F' A' c w b hs ∧ Fr h h' ∧ SS F A F' A' ∧ wyR F' (lq (fun i => scn (wts c w b hs T) (21 + i)) (c - 1 - i) i s) := by
    intro i hi
    refine up_ind (n := c - 1) (P := fun i => ∀ s h1 F1 A1 j, RB h1 F1 A1 c w b hs → Lk A1 c w hs → Fr h h1 → SS F A F1 A1 → wyR F1 s → s.2.1 ≤ 100 → ∃ h' F' A', ex (d + 7) 235 69 [sv (.ref 28), sv (.int (nI i)), j] [] h1 = some (none, h') ∧ RB h' F' A' c w b hs ∧ Fr h h' ∧ SS F A F' A' ∧ wyR F' (lq (fun i => scn (wts c w b hs T) (21 + i)) (c - 1 - i) i s)) ?_ ?_ hi
    · intro s h1 F1 A1 j H1 L1 G1 S1 hw _
      refine ⟨h1, F1, A1, ?_, H1, G1, S1, ?_⟩
      · rw [e_235_69, H1.f0, nI_1, if_neg (nI_nlt (by omega) (by omega))]
      · rw [Nat.sub_self]; exact hw
    · intro i hi ih s h1 F1 A1 j H1 L1 G1 S1 hw hs1
      have e0 : lq (fun i => scn (wts c w b hs T) (21 + i)) (c - 1 - i) i s = lq (fun i => scn (wts c w b hs T) (21 + i)) (c - 1 - (i + 1)) (i + 1) (scn (wts c w b hs T) (21 + i) s) := by
        rw [show c - 1 - i = (c - 1 - (i + 1)) + 1 by omega]; rfl
      have hne : ¬ swd b i (i + 1) = b := swd_ne (by omega) (by omega) (by omega)
      rw [e0, e_235_69, H1.f0]
      simp only [nI_1, if_pos (nI_lt (show i + 1 < c by omega) (show c < 2 ^ 31 by omega)), H1.f2, r_175 _ b (show i ≠ i + 1 by omega) (show i < 30 by omega) (show i + 1 < 30 by omega), cI_s]
      cases q : unl b i (i + 1) with
      | false =>
        have ew : wts c w b hs T (21 + i) = 0 := by
          unfold wts
          rw [if_neg (by omega), if_neg (by omega), Nat.add_sub_cancel_left, if_neg (fun z => by rw [q] at z; cases z.2.2)]
        simp only [Bool.false_eq_true, if_false, if_true]
        rw [scn_0 ew]
        exact ih s h1 F1 A1 _ H1 L1 G1 S1 hw hs1
      | true =>
        obtain ⟨h2, A2, e2, H2, S2, G2, a43⟩ := r_194s H1 (d + 1) hL ((S1.1 12 (by decide)).trans hF) W (R.ss S1) (g := 1) (i := i) (by decide) (by omega)
        have e2 : call (d + 7) 194 [.ref 28, .int 1, .int (nI i)] h1 = _ := e2
        have L2 : Lk A2 c w hs := by intro m e he; rw [a43]; exact L1 m e he
        have sy := syN_ok (c := c) (w := w) (b := b) (hs := hs) (T := T) 1 i
        have ew : wts c w b hs T (21 + i) = if sgs c w hs (swd b i (i + 1)) = 0 then syN c w b hs T 1 i else 0 := by
          unfold wts
          rw [if_neg (by omega), if_neg (by omega), Nat.add_sub_cancel_left, if_pos ⟨by omega, by omega, q⟩]
          rfl
        obtain ⟨h3, F3, e3, H3, S3, G3, w3⟩ := r_234 H2 L2 (d + 3) hw (k := 21 + i) (x := syN c w b hs T 1 i) (by omega) hs1 (swd b i (i + 1)) ew
        rw [if_pos rfl, if_neg hne, H1.v, e2, cI_s, H2.v, sy.2, show (21 : Int32) = nI 21 from rfl, nI_add, e3, cV_s]
        exact ih _ h3 F3 A2 _ H3 L2 ((G1.tr G2).tr G3) ((S1.tr S2).tr S3) w3 (scn_le wts_le hs1)
  have key1 : ∀ i, i ≤ c → ∀ s h1 F1 A1, RB h1 F1 A1 c w b hs → Lk A1 c w hs → Fr h h1 → SS F A F1 A1 → wyR F1 s → s.2.1 ≤ 100 → ∃ h' F' A', ex (d + 7) 235 32 [sv (.ref 28), sv (.int (nI i)), none] [] h1 = some (none, h') ∧ RB h' F' A' c w b hs ∧ Fr h h' ∧ SS F A F' A' ∧ wyR F' (lq (fun i => scn (wts c w b hs T) (21 + i)) (c - 1) 0 (lq (fun i => scn (wts c w b hs T) (1 + i)) (c - i) i s)) := by
    intro i hi
    refine up_ind (n := c) (P := fun i => ∀ s h1 F1 A1, RB h1 F1 A1 c w b hs → Lk A1 c w hs → Fr h h1 → SS F A F1 A1 → wyR F1 s → s.2.1 ≤ 100 → ∃ h' F' A', ex (d + 7) 235 32 [sv (.ref 28), sv (.int (nI i)), none] [] h1 = some (none, h') ∧ RB h' F' A' c w b hs ∧ Fr h h' ∧ SS F A F' A' ∧ wyR F' (lq (fun i => scn (wts c w b hs T) (21 + i)) (c - 1) 0 (lq (fun i => scn (wts c w b hs T) (1 + i)) (c - i) i s))) ?_ ?_ hi
    · intro s h1 F1 A1 H1 L1 G1 S1 hw hs1
      rw [e_235_32, H1.f0, if_neg (nI_nlt (Nat.le_refl _) (by omega)), Nat.sub_self]
      exact key2 0 (by omega) s h1 F1 A1 none H1 L1 G1 S1 hw hs1
    · intro i hi ih s h1 F1 A1 H1 L1 G1 S1 hw hs1
      have e0 : lq (fun i => scn (wts c w b hs T) (1 + i)) (c - i) i s = lq (fun i => scn (wts c w b hs T) (1 + i)) (c - (i + 1)) (i + 1) (scn (wts c w b hs T) (1 + i) s) := by
        rw [show c - i = (c - (i + 1)) + 1 by omega]; rfl
      obtain ⟨h2, A2, e2, H2, S2, G2, a43⟩ := r_194s H1 (d + 1) hL ((S1.1 12 (by decide)).trans hF) W (R.ss S1) (g := 0) (i := i) (by decide) (by omega)
      have e2 : call (d + 7) 194 [.ref 28, .int 0, .int (nI i)] h1 = _ := e2
      have L2 : Lk A2 c w hs := by intro m e he; rw [a43]; exact L1 m e he
      have sy := syN_ok (c := c) (w := w) (b := b) (hs := hs) (T := T) 0 i
      have ew : wts c w b hs T (1 + i) = if sgs c w hs (b ^^^ nI (2 ^ i)) = 0 then syN c w b hs T 0 i else 0 := by
        unfold wts
        rw [if_neg (by omega), if_pos (by omega), Nat.add_sub_cancel_left]
        rfl
      obtain ⟨h3, F3, e3, H3, S3, G3, w3⟩ := r_234 H2 L2 (d + 3) hw (k := 1 + i) (x := syN c w b hs T 0 i) (by omega) hs1 (b ^^^ nI (2 ^ i)) ew
      rw [e0, e_235_32, H1.f0, if_pos (nI_lt hi (by omega)), H1.v, e2, cI_s, H2.f2, H2.v, sy.2, bit_nI (by omega), show (1 : Int32) = nI 1 from rfl, nI_add, e3, cV_s, show nI 1 = (1 : Int32) from rfl, nI_1]
      exact ih _ h3 F3 A2 H3 L2 ((G1.tr G2).tr G3) ((S1.tr S2).tr S3) w3 (scn_le wts_le hs1)
  rw [e_235, H.v, e1, cV_s]
  have R1 : RH (h1.set 28 (rC (fu F 36 (-1)))) (fu F 36 (-1)) A1 := H1.1.setF _
  have R2 : RH ((h1.set 28 (rC (fu F 36 (-1)))).set 28 (rC (fu (fu F 36 (-1)) 37 0))) (fu (fu F 36 (-1)) 37 0) A1 := R1.setF _
  have R3 : RH (((h1.set 28 (rC (fu F 36 (-1)))).set 28 (rC (fu (fu F 36 (-1)) 37 0))).set 28 (rC (fu (fu (fu F 36 (-1)) 37 0) 38 0))) (fu (fu (fu F 36 (-1)) 37 0) 38 0) A1 := R2.setF _
  have S3 : SS F A1 (fu (fu (fu F 36 (-1)) 37 0) 38 0) A1 := ((SS.f F A1 (by decide) _).tr (SS.f _ A1 (by decide) _)).tr (SS.f _ A1 (by decide) _)
  have H3 := H1.sc R3 S3
  have ew : wts c w b hs T 0 = if sgs c w hs b = 0 then 100 else 0 := rfl
  obtain ⟨h4, F4, e4, H4, S4, G4, w4⟩ := r_234 H3 L1 (d + 3) (s := (-1, 0, 0)) ⟨by rw [fu_ne _ _ (by decide), fu_ne _ _ (by decide), fu_eq], by rw [fu_ne _ _ (by decide), fu_eq]; rfl, by rw [fu_eq]; rfl⟩ (k := 0) (x := 100) (by decide) (by decide) b ew
  have e4 : call (d + 7) 234 [.ref 28, .int 0, .int 100, .int b] _ = _ := e4
  rw [H1.1.p36, R1.p37, R2.p38, H3.f2, H3.v, e4, cV_s]
  exact key1 0 (by omega) _ h4 F4 A1 H4 L1 ((F1.tr (((Fr.st _ (by decide) (by decide) _).tr (Fr.st _ (by decide) (by decide) _)).tr (Fr.st _ (by decide) (by decide) _))).tr G4) ((S1.tr S3).tr S4) w4 (scn_le wts_le (by decide))
theorem q_likely (W : wfT T) (a : Int32) : PQ3 c w b hs T 115 236 [.int a] := by
  refine ⟨(if a = 0 then (scv c w b hs T).1 else if a = 1 then nI (scv c w b hs T).2.1 else if a = 2 then nI (scv c w b hs T).2.2 else -2), ?_, ?_⟩
  · intro d h lc lw ps H C Ca
    obtain ⟨h1, e1, I⟩ := c_152 H C Ca (d + 11)
    have H1 := H.fc C I.1
    refine ⟨h1, ?_, I.1⟩
    rw [e_115, H.v3, e1, cV_s]
    simp only [H1.v3, c_153 H C I, c_154 H C I, c_155 H C I, cI_s]
    by_cases a0 : a = 0
    · rw [if_pos a0, if_pos a0]
    · by_cases a1 : a = 1
      · rw [if_neg a0, if_neg a0, if_pos a1, if_pos a1]
      · by_cases a2 : a = 2
        · rw [if_neg a0, if_neg a0, if_neg a1, if_neg a1, if_pos a2, if_pos a2]
        · rw [if_neg a0, if_neg a0, if_neg a1, if_neg a1, if_neg a2, if_neg a2]
  · intro d h F A L H hL hF R
    rw [e_236, r_166, cI_s]
    simp only [bI_0]
    cases x1 : inR a 0 2 with
    | false =>
      have a0 : a ≠ 0 := fun z => by subst z; exact absurd x1 (by decide)
      have a1 : a ≠ 1 := fun z => by subst z; exact absurd x1 (by decide)
      have a2 : a ≠ 2 := fun z => by subst z; exact absurd x1 (by decide)
      rw [if_pos rfl, if_neg a0, if_neg a1, if_neg a2]
      exact ⟨h, F, A, rfl, H, Fr.rf h, SS.rf F A⟩
    | true =>
      obtain ⟨h1, F1, A1, e1, H1, G1, S1, w1, w2, w3⟩ := r_235 W H hL hF R (d + 11)
      refine ⟨h1, F1, A1, ?_, H1, G1, S1⟩
      simp only [H.v, e1, dR_ref, dA_ref, dA_null, dN_ref, dN_null, dD_ref, dD_int, cI_s, cV_s, cR_r, cR_n, cJ_s, bI_0, bI_1, zr_bI, zr_0, zr_1, eq_self, if_true, if_false, i10, i20, i01, i21, i02, i12, ior0, iad0, Bool.true_eq_false, Bool.false_eq_true, H1.1.f36, H1.1.f37, H1.1.f38, w1, w2, w3]
      rcases inR_2 x1 with z | z | z <;> subst z <;> rfl
theorem q_right (W : wfT T) (a : Int32) : PQ3J c w b hs T 116 238 [.int a] := by
  refine ⟨(if inR a 0 1 then if (scv c w b hs T).2.2 = 0 then -4611686018427387904 else lN (if a = 0 then (scv c w b hs T).2.1 / Nat.gcd (scv c w b hs T).2.2 (scv c w b hs T).2.1 else (scv c w b hs T).2.2 / Nat.gcd (scv c w b hs T).2.2 (scv c w b hs T).2.1) else -4611686018427387904), ?_, ?_⟩
  · intro d h lc lw ps H C Ca
    obtain ⟨h1, e1, I⟩ := c_152 H C Ca (d + 11)
    have H1 := H.fc C I.1
    refine ⟨h1, ?_, I.1⟩
    obtain ⟨z1, z2, z⟩ := scv_inv c w b hs T
    rw [e_116, H.v3, e1, cV_s]
    simp only [H1.v3, c_153 H C I, c_154 H C I, c_155 H C I, cI_s, c_133, bI_0]
    cases x1 : inR a 0 1 with
    | false => rfl
    | true =>
      obtain ⟨p, hp, rfl⟩ := inR_of (n := 1) (by decide) x1
      rw [if_neg (by decide)]
      rcases z with ⟨y1, y2, y3⟩ | ⟨i, y1, y2, y3, y4⟩
      · rw [if_pos y1, if_pos rfl, if_pos y3]
      · have n0 : ¬ (scv c w b hs T).2.2 = 0 := by
          omega
        rw [if_neg (by rw [y2]; exact nI_m1 (by omega)), if_pos rfl, if_neg n0, c_142 _ (by omega) (by omega) (by omega), cJ_s]
  · intro d h F A L H hL hF R
    obtain ⟨z1, z2, z⟩ := scv_inv c w b hs T
    rw [e_238, r_166, cI_s]
    simp only [bI_0]
    cases x1 : inR a 0 1 with
    | false => exact ⟨h, F, A, rfl, H, Fr.rf h, SS.rf F A⟩
    | true =>
      obtain ⟨p, hp, rfl⟩ := inR_of (n := 1) (by decide) x1
      obtain ⟨h1, F1, A1, e1, H1, G1, S1, w1, w2, w3⟩ := r_235 W H hL hF R (d + 11)
      refine ⟨h1, F1, A1, ?_, H1, G1, S1⟩
      simp only [H.v, e1, dR_ref, dA_ref, dA_null, dN_ref, dN_null, dD_ref, dD_int, cI_s, cV_s, cR_r, cR_n, cJ_s, bI_0, bI_1, zr_bI, zr_0, zr_1, eq_self, if_true, if_false, i10, i20, i01, i21, i02, i12, ior0, iad0, Bool.true_eq_false, Bool.false_eq_true, H1.1.f37, H1.1.f38, w2, w3, nI_z (show (scv c w b hs T).2.2 < 2 ^ 31 by omega)]
      by_cases n0 : (scv c w b hs T).2.2 = 0
      · rw [if_pos n0, if_pos n0]
      · rw [if_neg n0, if_neg n0, nI_l (by omega), nI_l (by omega), r_237 _ (by omega) (by omega) (by omega) hp, cJ_s]
end PQS
