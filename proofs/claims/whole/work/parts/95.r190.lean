/-! the reference's text -/
def txv (L p : Nat) (r : Option Txt) : Int32 := match r with
  | some _ => nI L
  | none => -100 - nI p
theorem r_190 {tp : List Nat} {L : Nat} {h : MHeap} {F : Nat → Int32} {A : Nat → List Int32} (H : RH h F A) (e11 : F 11 = nI L) (hL : L < 6) (e8 : F 8 = nI tp.length) (hb : ∀ i, i < tp.length → (A 32).getD i 0 = nI (by1 tp i)) (hw : A 39 = wds) (ht : tp.length ≤ 160) (o6 : ∀ x ∈ tp, x < 256) {r : Option Txt} {j : Nat} (R : TX (tkt tp) r j) (d : Nat) : ∃ h' F' A', call (d + 10) 190 [.ref 28] h = some (some (.int (txv L (tkb tp j) r)), h') ∧ RH h' F' A' ∧ Fr h h' ∧ (∀ k, (k < 23 ∨ 31 < k) → k ≠ 8 → k ≠ 11 → F' k = F k) ∧ F' 8 = 0 ∧ F' 11 = nI (if r.isSome = true then L + 1 else L) ∧ (∀ o, o ≠ 33 → o ≠ 40 → o ≠ 34 → A' o = A o) ∧ (∀ k, (k < 200 * L ∨ 200 * L + 200 ≤ k) → (A' 33).getD k 0 = (A 33).getD k 0) ∧ (∀ k, (k < 4 * L ∨ 4 * L + 4 ≤ k) → (A' 34).getD k 0 = (A 34).getD k 0) ∧ ∀ T, r = some T → RTx A' L T := by
  obtain ⟨N, hN1, hN2, hN3⟩ := tk_end tp
  have nN : N ≤ 160 := by omega
  have H1 := H.setF (fu F 23 (nI 0))
  have H2 := H1.setF (fu (fu F 23 (nI 0)) 31 (nI 0))
  have GG : Fr h ((h.set 28 (rC (fu F 23 (nI 0)))).set 28 (rC (fu (fu F 23 (nI 0)) 31 (nI 0)))) := (Fr.st h (o := 28) (by decide) (by decide) _).tr (Fr.st _ (by decide) (by decide) _)
  have e0 : call (d + 10) 190 [.ref 28] h = ex (d + 9) 190 26 [sv (.ref 28), sv (.int 1), sv (.int (nI 0))] [] ((h.set 28 (rC (fu F 23 (nI 0)))).set 28 (rC (fu (fu F 23 (nI 0)) 31 (nI 0)))) := by
    rw [e_190, H.f11, e11, if_neg (show ¬ nI L = (6 : Int32) from fun e => by have := (nI_eq (b := 6) (by omega) (by decide)).1 e; omega), show (0 : Int32) = nI 0 from rfl, H.p23, H1.p31]
  have S2 : TS F A L (fu (fu F 23 (nI 0)) 31 (nI 0)) A [] := ⟨fun k hk => by rw [fu_ne _ _ (by omega), fu_ne _ _ (by omega)], fun _ _ _ _ => rfl, fun _ _ => rfl, fun _ _ => rfl, fu_eq _ _ _, fun k hk => by cases hk⟩
  have f23 : (fu (fu F 23 (nI 0)) 31 (nI 0)) 23 = nI (tkp tp 0) := by rw [fu_ne _ _ (by decide), fu_eq]; rfl
  rw [e0]
  generalize (h.set 28 (rC (fu F 23 (nI 0)))).set 28 (rC (fu (fu F 23 (nI 0)) 31 (nI 0))) = hA at H2 GG
  generalize fu (fu F 23 (nI 0)) 31 (nI 0) = FA at H2 S2 f23
  have stop : ∀ {h1 : MHeap} {F1 : Nat → Int32} {A1 : Nat → List Int32} {o1 : List Nat} (p : Nat), RH h1 F1 A1 → Fr h h1 → TS F A L F1 A1 o1 → F1 24 = nI (tkb tp j) → p ≤ 3 → r = none → ∃ h' F' A', ex (d + 9) 190 26 [sv (.ref 28), sv (.int (bI false)), sv (.int (nI p))] [] h1 = some (some (.int (txv L (tkb tp j) r)), h') ∧ RH h' F' A' ∧ Fr h h' ∧ (∀ k, (k < 23 ∨ 31 < k) → k ≠ 8 → k ≠ 11 → F' k = F k) ∧ F' 8 = 0 ∧ F' 11 = nI (if r.isSome = true then L + 1 else L) ∧ (∀ o, o ≠ 33 → o ≠ 40 → o ≠ 34 → A' o = A o) ∧ (∀ k, (k < 200 * L ∨ 200 * L + 200 ≤ k) → (A' 33).getD k 0 = (A 33).getD k 0) ∧ (∀ k, (k < 4 * L ∨ 4 * L + 4 ≤ k) → (A' 34).getD k 0 = (A 34).getD k 0) ∧ ∀ T, r = some T → RTx A' L T := by
    intro h1 F1 A1 o1 p H1 G1 S1 f24 hp hr
    subst hr
    obtain ⟨h2, F2, A2, c2, K2, G2, k1, k2, k3, k4, k5, k6, k7, k8, k9⟩ := r_122 H1 S1 e11 hL false (nI p) (d + 9)
    rw [if_neg (by decide), f24] at c2
    refine ⟨h2, F2, A2, ?_, K2, G1.tr G2, k1, k2, k3, k4, k5, k6, fun T e => by cases e⟩
    rw [e_190_26]
    by_cases p3 : p < 3
    · rw [if_pos (show nI p < (3 : Int32) from nI_lt (b := 3) p3 (by decide)), if_pos (show bI false = 0 from rfl), if_pos (show bI false = 0 from rfl)]
      exact c2
    · rw [if_neg (show ¬ nI p < (3 : Int32) from nI_nlt (b := 3) (by omega) (by omega)), if_pos (show bI false = 0 from rfl)]
      exact c2
  have n0 : ([] : List Nat).length = 0 := rfl
  rcases R with ⟨o', e1, rr⟩ | ⟨i1, o1, e1, R⟩
  · obtain ⟨h1, F1, A1, o2, c1, K1, G1, S1, _, t1, _, _⟩ := r_part (F0 := F) (A0 := A) e11 hL e8 hb hw ht o6 nN hN2 (by decide) (Nat.zero_le _) (Nat.le_refl _) e1 H2 S2 f23 d
    rw [c1]
    exact stop 1 K1 (GG.tr G1) S1 (t1 rfl) (by decide) rr
  have q1 := pp_le hN2 (by decide) (Nat.zero_le _) e1
  obtain ⟨h1, F1, A1, o1', c1, K1, G1, S1, t1, _, u1, _⟩ := r_part (F0 := F) (A0 := A) e11 hL e8 hb hw ht o6 nN hN2 (by decide) (Nat.zero_le _) (Nat.le_refl _) e1 H2 S2 f23 d
  obtain ⟨y1, rfl⟩ := t1 rfl
  rw [c1]
  rcases R with ⟨o', e2, rr⟩ | ⟨i2, o2, e2, R⟩
  · obtain ⟨h2, F2, A2, o2, c2, K2, G2, S2, _, t2, _, _⟩ := r_part (F0 := F) (A0 := A) e11 hL e8 hb hw ht o6 nN hN2 (by decide) q1.1 (by omega) e2 K1 S1 y1 d
    rw [show ex (d + 9) 190 26 [sv (.ref 28), sv (.int (bI true)), sv (.int (nI (0 + 1)))] [] h1 = _ from c2]
    exact stop 2 K2 ((GG.tr G1).tr G2) S2 (t2 rfl) (by decide) rr
  have q2 := pp_le hN2 (by decide) q1.1 e2
  obtain ⟨h2, F2, A2, o2', c2, K2, G2, S2, t2, _, u2, w2⟩ := r_part (F0 := F) (A0 := A) e11 hL e8 hb hw ht o6 nN hN2 (by decide) q1.1 (by omega) e2 K1 S1 y1 d
  obtain ⟨y2, rfl⟩ := t2 rfl
  rw [show ex (d + 9) 190 26 [sv (.ref 28), sv (.int (bI true)), sv (.int (nI (0 + 1)))] [] h1 = _ from c2]
  rcases R with ⟨o', e3, rr⟩ | ⟨o3, e3, R⟩
  · obtain ⟨h3, F3, A3, o3, c3, K3, G3, S3, _, t3, _, _⟩ := r_part (F0 := F) (A0 := A) e11 hL e8 hb hw ht o6 nN hN2 (by decide) q2.1 (by omega) e3 K2 S2 y2 d
    rw [show ex (d + 9) 190 26 [sv (.ref 28), sv (.int (bI true)), sv (.int (nI (1 + 1)))] [] h2 = _ from c3]
    exact stop 3 K3 (((GG.tr G1).tr G2).tr G3) S3 (t3 rfl) (by decide) rr
  have q3 := pp_le hN2 (by decide) q2.1 e3
  obtain ⟨h3, F3, A3, o3', c3, K3, G3, S3, t3, _, u3, w3⟩ := r_part (F0 := F) (A0 := A) e11 hL e8 hb hw ht o6 nN hN2 (by decide) q2.1 (by omega) e3 K2 S2 y2 d
  obtain ⟨y3, rfl⟩ := t3 rfl
  rw [show ex (d + 9) 190 26 [sv (.ref 28), sv (.int (bI true)), sv (.int (nI (1 + 1)))] [] h2 = _ from c3]
  have g8 : F3 8 = nI tp.length := (S3.1 8 (by decide)).trans e8
  have a32 : A3 32 = A 32 := S3.2.1 32 (by decide) (by decide) (by decide)
  have a39 : A3 39 = A 39 := S3.2.1 39 (by decide) (by decide) (by decide)
  obtain ⟨h4, F4, c4, K4, G4, N4, f43, f44, tk1, _, _, _⟩ := r_181 K3 g8 (fun i hi => by rw [a32]; exact hb i hi) (a39.trans hw) ht o6 (tkp_le tp j) y3 (d + 7)
  have c4 : call (d + 9) 181 [.ref 28] h3 = some (none, h4) := c4
  have f44 : F4 24 = nI (tkb tp j) := f44
  have tk1 : F4 25 = rtT (tkt tp j) := tk1
  have v := rt_v (show tkt tp j ≤ 20001 from tkA_le tp _)
  have S4 : TS F A L F4 A3 o3' := ⟨fun k hk => (N4 k (by omega)).trans (S3.1 k hk), S3.2.1, S3.2.2.1, S3.2.2.2.1, (N4 31 (by decide)).trans S3.2.2.2.2.1, S3.2.2.2.2.2⟩
  have G5 : Fr h h4 := (((GG.tr G1).tr G2).tr G3).tr G4
  rw [show ex (d + 9) 190 26 [sv (.ref 28), sv (.int (bI true)), sv (.int (nI (2 + 1)))] [] h3 = (if tkt tp j = 20000 then ex (d + 9) 190 122 [sv (.ref 28), sv (.int 1), sv (.int 3)] [] h4 else ex (d + 9) 190 122 [sv (.ref 28), sv (.int 0), sv (.int 3)] [] h4) by
    rw [e_190_26, if_neg (by decide), if_neg (by decide), K3.v, c4, cV_s, K4.f25, tk1]
    by_cases z : tkt tp j = 20000
    · rw [if_pos (v.2.2.2.2.2.2.1.2 z), if_pos z]; rfl
    · rw [if_neg (fun e => z (v.2.2.2.2.2.2.1.1 e)), if_neg z]; rfl]
  rcases R with ⟨z, rfl⟩ | ⟨z, rfl⟩
  · rw [if_pos z]
    obtain ⟨h5, F5, A5, c5, K5, G6, k1, k2, k3, k4, k5, k6, k7, k8, k9⟩ := r_122 K4 S4 e11 hL true 3 (d + 9)
    rw [if_pos rfl] at c5
    refine ⟨h5, F5, A5, c5, K5, G5.tr G6, k1, k2, k3, k4, k5, k6, ?_⟩
    intro T hT
    cases hT
    refine ⟨fun p hp => ?_, fun k hk => ?_⟩
    · rcases (show p = 0 ∨ p = 1 ∨ p = 2 ∨ p = 3 by omega) with y | y | y | y <;> subst y
      · rw [k9 0 (by decide), w3 0 (by decide), w2 0 (by decide)]; exact u1
      · rw [k9 1 (by decide), w3 1 (by decide)]; exact u2
      · rw [k9 2 (by decide)]; exact u3
      · exact k8
    · rw [k7]; exact S4.2.2.2.2.2 k hk
  · rw [if_neg z]
    obtain ⟨h5, F5, A5, c5, K5, G6, k1, k2, k3, k4, k5, k6, k7, k8, k9⟩ := r_122 K4 S4 e11 hL false 3 (d + 9)
    rw [if_neg (by decide), f44] at c5
    exact ⟨h5, F5, A5, c5, K5, G5.tr G6, k1, k2, k3, k4, k5, k6, fun T e => by cases e⟩
