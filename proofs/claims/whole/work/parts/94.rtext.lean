/-! the reference reads a text -/
def TS (F0 : Nat → Int32) (A0 : Nat → List Int32) (L : Nat) (F : Nat → Int32) (A : Nat → List Int32) (out : List Nat) : Prop := (∀ k, (k < 23 ∨ 31 < k) → F k = F0 k) ∧ (∀ o, o ≠ 33 → o ≠ 40 → o ≠ 34 → A o = A0 o) ∧ (∀ k, (k < 200 * L ∨ 200 * L + 200 ≤ k) → (A 33).getD k 0 = (A0 33).getD k 0) ∧ (∀ k, (k < 4 * L ∨ 4 * L + 4 ≤ k) → (A 34).getD k 0 = (A0 34).getD k 0) ∧ F 31 = nI out.length ∧ ∀ k, k < out.length → (A 33).getD (200 * L + k) 0 = nI (rcd (out.getD k 0))
section RTX
variable {F0 : Nat → Int32} {A0 : Nat → List Int32} {L : Nat} {tp : List Nat}
theorem r_part (e11 : F0 11 = nI L) (hL : L < 6) (e8 : F0 8 = nI tp.length) (hb : ∀ i, i < tp.length → (A0 32).getD i 0 = nI (by1 tp i)) (hw : A0 39 = wds) (ht : tp.length ≤ 160) (o6 : ∀ x ∈ tp, x < 256) {N : Nat} (nN : N ≤ 160) (hN : 20000 ≤ tkt tp N) {p i : Nat} (hp : p < 3) (hi : i ≤ N) {out : List Nat} (ho : out.length ≤ i) {b : Bool} {i' : Nat} {o' : List Nat} (P : Pp (tkt tp) p i out b i' o') {h : MHeap} {F : Nat → Int32} {A : Nat → List Int32} (H : RH h F A) (S : TS F0 A0 L F A out) (e23 : F 23 = nI (tkp tp i)) (d : Nat) : ∃ h' F' A' o2, ex (d + 9) 190 26 [sv (.ref 28), sv (.int 1), sv (.int (nI p))] [] h = ex (d + 9) 190 26 [sv (.ref 28), sv (.int (bI b)), sv (.int (nI (p + 1)))] [] h' ∧ RH h' F' A' ∧ Fr h h' ∧ TS F0 A0 L F' A' o2 ∧ (b = true → F' 23 = nI (tkp tp i') ∧ o2 = o') ∧ (b = false → F' 24 = nI (tkb tp i')) ∧ (A' 34).getD (4 * L + p) 0 = nI out.length ∧ ∀ q, q < p → (A' 34).getD (4 * L + q) 0 = (A 34).getD (4 * L + q) 0 := by
  have S0 := S
  obtain ⟨s1, s2, s3, s4, s5, s6⟩ := S
  have a32 : A 32 = A0 32 := s2 32 (by decide) (by decide) (by decide)
  have a39 : A 39 = A0 39 := s2 39 (by decide) (by decide) (by decide)
  have g8 : F 8 = nI tp.length := (s1 8 (by decide)).trans e8
  have g11 : F 11 = nI L := (s1 11 (by decide)).trans e11
  have hb' : ∀ i, i < tp.length → (A 32).getD i 0 = nI (by1 tp i) := fun i hi => by rw [a32]; exact hb i hi
  obtain ⟨h1, F1, c1, H1, G1, N1, f23, f24, tk1, tk2, _, _⟩ := r_181 H g8 hb' (a39.trans hw) ht o6 (tkp_le tp i) e23 (d + 7)
  have c1 : call (d + 9) 181 [.ref 28] h = some (none, h1) := c1
  have f23 : F1 23 = nI (tkp tp (i + 1)) := f23
  have f24 : F1 24 = nI (tkb tp i) := f24
  have tk1 : F1 25 = rtT (tkt tp i) := tk1
  have tk2 : tkt tp i < 3 → F1 26 = nI (tkt tp i) := tk2
  have v := rt_v (show tkt tp i ≤ 20001 from tkA_le tp _)
  have n11 : F1 11 = nI L := (N1 11 (by decide)).trans g11
  have n31 : F1 31 = nI out.length := (N1 31 (by decide)).trans s5
  have l34 : (A 34).length = 24 := (H.2 34 (by decide) (by decide)).2
  have H2 : RH (h1.set 34 (100, ((A 34).set (4 * L + p) (nI out.length)).map .int)) F1 (fu A 34 ((A 34).set (4 * L + p) (nI out.length))) := H1.setA (by decide) (by decide) (by rw [List.length_set]; exact l34)
  have as34 : ∀ k : MHeap → MRes, asI none h1 34 (4 * nI L + nI p) (nI out.length) k = k (h1.set 34 (100, ((A 34).set (4 * L + p) (nI out.length)).map .int)) := fun k => by
    rw [show (4 : Int32) = nI 4 from rfl, pk_mul, nI_add]
    exact H1.as (by decide) (by decide) (show 4 * L + p < 24 by omega) _ k
  have G2 : Fr h (h1.set 34 (100, ((A 34).set (4 * L + p) (nI out.length)).map .int)) := G1.tr (Fr.st _ (by decide) (by decide) _)
  have S2 : TS F0 A0 L F1 (fu A 34 ((A 34).set (4 * L + p) (nI out.length))) out := ⟨fun k hk => (N1 k (by omega)).trans (s1 k hk), fun o h1 h2 h3 => by rw [fu_ne _ _ h3]; exact s2 o h1 h2 h3, fun k hk => by rw [fu_ne _ _ (by decide)]; exact s3 k hk, fun k hk => by rw [fu_eq, getD_set (by rw [l34]; omega), if_neg (by omega)]; exact s4 k hk, n31, fun k hk => by rw [fu_ne _ _ (by decide)]; exact s6 k hk⟩
  have p1 : (fu A 34 ((A 34).set (4 * L + p) (nI out.length)) 34).getD (4 * L + p) 0 = nI out.length := by rw [fu_eq, getD_set (by rw [l34]; omega), if_pos rfl]
  have p2 : ∀ q, q < p → (fu A 34 ((A 34).set (4 * L + p) (nI out.length)) 34).getD (4 * L + q) 0 = (A 34).getD (4 * L + q) 0 := fun q hq => by rw [fu_eq, getD_set (by rw [l34]; omega), if_neg (by omega)]
  rw [e_190_26, if_pos (show nI p < (3 : Int32) from nI_lt (b := 3) hp (by decide)), if_neg (show ¬ (1 : Int32) = 0 by decide), H.v, c1, cV_s, H1.f25, tk1]
  by_cases z : tkt tp i = p
  · have t3 : rtT (tkt tp i) = 3 := v.2.2.1.2 (by omega)
    have mmz := pm_part (tk := tkt tp) (M := N + 1) hN rfl hp hi P z
    rw [if_pos t3, H1.f26, tk2 (by omega), z, if_pos rfl, H1.f10, H1.f11, n11, H1.f31, n31, dR_ref, as34, if_neg (show ¬ (1 : Int32) = 0 by decide), H2.v]
    have H3 := H2.setF (fu F1 29 (nI 0))
    have H4 := H3.setF (fu (fu F1 29 (nI 0)) 30 (nI 0))
    generalize hB : fu A 34 ((A 34).set (4 * L + p) (nI out.length)) = B at *
    have MS4 : MSt F1 B L (fu (fu F1 29 (nI 0)) 30 (nI 0)) B (tkp tp (i + 1)) (tkb tp i) [] 0 out := ⟨fun k hk => by rw [fu_ne _ _ (by omega), fu_ne _ _ (by omega)], fun _ _ _ => rfl, fun _ _ => rfl, by rw [fu_ne _ _ (by decide), fu_ne _ _ (by decide)]; exact f23, by rw [fu_ne _ _ (by decide), fu_ne _ _ (by decide)]; exact f24, by rw [fu_ne _ _ (by decide), fu_eq]; rfl, fu_eq _ _ _, by rw [fu_ne _ _ (by decide), fu_ne _ _ (by decide)]; exact n31, trivial, S2.2.2.2.2.2⟩
    have B32 : B 32 = A0 32 := S2.2.1 32 (by decide) (by decide) (by decide)
    have B39 : B 39 = A0 39 := S2.2.1 39 (by decide) (by decide) (by decide)
    have s := tk_st hN hi (show tkt tp i < 20000 by omega)
    have E := r_loop (F0 := F1) (A0 := B) (L := L) (tp := tp) n11 hL ((N1 8 (by decide)).trans g8) (fun i hi => by rw [B32]; exact hb i hi) (B39.trans hw) ht o6 nN hN (d + 2) (N + 1 - (i + 1)) (i + 1) rfl s [] 0 out 2 _ _ _ _ 1 none H4 MS4 ⟨by show 0 + out.length ≤ i + 1; omega, by omega, fun u hu => (by cases hu), Nat.le_refl _, by decide⟩ (fun _ => rfl) (by decide)
    have E := fun j r x => E j r x
    have c189 : call (d + 9) 189 [.ref 28] (h1.set 34 (100, ((A 34).set (4 * L + p) (nI out.length)).map .int)) = ex (d + 8) 189 14 [sv (.ref 28), sv (.int 1), sv (.int 1), none] [] (((h1.set 34 (100, ((A 34).set (4 * L + p) (nI out.length)).map .int)).set 28 (rC (fu F1 29 (nI 0)))).set 28 (rC (fu (fu F1 29 (nI 0)) 30 (nI 0)))) := by
      rw [e_189, show (0 : Int32) = nI 0 from rfl, H2.p29, H3.p30]
    rw [c189]
    cases b with
    | true =>
      rw [if_pos rfl] at mmz
      obtain ⟨h5, F5, A5, q5, K5, op5, o5, c5, H5, G5, M5, e5⟩ := E _ _ mmz
      have c6 : ex (d + 8) 189 14 [sv (.ref 28), sv (.int 1), sv (.int 1), none] [] (((h1.set 34 (100, ((A 34).set (4 * L + p) (nI out.length)).map .int)).set 28 (rC (fu F1 29 (nI 0)))).set 28 (rC (fu (fu F1 29 (nI 0)) 30 (nI 0)))) = some (some (.int 1), h5) := c5
      obtain ⟨e6, e7⟩ := e5 o' rfl
      obtain ⟨m1, m2, m3, m4, m5, m6, m7, m8, m9, m10⟩ := M5
      have ip : i' - 1 + 1 = i' := by
        rcases P with ⟨y, _⟩ | ⟨_, ⟨_, y⟩ | ⟨i1, _, ⟨_, _, y⟩ | ⟨_, y, _⟩⟩⟩
        · exact absurd z y
        · cases y
        · omega
        · cases y
      rw [ip] at e6
      subst e6 e7
      refine ⟨h5, F5, A5, o5, ?_, H5, (G2.tr ((Fr.st _ (o := 28) (by decide) (by decide) _).tr (Fr.st _ (o := 28) (by decide) (by decide) _))).tr G5, ⟨fun k hk => (m1 k hk).trans (S2.1 k hk), fun o h1 h2 h3 => (m2 o h1 h2).trans (S2.2.1 o h1 h2 h3), fun k hk => (m3 k hk).trans (S2.2.2.1 k hk), fun k hk => by rw [m2 34 (by decide) (by decide)]; exact S2.2.2.2.1 k hk, m8, m10⟩, fun _ => ⟨m4, rfl⟩, fun e => (by cases e), by rw [m2 34 (by decide) (by decide)]; exact p1, fun q hq => by rw [m2 34 (by decide) (by decide)]; exact p2 q hq⟩
      rw [c6, cI_s, if_neg (show ¬ (1 : Int32) = 0 by decide), e_190_94, nI_1]
      rfl
    | false =>
      rw [if_neg (by decide)] at mmz
      obtain ⟨h5, F5, A5, q5, K5, op5, o5, c5, H5, G5, M5, e5⟩ := E _ _ mmz
      have c6 : ex (d + 8) 189 14 [sv (.ref 28), sv (.int 1), sv (.int 1), none] [] (((h1.set 34 (100, ((A 34).set (4 * L + p) (nI out.length)).map .int)).set 28 (rC (fu F1 29 (nI 0)))).set 28 (rC (fu (fu F1 29 (nI 0)) 30 (nI 0)))) = some (some (.int 0), h5) := c5
      obtain ⟨m1, m2, m3, m4, m5, m6, m7, m8, m9, m10⟩ := M5
      refine ⟨h5, F5, A5, o5, ?_, H5, (G2.tr ((Fr.st _ (o := 28) (by decide) (by decide) _).tr (Fr.st _ (o := 28) (by decide) (by decide) _))).tr G5, ⟨fun k hk => (m1 k hk).trans (S2.1 k hk), fun o h1 h2 h3 => (m2 o h1 h2).trans (S2.2.1 o h1 h2 h3), fun k hk => (m3 k hk).trans (S2.2.2.1 k hk), fun k hk => by rw [m2 34 (by decide) (by decide)]; exact S2.2.2.2.1 k hk, m8, m10⟩, fun e => (by cases e), fun _ => m5, by rw [m2 34 (by decide) (by decide)]; exact p1, fun q hq => by rw [m2 34 (by decide) (by decide)]; exact p2 q hq⟩
      rw [c6, cI_s, if_pos rfl, e_190_93, e_190_94, nI_1]
      rfl
  · obtain ⟨rfl, rfl, rfl⟩ : b = false ∧ i' = i ∧ o' = out := by
      rcases P with ⟨_, y⟩ | ⟨y, _⟩
      · exact y
      · exact absurd y z
    refine ⟨_, F1, _, o', ?_, H2, G2, S2, fun e => (by cases e), fun _ => f24, p1, p2⟩
    by_cases t3 : tkt tp i' < 3
    · rw [if_pos (v.2.2.1.2 t3), H1.f26, tk2 t3, if_neg (fun e => z ((nI_eq (by omega) (by omega)).1 e)), H1.f10, H1.f11, n11, H1.f31, n31, dR_ref, as34, if_pos rfl, e_190_93, e_190_94, nI_1]
      rfl
    · rw [if_neg (fun e => t3 (v.2.2.1.1 e)), H1.f10, H1.f11, n11, H1.f31, n31, dR_ref, as34, if_pos rfl, e_190_93, e_190_94, nI_1]
      rfl
/-- the end of it -/
theorem r_122 {h : MHeap} {F : Nat → Int32} {A : Nat → List Int32} {out : List Nat} (H : RH h F A) (S : TS F0 A0 L F A out) (e11 : F0 11 = nI L) (hL : L < 6) (b : Bool) (a2 : Int32) (d : Nat) : ∃ h' F' A', ex d 190 122 [sv (.ref 28), sv (.int (bI b)), sv (.int a2)] [] h = some (some (.int (if b = true then nI L else -100 - F 24)), h') ∧ RH h' F' A' ∧ Fr h h' ∧ (∀ k, (k < 23 ∨ 31 < k) → k ≠ 8 → k ≠ 11 → F' k = F0 k) ∧ F' 8 = 0 ∧ F' 11 = nI (if b = true then L + 1 else L) ∧ (∀ o, o ≠ 33 → o ≠ 40 → o ≠ 34 → A' o = A0 o) ∧ (∀ k, (k < 200 * L ∨ 200 * L + 200 ≤ k) → (A' 33).getD k 0 = (A0 33).getD k 0) ∧ (∀ k, (k < 4 * L ∨ 4 * L + 4 ≤ k) → (A' 34).getD k 0 = (A0 34).getD k 0) ∧ A' 33 = A 33 ∧ (A' 34).getD (4 * L + 3) 0 = nI out.length ∧ ∀ q, q < 3 → (A' 34).getD (4 * L + q) 0 = (A 34).getD (4 * L + q) 0 := by
  obtain ⟨s1, s2, s3, s4, s5, s6⟩ := S
  have g11 : F 11 = nI L := (s1 11 (by decide)).trans e11
  have l34 : (A 34).length = 24 := (H.2 34 (by decide) (by decide)).2
  have H2 : RH (h.set 34 (100, ((A 34).set (4 * L + 3) (nI out.length)).map .int)) F (fu A 34 ((A 34).set (4 * L + 3) (nI out.length))) := H.setA (by decide) (by decide) (by rw [List.length_set]; exact l34)
  have as34 : ∀ k : MHeap → MRes, asI none h 34 (4 * nI L + 3) (nI out.length) k = k (h.set 34 (100, ((A 34).set (4 * L + 3) (nI out.length)).map .int)) := fun k => by
    rw [show (4 : Int32) = nI 4 from rfl, pk_mul, show (3 : Int32) = nI 3 from rfl, nI_add]
    exact H.as (by decide) (by decide) (show 4 * L + 3 < 24 by omega) _ k
  have H3 := H2.setF (fu F 8 0)
  have H4 := H3.setF (fu (fu F 8 0) 11 (nI (L + 1)))
  have k11 : (fu F 8 0) 11 = nI L := by rw [fu_ne _ _ (by decide)]; exact g11
  have k11' : (fu (fu F 8 0) 11 (nI (L + 1))) 11 = nI (L + 1) := fu_eq _ _ _
  have Q : (∀ o, o ≠ 33 → o ≠ 40 → o ≠ 34 → (fu A 34 ((A 34).set (4 * L + 3) (nI out.length))) o = A0 o) ∧ (∀ k, (k < 200 * L ∨ 200 * L + 200 ≤ k) → ((fu A 34 ((A 34).set (4 * L + 3) (nI out.length))) 33).getD k 0 = (A0 33).getD k 0) ∧ (∀ k, (k < 4 * L ∨ 4 * L + 4 ≤ k) → ((fu A 34 ((A 34).set (4 * L + 3) (nI out.length))) 34).getD k 0 = (A0 34).getD k 0) ∧ (fu A 34 ((A 34).set (4 * L + 3) (nI out.length))) 33 = A 33 ∧ ((fu A 34 ((A 34).set (4 * L + 3) (nI out.length))) 34).getD (4 * L + 3) 0 = nI out.length ∧ ∀ q, q < 3 → ((fu A 34 ((A 34).set (4 * L + 3) (nI out.length))) 34).getD (4 * L + q) 0 = (A 34).getD (4 * L + q) 0 := ⟨fun o h1 h2 h3 => by rw [fu_ne _ _ h3]; exact s2 o h1 h2 h3, fun k hk => by rw [fu_ne _ _ (by decide)]; exact s3 k hk, fun k hk => by rw [fu_eq, getD_set (by rw [l34]; omega), if_neg (by omega)]; exact s4 k hk, fu_ne _ _ (by decide), by rw [fu_eq, getD_set (by rw [l34]; omega), if_pos rfl], fun q hq => by rw [fu_eq, getD_set (by rw [l34]; omega), if_neg (by omega)]⟩
  cases b with
  | false =>
    refine ⟨_, _, _, ?_, H3, (Fr.st h (o := 34) (by decide) (by decide) _).tr (Fr.st _ (by decide) (by decide) _), fun k h1 h2 h3 => by rw [fu_ne _ _ h2]; exact s1 k h1, fu_eq _ _ _, by rw [if_neg (by decide)]; exact k11, Q⟩
    rw [e_190_122, H.f10, H.f11, g11, H.f31, s5, dR_ref, as34, H2.p8, if_pos (show bI false = 0 from rfl), H3.f24, fu_ne _ _ (by decide), if_neg (by decide)]
  | true =>
    refine ⟨_, _, _, ?_, H4, ((Fr.st h (o := 34) (by decide) (by decide) _).tr (Fr.st _ (o := 28) (by decide) (by decide) _)).tr (Fr.st _ (by decide) (by decide) _), fun k h1 h2 h3 => by rw [fu_ne _ _ h3, fu_ne _ _ h2]; exact s1 k h1, by rw [fu_ne _ _ (by decide), fu_eq], by rw [if_pos rfl]; exact k11', Q⟩
    rw [e_190_122, H.f10, H.f11, g11, H.f31, s5, dR_ref, as34, H2.p8, if_neg (show ¬ bI true = 0 by decide), H3.f11, k11, nI_1, H3.p11, H4.f11, k11', nI_s1, if_pos rfl]
end RTX
