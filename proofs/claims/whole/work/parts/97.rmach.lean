/-! the reference runs the machine -/
def kc (u : Nat) : Int32 := if u = 40 then 0 else nI (rcd u)
def hld (u : Nat) : Prop := u = 40 ∨ u = 3 ∨ u = 4 ∨ u = 5 ∨ u = 60 ∨ u = 61 ∨ u = 43 ∨ u = 45 ∨ u = 42 ∨ u = 12
def ocn : List Nat → Nat
  | [] => 0
  | u :: K => (if u = 5 ∨ u = 12 ∨ u = 40 then 1 else 0) + ocn K
def MSt (F0 : Nat → Int32) (A0 : Nat → List Int32) (L : Nat) (F : Nat → Int32) (A : Nat → List Int32) (p b : Nat) (K : List Nat) (op : Nat) (out : List Nat) : Prop := (∀ k, (k < 23 ∨ 31 < k) → F k = F0 k) ∧ (∀ o, o ≠ 33 → o ≠ 40 → A o = A0 o) ∧ (∀ k, (k < 200 * L ∨ 200 * L + 200 ≤ k) → (A 33).getD k 0 = (A0 33).getD k 0) ∧ F 23 = nI p ∧ F 24 = nI b ∧ F 29 = nI K.length ∧ F 30 = nI op ∧ F 31 = nI out.length ∧ stk (A 40) (K.map kc) ∧ ∀ k, k < out.length → (A 33).getD (200 * L + k) 0 = nI (rcd (out.getD k 0))
/-- the bounds that go with it -/
def MB (i : Nat) (K : List Nat) (op : Nat) (out : List Nat) : Prop := K.length + out.length ≤ i ∧ i ≤ 180 ∧ (∀ u ∈ K, hld u) ∧ ocn K ≤ op ∧ op ≤ 5
theorem r_182 {u : Nat} (hu : hld u) (d : Nat) (h : MHeap) : call (d + 1) 182 [.int (kc u)] h = some (some (.int (nI (rk u))), h) := by
  rw [e_182]
  rcases hu with z | z | z | z | z | z | z | z | z | z <;> subst z <;> rfl
section RMA
variable {h : MHeap} {F F0 : Nat → Int32} {A A0 : Nat → List Int32} {L p b : Nat} {K : List Nat} {op : Nat} {out : List Nat}
theorem r_183 (H : RH h F A) (S : MSt F0 A0 L F A p b K op out) (e11 : F0 11 = nI L) (hL : L < 6) (ho : out.length < 200) (x : Nat) (d : Nat) : ∃ h' F' A', call (d + 1) 183 [.ref 28, .int (nI (rcd x))] h = some (none, h') ∧ RH h' F' A' ∧ Fr h h' ∧ MSt F0 A0 L F' A' p b K op (out ++ [x]) := by
  obtain ⟨s1, s2, s3, s4, s5, s6, s7, s8, s9, s10⟩ := S
  have l33 : (A 33).length = 1200 := (H.2 33 (by decide) (by decide)).2
  have f11 : F 11 = nI L := (s1 11 (by decide)).trans e11
  have H1 : RH (h.set 33 (100, ((A 33).set (200 * L + out.length) (nI (rcd x))).map .int)) F (fu A 33 ((A 33).set (200 * L + out.length) (nI (rcd x)))) := H.setA (by decide) (by decide) (by rw [List.length_set]; exact l33)
  have lo : (out ++ [x]).length = out.length + 1 := by rw [List.length_append]; rfl
  refine ⟨_, fu F 31 (nI (out.length + 1)), fu A 33 ((A 33).set (200 * L + out.length) (nI (rcd x))), ?_, H1.setF _, (Fr.st h (o := 33) (by decide) (by decide) _).tr (Fr.st _ (by decide) (by decide) _), ?_⟩
  · rw [e_183, H.f9, H.f11, H.f31, f11, s8, dR_ref, show (200 : Int32) = nI 200 from rfl, pk_mul, nI_add, H.as (by decide) (by decide) (show 200 * L + out.length < 1200 by omega), H1.f31, s8, nI_1, H1.p31]
  · refine ⟨fun k hk => by rw [fu_ne _ _ (by omega)]; exact s1 k hk, fun o h1 h2 => by rw [fu_ne _ _ h1]; exact s2 o h1 h2, fun k hk => ?_, by rw [fu_ne _ _ (by decide)]; exact s4, by rw [fu_ne _ _ (by decide)]; exact s5, by rw [fu_ne _ _ (by decide)]; exact s6, by rw [fu_ne _ _ (by decide)]; exact s7, by rw [fu_eq, lo], by rw [fu_ne _ _ (by decide)]; exact s9, fun k hk => ?_⟩
    · rw [fu_eq, getD_set (by rw [l33]; omega), if_neg (by omega)]; exact s3 k hk
    · rw [fu_eq, getD_set (by rw [l33]; omega)]
      by_cases q : k = out.length
      · subst q; rw [if_pos rfl]; simp
      · rw [if_neg (by omega), s10 k (by omega), List.getD_eq_getElem?_getD (l := out ++ [x]), List.getElem?_append_left (by omega), ← List.getD_eq_getElem?_getD]
theorem r_185 (H : RH h F A) (S : MSt F0 A0 L F A p b K op out) (hK : K.length < 200) (u : Nat) (d : Nat) : ∃ h' F' A', call (d + 1) 185 [.ref 28, .int (kc u)] h = some (none, h') ∧ RH h' F' A' ∧ Fr h h' ∧ MSt F0 A0 L F' A' p b (u :: K) op out := by
  obtain ⟨s1, s2, s3, s4, s5, s6, s7, s8, s9, s10⟩ := S
  have l40 : (A 40).length = 200 := (H.2 40 (by decide) (by decide)).2
  have H1 : RH (h.set 40 (100, ((A 40).set K.length (kc u)).map .int)) F (fu A 40 ((A 40).set K.length (kc u))) := H.setA (by decide) (by decide) (by rw [List.length_set]; exact l40)
  have sp := stk_push (v := kc u) s9 (by rw [List.length_map, l40]; exact hK)
  rw [List.length_map] at sp
  refine ⟨_, fu F 29 (nI (K.length + 1)), fu A 40 ((A 40).set K.length (kc u)), ?_, H1.setF _, (Fr.st h (o := 40) (by decide) (by decide) _).tr (Fr.st _ (by decide) (by decide) _), ?_⟩
  · rw [e_185, H.f28, H.f29, s6, dR_ref, H.as (by decide) (by decide) (show K.length < 200 from hK), H1.f29, s6, nI_1, H1.p29]
  · exact ⟨fun k hk => by rw [fu_ne _ _ (by omega)]; exact s1 k hk, fun o h1 h2 => by rw [fu_ne _ _ h2]; exact s2 o h1 h2, fun k hk => by rw [fu_ne _ _ (by decide)]; exact s3 k hk, by rw [fu_ne _ _ (by decide)]; exact s4, by rw [fu_ne _ _ (by decide)]; exact s5, fu_eq _ _ _, by rw [fu_ne _ _ (by decide)]; exact s7, by rw [fu_ne _ _ (by decide)]; exact s8, by rw [fu_eq]; exact sp, fun k hk => by rw [fu_ne _ _ (by decide)]; exact s10 k hk⟩
end RMA
theorem rcd_h {u : Nat} (hu : hld u) (h40 : u ≠ 40) : kc u = nI (rcd u) ∧ (kc u = 13 ↔ u = 5) ∧ (kc u = 19 ↔ u = 12) := by
  rcases hu with z | z | z | z | z | z | z | z | z | z <;> subst z
  · exact absurd rfl h40
  all_goals exact ⟨rfl, by decide, by decide⟩
theorem unw_b {r : Nat} (hr1 : 1 ≤ r) : ∀ (K : List Nat) (op : Nat) (out : List Nat) (i : Nat), MB i K op out → MB i (unw r K op out).1 (unw r K op out).2.1 (unw r K op out).2.2
  | [], op, out, i, B => B
  | u :: K, op, out, i, B => by
    show MB i (if rk u < r then (u :: K, op, out) else unw r K (opn u op) (out ++ [u])).1 (if rk u < r then (u :: K, op, out) else unw r K (opn u op) (out ++ [u])).2.1 (if rk u < r then (u :: K, op, out) else unw r K (opn u op) (out ++ [u])).2.2
    by_cases z : rk u < r
    · rw [if_pos z]; exact B
    · rw [if_neg z]
      obtain ⟨b1, b2, b3, b4, b5⟩ := B
      have b4 : (if u = 5 ∨ u = 12 ∨ u = 40 then 1 else 0) + ocn K ≤ op := b4
      have b1 : K.length + 1 + out.length ≤ i := b1
      refine unw_b hr1 K _ _ i ⟨by rw [List.length_append]; have : [u].length = 1 := rfl; omega, b2, fun v hv => b3 v (List.mem_cons_of_mem _ hv), ?_, ?_⟩
      · unfold opn
        split
        · rename_i y
          rw [if_pos (by omega)] at b4
          omega
        · omega
      · unfold opn
        split <;> omega
section RMA
variable {h : MHeap} {F F0 : Nat → Int32} {A A0 : Nat → List Int32} {L p b : Nat}
theorem r_184 (e11 : F0 11 = nI L) (hL : L < 6) {r : Nat} (hr1 : 1 ≤ r) (hr2 : r < 100) (d i : Nat) : ∀ (K : List Nat) (op : Nat) (out : List Nat) (h : MHeap) (F : Nat → Int32) (A : Nat → List Int32) (a : MSl), RH h F A → MSt F0 A0 L F A p b K op out → MB i K op out → ∃ h' F' A', ex (d + 1) 184 0 [sv (.ref 28), sv (.int (nI r)), a] [] h = some (none, h') ∧ RH h' F' A' ∧ Fr h h' ∧ MSt F0 A0 L F' A' p b (unw r K op out).1 (unw r K op out).2.1 (unw r K op out).2.2
  | [], op, out, h, F, A, a, H, S, B => by
    refine ⟨h, F, A, ?_, H, Fr.rf h, S⟩
    have s6 : F 29 = nI 0 := S.2.2.2.2.2.1
    rw [e_184_0, H.f29, s6, if_neg (by decide)]
  | u :: K, op, out, h, F, A, a, H, S, B => by
    show ∃ h' F' A', _ ∧ RH h' F' A' ∧ Fr h h' ∧ MSt F0 A0 L F' A' p b (if rk u < r then (u :: K, op, out) else unw r K (opn u op) (out ++ [u])).1 (if rk u < r then (u :: K, op, out) else unw r K (opn u op) (out ++ [u])).2.1 (if rk u < r then (u :: K, op, out) else unw r K (opn u op) (out ++ [u])).2.2
    have S0 := S
    obtain ⟨s1, s2, s3, s4, s5, s6, s7, s8, s9, s10⟩ := S
    have s6 : F 29 = nI (K.length + 1) := s6
    have B0 := B
    obtain ⟨b1, b2, b3, b4, b5⟩ := B
    have b4 : (if u = 5 ∨ u = 12 ∨ u = 40 then 1 else 0) + ocn K ≤ op := b4
    have b1 : K.length + 1 + out.length ≤ i := b1
    have hu : hld u := b3 u (List.mem_cons_self ..)
    have s9 : (A 40).getD (K.map kc).length 0 = kc u ∧ stk (A 40) (K.map kc) := s9
    rw [List.length_map] at s9
    have rkl : rk u < 8 := by rcases hu with z | z | z | z | z | z | z | z | z | z <;> subst z <;> decide
    rw [e_184_0, H.f29, s6, if_pos (show (0 : Int32) < nI (K.length + 1) from nI_lt (a := 0) (by omega) (by omega)), H.f28, H.f29, s6, dR_ref, nI_s1, H.al (by decide) (by decide) (show K.length < 200 by omega), s9.1, r_182 hu, cI_s]
    by_cases z : rk u < r
    · rw [if_pos (nI_lt z (by omega)), if_pos z]
      exact ⟨h, F, A, rfl, H, Fr.rf h, S0⟩
    · have n40 : u ≠ 40 := fun e => by subst e; exact z (by show 0 < r; omega)
      have kk := rcd_h hu n40
      have H1 := H.setF (fu F 29 (nI K.length))
      have g29 : (fu F 29 (nI K.length)) 29 = nI K.length := fu_eq _ _ _
      have g30 : (fu F 29 (nI K.length)) 30 = nI op := by rw [fu_ne _ _ (by decide)]; exact s7
      rw [if_neg (nI_nlt (by omega) (by omega)), if_neg z, H.f29, s6, nI_s1, H.p29, H1.f28, H1.f29, g29, dR_ref, H1.al (by decide) (by decide) (show K.length < 200 by omega), s9.1, H1.f30, g30]
      have v : ∀ (G : Nat → Int32) (m : Nat) (Q : Nat → MRes), RH ((h.set 28 (rC (fu F 29 (nI K.length)))).set 28 (rC G)) G A → vd none ((h.set 28 (rC (fu F 29 (nI K.length)))).set 28 (rC G)) 28 [12, m] Q = Q m := fun G m Q R => R.v m Q
      have go : ∀ (o2 : Nat), o2 = opn u op → ∃ h' F' A', (pfI none (h.set 28 (rC (fu F 29 (nI K.length)))) 28 [12] 30 (nI o2) fun h15 => vd none h15 28 [12, 183] fun m16 => cV (call (d + 1) m16 [.ref 28, .int (kc u)] h15) fun h17 => ex (d + 1) 184 0 [sv (.ref 28), sv (.int (nI r)), sv (.int (kc u))] [] h17) = some (none, h') ∧ RH h' F' A' ∧ Fr h h' ∧ MSt F0 A0 L F' A' p b (unw r K (opn u op) (out ++ [u])).1 (unw r K (opn u op) (out ++ [u])).2.1 (unw r K (opn u op) (out ++ [u])).2.2 := by
        intro o2 ho2
        have H2 := H1.setF (fu (fu F 29 (nI K.length)) 30 (nI o2))
        have S2 : MSt F0 A0 L (fu (fu F 29 (nI K.length)) 30 (nI o2)) A p b K (opn u op) out := ⟨fun k hk => by rw [fu_ne _ _ (by omega), fu_ne _ _ (by omega)]; exact s1 k hk, s2, s3, by rw [fu_ne _ _ (by decide), fu_ne _ _ (by decide)]; exact s4, by rw [fu_ne _ _ (by decide), fu_ne _ _ (by decide)]; exact s5, by rw [fu_ne _ _ (by decide), fu_eq], by rw [fu_eq, ho2], by rw [fu_ne _ _ (by decide), fu_ne _ _ (by decide)]; exact s8, s9.2, s10⟩
        obtain ⟨h3, F3, A3, c3, H3, G3, S3⟩ := r_183 H2 S2 e11 hL (by omega) u d
        have B3 : MB i K (opn u op) (out ++ [u]) := by
          have := unw_b (r := r) hr1 (u :: K) op out i B0
          refine ⟨by rw [List.length_append]; have : [u].length = 1 := rfl; omega, b2, fun v hv => b3 v (List.mem_cons_of_mem _ hv), ?_, ?_⟩
          · unfold opn
            split
            · rename_i y
              rw [if_pos (by omega)] at b4
              omega
            · omega
          · unfold opn
            split <;> omega
        obtain ⟨h4, F4, A4, c4, H4, G4, S4⟩ := r_184 e11 hL hr1 hr2 d i K (opn u op) (out ++ [u]) h3 F3 A3 (sv (.int (kc u))) H3 S3 B3
        refine ⟨h4, F4, A4, ?_, H4, (((Fr.st h (o := 28) (by decide) (by decide) _).tr (Fr.st _ (o := 28) (by decide) (by decide) _)).tr G3).tr G4, S4⟩
        rw [H1.p30, H2.v, kk.1, c3, cV_s, ← kk.1]
        exact c4
      by_cases y : u = 5
      · rw [if_pos (kk.2.1.2 y), show nI op - 1 = nI (op - 1) by
          rw [if_pos (by omega)] at b4
          rw [show (1 : Int32) = nI 1 from rfl, pk_sub (by omega)]]
        exact go (op - 1) (by unfold opn; rw [if_pos (by omega)])
      · rw [if_neg (fun e => y (kk.2.1.1 e))]
        by_cases x : u = 12
        · rw [if_pos (kk.2.2.2 x), show nI op - 1 = nI (op - 1) by
            rw [if_pos (by omega)] at b4
            rw [show (1 : Int32) = nI 1 from rfl, pk_sub (by omega)]]
          exact go (op - 1) (by unfold opn; rw [if_pos (by omega)])
        · rw [if_neg (fun e => x (kk.2.2.1 e)), show nI op - 0 = nI op by rw [show (0 : Int32) = nI 0 from rfl, pk_sub (by omega)]; rfl]
          exact go op (by unfold opn; rw [if_neg (by omega)])
end RMA
