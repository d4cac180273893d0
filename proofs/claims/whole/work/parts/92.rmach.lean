/-! the reference runs the machine -/
def kc (u : Nat) : Int32 := if u = 40 then 0 else nI (rcd u)
def hld (u : Nat) : Prop := u = 40 ∨ u = 3 ∨ u = 4 ∨ u = 5 ∨ u = 60 ∨ u = 61 ∨ u = 43 ∨ u = 45 ∨ u = 42 ∨ u = 12
def ocn : List Nat → Nat
  | [] => 0
  | u :: K => (if u = 5 ∨ u = 12 ∨ u = 40 then 1 else 0) + ocn K
def MSt (F0 : Nat → Int32) (A0 : Nat → List Int32) (L : Nat) (F : Nat → Int32) (A : Nat → List Int32) (p b : Nat) (K : List Nat) (op : Nat) (out : List Nat) : Prop := (∀ k, (k < 23 ∨ 31 < k) → F k = F0 k) ∧ (∀ o, o ≠ 33 → o ≠ 40 → A o = A0 o) ∧ (∀ k, (k < 200 * L ∨ 200 * L + 200 ≤ k) → (A 33).getD k 0 = (A0 33).getD k 0) ∧ F 23 = nI p ∧ F 24 = nI b ∧ F 29 = nI K.length ∧ F 30 = nI op ∧ F 31 = nI out.length ∧ stk (A 40) (K.map kc) ∧ ∀ k, k < out.length → (A 33).getD (200 * L + k) 0 = nI (rcd (out.getD k 0))
/-- the bounds that go with it -/
def MB (i : Nat) (K : List Nat) (op : Nat) (out : List Nat) : Prop := K.length + out.length ≤ i ∧ i ≤ 180 ∧ (∀ u ∈ K, hld u) ∧ ocn K ≤ op ∧ op ≤ 5
theorem r_182 {u : Nat} (hu : hld u) (d : Nat) (h : MHeap) : call (d + 1) 182 [.int (kc u)] h = some (some (.int (nI (rk u))), h) := by
  rw [e_182]
  rcases hu with z | z | z | z | z | z | z | z | z | z <;> subst z <;> rfl
section RMA
variable {h : MHeap} {F F0 : Nat → Int32} {A A0 : Nat → List Int32} {L p b : Nat} {K : List Nat} {op : Nat} {out : List Nat}
theorem r_183 (H : RH h F A) (S : MSt F0 A0 L F A p b K op out) (e11 : F0 11 = nI L) (hL : L < 6) (ho : out.length < 200) (x : Nat) (d : Nat) : ∃ h' F' A', call (d + 1) 183 [.ref 28, .int (nI (rcd x))] h = some (none, h') ∧ RH h' F' A' ∧ Fr h h' ∧ MSt F0 A0 L F' A' p b K op (out ++ [x]) := by
  obtain ⟨s1, s2, s3, s4, s5, s6, s7, s8, s9, s10⟩ := S
  have l33 : (A 33).length = 1200 := (H.2 33 (by decide) (by decide)).2
  have f11 : F 11 = nI L := (s1 11 (by decide)).trans e11
  have H1 : RH (h.set 33 (100, ((A 33).set (200 * L + out.length) (nI (rcd x))).map .int)) F (fu A 33 ((A 33).set (200 * L + out.length) (nI (rcd x)))) := H.setA (by decide) (by decide) (by rw [List.length_set]; exact l33)
  have lo : (out ++ [x]).length = out.length + 1 := by rw [List.length_append]; rfl
  refine ⟨_, fu F 31 (nI (out.length + 1)), fu A 33 ((A 33).set (200 * L + out.length) (nI (rcd x))), ?_, H1.setF _, (Fr.st h (o := 33) (by decide) (by decide) _).tr (Fr.st _ (by decide) (by decide) _), ?_⟩
  · rw [e_183, H.f9, H.f11, H.f31, f11, s8, dR_ref, show (200 : Int32) = nI 200 from rfl, pk_mul, nI_add, H.as (by decide) (by decide) (show 200 * L + out.length < 1200 by omega), H1.f31, s8, nI_1, H1.p31]
  · refine ⟨fun k hk => by rw [fu_ne _ _ (by omega)]; exact s1 k hk, fun o h1 h2 => by rw [fu_ne _ _ h1]; exact s2 o h1 h2, fun k hk => ?_, by rw [fu_ne _ _ (by decide)]; exact s4, by rw [fu_ne _ _ (by decide)]; exact s5, by rw [fu_ne _ _ (by decide)]; exact s6, by rw [fu_ne _ _ (by decide)]; exact s7, by rw [fu_eq, lo], by rw [fu_ne _ _ (by decide)]; exact s9, fun k hk => ?_⟩
    · rw [fu_eq, getD_set (by rw [l33]; omega), if_neg (by omega)]; exact s3 k hk
    · rw [fu_eq, getD_set (by rw [l33]; omega)]
      by_cases q : k = out.length
      · subst q; rw [if_pos rfl]; simp
      · rw [if_neg (by omega), s10 k (by omega), List.getD_eq_getElem?_getD (l := out ++ [x]), List.getElem?_append_left (by omega), ← List.getD_eq_getElem?_getD]
theorem r_185 (H : RH h F A) (S : MSt F0 A0 L F A p b K op out) (hK : K.length < 200) (u : Nat) (d : Nat) : ∃ h' F' A', call (d + 1) 185 [.ref 28, .int (kc u)] h = some (none, h') ∧ RH h' F' A' ∧ Fr h h' ∧ MSt F0 A0 L F' A' p b (u :: K) op out := by
  obtain ⟨s1, s2, s3, s4, s5, s6, s7, s8, s9, s10⟩ := S
  have l40 : (A 40).length = 200 := (H.2 40 (by decide) (by decide)).2
  have H1 : RH (h.set 40 (100, ((A 40).set K.length (kc u)).map .int)) F (fu A 40 ((A 40).set K.length (kc u))) := H.setA (by decide) (by decide) (by rw [List.length_set]; exact l40)
  have sp := stk_push (v := kc u) s9 (by rw [List.length_map, l40]; exact hK)
  rw [List.length_map] at sp
  refine ⟨_, fu F 29 (nI (K.length + 1)), fu A 40 ((A 40).set K.length (kc u)), ?_, H1.setF _, (Fr.st h (o := 40) (by decide) (by decide) _).tr (Fr.st _ (by decide) (by decide) _), ?_⟩
  · rw [e_185, H.f28, H.f29, s6, dR_ref, H.as (by decide) (by decide) (show K.length < 200 from hK), H1.f29, s6, nI_1, H1.p29]
  · exact ⟨fun k hk => by rw [fu_ne _ _ (by omega)]; exact s1 k hk, fun o h1 h2 => by rw [fu_ne _ _ h2]; exact s2 o h1 h2, fun k hk => by rw [fu_ne _ _ (by decide)]; exact s3 k hk, by rw [fu_ne _ _ (by decide)]; exact s4, by rw [fu_ne _ _ (by decide)]; exact s5, fu_eq _ _ _, by rw [fu_ne _ _ (by decide)]; exact s7, by rw [fu_ne _ _ (by decide)]; exact s8, by rw [fu_eq]; exact sp, fun k hk => by rw [fu_ne _ _ (by decide)]; exact s10 k hk⟩
end RMA
theorem rcd_h {u : Nat} (hu : hld u) (h40 : u ≠ 40) : kc u = nI (rcd u) ∧ (kc u = 13 ↔ u = 5) ∧ (kc u = 19 ↔ u = 12) := by
  rcases hu with z | z | z | z | z | z | z | z | z | z <;> subst z
  · exact absurd rfl h40
  all_goals exact ⟨rfl, by decide, by decide⟩
theorem unw_b {r : Nat} (hr1 : 1 ≤ r) : ∀ (K : List Nat) (op : Nat) (out : List Nat) (i : Nat), MB i K op out → MB i (unw r K op out).1 (unw r K op out).2.1 (unw r K op out).2.2
  | [], op, out, i, B => B
  | u :: K, op, out, i, B => by
    show MB i (if rk u < r then (u :: K, op, out) else unw r K (opn u op) (out ++ [u])).1 (if rk u < r then (u :: K, op, out) else unw r K (opn u op) (out ++ [u])).2.1 (if rk u < r then (u :: K, op, out) else unw r K (opn u op) (out ++ [u])).2.2
    by_cases z : rk u < r
    · rw [if_pos z]; exact B
    · rw [if_neg z]
      obtain ⟨b1, b2, b3, b4, b5⟩ := B
      have b4 : (if u = 5 ∨ u = 12 ∨ u = 40 then 1 else 0) + ocn K ≤ op := b4
      have b1 : K.length + 1 + out.length ≤ i := b1
      refine unw_b hr1 K _ _ i ⟨by rw [List.length_append]; have : [u].length = 1 := rfl; omega, b2, fun v hv => b3 v (List.mem_cons_of_mem _ hv), ?_, ?_⟩
      · unfold opn
        split
        · rename_i y
          rw [if_pos (by omega)] at b4
          omega
        · omega
      · unfold opn
        split <;> omega
section RMA
variable {h : MHeap} {F F0 : Nat → Int32} {A A0 : Nat → List Int32} {L p b : Nat}
theorem r_184 (e11 : F0 11 = nI L) (hL : L < 6) {r : Nat} (hr1 : 1 ≤ r) (hr2 : r < 100) (d i : Nat) : ∀ (K : List Nat) (op : Nat) (out : List Nat) (h : MHeap) (F : Nat → Int32) (A : Nat → List Int32) (a : MSl), RH h F A → MSt F0 A0 L F A p b K op out → MB i K op out → ∃ h' F' A', ex (d + 1) 184 0 [sv (.ref 28), sv (.int (nI r)), a] [] h = some (none, h') ∧ RH h' F' A' ∧ Fr h h' ∧ MSt F0 A0 L F' A' p b (unw r K op out).1 (unw r K op out).2.1 (unw r K op out).2.2
  | [], op, out, h, F, A, a, H, S, B => by
    refine ⟨h, F, A, ?_, H, Fr.rf h, S⟩
    have s6 : F 29 = nI 0 := S.2.2.2.2.2.1
    rw [e_184_0, H.f29, s6, if_neg (by decide)]
  | u :: K, op, out, h, F, A, a, H, S, B => by
    show ∃ h' F' A', _ ∧ RH h' F' A' ∧ Fr h h' ∧ MSt F0 A0 L F' A' p b (if rk u < r then (u :: K, op, out) else unw r K (opn u op) (out ++ [u])).1 (if rk u < r then (u :: K, op, out) else unw r K (opn u op) (out ++ [u])).2.1 (if rk u < r then (u :: K, op, out) else unw r K (opn u op) (out ++ [u])).2.2
    have S0 := S
    obtain ⟨s1, s2, s3, s4, s5, s6, s7, s8, s9, s10⟩ := S
    have s6 : F 29 = nI (K.length + 1) := s6
    have B0 := B
    obtain ⟨b1, b2, b3, b4, b5⟩ := B
    have b4 : (if u = 5 ∨ u = 12 ∨ u = 40 then 1 else 0) + ocn K ≤ op := b4
    have b1 : K.length + 1 + out.length ≤ i := b1
    have hu : hld u := b3 u (List.mem_cons_self ..)
    have s9 : (A 40).getD (K.map kc).length 0 = kc u ∧ stk (A 40) (K.map kc) := s9
    rw [List.length_map] at s9
    have rkl : rk u < 8 := by rcases hu with z | z | z | z | z | z | z | z | z | z <;> subst z <;> decide
    rw [e_184_0, H.f29, s6, if_pos (show (0 : Int32) < nI (K.length + 1) from nI_lt (a := 0) (by omega) (by omega)), H.f28, H.f29, s6, dR_ref, nI_s1, H.al (by decide) (by decide) (show K.length < 200 by omega), s9.1, r_182 hu, cI_s]
    by_cases z : rk u < r
    · rw [if_pos (nI_lt z (by omega)), if_pos z]
      exact ⟨h, F, A, rfl, H, Fr.rf h, S0⟩
    · have n40 : u ≠ 40 := fun e => by subst e; exact z (by show 0 < r; omega)
      have kk := rcd_h hu n40
      have H1 := H.setF (fu F 29 (nI K.length))
      have g29 : (fu F 29 (nI K.length)) 29 = nI K.length := fu_eq _ _ _
      have g30 : (fu F 29 (nI K.length)) 30 = nI op := by rw [fu_ne _ _ (by decide)]; exact s7
      rw [if_neg (nI_nlt (by omega) (by omega)), if_neg z, H.f29, s6, nI_s1, H.p29, H1.f28, H1.f29, g29, dR_ref, H1.al (by decide) (by decide) (show K.length < 200 by omega), s9.1, H1.f30, g30]
      have v : ∀ (G : Nat → Int32) (m : Nat) (Q : Nat → MRes), RH ((h.set 28 (rC (fu F 29 (nI K.length)))).set 28 (rC G)) G A → vd none ((h.set 28 (rC (fu F 29 (nI K.length)))).set 28 (rC G)) 28 [12, m] Q = Q m := fun G m Q R => R.v m Q
      have go : ∀ (o2 : Nat), o2 = opn u op → ∃ h' F' A', (pfI none (h.set 28 (rC (fu F 29 (nI K.length)))) 28 [12] 30 (nI o2) fun h15 => vd none h15 28 [12, 183] fun m16 => cV (call (d + 1) m16 [.ref 28, .int (kc u)] h15) fun h17 => ex (d + 1) 184 0 [sv (.ref 28), sv (.int (nI r)), sv (.int (kc u))] [] h17) = some (none, h') ∧ RH h' F' A' ∧ Fr h h' ∧ MSt F0 A0 L F' A' p b (unw r K (opn u op) (out ++ [u])).1 (unw r K (opn u op) (out ++ [u])).2.1 (unw r K (opn u op) (out ++ [u])).2.2 := by
        intro o2 ho2
        have H2 := H1.setF (fu (fu F 29 (nI K.length)) 30 (nI o2))
        have S2 : MSt F0 A0 L (fu (fu F 29 (nI K.length)) 30 (nI o2)) A p b K (opn u op) out := ⟨fun k hk => by rw [fu_ne _ _ (by omega), fu_ne _ _ (by omega)]; exact s1 k hk, s2, s3, by rw [fu_ne _ _ (by decide), fu_ne _ _ (by decide)]; exact s4, by rw [fu_ne _ _ (by decide), fu_ne _ _ (by decide)]; exact s5, by rw [fu_ne _ _ (by decide), fu_eq], by rw [fu_eq, ho2], by rw [fu_ne _ _ (by decide), fu_ne _ _ (by decide)]; exact s8, s9.2, s10⟩
        obtain ⟨h3, F3, A3, c3, H3, G3, S3⟩ := r_183 H2 S2 e11 hL (by omega) u d
        have B3 : MB i K (opn u op) (out ++ [u]) := by
          have := unw_b (r := r) hr1 (u :: K) op out i B0
          refine ⟨by rw [List.length_append]; have : [u].length = 1 := rfl; omega, b2, fun v hv => b3 v (List.mem_cons_of_mem _ hv), ?_, ?_⟩
          · unfold opn
            split
            · rename_i y
              rw [if_pos (by omega)] at b4
              omega
            · omega
          · unfold opn
            split <;> omega
        obtain ⟨h4, F4, A4, c4, H4, G4, S4⟩ := r_184 e11 hL hr1 hr2 d i K (opn u op) (out ++ [u]) h3 F3 A3 (sv (.int (kc u))) H3 S3 B3
        refine ⟨h4, F4, A4, ?_, H4, (((Fr.st h (o := 28) (by decide) (by decide) _).tr (Fr.st _ (o := 28) (by decide) (by decide) _)).tr G3).tr G4, S4⟩
        rw [H1.p30, H2.v, kk.1, c3, cV_s, ← kk.1]
        exact c4
      by_cases y : u = 5
      · rw [if_pos (kk.2.1.2 y), show nI op - 1 = nI (op - 1) by
          rw [if_pos (by omega)] at b4
          rw [show (1 : Int32) = nI 1 from rfl, pk_sub (by omega)]]
        exact go (op - 1) (by unfold opn; rw [if_pos (by omega)])
      · rw [if_neg (fun e => y (kk.2.1.1 e))]
        by_cases x : u = 12
        · rw [if_pos (kk.2.2.2 x), show nI op - 1 = nI (op - 1) by
            rw [if_pos (by omega)] at b4
            rw [show (1 : Int32) = nI 1 from rfl, pk_sub (by omega)]]
          exact go (op - 1) (by unfold opn; rw [if_pos (by omega)])
        · rw [if_neg (fun e => x (kk.2.2.1 e)), show nI op - 0 = nI op by rw [show (0 : Int32) = nI 0 from rfl, pk_sub (by omega)]; rfl]
          exact go op (by unfold opn; rw [if_neg (by omega)])
end RMA
/-! the reference reads an expression -/
theorem rt_v {t : Nat} (ht : t ≤ 20001) : (rtT t = 1 ↔ (1000 ≤ t ∧ t < 20000)) ∧ (rtT t = 2 ↔ (6 ≤ t ∧ t ≤ 11)) ∧ (rtT t = 3 ↔ t < 3) ∧ (rtT t = 4 ↔ t = 3) ∧ (rtT t = 5 ↔ t = 4) ∧ (rtT t = 6 ↔ t = 5) ∧ (rtT t = 0 ↔ t = 20000) ∧ ∀ a, 12 ≤ a → a < 1000 → (rtT t = nI a ↔ t = a) := by
  have big : ∀ c, c < 12 → (rtT t = nI c) → ∀ a, 12 ≤ a → a < 1000 → t ≠ a → (rtT t = nI a ↔ t = a) := fun c hc e a h1 h2 h3 => ⟨fun x => by
    rw [e] at x
    have := (nI_eq (by omega) (by omega)).1 x
    omega, fun x => absurd x h3⟩
  rcases (show t = 0 ∨ t = 1 ∨ t = 2 ∨ t = 3 ∨ t = 4 ∨ t = 5 ∨ (6 ≤ t ∧ t ≤ 11) ∨ (12 ≤ t ∧ t < 1000) ∨ (1000 ≤ t ∧ t < 20000) ∨ t = 20000 ∨ t = 20001 by omega) with z | z | z | z | z | z | z | z | z | z | z
  · subst z; exact ⟨by decide, by decide, by decide, by decide, by decide, by decide, by decide, fun a h1 h2 => big 3 (by decide) rfl a h1 h2 (by omega)⟩
  · subst z; exact ⟨by decide, by decide, by decide, by decide, by decide, by decide, by decide, fun a h1 h2 => big 3 (by decide) rfl a h1 h2 (by omega)⟩
  · subst z; exact ⟨by decide, by decide, by decide, by decide, by decide, by decide, by decide, fun a h1 h2 => big 3 (by decide) rfl a h1 h2 (by omega)⟩
  · subst z; exact ⟨by decide, by decide, by decide, by decide, by decide, by decide, by decide, fun a h1 h2 => big 4 (by decide) rfl a h1 h2 (by omega)⟩
  · subst z; exact ⟨by decide, by decide, by decide, by decide, by decide, by decide, by decide, fun a h1 h2 => big 5 (by decide) rfl a h1 h2 (by omega)⟩
  · subst z; exact ⟨by decide, by decide, by decide, by decide, by decide, by decide, by decide, fun a h1 h2 => big 6 (by decide) rfl a h1 h2 (by omega)⟩
  · have e : rtT t = nI 2 := by
      unfold rtT
      rw [if_neg (by omega), if_neg (by omega), if_pos (by omega)]; rfl
    have n : ∀ c, c < 12 → c ≠ 2 → ¬ rtT t = nI c := fun c h1 h2 x => by
      rw [e] at x
      have := (nI_eq (by decide) (by omega)).1 x
      omega
    exact ⟨⟨fun x => absurd x (n 1 (by decide) (by decide)), fun x => by omega⟩, ⟨fun _ => z, fun _ => e⟩, ⟨fun x => absurd x (n 3 (by decide) (by decide)), fun x => by omega⟩, ⟨fun x => absurd x (n 4 (by decide) (by decide)), fun x => by omega⟩, ⟨fun x => absurd x (n 5 (by decide) (by decide)), fun x => by omega⟩, ⟨fun x => absurd x (n 6 (by decide) (by decide)), fun x => by omega⟩, ⟨fun x => absurd x (n 0 (by decide) (by decide)), fun x => by omega⟩, fun a h1 h2 => big 2 (by decide) e a h1 h2 (by omega)⟩
  · have e : rtT t = nI t := by
      unfold rtT
      rw [if_neg (by omega), if_neg (by omega), if_neg (by omega), if_neg (by omega), if_neg (by omega), if_neg (by omega)]
    have n : ∀ c, c < 12 → ¬ rtT t = nI c := fun c h1 x => by
      rw [e] at x
      have := (nI_eq (by omega) (by omega)).1 x
      omega
    exact ⟨⟨fun x => absurd x (n 1 (by decide)), fun x => by omega⟩, ⟨fun x => absurd x (n 2 (by decide)), fun x => by omega⟩, ⟨fun x => absurd x (n 3 (by decide)), fun x => by omega⟩, ⟨fun x => absurd x (n 4 (by decide)), fun x => by omega⟩, ⟨fun x => absurd x (n 5 (by decide)), fun x => by omega⟩, ⟨fun x => absurd x (n 6 (by decide)), fun x => by omega⟩, ⟨fun x => absurd x (n 0 (by decide)), fun x => by omega⟩, fun a h1 h2 => by rw [e]; exact nI_eq (by omega) (by omega)⟩
  · have e : rtT t = nI 1 := by
      unfold rtT
      rw [if_neg (by omega), if_neg (by omega), if_neg (by omega), if_neg (by omega), if_neg (by omega), if_pos (by omega)]; rfl
    have n : ∀ c, c < 12 → c ≠ 1 → ¬ rtT t = nI c := fun c h1 h2 x => by
      rw [e] at x
      have := (nI_eq (by decide) (by omega)).1 x
      omega
    exact ⟨⟨fun _ => z, fun _ => e⟩, ⟨fun x => absurd x (n 2 (by decide) (by decide)), fun x => by omega⟩, ⟨fun x => absurd x (n 3 (by decide) (by decide)), fun x => by omega⟩, ⟨fun x => absurd x (n 4 (by decide) (by decide)), fun x => by omega⟩, ⟨fun x => absurd x (n 5 (by decide) (by decide)), fun x => by omega⟩, ⟨fun x => absurd x (n 6 (by decide) (by decide)), fun x => by omega⟩, ⟨fun x => absurd x (n 0 (by decide) (by decide)), fun x => by omega⟩, fun a h1 h2 => big 1 (by decide) e a h1 h2 (by omega)⟩
  · subst z; exact ⟨by decide, by decide, by decide, by decide, by decide, by decide, by decide, fun a h1 h2 => big 0 (by decide) rfl a h1 h2 (by omega)⟩
  · subst z
    refine ⟨by decide, by decide, by decide, by decide, by decide, by decide, by decide, fun a h1 h2 => ⟨fun x => ?_, fun x => by omega⟩⟩
    have x : (-1 : Int32) = nI a := x
    exact absurd (show (-1 : Int32) < 0 by decide) (by rw [x]; exact nI_pos (by omega))
section RER
variable {h : MHeap} {F F0 : Nat → Int32} {A A0 : Nat → List Int32} {L p b : Nat} {K : List Nat} {op : Nat} {out : List Nat}
theorem r_188 (H : RH h F A) {t : Nat} (ht : t ≤ 20001) (e25 : F 25 = rtT t) (d : Nat) : call (d + 1) 188 [.ref 28] h = some (some (.int (if trk t = 0 then -1 else kc t)), h) := by
  have v := rt_v ht
  have v8 := v.2.2.2.2.2.2.2
  rw [e_188]
  simp only [H.f25, e25]
  by_cases z1 : t = 3
  · rw [if_pos (v.2.2.2.1.2 z1), z1]; rfl
  rw [if_neg (fun e => z1 (v.2.2.2.1.1 e))]
  by_cases z2 : t = 4
  · rw [if_pos (v.2.2.2.2.1.2 z2), z2]; rfl
  rw [if_neg (fun e => z2 (v.2.2.2.2.1.1 e))]
  by_cases z3 : t = 60
  · rw [if_pos (show rtT t = (60 : Int32) from (v8 60 (by decide) (by decide)).2 z3), z3]; rfl
  rw [if_neg (show ¬ rtT t = (60 : Int32) from fun e => z3 ((v8 60 (by decide) (by decide)).1 e))]
  by_cases z4 : t = 61
  · rw [if_pos (show rtT t = (61 : Int32) from (v8 61 (by decide) (by decide)).2 z4), z4]; rfl
  rw [if_neg (show ¬ rtT t = (61 : Int32) from fun e => z4 ((v8 61 (by decide) (by decide)).1 e))]
  by_cases z5 : t = 43
  · rw [if_pos (show rtT t = (43 : Int32) from (v8 43 (by decide) (by decide)).2 z5), z5]; rfl
  rw [if_neg (show ¬ rtT t = (43 : Int32) from fun e => z5 ((v8 43 (by decide) (by decide)).1 e))]
  by_cases z6 : t = 45
  · rw [if_pos (show rtT t = (45 : Int32) from (v8 45 (by decide) (by decide)).2 z6), z6]; rfl
  rw [if_neg (show ¬ rtT t = (45 : Int32) from fun e => z6 ((v8 45 (by decide) (by decide)).1 e))]
  by_cases z7 : t = 42
  · rw [if_pos (show rtT t = (42 : Int32) from (v8 42 (by decide) (by decide)).2 z7), z7]; rfl
  rw [if_neg (show ¬ rtT t = (42 : Int32) from fun e => z7 ((v8 42 (by decide) (by decide)).1 e)), show trk t = 0 by unfold trk; rw [if_neg z1, if_neg z2, if_neg z3, if_neg z4, if_neg z5, if_neg z6, if_neg z7]]
  rfl
theorem r_186 (H : RH h F A) (S : MSt F0 A0 L F A p b K op out) {i : Nat} (B : MB i K op out) (hi : i < 180) {u : Nat} (hu : u = 5 ∨ u = 12 ∨ u = 40) (d : Nat) : (op = 5 → call (d + 2) 186 [.ref 28, .int (kc u)] h = some (some (.int 0), h)) ∧ (op ≠ 5 → ∃ h' F' A', call (d + 2) 186 [.ref 28, .int (kc u)] h = some (some (.int 1), h') ∧ RH h' F' A' ∧ Fr h h' ∧ MSt F0 A0 L F' A' p b (u :: K) (op + 1) out ∧ MB (i + 1) (u :: K) (op + 1) out) := by
  have S0 := S
  obtain ⟨s1, s2, s3, s4, s5, s6, s7, s8, s9, s10⟩ := S
  obtain ⟨b1, b2, b3, b4, b5⟩ := B
  constructor
  · intro e
    rw [e_186, H.f30, s7, e, if_pos (by decide), zr_0]
  · intro e
    have H1 := H.setF (fu F 30 (nI (op + 1)))
    have S1 : MSt F0 A0 L (fu F 30 (nI (op + 1))) A p b K (op + 1) out := ⟨fun k hk => by rw [fu_ne _ _ (by omega)]; exact s1 k hk, s2, s3, by rw [fu_ne _ _ (by decide)]; exact s4, by rw [fu_ne _ _ (by decide)]; exact s5, by rw [fu_ne _ _ (by decide)]; exact s6, fu_eq _ _ _, by rw [fu_ne _ _ (by decide)]; exact s8, s9, s10⟩
    obtain ⟨h2, F2, A2, c2, H2, G2, S2⟩ := r_185 H1 S1 (by omega) u d
    refine ⟨h2, F2, A2, ?_, H2, (Fr.st h (o := 28) (by decide) (by decide) _).tr G2, S2, ?_⟩
    · rw [e_186, H.f30, s7, if_neg (show ¬ nI op = (5 : Int32) from fun x => e ((nI_eq (b := 5) (by omega) (by decide)).1 x)), H.f30, s7, nI_1, H.p30, H1.v, c2, cV_s, zr_1]
    · refine ⟨by show K.length + 1 + out.length ≤ i + 1; omega, by omega, fun v hv => ?_, ?_, by omega⟩
      · rcases List.mem_cons.1 hv with z | z
        · subst z; unfold hld; omega
        · exact b3 v z
      · show (if u = 5 ∨ u = 12 ∨ u = 40 then 1 else 0) + ocn K ≤ op + 1
        rw [if_pos hu]; omega
theorem r_187 (H : RH h F A) (S : MSt F0 A0 L F A p b K op out) (e11 : F0 11 = nI L) (hL : L < 6) {i : Nat} (B : MB i K op out) (hi : i < 180) {t : Nat} (ht : trk t ≠ 0) (d : Nat) : ∃ h' F' A', RH h' F' A' ∧ Fr h h' ∧ ((trk t = 4 ∧ hr (unw (if trk t = 4 then 5 else trk t) K op out).1 = 4 ∧ call (d + 3) 187 [.ref 28, .int (kc t)] h = some (some (.int 0), h') ∧ MSt F0 A0 L F' A' p b (unw (if trk t = 4 then 5 else trk t) K op out).1 (unw (if trk t = 4 then 5 else trk t) K op out).2.1 (unw (if trk t = 4 then 5 else trk t) K op out).2.2) ∨ (¬ (trk t = 4 ∧ hr (unw (if trk t = 4 then 5 else trk t) K op out).1 = 4) ∧ call (d + 3) 187 [.ref 28, .int (kc t)] h = some (some (.int 1), h') ∧ MSt F0 A0 L F' A' p b (t :: (unw (if trk t = 4 then 5 else trk t) K op out).1) (unw (if trk t = 4 then 5 else trk t) K op out).2.1 (unw (if trk t = 4 then 5 else trk t) K op out).2.2 ∧ MB (i + 1) (t :: (unw (if trk t = 4 then 5 else trk t) K op out).1) (unw (if trk t = 4 then 5 else trk t) K op out).2.1 (unw (if trk t = 4 then 5 else trk t) K op out).2.2)) := by
  have tv := trk_v t
  have hu : hld t := by unfold hld; omega
  have rkt : rk t = trk t := by unfold rk; rw [if_neg (by omega), if_neg (by omega)]
  have r18 : ∀ (d : Nat) (h : MHeap), call (d + 1) 182 [.int (kc t)] h = some (some (.int (nI (trk t))), h) := fun d h => by rw [r_182 hu, rkt]
  have n5 : t ≠ 5 ∧ t ≠ 12 ∧ t ≠ 40 := by omega
  have mb : ∀ {K : List Nat} {op : Nat} {out : List Nat}, MB i K op out → MB (i + 1) (t :: K) op out := fun {K op out} B => by
    obtain ⟨b1, b2, b3, b4, b5⟩ := B
    refine ⟨by show K.length + 1 + out.length ≤ i + 1; omega, by omega, fun v hv => ?_, ?_, b5⟩
    · rcases List.mem_cons.1 hv with z | z
      · subst z; exact hu
      · exact b3 v z
    · show (if t = 5 ∨ t = 12 ∨ t = 40 then 1 else 0) + ocn K ≤ op
      rw [if_neg (by omega)]; omega
  by_cases z : trk t = 4
  · have r5 : (if trk t = 4 then 5 else trk t) = 5 := if_pos z
    rw [r5]
    obtain ⟨h1, F1, A1, c1, H1, G1, S1⟩ := r_184 (F0 := F0) (A0 := A0) (p := p) (b := b) e11 hL (r := 5) (by decide) (by decide) d i K op out h F A none H S B
    have B1 := unw_b (r := 5) (by decide) K op out i B
    have c1' : call (d + 2) 184 [.ref 28, .int 5] h = some (none, h1) := by rw [e_184]; exact c1
    generalize (unw 5 K op out).1 = K1 at *
    generalize (unw 5 K op out).2.1 = op1 at *
    generalize (unw 5 K op out).2.2 = out1 at *
    have s6 := S1.2.2.2.2.2.1
    obtain ⟨h2, F2, A2, c2, H2, G2, S2⟩ := r_185 H1 S1 (by have := B1.1; have := B1.2.1; omega) t (d + 1)
    have e0 : call (d + 3) 187 [.ref 28, .int (kc t)] h = if (0 : Int32) < nI K1.length then (gfV none h1 28 [12] 28 fun v8 => gfI none h1 28 [12] 29 fun x9 => dR none v8 fun o11 => alI none h1 o11 (x9 - 1) fun x10 => cI (call (d + 2) 182 [.int x10] h1) fun x13 h12 => if x13 = 4 then zr none 0 (some (some (.int 0), h12)) else vd none h12 28 [12, 185] fun m14 => cV (call (d + 2) m14 [.ref 28, .int (kc t)] h12) fun h15 => zr none 1 (some (some (.int 1), h15))) else some (some (.int 1), h2) := by
      rw [e_187, r18, cI_s, z, if_pos (show nI 4 = (4 : Int32) from rfl), H.v, c1', cV_s, r18, cI_s, z, if_pos (show nI 4 = (4 : Int32) from rfl), H1.f29, s6]
      by_cases y : (0 : Int32) < nI K1.length
      · rw [if_pos y, if_pos y]
      · rw [if_neg y, if_neg y, H1.v, c2, cV_s, zr_1]
    rw [e0]
    cases K1 with
    | nil =>
      refine ⟨h2, F2, A2, H2, G1.tr G2, Or.inr ⟨fun e => (by cases e.2), ?_, S2, mb B1⟩⟩
      rw [if_neg (show ¬ (0 : Int32) < nI ([] : List Nat).length by decide)]
    | cons u K2 =>
      have hu2 : hld u := B1.2.2.1 u (List.mem_cons_self ..)
      have ln : (u :: K2).length = K2.length + 1 := rfl
      have bb := B1.1
      have b9 : (A1 40).getD (K2.map kc).length 0 = kc u := S1.2.2.2.2.2.2.2.2.1.1
      rw [List.length_map] at b9
      have rl : rk u < 8 := by rcases hu2 with z | z | z | z | z | z | z | z | z | z <;> subst z <;> decide
      rw [ln, if_pos (show (0 : Int32) < nI (K2.length + 1) from nI_lt (a := 0) (by omega) (by omega)), H1.f28, H1.f29, s6, ln, dR_ref, nI_s1, H1.al (by decide) (by decide) (show K2.length < 200 by omega), b9, r_182 hu2, cI_s]
      by_cases y : rk u = 4
      · refine ⟨h1, F1, A1, H1, G1, Or.inl ⟨z, y, ?_, S1⟩⟩
        rw [y, if_pos (show nI 4 = (4 : Int32) from rfl), zr_0]
      · refine ⟨h2, F2, A2, H2, G1.tr G2, Or.inr ⟨fun e => y e.2, ?_, S2, mb B1⟩⟩
        rw [if_neg (show ¬ nI (rk u) = (4 : Int32) from fun e => y ((nI_eq (b := 4) (by omega) (by decide)).1 e)), H1.v, c2, cV_s, zr_1]
  · have r5 : (if trk t = 4 then 5 else trk t) = trk t := if_neg z
    rw [r5]
    obtain ⟨h1, F1, A1, c1, H1, G1, S1⟩ := r_184 (F0 := F0) (A0 := A0) (p := p) (b := b) e11 hL (r := trk t) (by omega) (by omega) d i K op out h F A none H S B
    have B1 := unw_b (r := trk t) (by omega) K op out i B
    have c1' : call (d + 2) 184 [.ref 28, .int (nI (trk t))] h = some (none, h1) := by rw [e_184]; exact c1
    obtain ⟨h2, F2, A2, c2, H2, G2, S2⟩ := r_185 H1 S1 (by have := B1.1; have := B1.2.1; omega) t (d + 1)
    refine ⟨h2, F2, A2, H2, G1.tr G2, Or.inr ⟨fun e => z e.1, ?_, S2, mb B1⟩⟩
    have n4 : ¬ nI (trk t) = (4 : Int32) := fun e => z ((nI_eq (b := 4) (by omega) (by decide)).1 e)
    rw [e_187, r18, cI_s, if_neg n4, r18, cI_s, H.v, c1', cV_s, r18, cI_s, if_neg n4, H1.v, c2, cV_s, zr_1]
end RER
