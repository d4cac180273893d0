/-! the loop of the reference's expression -/
theorem MSt.fn {F0 F F1 : Nat → Int32} {A0 A : Nat → List Int32} {L p b p1 b1 : Nat} {K : List Nat} {op : Nat} {out : List Nat} (S : MSt F0 A0 L F A p b K op out) (N : FN F F1) (e3 : F1 23 = nI p1) (e4 : F1 24 = nI b1) : MSt F0 A0 L F1 A p1 b1 K op out := by
  obtain ⟨s1, s2, s3, s4, s5, s6, s7, s8, s9, s10⟩ := S
  exact ⟨fun k hk => (N k (by omega)).trans (s1 k hk), s2, s3, e3, e4, (N 29 (by decide)).trans s6, (N 30 (by decide)).trans s7, (N 31 (by decide)).trans s8, s9, s10⟩
/-- what the reader leaves -/
def ERes (F0 : Nat → Int32) (A0 : Nat → List Int32) (L : Nat) (tp : List Nat) (h : MHeap) (j : Nat) (r : Option (List Nat)) (x : MRes) : Prop := ∃ h' F' A' p' K' op' out', x = some (some (.int (bI r.isSome)), h') ∧ RH h' F' A' ∧ Fr h h' ∧ MSt F0 A0 L F' A' p' (tkb tp j) K' op' out' ∧ ∀ o, r = some o → p' = tkp tp (j + 1) ∧ out' = o
theorem ERes.tr {F0 : Nat → Int32} {A0 : Nat → List Int32} {L : Nat} {tp : List Nat} {h h1 : MHeap} {j : Nat} {r : Option (List Nat)} {x : MRes} (G : Fr h h1) (E : ERes F0 A0 L tp h1 j r x) : ERes F0 A0 L tp h j r x := by
  obtain ⟨h', F', A', p', K', op', out', e1, e2, e3, e4⟩ := E
  exact ⟨h', F', A', p', K', op', out', e1, e2, G.tr e3, e4⟩
theorem unw_hd {r : Nat} : ∀ (K : List Nat) (op : Nat) (out : List Nat) (u : Nat) (K1 : List Nat) (op1 : Nat) (o1 : List Nat), unw r K op out = (u :: K1, op1, o1) → rk u < r
  | [], op, out, u, K1, op1, o1, h => by cases h
  | x :: K, op, out, u, K1, op1, o1, h => by
    have h : (if rk x < r then (x :: K, op, out) else unw r K (opn x op) (out ++ [x])) = (u :: K1, op1, o1) := h
    by_cases z : rk x < r
    · rw [if_pos z] at h
      cases h; exact z
    · rw [if_neg z] at h
      exact unw_hd K _ _ u K1 op1 o1 h
theorem itm_rcd {t : Nat} (h : itm t = true) : (1000 ≤ t ∧ t < 20000 ∧ (100000 : Int32) + nI (t - 1000) = nI (rcd t)) ∨ (6 ≤ t ∧ t ≤ 11 ∧ nI (t - 6) = nI (rcd t)) := by
  rcases (itm_lt h).2 with z | z
  · refine Or.inl ⟨z.1, z.2, ?_⟩
    unfold rcd
    rw [if_pos z.1, show (100000 : Int32) = nI 100000 from rfl, nI_add, Nat.add_comm]
  · refine Or.inr ⟨z.1, z.2, ?_⟩
    unfold rcd
    rw [if_neg (by omega), if_pos z]
section RLP
variable {F0 : Nat → Int32} {A0 : Nat → List Int32} {L : Nat} {tp : List Nat}
theorem r_184c {h : MHeap} {F : Nat → Int32} {A : Nat → List Int32} {p b : Nat} {K : List Nat} {op : Nat} {out : List Nat} (H : RH h F A) (S : MSt F0 A0 L F A p b K op out) (e11 : F0 11 = nI L) (hL : L < 6) {i : Nat} (B : MB i K op out) {r : Nat} (hr1 : 1 ≤ r) (hr2 : r < 100) (d : Nat) : ∃ h' F' A', call (d + 2) 184 [.ref 28, .int (nI r)] h = some (none, h') ∧ RH h' F' A' ∧ Fr h h' ∧ MSt F0 A0 L F' A' p b (unw r K op out).1 (unw r K op out).2.1 (unw r K op out).2.2 ∧ MB i (unw r K op out).1 (unw r K op out).2.1 (unw r K op out).2.2 := by
  obtain ⟨h1, F1, A1, c1, H1, G1, S1⟩ := r_184 (F0 := F0) (A0 := A0) (p := p) (b := b) e11 hL hr1 hr2 d i K op out h F A none H S B
  exact ⟨h1, F1, A1, by rw [e_184]; exact c1, H1, G1, S1, unw_b hr1 K op out i B⟩
theorem r_loop (e11 : F0 11 = nI L) (hL : L < 6) (e8 : F0 8 = nI tp.length) (hb : ∀ i, i < tp.length → (A0 32).getD i 0 = nI (by1 tp i)) (hw : A0 39 = wds) (ht : tp.length ≤ 160) (o6 : ∀ x ∈ tp, x < 256) {N : Nat} (nN : N ≤ 160) (hN : 20000 ≤ tkt tp N) (d : Nat) : ∀ (n i : Nat), n = N + 1 - i → i ≤ N → ∀ (K : List Nat) (op : Nat) (out : List Nat) (w b : Nat) (h : MHeap) (F : Nat → Int32) (A : Nat → List Int32) (a2 : Int32) (a3 : MSl), RH h F A → MSt F0 A0 L F A (tkp tp i) b K op out → MB i K op out → (w ≠ 0 → a2 = if w = 2 then 1 else 0) → w ≤ 2 → ∀ j r, mm (tkt tp) (N + 1) i K op out w = some (j, r) → ERes F0 A0 L tp h j r (ex (d + 6) 189 14 [sv (.ref 28), sv (.int (if w = 0 then 0 else 1)), sv (.int a2), a3] [] h) := by
  intro n
  induction n with
  | zero => intro i h1 h2; omega
  | succ n ih =>
    intro i hn hi K op out w b h F A a2 a3 H S B hw2 hw3 j r hm
    have a32 : A 32 = A0 32 := S.2.1 32 (by decide) (by decide)
    have a39 : A 39 = A0 39 := S.2.1 39 (by decide) (by decide)
    obtain ⟨h1, F1, c1, H1, G1, N1, f23, f24, tk1, tk2, tk3, tk4⟩ := r_181 H ((S.1 8 (by decide)).trans e8) (fun i hi => by rw [a32]; exact hb i hi) (a39.trans hw) ht o6 (tkp_le tp i) S.2.2.2.1 (d + 4)
    have f23 : F1 23 = nI (tkp tp (i + 1)) := f23
    have f24 : F1 24 = nI (tkb tp i) := f24
    have tk1 : F1 25 = rtT (tkt tp i) := tk1
    have tk3 : 6 ≤ tkt tp i ∧ tkt tp i ≤ 11 → F1 26 = nI (tkt tp i - 6) := tk3
    have tk4 : 1000 ≤ tkt tp i ∧ tkt tp i < 20000 → F1 26 = nI (tkt tp i - 1000) := tk4
    have S1 : MSt F0 A0 L F1 A (tkp tp (i + 1)) (tkb tp i) K op out := S.fn N1 f23 f24
    have tl : tkt tp i ≤ 20001 := tkA_le tp _
    have v := rt_v tl
    have v8 := v.2.2.2.2.2.2.2
    have tv := trk_v (tkt tp i)
    rw [mm_s (show i < N + 1 by omega)] at hm
    have fail : ∀ {h2 : MHeap} {F2 : Nat → Int32} {A2 : Nat → List Int32} {p2 : Nat} {K2 : List Nat} {op2 : Nat} {out2 : List Nat}, RH h2 F2 A2 → Fr h1 h2 → MSt F0 A0 L F2 A2 p2 (tkb tp i) K2 op2 out2 → (some (i, none) : Mres) = some (j, r) → ERes F0 A0 L tp h j r (some (some (.int 0), h2)) := by
      intro h2 F2 A2 p2 K2 op2 out2 H2 G2 S2 e
      cases e
      exact ⟨h2, F2, A2, _, _, _, _, rfl, H2, G1.tr G2, S2, fun o e => by cases e⟩
    have go : ∀ {K2 : List Nat} {op2 : Nat} {out2 : List Nat} {w2 : Nat} {h2 : MHeap} {F2 : Nat → Int32} {A2 : Nat → List Int32} {b2 : Nat} (a22 : Int32) (a32 : MSl), tkt tp i < 20000 → RH h2 F2 A2 → Fr h1 h2 → MSt F0 A0 L F2 A2 (tkp tp (i + 1)) b2 K2 op2 out2 → MB (i + 1) K2 op2 out2 → (w2 ≠ 0 → a22 = if w2 = 2 then 1 else 0) → w2 ≤ 2 → mm (tkt tp) (N + 1) (i + 1) K2 op2 out2 w2 = some (j, r) → ERes F0 A0 L tp h j r (ex (d + 6) 189 14 [sv (.ref 28), sv (.int (if w2 = 0 then 0 else 1)), sv (.int a22), a32] [] h2) := by
      intro K2 op2 out2 w2 h2 F2 A2 b2 a22 a32 q1 H2 G2 S2 B2 q3 q4 q5
      exact (ih (i + 1) (by omega) (tk_st hN hi q1) K2 op2 out2 w2 b2 h2 F2 A2 a22 a32 H2 S2 B2 q3 q4 j r q5).tr (G1.tr G2)
    have c1 : call (d + 6) 181 [.ref 28] h = some (none, h1) := c1
    obtain ⟨b1, b2, b3, b4, b5⟩ := id B
    by_cases w0 : w = 0
    · subst w0
      rw [if_pos rfl] at hm
      rw [if_pos rfl, e_189_14, H.v, c1, cV_s, if_pos rfl, H1.f25, tk1]
      by_cases t59 : tkt tp i = 59
      · obtain ⟨h2, F2, A2, c2, H2, G2, S2, B2⟩ := r_184c H1 S1 e11 hL B (r := 1) (by decide) (by decide) (d + 4)
        have c2 : call (d + 6) 184 [.ref 28, .int 1] h1 = some (none, h2) := c2
        rw [if_pos t59] at hm
        rw [if_pos (show rtT (tkt tp i) = (59 : Int32) from (v8 59 (by decide) (by decide)).2 t59), H1.v, c2, cV_s, H2.f29, S2.2.2.2.2.2.1]
        generalize unw 1 K op out = s at hm S2 B2
        obtain ⟨K1, op1, o1⟩ := s
        cases K1 with
        | nil =>
          have hm : (some (i, some o1) : Mres) = some (j, r) := hm
          cases hm
          rw [if_pos (show nI ([] : List Nat).length = (0 : Int32) from rfl), zr_1]
          exact ⟨h2, F2, A2, _, _, _, _, rfl, H2, G1.tr G2, S2, fun o e => by cases e; exact ⟨rfl, rfl⟩⟩
        | cons u K1 =>
          have hl : K1.length + 1 + o1.length ≤ i := B2.1
          rw [if_neg (show ¬ nI (u :: K1).length = (0 : Int32) from fun e => by
            have := (nI_eq (a := K1.length + 1) (b := 0) (by omega) (by decide)).1 e
            omega), zr_0]
          exact fail H2 G2 S2 hm
      rw [if_neg t59] at hm
      rw [if_neg (show ¬ rtT (tkt tp i) = (59 : Int32) from fun e => t59 ((v8 59 (by decide) (by decide)).1 e)), H1.f25, tk1]
      by_cases t41 : tkt tp i = 41
      · obtain ⟨h2, F2, A2, c2, H2, G2, S2, B2⟩ := r_184c H1 S1 e11 hL B (r := 1) (by decide) (by decide) (d + 4)
        have c2 : call (d + 6) 184 [.ref 28, .int 1] h1 = some (none, h2) := c2
        rw [if_pos t41] at hm
        have uh := unw_hd (r := 1) K op out
        rw [if_pos (show rtT (tkt tp i) = (41 : Int32) from (v8 41 (by decide) (by decide)).2 t41), H1.v, c2, cV_s, H2.f29, S2.2.2.2.2.2.1]
        generalize unw 1 K op out = s at hm S2 B2 uh
        obtain ⟨K1, op1, o1⟩ := s
        cases K1 with
        | nil =>
          rw [if_pos (show nI ([] : List Nat).length = (0 : Int32) from rfl), zr_0]
          exact fail H2 G2 S2 hm
        | cons u K1 =>
          obtain ⟨c1', c2', c3', c4', c5'⟩ := B2
          have c1' : K1.length + 1 + o1.length ≤ i := c1'
          have c5' : op1 ≤ 5 := c5'
          have u1 := uh u K1 op1 o1 rfl
          have hu : hld u := c3' u (List.mem_cons_self ..)
          have u40 : u = 40 := by rcases hu with z | z | z | z | z | z | z | z | z | z <;> first | exact z | (subst z; exact absurd u1 (by decide))
          have c4' : (if u = 5 ∨ u = 12 ∨ u = 40 then 1 else 0) + ocn K1 ≤ op1 := c4'
          rw [if_pos (by omega)] at c4'
          obtain ⟨s1, s2, s3, s4, s5, s6, s7, s8, s9, s10⟩ := S2
          have s6 : F2 29 = nI (K1.length + 1) := s6
          have H3 := H2.setF (fu F2 29 (nI K1.length))
          have g30 : (fu F2 29 (nI K1.length)) 30 = nI op1 := by rw [fu_ne _ _ (by decide)]; exact s7
          have H4 := H3.setF (fu (fu F2 29 (nI K1.length)) 30 (nI (op1 - 1)))
          have S4 : MSt F0 A0 L (fu (fu F2 29 (nI K1.length)) 30 (nI (op1 - 1))) A2 (tkp tp (i + 1)) (tkb tp i) K1 (op1 - 1) o1 := ⟨fun k hk => by rw [fu_ne _ _ (by omega), fu_ne _ _ (by omega)]; exact s1 k hk, s2, s3, by rw [fu_ne _ _ (by decide), fu_ne _ _ (by decide)]; exact s4, by rw [fu_ne _ _ (by decide), fu_ne _ _ (by decide)]; exact s5, by rw [fu_ne _ _ (by decide), fu_eq], fu_eq _ _ _, by rw [fu_ne _ _ (by decide), fu_ne _ _ (by decide)]; exact s8, s9.2, s10⟩
          have B4 : MB i K1 (op1 - 1) o1 := ⟨by omega, c2', fun v hv => c3' v (List.mem_cons_of_mem _ hv), by omega, by omega⟩
          obtain ⟨h5, F5, A5, c5, H5, G5, S5, B5⟩ := r_184c H4 S4 e11 hL B4 (r := 7) (by decide) (by decide) (d + 4)
          have c5 : call (d + 6) 184 [.ref 28, .int 7] _ = some (none, h5) := c5
          rw [if_neg (show ¬ nI (u :: K1).length = (0 : Int32) from fun e => by
            have := (nI_eq (a := K1.length + 1) (b := 0) (by omega) (by decide)).1 e
            omega), H2.f29, s6, nI_s1, H2.p29, H3.f30, g30, show nI op1 - 1 = nI (op1 - 1) by rw [show (1 : Int32) = nI 1 from rfl, pk_sub (by omega)], H3.p30, H4.v, c5, cV_s]
          have hm : (match unw 7 K1 (op1 - 1) o1 with
            | (K2, op2, o2) => mm (tkt tp) (N + 1) (i + 1) K2 op2 o2 0) = some (j, r) := hm
          generalize unw 7 K1 (op1 - 1) o1 = s at hm S5 B5
          obtain ⟨K2, op2, o2⟩ := s
          obtain ⟨d1, d2, d3, d4, d5⟩ := B5
          exact go (w2 := 0) a2 a3 (by omega) H5 (((G2.tr (Fr.st _ (o := 28) (by decide) (by decide) _)).tr (Fr.st _ (o := 28) (by decide) (by decide) _)).tr G5) S5 ⟨by omega, by omega, d3, d4, d5⟩ (fun e => absurd rfl e) (by decide) hm
      rw [if_neg t41] at hm
      rw [if_neg (show ¬ rtT (tkt tp i) = (41 : Int32) from fun e => t41 ((v8 41 (by decide) (by decide)).1 e)), H1.v, r_188 H1 tl tk1, cI_s]
      by_cases t0 : trk (tkt tp i) = 0
      · rw [if_pos t0] at hm
        rw [if_pos t0, if_pos rfl, zr_0]
        exact fail H1 (Fr.rf _) S1 hm
      rw [if_neg t0] at hm
      have kk : ¬ kc (tkt tp i) = -1 ∧ ((12 : Int32) < kc (tkt tp i) ↔ ¬ (tkt tp i = 3 ∨ tkt tp i = 4)) ∧ tkt tp i < 20000 := by
        have : tkt tp i = 3 ∨ tkt tp i = 4 ∨ tkt tp i = 60 ∨ tkt tp i = 61 ∨ tkt tp i = 43 ∨ tkt tp i = 45 ∨ tkt tp i = 42 := by omega
        rcases this with z | z | z | z | z | z | z <;> rw [z] <;> decide
      rw [if_neg t0, if_neg kk.1, H1.v]
      obtain ⟨h2, F2, A2, H2, G2, Q⟩ := r_187 H1 S1 e11 hL B (by omega) t0 (d + 3)
      generalize unw (if trk (tkt tp i) = 4 then 5 else trk (tkt tp i)) K op out = s at hm Q
      obtain ⟨K1, op1, o1⟩ := s
      have hm : (if trk (tkt tp i) = 4 ∧ hr K1 = 4 then some (i, none) else mm (tkt tp) (N + 1) (i + 1) (tkt tp i :: K1) op1 o1 (if tkt tp i = 3 ∨ tkt tp i = 4 then 2 else 1)) = some (j, r) := hm
      rcases Q with ⟨q1, q2, q3, q4⟩ | ⟨q1, q3, q4, q5⟩
      · rw [if_pos ⟨q1, q2⟩] at hm
        rw [q3, cI_s, if_pos rfl, zr_0]
        exact fail H2 G2 q4 hm
      · rw [if_neg q1] at hm
        rw [q3, cI_s, if_neg (by decide)]
        by_cases y : tkt tp i = 3 ∨ tkt tp i = 4
        · rw [if_pos y] at hm
          rw [if_neg (fun e => kk.2.1.1 e y)]
          exact go (w2 := 2) 1 _ kk.2.2 H2 G2 q4 q5 (fun _ => rfl) (by decide) hm
        · rw [if_neg y] at hm
          rw [if_pos (kk.2.1.2 y)]
          exact go (w2 := 1) 0 _ kk.2.2 H2 G2 q4 q5 (fun _ => rfl) (by decide) hm
    · rw [if_neg w0] at hm
      have ha2 := hw2 w0
      rw [if_neg w0, e_189_14, H.v, c1, cV_s, if_neg (show ¬ (1 : Int32) = 0 by decide), H1.f25, tk1]
      by_cases it : itm (tkt tp i) = true
      · rw [if_pos it] at hm
        obtain ⟨h2, F2, A2, c2, H2, G2, S2⟩ := r_183 H1 S1 e11 hL (by omega) (tkt tp i) (d + 5)
        have B2 : MB (i + 1) K op (out ++ [tkt tp i]) := ⟨by rw [List.length_append]; have : [tkt tp i].length = 1 := rfl; omega, by omega, b3, b4, b5⟩
        obtain ⟨h3, F3, A3, c3, H3, G3, S3, B3⟩ := r_184c H2 S2 e11 hL B2 (r := 7) (by decide) (by decide) (d + 4)
        have c3 : call (d + 6) 184 [.ref 28, .int 7] h2 = some (none, h3) := c3
        have fin : ex (d + 6) 189 61 [sv (.ref 28), sv (.int 1), sv (.int a2), a3] [.int (nI (rcd (tkt tp i))), .ref 28] h1 = ex (d + 6) 189 14 [sv (.ref 28), sv (.int 0), sv (.int a2), a3] [] h3 := by
          rw [e_189_61, H1.v, c2, cV_s, H2.v, c3, cV_s]
        have red : (if rtT (tkt tp i) = 1 then ex (d + 6) 189 38 [sv (.ref 28), sv (.int 1), sv (.int a2), a3] [] h1 else gfI none h1 28 [12] 25 fun x24 => if x24 = 2 then ex (d + 6) 189 38 [sv (.ref 28), sv (.int 1), sv (.int a2), a3] [] h1 else (none : MRes)) = ex (d + 6) 189 14 [sv (.ref 28), sv (.int 0), sv (.int a2), a3] [] h3 := by
          rcases itm_rcd it with ⟨z1, z2, z3⟩ | ⟨z1, z2, z3⟩
          · rw [if_pos (v.1.2 ⟨z1, z2⟩), e_189_38, H1.f25, tk1, if_pos (v.1.2 ⟨z1, z2⟩), H1.f26, tk4 ⟨z1, z2⟩, z3, fin]
          · have n1 : ¬ rtT (tkt tp i) = 1 := fun e => by have := v.1.1 e; omega
            rw [if_neg n1, H1.f25, tk1, if_pos (v.2.1.2 ⟨z1, z2⟩), e_189_38, H1.f25, tk1, if_neg n1, H1.f26, tk3 ⟨z1, z2⟩, z3, fin]
        generalize unw 7 K op (out ++ [tkt tp i]) = s at hm S3 B3
        obtain ⟨K2, op2, o2⟩ := s
        have hm : mm (tkt tp) (N + 1) (i + 1) K2 op2 o2 0 = some (j, r) := hm
        have e := go (w2 := 0) a2 a3 (itm_lt it).1 H3 (G2.tr G3) S3 B3 (fun e => absurd rfl e) (by decide) hm
        rcases itm_rcd it with ⟨z1, z2, z3⟩ | ⟨z1, z2, z3⟩
        · rw [if_pos (v.1.2 ⟨z1, z2⟩)] at red ⊢
          rw [red]
          exact e
        · have n1 : ¬ rtT (tkt tp i) = 1 := fun e => by have := v.1.1 e; omega
          rw [if_neg n1, H1.f25, tk1, if_pos (v.2.1.2 ⟨z1, z2⟩)] at red ⊢
          rw [red]
          exact e
      rw [if_neg it] at hm
      have it2 : ¬ ((1000 ≤ tkt tp i ∧ tkt tp i < 20000) ∨ (6 ≤ tkt tp i ∧ tkt tp i ≤ 11)) := by
        intro x
        apply it
        unfold itm
        simp only [Bool.or_eq_true, Bool.and_eq_true, Nat.ble_eq]
        omega
      rw [if_neg (fun e => it2 (Or.inl (v.1.1 e))), H1.f25, tk1, if_neg (fun e => it2 (Or.inr (v.2.1.1 e))), H1.f25, tk1]
      by_cases t5 : tkt tp i = 5
      · rw [if_pos (v.2.2.2.2.2.1.2 t5)]
        by_cases w2 : w = 2
        · rw [if_pos ⟨t5, w2⟩] at hm
          rw [if_pos w2] at ha2
          subst ha2
          rw [if_neg (show ¬ (1 : Int32) = 0 by decide), H1.v]
          have R := r_186 H1 S1 B (by omega) (u := 5) (Or.inl rfl) (d + 4)
          by_cases o5 : op = 5
          · rw [if_pos o5] at hm
            rw [show call (d + 6) 186 [.ref 28, .int 13] h1 = _ from R.1 o5, cI_s, if_pos rfl, zr_0]
            exact fail H1 (Fr.rf _) S1 hm
          · rw [if_neg o5] at hm
            obtain ⟨h2, F2, A2, c2, H2, G2, S2, B2⟩ := R.2 o5
            rw [show call (d + 6) 186 [.ref 28, .int 13] h1 = _ from c2, cI_s, if_neg (by decide)]
            exact go (w2 := 2) 1 _ (by omega) H2 G2 S2 B2 (fun _ => rfl) (by decide) hm
        · rw [if_neg (fun e => w2 e.2), if_neg (by omega), if_neg (by omega)] at hm
          rw [if_neg w2] at ha2
          subst ha2
          rw [if_pos rfl, H1.f25, tk1, if_neg (show ¬ rtT (tkt tp i) = (45 : Int32) from fun e => by have := (v8 45 (by decide) (by decide)).1 e; omega), H1.f25, tk1, if_neg (show ¬ rtT (tkt tp i) = (40 : Int32) from fun e => by have := (v8 40 (by decide) (by decide)).1 e; omega), zr_0]
          exact fail H1 (Fr.rf _) S1 hm
      rw [if_neg (fun e => t5 e.1)] at hm
      rw [if_neg (fun e => t5 (v.2.2.2.2.2.1.1 e)), H1.f25, tk1]
      by_cases t45 : tkt tp i = 45
      · rw [if_pos t45] at hm
        rw [if_pos (show rtT (tkt tp i) = (45 : Int32) from (v8 45 (by decide) (by decide)).2 t45), H1.v]
        have R := r_186 H1 S1 B (by omega) (u := 12) (Or.inr (Or.inl rfl)) (d + 4)
        by_cases o5 : op = 5
        · rw [if_pos o5] at hm
          rw [show call (d + 6) 186 [.ref 28, .int 19] h1 = _ from R.1 o5, cI_s, if_pos rfl, zr_0]
          exact fail H1 (Fr.rf _) S1 hm
        · rw [if_neg o5] at hm
          obtain ⟨h2, F2, A2, c2, H2, G2, S2, B2⟩ := R.2 o5
          rw [show call (d + 6) 186 [.ref 28, .int 19] h1 = _ from c2, cI_s, if_neg (by decide)]
          exact go (w2 := 1) 0 _ (by omega) H2 G2 S2 B2 (fun _ => rfl) (by decide) hm
      rw [if_neg t45] at hm
      rw [if_neg (show ¬ rtT (tkt tp i) = (45 : Int32) from fun e => t45 ((v8 45 (by decide) (by decide)).1 e)), H1.f25, tk1]
      by_cases t40 : tkt tp i = 40
      · rw [if_pos t40] at hm
        rw [if_pos (show rtT (tkt tp i) = (40 : Int32) from (v8 40 (by decide) (by decide)).2 t40), H1.v]
        have R := r_186 H1 S1 B (by omega) (u := 40) (Or.inr (Or.inr rfl)) (d + 4)
        by_cases o5 : op = 5
        · rw [if_pos o5] at hm
          rw [show call (d + 6) 186 [.ref 28, .int 0] h1 = _ from R.1 o5, cI_s, if_pos rfl, zr_0]
          exact fail H1 (Fr.rf _) S1 hm
        · rw [if_neg o5] at hm
          obtain ⟨h2, F2, A2, c2, H2, G2, S2, B2⟩ := R.2 o5
          rw [show call (d + 6) 186 [.ref 28, .int 0] h1 = _ from c2, cI_s, if_neg (by decide)]
          exact go (w2 := 2) 1 _ (by omega) H2 G2 S2 B2 (fun _ => rfl) (by decide) hm
      rw [if_neg t40] at hm
      rw [if_neg (show ¬ rtT (tkt tp i) = (40 : Int32) from fun e => t40 ((v8 40 (by decide) (by decide)).1 e)), zr_0]
      exact fail H1 (Fr.rf _) S1 hm
end RLP
