/-! the reference's worth and asksOf -/
theorem nI_w32 (n : Nat) : nI (n + 2 ^ 32) = nI n := by
  apply Int32.toBitVec_inj.1
  show BitVec.ofNat 32 (n + 2 ^ 32) = BitVec.ofNat 32 n
  apply BitVec.eq_of_toNat_eq
  simp
theorem nI_p1 (n : Nat) : nI (n + 1) + (-1) = nI n := by
  rw [show (-1 : Int32) = nI (2 ^ 32 - 1) from by decide, nI_add, show n + 1 + (2 ^ 32 - 1) = n + 2 ^ 32 by omega, nI_w32]
/-- the reference's text L -/
def RTx (A : Nat → List Int32) (L : Nat) (T : Txt) : Prop := (∀ p, p < 4 → (A 34).getD (4 * L + p) 0 = nI (tst T p)) ∧ ∀ k, k < T.1.length → (A 33).getD (200 * L + k) 0 = nI (rcd (T.1.getD k 0))
section RBS
variable {h : MHeap} {F : Nat → Int32} {A : Nat → List Int32}
/-- only the stack has changed -/
def Sk (A A' : Nat → List Int32) : Prop := ∀ o, o ≠ 41 → A' o = A o
theorem RH.s41 (H : RH h F A) {n : Nat} (hn : n < 200) (x : Int32) (k : MHeap → MRes) : ∃ h' A', asI none h 41 (nI n) x k = k h' ∧ RH h' F A' ∧ Sk A A' ∧ A' 41 = (A 41).set n x ∧ Fr h h' := by
  have hl : (A 41).length = 200 := (H.2 41 (by decide) (by decide)).2
  exact ⟨_, fu A 41 ((A 41).set n x), H.as (by decide) (by decide) (show n < 200 from hn) x k, H.setA (by decide) (by decide) (by rw [List.length_set]; exact hl), fun o ho => fu_ne _ _ ho, fu_eq _ _ _, Fr.st _ (by decide) (by decide) _⟩
theorem r_192s {g k : Nat} (H : RH h F A) (d : Nat) {L : Nat} (hL : L < 6) (hF : F 12 = nI L) {T : Txt} (W : wfT T) (hg : g < 3) (R : RTx A L T) (hk : k < tst T (g + 1)) {st : List Int32} (hs : stk (A 41) st) {m : Nat} (hh : hgt (T.1.getD k 0) st.length = some m) (hst : st.length ≤ 160) (j : MSl) : ∃ h' A' j', ex (d + 1) 192 16 [sv (.ref 28), sv (.int (nI g)), sv (.int (nI st.length)), sv (.int (nI k)), j] [] h = ex (d + 1) 192 16 [sv (.ref 28), sv (.int (nI g)), sv (.int (nI m)), sv (.int (nI (k + 1))), j'] [] h' ∧ RH h' F A' ∧ Sk A A' ∧ stk (A' 41) (ev1 (A 42) (T.1.getD k 0) st) ∧ Fr h h' := by
  have wg := tst_le W hg
  have W' := W
  obtain ⟨w1, w2, w3, w4, w5⟩ := W'
  have hkP : k < T.1.length := by omega
  have hx := w4 _ (getD_mem hkP)
  have hl : (A 41).length = 200 := (H.2 41 (by decide) (by decide)).2
  have hl42 : (A 42).length = 6 := (H.2 42 (by decide) (by decide)).2
  have r1 := R.1 (g + 1) (by omega)
  have r2 := R.2 k hkP
  generalize T.1.getD k 0 = x at *
  have i1 : ((4 : Int32) * nI L + nI g) + 1 = nI (4 * L + (g + 1)) := by rw [show (4 : Int32) = nI 4 from rfl, pk_mul, nI_add, nI_1, Nat.add_assoc]
  have i2 : (200 : Int32) * nI L + nI k = nI (200 * L + k) := by rw [show (200 : Int32) = nI 200 from rfl, pk_mul, nI_add]
  have q1 : ∀ kk : Int32 → MRes, alI none h 34 (nI (4 * L + (g + 1))) kk = kk (nI (tst T (g + 1))) := fun kk => by rw [H.al (by decide) (by decide) (show 4 * L + (g + 1) < 24 by omega), r1]
  have q2 : ∀ kk : Int32 → MRes, alI none h 33 (nI (200 * L + k)) kk = kk (nI (rcd x)) := fun kk => by rw [H.al (by decide) (by decide) (show 200 * L + k < 1200 by omega), r2]
  have top : ∀ n, n < 200 → ∀ kk : Int32 → MRes, alI none h 41 (nI n) kk = kk ((A 41).getD n 0) := fun n hn kk => H.al (by decide) (by decide) (show n < 200 from hn) kk
  rw [e_192_16, H.f10, H.f12, hF, dR_ref, i1, q1, if_pos (nI_lt hk (by omega)), H.f9, H.f12, hF, dR_ref, i2, q2]
  unfold hgt at hh
  unfold ev1
  by_cases x1 : 1000 ≤ x
  · rw [if_pos x1] at hh ⊢
    cases hh
    have hx2 : x < 11000 := by
      rcases hx with z | z | z | z | z
      · exact z.2
      · omega
      · omega
      · omega
      · unfold opC at z; omega
    have er : rcd x = x - 1000 + 100000 := if_pos x1
    obtain ⟨h', A', e1, H1, S1, a1, F1⟩ := H.s41 (n := st.length) (by omega) (nI (x - 1000)) (fun h' => ex (d + 1) 192 16 [sv (.ref 28), sv (.int (nI g)), sv (.int (nI (st.length + 1))), sv (.int (nI (k + 1))), sv (.int (nI (rcd x)))] [] h')
    refine ⟨h', A', sv (.int (nI (rcd x))), ?_, H1, S1, ?_, F1⟩
    · rw [if_neg (show ¬ nI (rcd x) < (100000 : Int32) from nI_nlt (b := 100000) (by omega) (by omega)), H.f32, if_neg (show ¬ nI (rcd x) < (11 : Int32) from nI_nlt (b := 11) (by omega) (by omega)), dR_ref, show (100000 : Int32) = nI 100000 from rfl, pk_sub (by omega), show rcd x - 100000 = x - 1000 by omega, nI_1, nI_1]
      exact e1
    · rw [a1]; exact stk_push hs (by omega)
  · rw [if_neg x1] at hh ⊢
    by_cases x2 : 6 ≤ x ∧ x ≤ 11
    · rw [if_pos x2] at hh ⊢
      cases hh
      have er : rcd x = x - 6 := by unfold rcd; rw [if_neg x1, if_pos x2]
      obtain ⟨h', A', e1, H1, S1, a1, F1⟩ := H.s41 (n := st.length) (by omega) ((A 42).getD (x - 6) 0) (fun h' => ex (d + 1) 192 16 [sv (.ref 28), sv (.int (nI g)), sv (.int (nI (st.length + 1))), sv (.int (nI (k + 1))), sv (.int (nI (rcd x)))] [] h')
      refine ⟨h', A', sv (.int (nI (rcd x))), ?_, H1, S1, ?_, F1⟩
      · rw [if_pos (show nI (rcd x) < (100000 : Int32) from nI_lt (b := 100000) (by omega) (by decide)), if_pos (show nI (rcd x) < (11 : Int32) from nI_lt (b := 11) (by omega) (by decide)), H.f32, if_pos (show nI (rcd x) < (11 : Int32) from nI_lt (b := 11) (by omega) (by decide)), H.f33, dR_ref, H.al (by decide) (by decide) (show rcd x < 6 by omega), dR_ref, nI_1, nI_1, er]
        rw [er] at e1
        exact e1
      · rw [a1]; exact stk_push hs (by omega)
    · rw [if_neg x2] at hh ⊢
      have hx3 : x = 5 ∨ x = 12 ∨ opC x := by
        rcases hx with z | z | z
        · omega
        · exact absurd z x2
        · exact z
      rcases hx3 with z | z | z
      · subst z
        rw [if_pos (show (5 : Nat) = 5 from rfl)] at hh ⊢
        match st, hs, hh, hst with
        | [], _, hg, _ => simp at hg
        | t :: r, hs, hg, hst =>
          have hst : r.length + 1 ≤ 160 := hst
          have hg : (if 1 ≤ r.length + 1 then some (r.length + 1) else none) = some m := hg
          rw [if_pos (by omega)] at hg
          cases hg
          show ∃ h' A' j', (if nI 13 < (100000 : Int32) then _ else _) = _ ∧ _
          have t1 : (A 41).getD r.length 0 = t := hs.1
          by_cases q : t = 0
          · obtain ⟨h', A', e1, H1, S1, a1, F1⟩ := H.s41 (n := r.length) (by omega) 1 (fun h' => ex (d + 1) 192 16 [sv (.ref 28), sv (.int (nI g)), sv (.int (nI (r.length + 1))), sv (.int (nI (k + 1))), sv (.int (nI 13))] [] h')
            refine ⟨h', A', sv (.int (nI 13)), ?_, H1, S1, ?_, F1⟩
            · show (if nI 13 < (100000 : Int32) then (if nI 13 < (11 : Int32) then _ else (if nI 13 = (13 : Int32) then _ else _)) else _) = _
              rw [if_pos (by decide), if_neg (by decide), if_pos (by decide), H.f32, H.f32, dR_ref, show (t :: r).length = r.length + 1 from rfl, nI_s1, top _ (by omega), t1, if_pos q, dR_ref, nI_1]
              exact e1
            · rw [a1]
              show stk _ ((if t = 0 then 1 else 0) :: r)
              rw [if_pos q]; exact stk_push hs.2 (by omega)
          · obtain ⟨h', A', e1, H1, S1, a1, F1⟩ := H.s41 (n := r.length) (by omega) 0 (fun h' => ex (d + 1) 192 16 [sv (.ref 28), sv (.int (nI g)), sv (.int (nI (r.length + 1))), sv (.int (nI (k + 1))), sv (.int (nI 13))] [] h')
            refine ⟨h', A', sv (.int (nI 13)), ?_, H1, S1, ?_, F1⟩
            · show (if nI 13 < (100000 : Int32) then (if nI 13 < (11 : Int32) then _ else (if nI 13 = (13 : Int32) then _ else _)) else _) = _
              rw [if_pos (by decide), if_neg (by decide), if_pos (by decide), H.f32, H.f32, dR_ref, show (t :: r).length = r.length + 1 from rfl, nI_s1, top _ (by omega), t1, if_neg q, dR_ref, nI_1]
              exact e1
            · rw [a1]
              show stk _ ((if t = 0 then 1 else 0) :: r)
              rw [if_neg q]; exact stk_push hs.2 (by omega)
      · subst z
        rw [if_neg (show ¬ (12 : Nat) = 5 by decide), if_pos (show (12 : Nat) = 12 from rfl)] at hh ⊢
        match st, hs, hh, hst with
        | [], _, hg, _ => simp at hg
        | t :: r, hs, hg, hst =>
          have hst : r.length + 1 ≤ 160 := hst
          have hg : (if 1 ≤ r.length + 1 then some (r.length + 1) else none) = some m := hg
          rw [if_pos (by omega)] at hg
          cases hg
          have t1 : (A 41).getD r.length 0 = t := hs.1
          obtain ⟨h', A', e1, H1, S1, a1, F1⟩ := H.s41 (n := r.length) (by omega) (-t) (fun h' => ex (d + 1) 192 16 [sv (.ref 28), sv (.int (nI g)), sv (.int (nI (r.length + 1))), sv (.int (nI (k + 1))), sv (.int (nI 19))] [] h')
          refine ⟨h', A', sv (.int (nI 19)), ?_, H1, S1, ?_, F1⟩
          · show (if nI 19 < (100000 : Int32) then (if nI 19 < (11 : Int32) then _ else (if nI 19 = (13 : Int32) then _ else (if nI 19 = (19 : Int32) then _ else _))) else _) = _
            rw [if_pos (by decide), if_neg (by decide), if_neg (by decide), if_pos (by decide), H.f32, H.f32, dR_ref, show (t :: r).length = r.length + 1 from rfl, nI_s1, top _ (by omega), t1, dR_ref, nI_1]
            exact e1
          · rw [a1]; exact stk_push hs.2 (by omega)
      · have n5 : x ≠ 5 := by unfold opC at z; omega
        have n12 : x ≠ 12 := by unfold opC at z; omega
        rw [if_neg n5, if_neg n12] at hh ⊢
        match st, hs, hh, hst with
        | [], _, hg, _ => simp at hg
        | [_], _, hg, _ => simp at hg
        | t :: s :: r, hs, hg, hst =>
          have hst : r.length + 2 ≤ 160 := hst
          have hg : (if 2 ≤ r.length + 2 then some (r.length + 2 - 1) else none) = some m := hg
          rw [if_pos (by omega)] at hg
          cases hg
          have t1 : (A 41).getD (r.length + 1) 0 = t := hs.1
          have t2 : (A 41).getD r.length 0 = s := hs.2.1
          obtain ⟨h', A', e1, H1, S1, a1, F1⟩ := H.s41 (n := r.length) (by omega) (jn x s t) (fun h' => ex (d + 1) 192 16 [sv (.ref 28), sv (.int (nI g)), sv (.int (nI (r.length + 1))), sv (.int (nI (k + 1))), sv (.int (nI (rcd x)))] [] h')
          refine ⟨h', A', sv (.int (nI (rcd x))), ?_, H1, S1, ?_, F1⟩
          · have z2 := z
            have cs : (nI (rcd x) < (100000 : Int32)) ∧ ¬ (nI (rcd x) < (11 : Int32)) ∧ ¬ (nI (rcd x) = (13 : Int32)) ∧ ¬ (nI (rcd x) = (19 : Int32)) := by
              rcases z with z | z | z | z | z | z | z <;> subst z <;> decide
            rw [if_pos cs.1, if_neg cs.2.1, if_neg cs.2.2.1, if_neg cs.2.2.2, H.f32, H.f32, dR_ref, show (t :: s :: r).length = r.length + 1 + 1 from rfl, nI_p1, nI_s1, top _ (by omega), t2, H.f32, dR_ref, top _ (by omega), t1, r_191 _ z2, cI_s, dR_ref, nI_1]
            exact e1
          · rw [a1]; exact stk_push hs.2.2 (by omega)
theorem r_192 {g : Nat} (H : RH h F A) (d : Nat) {L : Nat} (hL : L < 6) (hF : F 12 = nI L) {T : Txt} (W : wfT T) (hg : g < 3) (R : RTx A L T) : ∃ h' A', call (d + 2) 192 [.ref 28, .int (nI g)] h = some (some (.int (tvl (A 42) T g)), h') ∧ RH h' F A' ∧ Sk A A' ∧ Fr h h' := by
  have wg := tst_le W hg
  have W' := W
  obtain ⟨w1, w2, w3, w4, w5⟩ := W'
  have r0 := R.1 g (by omega)
  have i0 : (4 : Int32) * nI L + nI g = nI (4 * L + g) := by rw [show (4 : Int32) = nI 4 from rfl, pk_mul, nI_add]
  rw [e_192, H.f10, H.f12, hF, dR_ref, i0, H.al (by decide) (by decide) (show 4 * L + g < 24 by omega), r0]
  have key : ∀ i, i ≤ tst T (g + 1) → ∀ h1 A1 st j, RH h1 F A1 → Sk A A1 → Fr h h1 → stk (A1 41) st → st.length ≤ i → lq (hgs T.1) (tst T (g + 1) - i) i (some st.length) = some 1 → ∃ h' A', ex (d + 1) 192 16 [sv (.ref 28), sv (.int (nI g)), sv (.int (nI st.length)), sv (.int (nI i)), j] [] h1 = some (some (.int ((lq (evs (A 42) T.1) (tst T (g + 1) - i) i st).headD 0)), h') ∧ RH h' F A' ∧ Sk A A' ∧ Fr h h' := by
    intro i hi
    refine up_ind (n := tst T (g + 1)) (P := fun i => ∀ h1 A1 st j, RH h1 F A1 → Sk A A1 → Fr h h1 → stk (A1 41) st → st.length ≤ i → lq (hgs T.1) (tst T (g + 1) - i) i (some st.length) = some 1 → ∃ h' A', ex (d + 1) 192 16 [sv (.ref 28), sv (.int (nI g)), sv (.int (nI st.length)), sv (.int (nI i)), j] [] h1 = some (some (.int ((lq (evs (A 42) T.1) (tst T (g + 1) - i) i st).headD 0)), h') ∧ RH h' F A' ∧ Sk A A' ∧ Fr h h') ?_ ?_ hi
    · intro h1 A1 st j H1 S1 F1 hs _ hh
      rw [Nat.sub_self] at hh ⊢
      have hh : st.length = 1 := by
        have : some st.length = some 1 := hh
        exact Option.some.inj this
      refine ⟨h1, A1, ?_, H1, S1, F1⟩
      have r1 := R.1 (g + 1) (by omega)
      have i1 : ((4 : Int32) * nI L + nI g) + 1 = nI (4 * L + (g + 1)) := by rw [show (4 : Int32) = nI 4 from rfl, pk_mul, nI_add, nI_1, Nat.add_assoc]
      match st, hs, hh with
      | [t], hs, _ =>
        rw [e_192_16, H1.f10, H1.f12, hF, dR_ref, i1, H1.al (by decide) (by decide) (show 4 * L + (g + 1) < 24 by omega), S1 34 (by decide), r1, if_neg (nI_nlt (Nat.le_refl _) (by omega)), H1.f32, dR_ref]
        have := H1.al (o := 41) (i := 0) (by decide) (by decide) (by decide) (fun x51 => some (some (Value.int x51), h1))
        rw [show (A1 41).getD 0 0 = t from hs.1] at this
        exact this
    · intro i hi ih h1 A1 st j H1 S1 F1 hs hsl hh
      rw [show tst T (g + 1) - i = (tst T (g + 1) - (i + 1)) + 1 by omega] at hh
      obtain ⟨n', x1, x2⟩ := hgs_st hh
      have hle := hgt_le x1
      have R1 : RTx A1 L T := by unfold RTx; rw [S1 33 (by decide), S1 34 (by decide)]; exact R
      obtain ⟨h2, A2, j2, e1, H2, S2, s2, F2⟩ := r_192s H1 d hL hF W hg R1 hi hs x1 (by omega) j
      rw [S1 42 (by decide)] at s2
      have hel := ev1_len (nm := A 42) x1
      rw [← hel] at x2
      obtain ⟨h', A', e2, G3⟩ := ih h2 A2 _ j2 H2 (fun o ho => (S2 o ho).trans (S1 o ho)) (F1.tr F2) s2 (by rw [hel]; omega) x2
      refine ⟨h', A', ?_, G3⟩
      rw [e1, ← hel, e2, show tst T (g + 1) - i = (tst T (g + 1) - (i + 1)) + 1 by omega]
      rfl
  exact key (tst T g) wg.1 h A [] none H (fun _ _ => rfl) (Fr.rf h) trivial (Nat.zero_le _) (w5 g hg)
end RBS
theorem r_167 (d : Nat) (v : Int32) (h : MHeap) : call (d + 1) 167 [.int v, .int 0, .int 99] h = some (some (.int (clp v)), h) := by
  rw [e_167]
  unfold clp
  by_cases h1 : v < 0
  · rw [if_pos h1, if_pos h1]
  · rw [if_neg h1, if_neg h1]
    by_cases h2 : 99 < v
    · rw [if_pos h2, if_pos h2]
    · rw [if_neg h2, if_neg h2]
theorem r_194 {h : MHeap} {F : Nat → Int32} {A : Nat → List Int32} {c w : Nat} {b : Int32} {hs : List Ent} (H : RB h F A c w b hs) (d : Nat) {L : Nat} (hL : L < 6) (hF : F 12 = nI L) {T : Txt} (W : wfT T) (R : RTx A L T) {g i : Nat} (hg : g < 3) (hi : i < 12) : ∃ h' A', call (d + 6) 194 [.ref 28, .int (nI g), .int (nI i)] h = some (some (.int (clp (tvl (nms c w b hs i) T g))), h') ∧ RB h' F A' c w b hs ∧ (∀ o, o ≠ 41 → o ≠ 42 → A' o = A o) ∧ Fr h h' := by
  have hb := H.bd
  obtain ⟨h42, l42⟩ := H.1.2 42 (by decide) (by decide)
  obtain ⟨a0, a1, a2, a3, a4, a5, e42⟩ := len6 (n := A 42) l42
  rw [e42] at h42
  have h0 : nc h 42 a0 a1 a2 a3 a4 a5 = h := set_self h42
  have HH : ∀ xs : List Int32, xs.length = 6 → RB (h.set 42 (100, xs.map .int)) F (fu A 42 xs) c w b hs := fun xs hx => H.sc (H.1.setA (by decide) (by decide) hx) (SS.a F A (by decide) _)
  have HN : ∀ a b' c' d' e f : Int32, RB (nc h 42 a b' c' d' e f) F (fu A 42 [a, b', c', d', e, f]) c w b hs := fun a b' c' d' e f => HH [a, b', c', d', e, f] rfl
  have s0 : ∀ (x : Int32) (k : MHeap → MRes), asI none h 42 0 x k = k (nc h 42 x a1 a2 a3 a4 a5) := by
    intro x k
    have := nc_0 h42 a0 a1 a2 a3 a4 a5 x k
    rw [h0] at this
    exact this
  have hbt : (b >>> (nI i &&& 31)) &&& 1 = bI (bt b i) := by
    cases x : bt b i with
    | false => rw [(bt_0 b i).2 x]; rfl
    | true => rw [(bt_1 b i).2 x]; rfl
  have H9 := HH (nms c w b hs i) rfl
  have R9 : RTx (fu A 42 (nms c w b hs i)) L T := by unfold RTx; rw [fu_ne _ _ (by decide), fu_ne _ _ (by decide)]; exact R
  obtain ⟨h', A', e2, H2, S2, F2⟩ := r_192 H9.1 (d + 3) hL hF W hg R9
  rw [fu_eq] at e2
  have e2 : call (d + 5) 192 [.ref 28, .int (nI g)] (nc h 42 (nI i) (nI (i / w)) (nI (i % w)) (bI (bt b i)) (nI c) (nI (fln c w hs b))) = _ := e2
  refine ⟨h', A', ?_, H9.sc H2 ⟨fun j _ => rfl, fun o ho => S2 o (by omega)⟩, fun o h1 h2 => (S2 o h1).trans (fu_ne _ _ h2), (Fr.st h (by decide) (by decide) _).tr F2⟩
  rw [e_194]
  have hrem := pk_rem (show i < 2 ^ 31 by omega) (show 0 < w by omega) (show w < 2 ^ 31 by omega)
  rw [pk_div (show i < 2 ^ 31 by omega) (show 0 < w by omega) (show w < 2 ^ 31 by omega)] at hrem
  simp only [H.1.f33, dR_ref, dA_ref, dA_null, dN_ref, dN_null, dD_ref, dD_int, cI_s, cV_s, cR_r, cR_n, cJ_s, bI_0, bI_1, zr_bI, zr_0, zr_1, eq_self, if_true, if_false, i10, i20, i01, i21, i02, i12, ior0, iad0, Bool.true_eq_false, Bool.false_eq_true, s0, (HN _ _ _ _ _ _).1.f33, (HN _ _ _ _ _ _).f0, (HN _ _ _ _ _ _).f1, (HN _ _ _ _ _ _).f2, (HN _ _ _ _ _ _).v, dv, nI_ne0 (show 0 < w by omega) (show w < 2 ^ 31 by omega), pk_div (show i < 2 ^ 31 by omega) (show 0 < w by omega) (show w < 2 ^ 31 by omega), hrem, hbt, nc_1 h42, nc_2 h42, nc_3 h42, nc_4 h42, nc_5 h42, r_202 (HN _ _ _ _ _ _), r_205 (HN _ _ _ _ _ _), e2, r_167]
