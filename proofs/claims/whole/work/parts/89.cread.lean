/-! the class reads a text -/
def Pp (tk : Nat → Nat) (p i : Nat) (out : List Nat) (b : Bool) (i' : Nat) (o' : List Nat) : Prop := (tk i ≠ p ∧ b = false ∧ i' = i ∧ o' = out) ∨ (tk i = p ∧ ((Pd tk 0 0 (i + 1) out false i' o' ∧ b = false) ∨ ∃ i1, Pd tk 0 0 (i + 1) out true i1 o' ∧ ((tk i1 = 59 ∧ b = true ∧ i' = i1 + 1) ∨ (tk i1 ≠ 59 ∧ b = false ∧ i' = i1))))
theorem tk_st {tk : Nat → Nat} {N : Nat} (hN : 20000 ≤ tk N) {i : Nat} (h1 : i ≤ N) (h2 : tk i < 20000) : i + 1 ≤ N := by
  rcases Nat.lt_or_ge i N with q | q
  · exact q
  · have : i = N := by omega
    subst this; omega
theorem pp_tot {tk : Nat → Nat} {N : Nat} (hN : 20000 ≤ tk N) {p i : Nat} (hp : p < 3) (hi : i ≤ N) (out : List Nat) : ∃ b i' o', Pp tk p i out b i' o' := by
  by_cases z : tk i = p
  · obtain ⟨b, i', o', e⟩ := pd_tot hN (tk_st hN hi (by omega)) out
    cases b with
    | false => exact ⟨_, _, _, Or.inr ⟨z, Or.inl ⟨e, rfl⟩⟩⟩
    | true =>
      by_cases y : tk i' = 59
      · exact ⟨_, _, _, Or.inr ⟨z, Or.inr ⟨i', e, Or.inl ⟨y, rfl, rfl⟩⟩⟩⟩
      · exact ⟨_, _, _, Or.inr ⟨z, Or.inr ⟨i', e, Or.inr ⟨y, rfl, rfl⟩⟩⟩⟩
  · exact ⟨_, _, _, Or.inl ⟨z, rfl, rfl, rfl⟩⟩
theorem pp_le {tk : Nat → Nat} {N : Nat} (hN : 20000 ≤ tk N) {p i : Nat} {out : List Nat} {b : Bool} {i' : Nat} {o' : List Nat} (hp : p < 3) (hi : i ≤ N) (h : Pp tk p i out b i' o') : i' ≤ N ∧ o'.length + i ≤ out.length + i' ∧ (b = true → o'.length + i + 2 ≤ out.length + i') := by
  rcases h with ⟨_, rfl, rfl, rfl⟩ | ⟨z, ⟨e, rfl⟩ | ⟨i1, e, ⟨t, rfl, rfl⟩ | ⟨t, rfl, rfl⟩⟩⟩
  · exact ⟨hi, Nat.le_refl _, fun x => by cases x⟩
  · have q := pd_le hN (by omega) e (by omega) (tk_st hN hi (by omega))
    exact ⟨q.2.1, by omega, fun x => by cases x⟩
  · have q := pd_le hN (by omega) e (by omega) (tk_st hN hi (by omega))
    have s := tk_st hN q.2.1 (by omega)
    exact ⟨s, by omega, fun _ => by omega⟩
  · have q := pd_le hN (by omega) e (by omega) (tk_st hN hi (by omega))
    exact ⟨q.2.1, by omega, fun x => by cases x⟩
/-- a whole text: what it is, where it ends -/
def TX (tk : Nat → Nat) (r : Option Txt) (j : Nat) : Prop := (∃ o', Pp tk 0 0 [] false j o' ∧ r = none) ∨ ∃ i1 o1, Pp tk 0 0 [] true i1 o1 ∧ ((∃ o', Pp tk 1 i1 o1 false j o' ∧ r = none) ∨ ∃ i2 o2, Pp tk 1 i1 o1 true i2 o2 ∧ ((∃ o', Pp tk 2 i2 o2 false j o' ∧ r = none) ∨ ∃ o3, Pp tk 2 i2 o2 true j o3 ∧ ((tk j = 20000 ∧ r = some (o3, o1.length, o2.length)) ∨ (tk j ≠ 20000 ∧ r = none))))
theorem tx_tot {tk : Nat → Nat} {N : Nat} (hN : 20000 ≤ tk N) : ∃ r j, TX tk r j := by
  obtain ⟨b, i1, o1, e1⟩ := pp_tot hN (p := 0) (by decide) (Nat.zero_le N) []
  have q1 := pp_le hN (by decide) (Nat.zero_le _) e1
  cases b with
  | false => exact ⟨none, i1, Or.inl ⟨_, e1, rfl⟩⟩
  | true =>
    obtain ⟨b, i2, o2, e2⟩ := pp_tot hN (p := 1) (by decide) q1.1 o1
    have q2 := pp_le hN (by decide) q1.1 e2
    cases b with
    | false => exact ⟨none, i2, Or.inr ⟨_, _, e1, Or.inl ⟨_, e2, rfl⟩⟩⟩
    | true =>
      obtain ⟨b, i3, o3, e3⟩ := pp_tot hN (p := 2) (by decide) q2.1 o2
      cases b with
      | false => exact ⟨none, i3, Or.inr ⟨_, _, e1, Or.inr ⟨_, _, e2, Or.inl ⟨_, e3, rfl⟩⟩⟩⟩
      | true =>
        by_cases z : tk i3 = 20000
        · exact ⟨_, i3, Or.inr ⟨_, _, e1, Or.inr ⟨_, _, e2, Or.inr ⟨_, e3, Or.inl ⟨z, rfl⟩⟩⟩⟩⟩
        · exact ⟨_, i3, Or.inr ⟨_, _, e1, Or.inr ⟨_, _, e2, Or.inr ⟨_, e3, Or.inr ⟨z, rfl⟩⟩⟩⟩⟩
theorem pp_wf {tk : Nat → Nat} (hk : ∀ j, itm (tk j) = true → okC (tk j)) {p i : Nat} {out : List Nat} {i' : Nat} {o' : List Nat} (h : Pp tk p i out true i' o') : ∃ s, o' = out ++ s ∧ (∀ x ∈ s, okC x) ∧ hls s 0 = some 1 := by
  rcases h with ⟨_, e, _⟩ | ⟨z, ⟨_, e⟩ | ⟨i1, e, ⟨t, _, _⟩ | ⟨t, e2, _⟩⟩⟩
  · cases e
  · cases e
  · obtain ⟨s, e1, e2, e3⟩ := pd_wf hk (by decide) e rfl
    exact ⟨s, e1, e2, e3 0⟩
  · cases e2
theorem tx_wf {tk : Nat → Nat} {N : Nat} (hN : 20000 ≤ tk N) (nN : N ≤ 160) (hk : ∀ j, itm (tk j) = true → okC (tk j)) {r : Option Txt} {j : Nat} (h : TX tk r j) : j ≤ N ∧ ∀ T, r = some T → wfT T ∧ T.1.length < 160 := by
  rcases h with ⟨o', e1, rfl⟩ | ⟨i1, o1, e1, h⟩
  · exact ⟨(pp_le hN (by decide) (Nat.zero_le _) e1).1, fun T x => by cases x⟩
  have q1 := pp_le hN (by decide) (Nat.zero_le _) e1
  rcases h with ⟨o', e2, rfl⟩ | ⟨i2, o2, e2, h⟩
  · exact ⟨(pp_le hN (by decide) q1.1 e2).1, fun T x => by cases x⟩
  have q2 := pp_le hN (by decide) q1.1 e2
  rcases h with ⟨o', e3, rfl⟩ | ⟨o3, e3, h⟩
  · exact ⟨(pp_le hN (by decide) q2.1 e3).1, fun T x => by cases x⟩
  have q3 := pp_le hN (by decide) q2.1 e3
  refine ⟨q3.1, ?_⟩
  intro T hT
  rcases h with ⟨_, rfl⟩ | ⟨_, rfl⟩
  · cases hT
    obtain ⟨s1, a1, k1, g1⟩ := pp_wf hk e1
    obtain ⟨s2, a2, k2, g2⟩ := pp_wf hk e2
    obtain ⟨s3, a3, k3, g3⟩ := pp_wf hk e3
    rw [List.nil_append] at a1
    subst a1 a2 a3
    have t1 := q1.2.2 rfl
    have t2 := q2.2.2 rfl
    have t3 := q3.2.2 rfl
    have n0 : ([] : List Nat).length = 0 := rfl
    refine ⟨⟨?_, ?_, ?_, ?_, ?_⟩, ?_⟩
    · show (o1 ++ s2 ++ s3).length ≤ 160
      omega
    · show o1.length ≤ (o1 ++ s2).length
      rw [List.length_append]; omega
    · show (o1 ++ s2).length ≤ (o1 ++ s2 ++ s3).length
      rw [List.length_append (as := o1 ++ s2)]; omega
    · intro x hx
      have hx : x ∈ o1 ++ s2 ++ s3 := hx
      rcases List.mem_append.1 hx with z | z
      · rcases List.mem_append.1 z with y | y
        · exact k1 x y
        · exact k2 x y
      · exact k3 x z
    · intro p hp
      rcases (show p = 0 ∨ p = 1 ∨ p = 2 by omega) with z | z | z <;> subst z
      · show lq (hgs (o1 ++ s2 ++ s3)) (o1.length - 0) 0 (some 0) = some 1
        have := hgs_hls (a := []) (b := s2 ++ s3) o1 [] 0
        rw [g1] at this
        rw [List.append_assoc]
        exact this
      · show lq (hgs (o1 ++ s2 ++ s3)) ((o1 ++ s2).length - o1.length) o1.length (some 0) = some 1
        rw [List.length_append, Nat.add_sub_cancel_left, hgs_hls (a := []) (b := s3) s2 o1 0]
        exact g2
      · show lq (hgs (o1 ++ s2 ++ s3)) ((o1 ++ s2 ++ s3).length - (o1 ++ s2).length) (o1 ++ s2).length (some 0) = some 1
        rw [List.length_append (as := o1 ++ s2), Nat.add_sub_cancel_left]
        have := hgs_hls (a := []) (b := []) s3 (o1 ++ s2) 0
        rw [g3, List.append_nil] at this
        exact this
    · show (o1 ++ s2 ++ s3).length < 160
      omega
  · cases hT
section CRD
variable {h0 h : MHeap} {tk : Nat → Nat} {N n i : Nat} {x : Int32} {out : List Nat}
theorem c_59 (B : B0 h0 tk N n x) (S : CPS h0 n x h i out) {p : Nat} (hp : p < 3) (hi : i ≤ N) (ho : out.length ≤ i) {b : Bool} {i' : Nat} {o' : List Nat} (P : Pp tk p i out b i' o') (d : Nat) : ∃ h', call (d + 70) 59 [.ref 7, .int (nI p)] h = some (some (.int (bI b)), h') ∧ CPS h0 n x h' i' o' := by
  have tN := B.2.2.2.2.2
  obtain ⟨h1, c1, S1⟩ := c_60 B S hi (a := p) (by omega) (d + 66)
  rw [e_59, S.v B, c1, cI_s]
  rcases P with ⟨z, rfl, rfl, rfl⟩ | ⟨z, P⟩
  · rw [if_neg z] at S1
    refine ⟨h1, ?_, S1⟩
    rw [decide_eq_false z]
    rfl
  · rw [if_pos z] at S1
    have s := tk_st tN hi (by omega)
    rw [decide_eq_true z, if_neg (by decide), S1.v B]
    have d0 : dpt 0 0 = 64 := rfl
    rcases P with ⟨e, rfl⟩ | ⟨i1, e, P⟩
    · obtain ⟨h2, c2, S2⟩ := cp_all B (by decide) e (by decide) (by omega) s (by omega) (d + 69) h1 (by omega) S1
      have c2 : call (d + 69) 61 [.ref 7, .int 0, .int 0] h1 = _ := c2
      refine ⟨h2, ?_, S2⟩
      rw [c2, cI_s]
      rfl
    · obtain ⟨h2, c2, S2⟩ := cp_all B (by decide) e (by decide) (by omega) s (by omega) (d + 69) h1 (by omega) S1
      have c2 : call (d + 69) 61 [.ref 7, .int 0, .int 0] h1 = _ := c2
      have q := pd_le tN (by omega) e (by omega) s
      obtain ⟨h3, c3, S3⟩ := c_60 B S2 q.2.1 (a := 59) (by decide) (d + 66)
      rw [c2, cI_s, if_neg (by decide), S2.v B, show (59 : Int32) = nI 59 from rfl, c3, cI_s]
      rcases P with ⟨t, rfl, rfl⟩ | ⟨t, rfl, rfl⟩
      · rw [if_pos t] at S3
        rw [decide_eq_true t]
        exact ⟨h3, rfl, S3⟩
      · rw [if_neg t] at S3
        rw [decide_eq_false t]
        exact ⟨h3, rfl, S3⟩
end CRD
def rvl (L : Nat) (r : Option Txt) : Value := match r with
  | none => .null
  | some _ => .ref L
theorem c_262 {h : MHeap} {it : List Int32} (h11 : h[11]? = some (100, it.map .int)) (hl : it.length = 160) {n : Nat} (hn : n < 160) (d : Nat) : call (d + 2) 262 [.ref 11, .int (nI n)] h = some (some (.ref h.length), h ++ [(100, (it.take n).map .int)]) := by
  have l11 : 11 < h.length := (List.getElem?_eq_some_iff.1 h11).1
  have g11 : (h ++ [(100, List.replicate n (Value.int 0))])[11]? = some (100, it.map .int) := by rw [gapp _ l11]; exact h11
  rw [e_262, ar_ln h11, hl, if_neg (fun e => by have := (nI_eq (by omega) (by decide)).1 e; omega)]
  unfold nwA
  rw [nI_clamp (by omega), if_neg (by rw [not_or]; exact ⟨nI_pos (by omega), by omega⟩)]
  dsimp only
  rw [ar_ln g11, hl, c_min, if_pos (nI_lt hn (by decide)), cI_s]
  have e1 : call (d + 1) 1002 [.ref 11, .int 0, .ref h.length, .int 0, .int (nI n)] (h ++ [(100, List.replicate n (Value.int 0))]) = acp none (h ++ [(100, List.replicate n (Value.int 0))]) 11 0 h.length 0 (nI n) fun h => some (none, h) := by cases d <;> rfl
  rw [e1]
  unfold acp
  simp only [g11, gnew, nI_clamp (show n < 2 ^ 31 by omega), nI_pos (show n < 2 ^ 31 by omega), List.length_map, List.length_replicate, hl]
  rw [if_pos ⟨trivial, trivial, by decide, by decide, not_false, by show 0 + n ≤ 160; omega, by show 0 + n ≤ n; omega⟩, cV_s]
  have e2 : cpyL (it.map Value.int) (List.replicate n (Value.int 0)) (Int32.toNatClampNeg 0) (Int32.toNatClampNeg 0) n = (it.take n).map .int := by
    show (List.replicate n (Value.int 0)).take 0 ++ (((it.map Value.int).drop 0).take n ++ (List.replicate n (Value.int 0)).drop (0 + n)) = _
    rw [List.take_zero, List.drop_zero, List.nil_append, Nat.zero_add, List.drop_eq_nil_of_le (by rw [List.length_replicate]; exact Nat.le_refl _), List.append_nil, List.map_take]
  rw [e2, List.set_append_right _ _ (Nat.le_refl _), Nat.sub_self]
  rfl
theorem c_57 {h : MHeap} {tp : List Nat} {x y z : Int32} {bs tk pl it : List Int32} (t7 : h[7]? = some (c7 tp.length x y z)) (t8 : arr h 8 bs 160) (tb : ∀ i, i < tp.length → bs.getD i 0 = nI (by1 tp i)) (t2 : h[2]? = some (98, tx2.map .int)) (t9 : arr h 9 tk 161) (t10 : arr h 10 pl 161) (t11 : arr h 11 it 160) (ht : tp.length ≤ 160) (o6 : ∀ x ∈ tp, x < 256) {r : Option Txt} {j : Nat} (R : TX (tkt tp) r j) (d : Nat) : ∃ h', call (d + 100) 57 [.ref 7] h = some (some (rvl h.length r), h') ∧ (∃ (x' z' : Int32) (tk' pl' it' : List Int32), h'[7]? = some (c7 tp.length x' (nI j) z') ∧ arr h' 9 tk' 161 ∧ arr h' 10 pl' 161 ∧ arr h' 11 it' 160 ∧ pl'.getD j 0 = nI (tkb tp j)) ∧ (∀ a : Nat, a < h.length → a ≠ 7 → a ≠ 9 → a ≠ 10 → a ≠ 11 → h'[a]? = h[a]?) ∧ (r = none → h'.length = h.length) ∧ ∀ T : Txt, r = some T → h'.length = h.length + 2 ∧ h'[h.length]? = some (5, [.ref (h.length + 1), .int (nI T.2.1), .int (nI T.2.2)]) ∧ h'[h.length + 1]? = some (100, (T.1.map nI).map .int) := by
  obtain ⟨N, hN1, hN2, hN3⟩ := tk_end tp
  obtain ⟨h0, p', tk', pl', e0, ⟨T0, a9, a10, tj⟩, l0, f0⟩ := c_69 t7 t8 tb t2 t9 t10 ht o6 hN1 hN2 hN3 (d + 87)
  have b11 : h0[11]? = some (100, it.map .int) := by rw [f0 11 (by decide) (by decide) (by decide)]; exact t11.1
  have B : B0 h0 (tkt tp) N tp.length (nI p') := ⟨⟨y, z, T0.1⟩, ⟨_, b11⟩, ⟨tk', a9, fun j hj => (tj j (by omega)).1⟩, by omega, fun j => tkA_le tp _, hN2⟩
  have S0 : CPS h0 tp.length (nI p') (h0.set 7 (c7 tp.length (nI p') (nI 0) (nI 0))) 0 [] := ⟨it, by
    show _ = hpx h0 tp.length (nI p') 0 0 it
    unfold hpx
    rw [set_self (h := h0.set 7 (c7 tp.length (nI p') (nI 0) (nI 0))) (p := 11)]
    rw [gset_ne _ (by decide)]; exact b11, t11.2, fun k hk => by cases hk⟩
  have T1 : (h0.set 7 (c7 tp.length (nI p') (nI 0) z))[7]? = some (c7 tp.length (nI p') (nI 0) z) := gset T0.1 _
  have v0 : ∀ (m : Nat) (K : Nat → MRes), vd none h 7 [9, m] K = K m := fun m K => vd_at t7 rfl K
  -- what stays behind a parse
  have fin : ∀ {h1 : MHeap} {i : Nat} {out : List Nat}, CPS h0 tp.length (nI p') h1 i out → i ≤ N → (∃ (x' z' : Int32) (tk' pl' it' : List Int32), h1[7]? = some (c7 tp.length x' (nI i) z') ∧ arr h1 9 tk' 161 ∧ arr h1 10 pl' 161 ∧ arr h1 11 it' 160 ∧ (∀ k, k < out.length → it'.getD k 0 = nI (out.getD k 0)) ∧ pl'.getD i 0 = nI (tkb tp i)) ∧ (∀ a : Nat, a < h.length → a ≠ 7 → a ≠ 9 → a ≠ 10 → a ≠ 11 → h1[a]? = h[a]?) ∧ h1.length = h.length := by
    intro h1 i out S hi
    have h7 := S.h7 B
    obtain ⟨it', rfl, l1, l2⟩ := S
    refine ⟨⟨_, _, tk', pl', it', h7, ⟨by rw [gset_ne _ (by decide), gset_ne _ (by decide)]; exact a9.1, a9.2⟩, ⟨by rw [gset_ne _ (by decide), gset_ne _ (by decide)]; exact a10.1, a10.2⟩, ⟨?_, l1⟩, l2, (tj i (by omega)).2⟩, ?_, by rw [List.length_set, List.length_set]; exact l0⟩
    · have q : (h0.set 7 (c7 tp.length (nI p') (nI i) (nI out.length)))[11]? = some (100, it.map .int) := by rw [gset_ne _ (by decide)]; exact b11
      exact gset q _
    · intro a _ n7 n9 n10 n11
      rw [gset_ne _ (fun e => n11 e.symm), gset_ne _ (fun e => n7 e.symm)]
      exact f0 a n7 n9 n10
  have z1 : ∀ k : MHeap → MRes, pfI none h0 7 [9] 6 0 k = k (h0.set 7 (c7 tp.length (nI p') (nI 0) z)) := fun k => pfI_at T0.1 rfl (by show 6 < 8; decide) _ k
  have z2 : ∀ k : MHeap → MRes, pfI none (h0.set 7 (c7 tp.length (nI p') (nI 0) z)) 7 [9] 7 0 k = k (h0.set 7 (c7 tp.length (nI p') (nI 0) (nI 0))) := fun k => by
    rw [pfI_at T1 rfl (by show 7 < 8; decide), List.set_set]
    rfl
  rw [e_57, v0, e0, cV_s, z1, z2]
  generalize h0.set 7 (c7 tp.length (nI p') (nI 0) (nI 0)) = hA at S0 ⊢
  rw [S0.v B]
  have bad : ∀ {h1 : MHeap} {out : List Nat}, CPS h0 tp.length (nI p') h1 j out → j ≤ N → r = none → ∃ h', (some (some Value.null, h1) : MRes) = some (some (rvl h.length r), h') ∧ (∃ (x' z' : Int32) (tk' pl' it' : List Int32), h'[7]? = some (c7 tp.length x' (nI j) z') ∧ arr h' 9 tk' 161 ∧ arr h' 10 pl' 161 ∧ arr h' 11 it' 160 ∧ pl'.getD j 0 = nI (tkb tp j)) ∧ (∀ a : Nat, a < h.length → a ≠ 7 → a ≠ 9 → a ≠ 10 → a ≠ 11 → h'[a]? = h[a]?) ∧ (r = none → h'.length = h.length) ∧ ∀ T : Txt, r = some T → h'.length = h.length + 2 ∧ h'[h.length]? = some (5, [.ref (h.length + 1), .int (nI T.2.1), .int (nI T.2.2)]) ∧ h'[h.length + 1]? = some (100, (T.1.map nI).map .int) := by
    intro h1 out S hj e
    obtain ⟨⟨x', z', tk2, pl2, it2, k1, k2, k3, k4, _, k5⟩, k6, k7⟩ := fin S hj
    subst e
    exact ⟨h1, rfl, ⟨x', z', tk2, pl2, it2, k1, k2, k3, k4, k5⟩, k6, fun _ => k7, fun T e => by cases e⟩
  rcases R with ⟨o', e1, rr⟩ | ⟨i1, o1, e1, R⟩
  · have q1 := pp_le hN2 (by decide) (Nat.zero_le _) e1
    obtain ⟨h1, c1, S1⟩ := c_59 B S0 (by decide) (Nat.zero_le _) (Nat.le_refl _) e1 (d + 29)
    rw [show call (d + 99) 59 [.ref 7, .int 0] hA = _ from c1, cI_s, if_pos (by decide)]
    exact bad S1 q1.1 rr
  have q1 := pp_le hN2 (by decide) (Nat.zero_le _) e1
  have n0 : ([] : List Nat).length = 0 := rfl
  obtain ⟨h1, c1, S1⟩ := c_59 B S0 (by decide) (Nat.zero_le _) (Nat.le_refl _) e1 (d + 29)
  rw [show call (d + 99) 59 [.ref 7, .int 0] hA = _ from c1, cI_s, if_neg (by decide), S1.g7 B, S1.v B]
  rcases R with ⟨o', e2, rr⟩ | ⟨i2, o2, e2, R⟩
  · have q2 := pp_le hN2 (by decide) q1.1 e2
    obtain ⟨h2, c2, S2⟩ := c_59 B S1 (by decide) q1.1 (by omega) e2 (d + 29)
    rw [show call (d + 99) 59 [.ref 7, .int 1] h1 = _ from c2, cI_s, if_pos (by decide)]
    exact bad S2 q2.1 rr
  have q2 := pp_le hN2 (by decide) q1.1 e2
  obtain ⟨h2, c2, S2⟩ := c_59 B S1 (by decide) q1.1 (by omega) e2 (d + 29)
  rw [show call (d + 99) 59 [.ref 7, .int 1] h1 = _ from c2, cI_s, if_neg (by decide), S2.g7 B, S2.v B]
  rcases R with ⟨o', e3, rr⟩ | ⟨o3, e3, R⟩
  · have q3 := pp_le hN2 (by decide) q2.1 e3
    obtain ⟨h3, c3, S3⟩ := c_59 B S2 (by decide) q2.1 (by omega) e3 (d + 29)
    rw [show call (d + 99) 59 [.ref 7, .int 2] h2 = _ from c3, cI_s, if_pos (by decide)]
    exact bad S3 q3.1 rr
  have q3 := pp_le hN2 (by decide) q2.1 e3
  obtain ⟨h3, c3, S3⟩ := c_59 B S2 (by decide) q2.1 (by omega) e3 (d + 29)
  rw [show call (d + 99) 59 [.ref 7, .int 2] h2 = _ from c3, cI_s, if_neg (by decide), S3.v B, c_58 B S3 q3.1, cI_s]
  rcases R with ⟨t, rfl⟩ | ⟨t, rr⟩
  · have lt := q3.2.2 rfl
    have lt1 := q1.2.2 rfl
    have lt2 := q2.2.2 rfl
    rw [if_pos ((tC_m1 (t := tkt tp j) (tkA_le tp _)).2 t), S3.g7 B, if_neg (nI_pos (by omega)), nwO_e]
    obtain ⟨⟨x', z', tk2, pl2, it2, k1, k2, k3, k4, k8, k5⟩, k6, k7⟩ := fin S3 q3.1
    have l11 : 11 < h3.length := (List.getElem?_eq_some_iff.1 k4.1).1
    have l7 : 7 < h3.length := by omega
    have g7 := S3.h7 B
    have s7 : (h3 ++ [(5, [Value.null, Value.int 0, Value.int 0])])[7]? = some (c7 tp.length (nI p') (nI j) (nI o3.length)) := by rw [gapp _ l7]; exact g7
    have s11 : (h3 ++ [(5, [Value.null, Value.int 0, Value.int 0])])[11]? = some (100, it2.map .int) := by rw [gapp _ l11]; exact k4.1
    have u4 : ∀ k : Value → MRes, gfV none (h3 ++ [(5, [Value.null, Value.int 0, Value.int 0])]) 7 [9] 4 k = k (.ref 11) := fun k => gfV_at s7 rfl rfl k
    have u7 : ∀ k : Int32 → MRes, gfI none (h3 ++ [(5, [Value.null, Value.int 0, Value.int 0])]) 7 [9] 7 k = k (nI o3.length) := fun k => gfI_at s7 rfl rfl k
    rw [u4, u7, c_262 s11 k4.2 (show o3.length < 160 by omega) (d + 97), cR_r]
    have e5 : it2.take o3.length = o3.map nI := by
      refine List.ext_getElem? (fun k => ?_)
      by_cases hk : k < o3.length
      · have := k8 k hk
        rw [List.getD_eq_getElem?_getD, List.getD_eq_getElem?_getD, List.getElem?_eq_getElem (by rw [k4.2]; omega), List.getElem?_eq_getElem hk] at this
        rw [List.getElem?_take_of_lt hk, List.getElem?_map, List.getElem?_eq_getElem (by rw [k4.2]; omega), List.getElem?_eq_getElem hk]
        exact congrArg some this
      · rw [List.getElem?_eq_none (by rw [List.length_take]; omega), List.getElem?_eq_none (by rw [List.length_map]; omega)]
    have l4 : (h3 ++ [(5, [Value.null, Value.int 0, Value.int 0])]).length = h3.length + 1 := by rw [List.length_append]; rfl
    rw [e5, l4]
    generalize hB : (h3 ++ [(5, [Value.null, Value.int 0, Value.int 0])]) ++ [(100, (o3.map nI).map Value.int)] = h4
    have w0 : h4[h3.length]? = some (5, [Value.null, Value.int 0, Value.int 0]) := by rw [← hB, gapp _ (by rw [l4]; omega), gnew]
    have w1 : h4[h3.length + 1]? = some (100, (o3.map nI).map Value.int) := by rw [← hB, ← l4, gnew]
    have wl : h4.length = h3.length + 2 := by rw [← hB, List.length_append, l4]; rfl
    have wf : ∀ a : Nat, a < h3.length → h4[a]? = h3[a]? := fun a ha => by rw [← hB, gapp _ (by rw [l4]; omega), gapp _ ha]
    have pv : ∀ k : MHeap → MRes, pfV none h4 h3.length [5] 0 (.ref (h3.length + 1)) k = k (h4.set h3.length (5, [.ref (h3.length + 1), .int 0, .int 0])) := by
      intro k
      simp only [pfV, w0]
      rw [if_pos ⟨rfl, by show 0 < 3; decide⟩]
      rfl
    have w2 : (h4.set h3.length (5, [.ref (h3.length + 1), .int 0, .int 0]))[h3.length]? = some (5, [.ref (h3.length + 1), .int 0, .int 0]) := gset w0 _
    have w3 : (h4.set h3.length (5, [.ref (h3.length + 1), .int (nI o1.length), .int 0]))[h3.length]? = some (5, [.ref (h3.length + 1), .int (nI o1.length), .int 0]) := gset w0 _
    have c35 : call (d + 99) 35 [.ref h3.length, .ref (h3.length + 1), .int (nI o1.length), .int (nI o2.length)] h4 = some (none, h4.set h3.length (5, [.ref (h3.length + 1), .int (nI o1.length), .int (nI o2.length)])) := by
      rw [e_35, c_obj, cV_s, pv, pfI_at w2 rfl (by show 1 < 3; decide), List.set_set]
      show pfI none (h4.set h3.length (5, [.ref (h3.length + 1), .int (nI o1.length), .int 0])) h3.length [5] 2 (nI o2.length) _ = _
      rw [pfI_at w3 rfl (by show 2 < 3; decide), List.set_set]
      rfl
    rw [c35, cV_s, ← k7]
    refine ⟨_, rfl, ⟨x', z', tk2, pl2, it2, ?_, ⟨?_, k2.2⟩, ⟨?_, k3.2⟩, ⟨?_, k4.2⟩, k5⟩, ?_, fun e => (by cases e), ?_⟩
    · rw [gset_ne _ (by omega), wf 7 l7]; exact k1
    · rw [gset_ne _ (by omega), wf 9 (by omega)]; exact k2.1
    · rw [gset_ne _ (by omega), wf 10 (by omega)]; exact k3.1
    · rw [gset_ne _ (by omega), wf 11 l11]; exact k4.1
    · intro a ha n7 n9 n10 n11
      rw [gset_ne _ (by omega), wf a ha]
      exact k6 a (by omega) n7 n9 n10 n11
    · intro T hT
      cases hT
      exact ⟨by rw [List.length_set]; exact wl, gset w0 _, by rw [gset_ne _ (by omega)]; exact w1⟩
  · rw [if_neg (fun e => t ((tC_m1 (t := tkt tp j) (tkA_le tp _)).1 e))]
    exact bad S3 q3.1 rr
