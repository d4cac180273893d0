/-! the machine goes the parse's way -/
section PMA
variable {tk : Nat → Nat} {M : Nat}
theorem Con.up {m1 m2 op i : Nat} {out : List Nat} {b : Bool} {i' : Nat} {o' K : List Nat} {w : Nat} (h1 : m1 ≠ 14) (h2 : m2 ≠ 14) (hl : Lw m1 → Lw m2) (ho : Lo m1 ≤ Lo m2) (C : Con tk M m1 op i out b i' o' K w) : Con tk M m2 op i out b i' o' K w := by
  refine ⟨C.1, fun e _ => ?_, fun _ e => absurd e h2⟩
  rcases C.2.1 e h1 with ⟨a, b, c⟩ | ⟨a, b⟩
  · exact Or.inl ⟨hl a, b, c⟩
  · exact Or.inr ⟨by omega, b⟩
theorem mm_L {lv i : Nat} (hl : lv < 4) (hi : i < M) (hj : jnt lv (tk i) = true) {K : List Nat} (hK : hr K < Hi (4 + lv)) (op : Nat) (out : List Nat) : mm tk M i K op out 0 = mm tk M (i + 1) (tk i :: K) op out (if lv < 2 then 2 else 1) := by
  obtain ⟨t1, t2, t3, t4, t5, t6⟩ := (jnt_t hl).1 hj
  have hh : Hi (4 + lv) = if lv = 0 then 1 else if lv = 1 then 2 else if lv = 2 then 5 else 6 := by
    rcases (show lv = 0 ∨ lv = 1 ∨ lv = 2 ∨ lv = 3 by omega) with z | z | z | z <;> subst z <;> rfl
  have n4 : trk (tk i) ≠ 4 ∧ trk (tk i) ≠ 0 := by
    rw [t2]
    rcases (show lv = 0 ∨ lv = 1 ∨ lv = 2 ∨ lv = 3 by omega) with z | z | z | z <;> subst z <;> decide
  rw [mm_s hi, if_pos rfl, if_neg t5, if_neg t6, if_neg n4.2, if_neg n4.1, unw_st (by rw [t2, ← hh]; exact hK)]
  show (if trk (tk i) = 4 ∧ hr K = 4 then _ else _) = _
  rw [if_neg (fun e => n4.1 e.1)]
  by_cases l2 : lv < 2
  · rw [if_pos (t3.1 l2), if_pos l2]
  · rw [if_neg (fun e => l2 (t3.2 e)), if_neg l2]
theorem pm_all {N : Nat} (hN : 20000 ≤ tk N) (hM : M = N + 1) {m op i : Nat} {out : List Nat} {b : Bool} {i' : Nat} {o' : List Nat} (hm : m ≤ 14) (h : Pd tk m op i out b i' o') (h5 : op ≤ 5) (hi : i ≤ N) (h12 : m = 12 → tk i = 5) (K : List Nat) (w : Nat) (hK : m ≠ 14 → hr K < Hi m) (hw : Wc tk m i w) : Con tk M m op i out b i' o' K w := by
  obtain ⟨f, h⟩ := h
  refine ps_ind (tk := tk) (P := fun m op i out b i' o' => op ≤ 5 → i ≤ N → (m = 12 → tk i = 5) → ∀ (K : List Nat) (w : Nat), (m ≠ 14 → hr K < Hi m) → Wc tk m i w → Con tk M m op i out b i' o' K w) ?_ ?_ ?_ ?_ ?_ ?_ ?_ ?_ ?_ ?_ ?_ ?_ ?_ ?_ ?_ ?_ ?_ ?_ ?_ ?_ ?_ ?_ ?_ ?_ ?_ f m op i out b i' o' hm h h5 hi h12 K w hK hw
  · intro lv op i out i' o' hl _ ih h5 hi _ K w hK hw
    have e1 : Hi lv ≤ Hi (8 + lv) ∧ (Wc tk lv i w → Wc tk (8 + lv) i w) := by
      rcases (show lv = 0 ∨ lv = 1 ∨ lv = 2 ∨ lv = 3 by omega) with z | z | z | z <;> subst z <;> exact ⟨by decide, fun h => h⟩
    have C := ih h5 hi (by omega) K w (fun _ => by have := hK (by omega); omega) (e1.2 hw)
    exact ⟨C.1, fun e => (by cases e), fun e => (by cases e)⟩
  · intro lv op i out i1 o1 b i2 o2 hl pd ih pd2 ih2 h5 hi _ K w hK hw
    have e1 : Hi lv ≤ Hi (8 + lv) ∧ (Wc tk lv i w → Wc tk (8 + lv) i w) ∧ (Lw (8 + lv) → Lw lv ∧ lv < 2) ∧ (Lw (4 + lv) → Lw lv) ∧ Lo (4 + lv) ≤ Lo lv ∧ Hi lv ≤ Hi (4 + lv) ∧ (trk (tk i1) ≤ Lo (8 + lv) → Wc tk (4 + lv) i1 0) := by
      rcases (show lv = 0 ∨ lv = 1 ∨ lv = 2 ∨ lv = 3 by omega) with z | z | z | z <;> subst z <;> exact ⟨by decide, fun h => h, by unfold Lw; omega, by unfold Lw; omega, by decide, by decide, fun h => ⟨rfl, h⟩⟩
    have q := pd_le hN (by omega) pd (by omega) hi
    have C := ih h5 hi (by omega) K w (fun _ => by have := hK (by omega); omega) (e1.2.1 hw)
    rcases C.2.1 rfl (by omega) with ⟨a1, a2, a3⟩ | ⟨a1, a2⟩
    · have l := e1.2.2.1 a1
      have jf : jnt lv (tk i1) = false := by
        cases z : jnt lv (tk i1) with
        | false => rfl
        | true =>
          have := ((jnt_t hl).1 z).2.1
          rw [a2] at this
          rcases (show lv = 0 ∨ lv = 1 by omega) with y | y <;> subst y <;> cases this
      obtain ⟨rfl, rfl, rfl⟩ := pd_L hl pd2 jf
      exact ⟨fun e => (by cases e), fun _ _ => Or.inl ⟨l.1, a2, a3⟩, fun _ e => (by omega)⟩
    · have D := ih2 h5 q.2.1 (by omega) K 0 (fun _ => by have := hK (by omega); omega) (e1.2.2.2.2.2.2 a1)
      refine ⟨fun e => a2.trans (D.1 e), fun e _ => ?_, fun _ e => (by omega)⟩
      rcases D.2.1 e (by omega) with ⟨b1, b2, b3⟩ | ⟨b1, b2⟩
      · exact Or.inl ⟨e1.2.2.2.1 b1, b2, a2.trans b3⟩
      · exact Or.inr ⟨by omega, a2.trans b2⟩
  · intro lv op i out hl j h5 hi _ K w hK hw
    have jt := (jnt_t hl (t := tk i)).2 j
    have v := (trk_v (tk i)).1
    have hw : w = 0 ∧ trk (tk i) ≤ Lo (4 + lv + 4) := by
      unfold Wc at hw
      rw [if_pos (by omega)] at hw
      exact hw
    refine ⟨fun e => (by cases e), fun _ _ => Or.inr ⟨?_, by rw [hw.1]⟩, fun _ e => (by omega)⟩
    have h2 := hw.2
    rcases (show lv = 0 ∨ lv = 1 ∨ lv = 2 ∨ lv = 3 by omega) with z | z | z | z <;> subst z
    · have : Lo (4 + 0 + 4) = 1 := rfl
      have : Lo (4 + 0) = 0 := rfl
      have jt : trk (tk i) ≠ 1 := jt
      omega
    · have : Lo (4 + 1 + 4) = 3 := rfl
      have : Lo (4 + 1) = 1 := rfl
      have jt : trk (tk i) ≠ 2 := jt
      omega
    · have : Lo (4 + 2 + 4) = 5 := rfl
      have : Lo (4 + 2) = 4 := rfl
      have jt : trk (tk i) ≠ 5 := jt
      omega
    · have : Lo (4 + 3) = 5 := rfl
      have jt : trk (tk i) ≠ 6 := jt
      omega
  · intro lv op i out i' o' hl j _ ih h5 hi _ K w hK hw
    have hw : w = 0 := by
      unfold Wc at hw
      rw [if_pos (by omega)] at hw
      exact hw.1
    subst hw
    have s := tk_st hN hi (jnt_lt j).1
    have t := (jnt_t hl).1 j
    have e1 : hr (tk i :: K) < Hi (8 + lv) ∧ Wc tk (8 + lv) (i + 1) (if lv < 2 then 2 else 1) := by
      show rk (tk i) < Hi (8 + lv) ∧ _
      rw [t.1, t.2.1]
      rcases (show lv = 0 ∨ lv = 1 ∨ lv = 2 ∨ lv = 3 by omega) with z | z | z | z <;> subst z
      · exact ⟨by decide, rfl⟩
      · exact ⟨by decide, rfl⟩
      · exact ⟨by decide, by decide, fun e => by cases e⟩
      · exact ⟨by decide, by decide, fun e => by cases e⟩
    have C := ih h5 s (by omega) (tk i :: K) _ (fun _ => e1.1) e1.2
    have st := mm_L (M := M) hl (show i < M by omega) j (hK (by omega)) op out
    exact ⟨fun e => st.trans (C.1 e), fun e => (by cases e), fun e => (by cases e)⟩
  · intro lv op i out i1 o1 b i2 o2 hl j pd ih pd2 ih2 h5 hi _ K w hK hw
    have hw : w = 0 := by
      unfold Wc at hw
      rw [if_pos (by omega)] at hw
      exact hw.1
    subst hw
    have s := tk_st hN hi (jnt_lt j).1
    have t := (jnt_t hl).1 j
    have q := pd_le hN (by omega) pd (by omega) s
    have e1 : hr (tk i :: K) < Hi (8 + lv) ∧ Wc tk (8 + lv) (i + 1) (if lv < 2 then 2 else 1) := by
      show rk (tk i) < Hi (8 + lv) ∧ _
      rw [t.1, t.2.1]
      rcases (show lv = 0 ∨ lv = 1 ∨ lv = 2 ∨ lv = 3 by omega) with z | z | z | z <;> subst z
      · exact ⟨by decide, rfl⟩
      · exact ⟨by decide, rfl⟩
      · exact ⟨by decide, by decide, fun e => by cases e⟩
      · exact ⟨by decide, by decide, fun e => by cases e⟩
    have e2 : (Lw (8 + lv) → Lw (4 + lv) ∧ lv < 2) ∧ (trk (tk i1) ≤ Lo (8 + lv) → Wc tk (4 + lv) i1 0) ∧ (trk (tk i1) ≤ Lo (8 + lv) → trk (tk i1) ≤ trk (tk i)) ∧ 1 ≤ trk (tk i) ∧ trk (tk i) ≠ 4 := by
      rw [t.2.1]
      have v := (trk_v (tk i1)).1
      rcases (show lv = 0 ∨ lv = 1 ∨ lv = 2 ∨ lv = 3 by omega) with z | z | z | z <;> subst z
      · exact ⟨by unfold Lw; omega, fun h => ⟨rfl, h⟩, fun h => h, by decide, by decide⟩
      · exact ⟨by unfold Lw; omega, fun h => ⟨rfl, h⟩, fun h => (by have h : trk (tk i1) ≤ 3 := h; show trk (tk i1) ≤ 2; omega), by decide, by decide⟩
      · exact ⟨by unfold Lw; omega, fun h => ⟨rfl, h⟩, fun h => h, by decide, by decide⟩
      · exact ⟨by unfold Lw; omega, fun h => ⟨rfl, h⟩, fun h => (by show trk (tk i1) ≤ 6; omega), by decide, by decide⟩
    have C := ih h5 s (by omega) (tk i :: K) _ (fun _ => e1.1) e1.2
    have st := mm_L (M := M) hl (show i < M by omega) j (hK (by omega)) op out
    rcases C.2.1 rfl (by omega) with ⟨a1, a2, a3⟩ | ⟨a1, a2⟩
    · have l := e2.1 a1
      have jf : jnt lv (tk i1) = false := by
        cases z : jnt lv (tk i1) with
        | false => rfl
        | true =>
          have := ((jnt_t hl).1 z).2.1
          rw [a2] at this
          rcases (show lv = 0 ∨ lv = 1 by omega) with y | y <;> subst y <;> cases this
      obtain ⟨rfl, rfl, rfl⟩ := pd_L hl pd2 jf
      exact ⟨fun e => (by cases e), fun _ _ => Or.inl ⟨l.1, a2, st.trans a3⟩, fun _ e => (by omega)⟩
    · have pp := mm_pop (tk := tk) (M := M) (i := i1) (u := tk i) (show i1 < M by omega) K op o1 (by rw [t.1]; exact e2.2.2.2.1) (by rw [t.1]; exact e2.2.2.1 a1) (fun e => by rw [t.1] at e; exact absurd e e2.2.2.2.2)
      have on : opn (tk i) op = op := if_neg (by
        have := t.2.1
        intro e
        rcases e with e | e <;> rw [e] at this <;> rcases (show lv = 0 ∨ lv = 1 ∨ lv = 2 ∨ lv = 3 by omega) with y | y | y | y <;> subst y <;> cases this)
      rw [on] at pp
      have a3 := st.trans (a2.trans pp)
      have D := ih2 h5 q.2.1 (by omega) K 0 (fun h => hK h) (e2.2.1 a1)
      refine ⟨fun e => a3.trans (D.1 e), fun e _ => ?_, fun _ e => (by omega)⟩
      rcases D.2.1 e (by omega) with ⟨b1, b2, b3⟩ | ⟨b1, b2⟩
      · exact Or.inl ⟨b1, b2, a3.trans b3⟩
      · exact Or.inr ⟨b1, a3.trans b2⟩
  · intro op i out b i' o' _ ih h5 hi _ K w hK hw
    exact (ih h5 hi (by omega) K w (fun _ => hK (by decide)) hw).up (by decide) (by decide) (fun _ => by unfold Lw; omega) (by decide)
  · intro op i out b i' o' t5 _ ih h5 hi _ K w hK hw
    exact (ih h5 hi (fun _ => t5) K w (fun _ => hK (by decide)) hw).up (by decide) (by decide) (fun _ => by unfold Lw; omega) (by decide)
  · intro op i out b i' o' t5 _ ih h5 hi _ K w hK hw
    have hw : w = 2 := hw
    exact (ih h5 hi (by omega) K w (fun _ => hK (by decide)) ⟨by omega, fun _ => t5⟩).up (by decide) (by decide) (fun _ => by unfold Lw; omega) (by decide)
  · intro op i out b i' o' _ ih h5 hi _ K w hK hw
    exact (ih h5 hi (by omega) K w (fun _ => hK (by decide)) hw).up (by decide) (by decide) (fun h => by unfold Lw at h; omega) (by decide)
  · intro op i out b i' o' _ ih h5 hi _ K w hK hw
    have C := ih h5 hi (by omega) K w (fun h => absurd rfl h) hw
    refine ⟨C.1, fun e _ => Or.inr ⟨?_, ?_⟩, fun _ e => (by omega)⟩
    · have := (trk_v (tk i')).1
      show _ ≤ 7
      omega
    · have := C.2.2 e rfl
      rw [unw_st (show hr K < 7 from hK (by decide))] at this
      exact this
  · intro op i out o5 h5 hi t5 K w hK hw
    have hw : w = 2 := hw
    have t5 := t5 rfl
    refine ⟨fun _ => ?_, fun e => (by cases e), fun e => (by cases e)⟩
    rw [mm_s (show i < M by omega), if_neg (by omega), if_neg (by rw [t5]; decide), if_pos ⟨t5, hw⟩, if_pos (by omega)]
  · intro op i out i' o' o5 _ ih h5 hi t5 K w hK hw
    have hw : w = 2 := hw
    have t5 := t5 rfl
    have C := ih (by omega) (tk_st hN hi (by omega)) (by omega) (5 :: K) 2 (fun _ => by show 3 < 4; decide) rfl
    refine ⟨fun e => ?_, fun e => (by cases e), fun e => (by cases e)⟩
    rw [mm_s (show i < M by omega), if_neg (by omega), if_neg (by rw [t5]; decide), if_pos ⟨t5, hw⟩, if_neg (by omega)]
    exact C.1 e
  · intro op i out i' o' o5 pd ih h5 hi t5 K w hK hw
    have hw : w = 2 := hw
    have t5 := t5 rfl
    have s := tk_st hN hi (by omega)
    have q := pd_le hN (by omega) pd (by omega) s
    have C := ih (by omega) s (by omega) (5 :: K) 2 (fun _ => by show 3 < 4; decide) rfl
    have st : mm tk M i K op out w = mm tk M (i + 1) (5 :: K) (op + 1) out 2 := by
      rw [mm_s (show i < M by omega), if_neg (by omega), if_neg (by rw [t5]; decide), if_pos ⟨t5, hw⟩, if_neg (by omega)]
    refine ⟨fun e => (by cases e), fun _ _ => ?_, fun _ e => (by omega)⟩
    rcases C.2.1 rfl (by decide) with ⟨a1, a2, a3⟩ | ⟨a1, a2⟩
    · exact Or.inl ⟨by unfold Lw; omega, a2, st.trans a3⟩
    · have a1 : trk (tk i') ≤ 3 := a1
      have pp := mm_pop (tk := tk) (M := M) (i := i') (u := 5) (show i' < M by omega) K (op + 1) o' (by decide) a1 (fun e => absurd e (by decide))
      exact Or.inr ⟨a1, st.trans (a2.trans pp)⟩
  · intro op i out i' o' _ ih h5 hi _ K w hK hw
    have hk := hK (by decide)
    have hk : hr K < 4 := hk
    have C := ih h5 hi (by omega) K w (fun _ => by show hr K < 5; omega) hw
    exact ⟨C.1, fun e => (by cases e), fun e => (by cases e)⟩
  · intro op i out i' o' ne pd ih h5 hi _ K w hK hw
    have hk : hr K < 4 := hK (by decide)
    have C := ih h5 hi (by omega) K w (fun _ => by show hr K < 5; omega) hw
    refine ⟨fun e => (by cases e), fun _ _ => ?_, fun _ e => (by omega)⟩
    have v := trk_v (tk i')
    rcases C.2.1 rfl (by decide) with ⟨a1, a2, a3⟩ | ⟨a1, a2⟩
    · exact absurd (v.2.2.2.1.1 a2) ne
    · have a1 : trk (tk i') ≤ 4 := a1
      have n4 : trk (tk i') ≠ 4 := fun e => ne (v.2.2.2.1.1 e)
      exact Or.inr ⟨by show _ ≤ 3; omega, a2⟩
  · intro op i out i1 o1 i' o' c pd ih _ ih2 h5 hi _ K w hK hw
    have hk : hr K < 4 := hK (by decide)
    have q := pd_le hN (by omega) pd (by omega) hi
    have s := tk_st hN q.2.1 (by omega)
    have C := ih h5 hi (by omega) K w (fun _ => by show hr K < 5; omega) hw
    have c4 : trk (tk i1) = 4 := (trk_v (tk i1)).2.2.2.1.2 c
    have rk4 : rk (tk i1) = 4 := by unfold rk; rw [if_neg (by omega), if_neg (by omega)]; exact c4
    have D := ih2 h5 s (by omega) (tk i1 :: K) 1 (fun _ => by show rk (tk i1) < 5; omega) ⟨by decide, fun e => by cases e⟩
    have st : mm tk M i1 K op o1 0 = mm tk M (i1 + 1) (tk i1 :: K) op o1 1 := by
      rw [mm_s (show i1 < M by omega), if_pos rfl, if_neg (by omega), if_neg (by omega), if_neg (by omega), if_pos c4, unw_st (by omega)]
      show (if trk (tk i1) = 4 ∧ hr K = 4 then _ else _) = _
      rw [if_neg (by omega), if_neg (by omega)]
    refine ⟨fun e => ?_, fun e => (by cases e), fun e => (by cases e)⟩
    rcases C.2.1 rfl (by decide) with ⟨a1, a2, a3⟩ | ⟨a1, a2⟩
    · unfold Lw at a1; omega
    · exact a2.trans (st.trans (D.1 e))
  · intro op i out i1 o1 i' o' c pd ih pd2 ih2 h5 hi _ K w hK hw
    have hk : hr K < 4 := hK (by decide)
    have q := pd_le hN (by omega) pd (by omega) hi
    have s := tk_st hN q.2.1 (by omega)
    have q2 := pd_le hN (by omega) pd2 (by omega) s
    have C := ih h5 hi (by omega) K w (fun _ => by show hr K < 5; omega) hw
    have c4 : trk (tk i1) = 4 := (trk_v (tk i1)).2.2.2.1.2 c
    have rk4 : rk (tk i1) = 4 := by unfold rk; rw [if_neg (by omega), if_neg (by omega)]; exact c4
    have D := ih2 h5 s (by omega) (tk i1 :: K) 1 (fun _ => by show rk (tk i1) < 5; omega) ⟨by decide, fun e => by cases e⟩
    have st : mm tk M i1 K op o1 0 = mm tk M (i1 + 1) (tk i1 :: K) op o1 1 := by
      rw [mm_s (show i1 < M by omega), if_pos rfl, if_neg (by omega), if_neg (by omega), if_neg (by omega), if_pos c4, unw_st (by omega)]
      show (if trk (tk i1) = 4 ∧ hr K = 4 then _ else _) = _
      rw [if_neg (by omega), if_neg (by omega)]
    refine ⟨fun e => (by cases e), fun _ _ => ?_, fun _ e => (by omega)⟩
    rcases C.2.1 rfl (by decide) with ⟨a1, a2, a3⟩ | ⟨a1, a2⟩
    · unfold Lw at a1; omega
    rcases D.2.1 rfl (by decide) with ⟨b1, b2, b3⟩ | ⟨b1, b2⟩
    · unfold Lw at b1; omega
    have b1 : trk (tk i') ≤ 4 := b1
    by_cases z : trk (tk i') = 4
    · refine Or.inl ⟨by unfold Lw; omega, z, a2.trans (st.trans (b2.trans ?_))⟩
      have z2 := (trk_v (tk i')).2.2.2.1.1 z
      rw [mm_s (show i' < M by omega), if_pos rfl, if_neg (by omega), if_neg (by omega), if_neg (by omega), if_pos z, unw_st (by show rk (tk i1) < 5; omega)]
      show (if trk (tk i') = 4 ∧ rk (tk i1) = 4 then _ else _) = _
      rw [if_pos ⟨z, rk4⟩]
    · have pp := mm_pop (tk := tk) (M := M) (i := i') (u := tk i1) (show i' < M by omega) K op o' (by omega) (by omega) (fun _ => z)
      rw [show opn (tk i1) op = op from if_neg (by omega)] at pp
      exact Or.inr ⟨by show _ ≤ 3; omega, a2.trans (st.trans (b2.trans pp))⟩
  · intro op i out j h5 hi _ K w hK hw
    have hw : w ≠ 0 := hw.1
    refine ⟨fun e => (by cases e), fun _ e => absurd rfl e, fun _ _ => ?_⟩
    rw [mm_s (show i < M by omega), if_neg hw, if_pos j]
  · intro op i out j c o5 h5 hi _ K w hK hw
    have hw1 : w ≠ 0 := hw.1
    refine ⟨fun _ => ?_, fun e => (by cases e), fun e => (by cases e)⟩
    rw [mm_s (show i < M by omega), if_neg hw1, if_neg (by rw [j]; decide), if_neg (by omega)]
    by_cases z : tk i = 45
    · rw [if_pos z, if_pos (by omega)]
    · rw [if_neg z, if_pos (by omega), if_pos (by omega)]
  · intro op i out i' o' t o5 _ ih h5 hi _ K w hK hw
    have hw1 : w ≠ 0 := hw.1
    have C := ih (by omega) (tk_st hN hi (by omega)) (by omega) (12 :: K) 1 (fun e => absurd rfl e) ⟨by decide, fun e => by cases e⟩
    refine ⟨fun e => ?_, fun e => (by cases e), fun e => (by cases e)⟩
    rw [mm_s (show i < M by omega), if_neg hw1, if_neg (by rw [t]; decide), if_neg (by omega), if_pos t, if_neg (by omega)]
    exact C.1 e
  · intro op i out i' o' t o5 _ ih h5 hi _ K w hK hw
    have hw1 : w ≠ 0 := hw.1
    have C := ih (by omega) (tk_st hN hi (by omega)) (by omega) (12 :: K) 1 (fun e => absurd rfl e) ⟨by decide, fun e => by cases e⟩
    refine ⟨fun e => (by cases e), fun _ e => absurd rfl e, fun _ _ => ?_⟩
    rw [mm_s (show i < M by omega), if_neg hw1, if_neg (by rw [t]; decide), if_neg (by omega), if_pos t, if_neg (by omega)]
    have := C.2.2 rfl rfl
    rw [unw_pop K (by decide)] at this
    exact this
  · intro op i out i' o' t o5 _ ih h5 hi _ K w hK hw
    have hw1 : w ≠ 0 := hw.1
    have C := ih (by omega) (tk_st hN hi (by omega)) (by omega) (40 :: K) 2 (fun _ => by show 0 < 1; decide) rfl
    refine ⟨fun e => ?_, fun e => (by cases e), fun e => (by cases e)⟩
    rw [mm_s (show i < M by omega), if_neg hw1, if_neg (by rw [t]; decide), if_neg (by omega), if_neg (by omega), if_pos t, if_neg (by omega)]
    exact C.1 e
  · intro op i out i' o' t o5 t41 pd ih h5 hi _ K w hK hw
    have hw1 : w ≠ 0 := hw.1
    have s := tk_st hN hi (by omega)
    have q := pd_le hN (by omega) pd (by omega) s
    have C := ih (by omega) s (by omega) (40 :: K) 2 (fun _ => by show 0 < 1; decide) rfl
    refine ⟨fun _ => ?_, fun e => (by cases e), fun e => (by cases e)⟩
    rw [mm_s (show i < M by omega), if_neg hw1, if_neg (by rw [t]; decide), if_neg (by omega), if_neg (by omega), if_pos t, if_neg (by omega)]
    rcases C.2.1 rfl (by decide) with ⟨a1, a2, a3⟩ | ⟨a1, a2⟩
    · exact a3
    · have a1 : trk (tk i') ≤ 0 := a1
      rw [a2, mm_s (show i' < M by omega), if_pos rfl, unw_st (show hr (40 :: K) < 1 by show 0 < 1; decide)]
      by_cases z : tk i' = 59
      · rw [if_pos z]
      · rw [if_neg z, if_neg t41, if_pos (by omega)]
  · intro op i out i' o' t o5 t41 pd ih h5 hi _ K w hK hw
    have hw1 : w ≠ 0 := hw.1
    have s := tk_st hN hi (by omega)
    have q := pd_le hN (by omega) pd (by omega) s
    have C := ih (by omega) s (by omega) (40 :: K) 2 (fun _ => by show 0 < 1; decide) rfl
    refine ⟨fun e => (by cases e), fun _ e => absurd rfl e, fun _ _ => ?_⟩
    rw [mm_s (show i < M by omega), if_neg hw1, if_neg (by rw [t]; decide), if_neg (by omega), if_neg (by omega), if_pos t, if_neg (by omega)]
    rcases C.2.1 rfl (by decide) with ⟨a1, a2, a3⟩ | ⟨a1, a2⟩
    · rw [t41] at a2; cases a2
    · rw [a2, mm_s (show i' < M by omega), if_pos rfl, if_neg (by omega), if_pos t41, unw_st (show hr (40 :: K) < 1 by show 0 < 1; decide)]
      rfl
  · intro op i out j n45 n40 h5 hi _ K w hK hw
    have hw1 : w ≠ 0 := hw.1
    have hw2 : w = 2 → tk i ≠ 5 := hw.2
    refine ⟨fun _ => ?_, fun e => (by cases e), fun e => (by cases e)⟩
    rw [mm_s (show i < M by omega), if_neg hw1, if_neg (by rw [j]; decide), if_neg (fun e => hw2 e.2 e.1), if_neg n45, if_neg n40]
/-- a part of a text -/
theorem pm_part {N : Nat} (hN : 20000 ≤ tk N) (hM : M = N + 1) {p i : Nat} {out : List Nat} {b : Bool} {i' : Nat} {o' : List Nat} (hp : p < 3) (hi : i ≤ N) (h : Pp tk p i out b i' o') (hpi : tk i = p) : mm tk M (i + 1) [] 0 out 2 = if b = true then some (i' - 1, some o') else some (i', none) := by
  rcases h with ⟨z, _⟩ | ⟨_, ⟨e, rfl⟩ | ⟨i1, e, h⟩⟩
  · exact absurd hpi z
  · have C := pm_all (M := M) hN hM (by decide) e (by decide) (tk_st hN hi (by omega)) (by omega) [] 2 (fun _ => by show 0 < 1; decide) rfl
    exact C.1 rfl
  · have s := tk_st hN hi (by omega)
    have q := pd_le hN (by omega) e (by omega) s
    have C := pm_all (M := M) hN hM (by decide) e (by decide) s (by omega) [] 2 (fun _ => by show 0 < 1; decide) rfl
    rcases C.2.1 rfl (by decide) with ⟨a1, a2, a3⟩ | ⟨a1, a2⟩
    · rcases h with ⟨t, rfl, rfl⟩ | ⟨t, rfl, rfl⟩
      · rw [t] at a2; cases a2
      · exact a3
    · have a1 : trk (tk i1) ≤ 0 := a1
      rcases h with ⟨t, rfl, rfl⟩ | ⟨t, rfl, rfl⟩
      · rw [a2, mm_s (show i1 < M by omega), if_pos rfl, if_pos t]
        rfl
      · rw [a2, mm_s (show i' < M by omega), if_pos rfl, if_neg t]
        by_cases z : tk i' = 41
        · rw [if_pos z]; rfl
        · rw [if_neg z, if_pos (by omega)]; rfl
end PMA
