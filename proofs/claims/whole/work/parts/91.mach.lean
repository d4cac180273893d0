/-! the reference's way through the tokens, and that it is the class's -/
def trk (t : Nat) : Nat := if t = 3 then 1 else if t = 4 then 2 else if t = 60 then 4 else if t = 61 then 4 else if t = 43 then 5 else if t = 45 then 5 else if t = 42 then 6 else 0
def rk (u : Nat) : Nat := if u = 5 then 3 else if u = 12 then 7 else trk u
def opn (u op : Nat) : Nat := if u = 5 ∨ u = 12 then op - 1 else op
def unw (r : Nat) : List Nat → Nat → List Nat → List Nat × Nat × List Nat
  | [], op, out => ([], op, out)
  | u :: K, op, out => if rk u < r then (u :: K, op, out) else unw r K (opn u op) (out ++ [u])
def hr (K : List Nat) : Nat := match K with
  | [] => 0
  | u :: _ => rk u
abbrev Mres : Type := Option (Nat × Option (List Nat))
def mr (tk : Nat → Nat) : Nat → Nat → List Nat → Nat → List Nat → Nat → Mres
  | 0, _, _, _, _, _ => none
  | n + 1, i, K, op, out, w =>
    if w = 0 then
      if tk i = 59 then (match unw 1 K op out with
        | ([], _, o) => some (i, some o)
        | _ => some (i, none))
      else if tk i = 41 then (match unw 1 K op out with
        | ([], _, _) => some (i, none)
        | (_ :: K1, op1, o1) => match unw 7 K1 (op1 - 1) o1 with
          | (K2, op2, o2) => mr tk n (i + 1) K2 op2 o2 0)
      else if trk (tk i) = 0 then some (i, none)
      else (match unw (if trk (tk i) = 4 then 5 else trk (tk i)) K op out with
        | (K1, op1, o1) => if trk (tk i) = 4 ∧ hr K1 = 4 then some (i, none) else mr tk n (i + 1) (tk i :: K1) op1 o1 (if tk i = 3 ∨ tk i = 4 then 2 else 1))
    else
      if itm (tk i) = true then (match unw 7 K op (out ++ [tk i]) with
        | (K2, op2, o2) => mr tk n (i + 1) K2 op2 o2 0)
      else if tk i = 5 ∧ w = 2 then (if op = 5 then some (i, none) else mr tk n (i + 1) (5 :: K) (op + 1) out 2)
      else if tk i = 45 then (if op = 5 then some (i, none) else mr tk n (i + 1) (12 :: K) (op + 1) out 1)
      else if tk i = 40 then (if op = 5 then some (i, none) else mr tk n (i + 1) (40 :: K) (op + 1) out 2)
      else some (i, none)
theorem trk_v (t : Nat) : (trk t = 0 ∨ trk t = 1 ∨ trk t = 2 ∨ trk t = 4 ∨ trk t = 5 ∨ trk t = 6) ∧ (trk t = 1 → t = 3) ∧ (trk t = 2 → t = 4) ∧ (trk t = 4 ↔ (t = 60 ∨ t = 61)) ∧ (trk t = 5 → (t = 43 ∨ t = 45)) ∧ (trk t = 6 → t = 42) := by
  unfold trk
  split
  · omega
  · split
    · omega
    · split
      · omega
      · split
        · omega
        · split
          · omega
          · split
            · omega
            · split <;> omega
theorem unw_st {r : Nat} {K : List Nat} (h : hr K < r) (op : Nat) (out : List Nat) : unw r K op out = (K, op, out) := by
  cases K with
  | nil => rfl
  | cons u K => exact if_pos h
theorem unw_pop {r u : Nat} (K : List Nat) (h : ¬ rk u < r) (op : Nat) (out : List Nat) : unw r (u :: K) op out = unw r K (opn u op) (out ++ [u]) := if_neg h
section MACH
variable {tk : Nat → Nat} {M : Nat}
def mm (tk : Nat → Nat) (M i : Nat) (K : List Nat) (op : Nat) (out : List Nat) (w : Nat) : Mres := mr tk (M - i) i K op out w
theorem mm_s {i : Nat} (hi : i < M) (K : List Nat) (op : Nat) (out : List Nat) (w : Nat) : mm tk M i K op out w = if w = 0 then
      if tk i = 59 then (match unw 1 K op out with
        | ([], _, o) => some (i, some o)
        | _ => some (i, none))
      else if tk i = 41 then (match unw 1 K op out with
        | ([], _, _) => some (i, none)
        | (_ :: K1, op1, o1) => match unw 7 K1 (op1 - 1) o1 with
          | (K2, op2, o2) => mm tk M (i + 1) K2 op2 o2 0)
      else if trk (tk i) = 0 then some (i, none)
      else (match unw (if trk (tk i) = 4 then 5 else trk (tk i)) K op out with
        | (K1, op1, o1) => if trk (tk i) = 4 ∧ hr K1 = 4 then some (i, none) else mm tk M (i + 1) (tk i :: K1) op1 o1 (if tk i = 3 ∨ tk i = 4 then 2 else 1))
    else
      if itm (tk i) = true then (match unw 7 K op (out ++ [tk i]) with
        | (K2, op2, o2) => mm tk M (i + 1) K2 op2 o2 0)
      else if tk i = 5 ∧ w = 2 then (if op = 5 then some (i, none) else mm tk M (i + 1) (5 :: K) (op + 1) out 2)
      else if tk i = 45 then (if op = 5 then some (i, none) else mm tk M (i + 1) (12 :: K) (op + 1) out 1)
      else if tk i = 40 then (if op = 5 then some (i, none) else mm tk M (i + 1) (40 :: K) (op + 1) out 2)
      else some (i, none) := by
  unfold mm
  rw [show M - i = (M - (i + 1)) + 1 by omega]
  rfl
/-- a sign that waits may go at once -/
theorem mm_pop {i u : Nat} (hi : i < M) (K : List Nat) (op : Nat) (out : List Nat) (h1 : 1 ≤ rk u) (h2 : trk (tk i) ≤ rk u) (h3 : rk u = 4 → trk (tk i) ≠ 4) : mm tk M i (u :: K) op out 0 = mm tk M i K (opn u op) (out ++ [u]) 0 := by
  rw [mm_s hi, mm_s hi, if_pos rfl, if_pos rfl, unw_pop K (by omega)]
  by_cases t0 : trk (tk i) = 0
  · rw [if_pos t0, if_pos t0]
  · rw [if_neg t0, if_neg t0, unw_pop K]
    split <;> omega
def Lo (m : Nat) : Nat := if m = 0 ∨ m = 4 then 0 else if m = 1 ∨ m = 5 ∨ m = 8 then 1 else if m = 9 ∨ m = 12 ∨ m = 13 then 3 else if m = 2 ∨ m = 6 then 4 else if m = 3 ∨ m = 7 ∨ m = 10 then 5 else 7
def Hi (m : Nat) : Nat := if m = 0 ∨ m = 4 then 1 else if m = 1 ∨ m = 5 ∨ m = 8 then 2 else if m = 9 ∨ m = 12 ∨ m = 13 then 4 else if m = 2 ∨ m = 6 then 5 else if m = 3 ∨ m = 7 ∨ m = 10 then 6 else 7
/-- the modes that a second comparison can end -/
def Lw (m : Nat) : Prop := m = 0 ∨ m = 1 ∨ m = 4 ∨ m = 5 ∨ m = 8 ∨ m = 9 ∨ m = 12 ∨ m = 13
def Wc (tk : Nat → Nat) (m i w : Nat) : Prop := if 4 ≤ m ∧ m < 8 then w = 0 ∧ trk (tk i) ≤ Lo (m + 4) else if m = 0 ∨ m = 1 ∨ m = 8 ∨ m = 9 ∨ m = 12 then w = 2 else w ≠ 0 ∧ (w = 2 → tk i ≠ 5)
/-- what the machine makes of a parse -/
def Con (tk : Nat → Nat) (M m op i : Nat) (out : List Nat) (b : Bool) (i' : Nat) (o' : List Nat) (K : List Nat) (w : Nat) : Prop := (b = false → mm tk M i K op out w = some (i', none)) ∧ (b = true → m ≠ 14 → ((Lw m ∧ trk (tk i') = 4 ∧ mm tk M i K op out w = some (i', none)) ∨ (trk (tk i') ≤ Lo m ∧ mm tk M i K op out w = mm tk M i' K op o' 0))) ∧ (b = true → m = 14 → mm tk M i K op out w = (match unw 7 K op o' with
  | (K2, op2, o2) => mm tk M i' K2 op2 o2 0))
theorem pd_L {lv op i : Nat} {out : List Nat} {b : Bool} {i' : Nat} {o' : List Nat} (hl : lv < 4) (h : Pd tk (4 + lv) op i out b i' o') (hj : jnt lv (tk i) = false) : b = true ∧ i' = i ∧ o' = out := by
  obtain ⟨f, h⟩ := h
  cases f with
  | zero => cases h
  | succ f =>
    unfold ps at h
    rw [if_neg (by omega), if_pos (by omega), Nat.add_sub_cancel_left, if_neg (by rw [hj]; decide)] at h
    cases h
    exact ⟨rfl, rfl, rfl⟩
theorem jnt_t {lv t : Nat} (hl : lv < 4) : (jnt lv t = true → rk t = trk t ∧ trk t = (if lv = 0 then 1 else if lv = 1 then 2 else if lv = 2 then 5 else 6) ∧ (lv < 2 ↔ (t = 3 ∨ t = 4)) ∧ itm t = false ∧ t ≠ 59 ∧ t ≠ 41) ∧ (jnt lv t = false → trk t ≠ (if lv = 0 then 1 else if lv = 1 then 2 else if lv = 2 then 5 else 6)) := by
  have v := trk_v t
  rcases (show lv = 0 ∨ lv = 1 ∨ lv = 2 ∨ lv = 3 by omega) with z | z | z | z <;> subst z
  · refine ⟨fun h => ?_, fun h e => ?_⟩
    · have : t = 3 := by simpa [jnt] using h
      subst this; decide
    · rw [v.2.1 e] at h; cases h
  · refine ⟨fun h => ?_, fun h e => ?_⟩
    · have : t = 4 := by simpa [jnt] using h
      subst this; decide
    · rw [v.2.2.1 e] at h; cases h
  · refine ⟨fun h => ?_, fun h e => ?_⟩
    · have : t = 43 ∨ t = 45 := by simpa [jnt] using h
      rcases this with y | y <;> subst y <;> decide
    · rcases v.2.2.2.2.1 e with y | y <;> rw [y] at h <;> cases h
  · refine ⟨fun h => ?_, fun h e => ?_⟩
    · have : t = 42 := by simpa [jnt] using h
      subst this; decide
    · rw [v.2.2.2.2.2 e] at h; cases h
end MACH
/-! the machine goes the parse's way -/
section PMA
variable {tk : Nat → Nat} {M : Nat}
theorem Con.up {m1 m2 op i : Nat} {out : List Nat} {b : Bool} {i' : Nat} {o' K : List Nat} {w : Nat} (h1 : m1 ≠ 14) (h2 : m2 ≠ 14) (hl : Lw m1 → Lw m2) (ho : Lo m1 ≤ Lo m2) (C : Con tk M m1 op i out b i' o' K w) : Con tk M m2 op i out b i' o' K w := by
  refine ⟨C.1, fun e _ => ?_, fun _ e => absurd e h2⟩
  rcases C.2.1 e h1 with ⟨a, b, c⟩ | ⟨a, b⟩
  · exact Or.inl ⟨hl a, b, c⟩
  · exact Or.inr ⟨by omega, b⟩
theorem mm_L {lv i : Nat} (hl : lv < 4) (hi : i < M) (hj : jnt lv (tk i) = true) {K : List Nat} (hK : hr K < Hi (4 + lv)) (op : Nat) (out : List Nat) : mm tk M i K op out 0 = mm tk M (i + 1) (tk i :: K) op out (if lv < 2 then 2 else 1) := by
  obtain ⟨t1, t2, t3, t4, t5, t6⟩ := (jnt_t hl).1 hj
  have hh : Hi (4 + lv) = if lv = 0 then 1 else if lv = 1 then 2 else if lv = 2 then 5 else 6 := by
    rcases (show lv = 0 ∨ lv = 1 ∨ lv = 2 ∨ lv = 3 by omega) with z | z | z | z <;> subst z <;> rfl
  have n4 : trk (tk i) ≠ 4 ∧ trk (tk i) ≠ 0 := by
    rw [t2]
    rcases (show lv = 0 ∨ lv = 1 ∨ lv = 2 ∨ lv = 3 by omega) with z | z | z | z <;> subst z <;> decide
  rw [mm_s hi, if_pos rfl, if_neg t5, if_neg t6, if_neg n4.2, if_neg n4.1, unw_st (by rw [t2, ← hh]; exact hK)]
  show (if trk (tk i) = 4 ∧ hr K = 4 then _ else _) = _
  rw [if_neg (fun e => n4.1 e.1)]
  by_cases l2 : lv < 2
  · rw [if_pos (t3.1 l2), if_pos l2]
  · rw [if_neg (fun e => l2 (t3.2 e)), if_neg l2]
theorem pm_all {N : Nat} (hN : 20000 ≤ tk N) (hM : M = N + 1) {m op i : Nat} {out : List Nat} {b : Bool} {i' : Nat} {o' : List Nat} (hm : m ≤ 14) (h : Pd tk m op i out b i' o') (h5 : op ≤ 5) (hi : i ≤ N) (h12 : m = 12 → tk i = 5) (K : List Nat) (w : Nat) (hK : m ≠ 14 → hr K < Hi m) (hw : Wc tk m i w) : Con tk M m op i out b i' o' K w := by
  obtain ⟨f, h⟩ := h
  refine ps_ind (tk := tk) (P := fun m op i out b i' o' => op ≤ 5 → i ≤ N → (m = 12 → tk i = 5) → ∀ (K : List Nat) (w : Nat), (m ≠ 14 → hr K < Hi m) → Wc tk m i w → Con tk M m op i out b i' o' K w) ?_ ?_ ?_ ?_ ?_ ?_ ?_ ?_ ?_ ?_ ?_ ?_ ?_ ?_ ?_ ?_ ?_ ?_ ?_ ?_ ?_ ?_ ?_ ?_ ?_ f m op i out b i' o' hm h h5 hi h12 K w hK hw
  · intro lv op i out i' o' hl _ ih h5 hi _ K w hK hw
    have e1 : Hi lv ≤ Hi (8 + lv) ∧ (Wc tk lv i w → Wc tk (8 + lv) i w) := by
      rcases (show lv = 0 ∨ lv = 1 ∨ lv = 2 ∨ lv = 3 by omega) with z | z | z | z <;> subst z <;> exact ⟨by decide, fun h => h⟩
    have C := ih h5 hi (by omega) K w (fun _ => by have := hK (by omega); omega) (e1.2 hw)
    exact ⟨C.1, fun e => (by cases e), fun e => (by cases e)⟩
  · intro lv op i out i1 o1 b i2 o2 hl pd ih pd2 ih2 h5 hi _ K w hK hw
    have e1 : Hi lv ≤ Hi (8 + lv) ∧ (Wc tk lv i w → Wc tk (8 + lv) i w) ∧ (Lw (8 + lv) → Lw lv ∧ lv < 2) ∧ (Lw (4 + lv) → Lw lv) ∧ Lo (4 + lv) ≤ Lo lv ∧ Hi lv ≤ Hi (4 + lv) ∧ (trk (tk i1) ≤ Lo (8 + lv) → Wc tk (4 + lv) i1 0) := by
      rcases (show lv = 0 ∨ lv = 1 ∨ lv = 2 ∨ lv = 3 by omega) with z | z | z | z <;> subst z <;> exact ⟨by decide, fun h => h, by unfold Lw; omega, by unfold Lw; omega, by decide, by decide, fun h => ⟨rfl, h⟩⟩
    have q := pd_le hN (by omega) pd (by omega) hi
    have C := ih h5 hi (by omega) K w (fun _ => by have := hK (by omega); omega) (e1.2.1 hw)
    rcases C.2.1 rfl (by omega) with ⟨a1, a2, a3⟩ | ⟨a1, a2⟩
    · have l := e1.2.2.1 a1
      have jf : jnt lv (tk i1) = false := by
        cases z : jnt lv (tk i1) with
        | false => rfl
        | true =>
          have := ((jnt_t hl).1 z).2.1
          rw [a2] at this
          rcases (show lv = 0 ∨ lv = 1 by omega) with y | y <;> subst y <;> cases this
      obtain ⟨rfl, rfl, rfl⟩ := pd_L hl pd2 jf
      exact ⟨fun e => (by cases e), fun _ _ => Or.inl ⟨l.1, a2, a3⟩, fun _ e => (by omega)⟩
    · have D := ih2 h5 q.2.1 (by omega) K 0 (fun _ => by have := hK (by omega); omega) (e1.2.2.2.2.2.2 a1)
      refine ⟨fun e => a2.trans (D.1 e), fun e _ => ?_, fun _ e => (by omega)⟩
      rcases D.2.1 e (by omega) with ⟨b1, b2, b3⟩ | ⟨b1, b2⟩
      · exact Or.inl ⟨e1.2.2.2.1 b1, b2, a2.trans b3⟩
      · exact Or.inr ⟨by omega, a2.trans b2⟩
  · intro lv op i out hl j h5 hi _ K w hK hw
    have jt := (jnt_t hl (t := tk i)).2 j
    have v := (trk_v (tk i)).1
    have hw : w = 0 ∧ trk (tk i) ≤ Lo (4 + lv + 4) := by
      unfold Wc at hw
      rw [if_pos (by omega)] at hw
      exact hw
    refine ⟨fun e => (by cases e), fun _ _ => Or.inr ⟨?_, by rw [hw.1]⟩, fun _ e => (by omega)⟩
    have h2 := hw.2
    rcases (show lv = 0 ∨ lv = 1 ∨ lv = 2 ∨ lv = 3 by omega) with z | z | z | z <;> subst z
    · have : Lo (4 + 0 + 4) = 1 := rfl
      have : Lo (4 + 0) = 0 := rfl
      have jt : trk (tk i) ≠ 1 := jt
      omega
    · have : Lo (4 + 1 + 4) = 3 := rfl
      have : Lo (4 + 1) = 1 := rfl
      have jt : trk (tk i) ≠ 2 := jt
      omega
    · have : Lo (4 + 2 + 4) = 5 := rfl
      have : Lo (4 + 2) = 4 := rfl
      have jt : trk (tk i) ≠ 5 := jt
      omega
    · have : Lo (4 + 3) = 5 := rfl
      have jt : trk (tk i) ≠ 6 := jt
      omega
  · intro lv op i out i' o' hl j _ ih h5 hi _ K w hK hw
    have hw : w = 0 := by
      unfold Wc at hw
      rw [if_pos (by omega)] at hw
      exact hw.1
    subst hw
    have s := tk_st hN hi (jnt_lt j).1
    have t := (jnt_t hl).1 j
    have e1 : hr (tk i :: K) < Hi (8 + lv) ∧ Wc tk (8 + lv) (i + 1) (if lv < 2 then 2 else 1) := by
      show rk (tk i) < Hi (8 + lv) ∧ _
      rw [t.1, t.2.1]
      rcases (show lv = 0 ∨ lv = 1 ∨ lv = 2 ∨ lv = 3 by omega) with z | z | z | z <;> subst z
      · exact ⟨by decide, rfl⟩
      · exact ⟨by decide, rfl⟩
      · exact ⟨by decide, by decide, fun e => by cases e⟩
      · exact ⟨by decide, by decide, fun e => by cases e⟩
    have C := ih h5 s (by omega) (tk i :: K) _ (fun _ => e1.1) e1.2
    have st := mm_L (M := M) hl (show i < M by omega) j (hK (by omega)) op out
    exact ⟨fun e => st.trans (C.1 e), fun e => (by cases e), fun e => (by cases e)⟩
  · intro lv op i out i1 o1 b i2 o2 hl j pd ih pd2 ih2 h5 hi _ K w hK hw
    have hw : w = 0 := by
      unfold Wc at hw
      rw [if_pos (by omega)] at hw
      exact hw.1
    subst hw
    have s := tk_st hN hi (jnt_lt j).1
    have t := (jnt_t hl).1 j
    have q := pd_le hN (by omega) pd (by omega) s
    have e1 : hr (tk i :: K) < Hi (8 + lv) ∧ Wc tk (8 + lv) (i + 1) (if lv < 2 then 2 else 1) := by
      show rk (tk i) < Hi (8 + lv) ∧ _
      rw [t.1, t.2.1]
      rcases (show lv = 0 ∨ lv = 1 ∨ lv = 2 ∨ lv = 3 by omega) with z | z | z | z <;> subst z
      · exact ⟨by decide, rfl⟩
      · exact ⟨by decide, rfl⟩
      · exact ⟨by decide, by decide, fun e => by cases e⟩
      · exact ⟨by decide, by decide, fun e => by cases e⟩
    have e2 : (Lw (8 + lv) → Lw (4 + lv) ∧ lv < 2) ∧ (trk (tk i1) ≤ Lo (8 + lv) → Wc tk (4 + lv) i1 0) ∧ (trk (tk i1) ≤ Lo (8 + lv) → trk (tk i1) ≤ trk (tk i)) ∧ 1 ≤ trk (tk i) ∧ trk (tk i) ≠ 4 := by
      rw [t.2.1]
      have v := (trk_v (tk i1)).1
      rcases (show lv = 0 ∨ lv = 1 ∨ lv = 2 ∨ lv = 3 by omega) with z | z | z | z <;> subst z
      · exact ⟨by unfold Lw; omega, fun h => ⟨rfl, h⟩, fun h => h, by decide, by decide⟩
      · exact ⟨by unfold Lw; omega, fun h => ⟨rfl, h⟩, fun h => (by have h : trk (tk i1) ≤ 3 := h; show trk (tk i1) ≤ 2; omega), by decide, by decide⟩
      · exact ⟨by unfold Lw; omega, fun h => ⟨rfl, h⟩, fun h => h, by decide, by decide⟩
      · exact ⟨by unfold Lw; omega, fun h => ⟨rfl, h⟩, fun h => (by show trk (tk i1) ≤ 6; omega), by decide, by decide⟩
    have C := ih h5 s (by omega) (tk i :: K) _ (fun _ => e1.1) e1.2
    have st := mm_L (M := M) hl (show i < M by omega) j (hK (by omega)) op out
    rcases C.2.1 rfl (by omega) with ⟨a1, a2, a3⟩ | ⟨a1, a2⟩
    · have l := e2.1 a1
      have jf : jnt lv (tk i1) = false := by
        cases z : jnt lv (tk i1) with
        | false => rfl
        | true =>
          have := ((jnt_t hl).1 z).2.1
          rw [a2] at this
          rcases (show lv = 0 ∨ lv = 1 by omega) with y | y <;> subst y <;> cases this
      obtain ⟨rfl, rfl, rfl⟩ := pd_L hl pd2 jf
      exact ⟨fun e => (by cases e), fun _ _ => Or.inl ⟨l.1, a2, st.trans a3⟩, fun _ e => (by omega)⟩
    · have pp := mm_pop (tk := tk) (M := M) (i := i1) (u := tk i) (show i1 < M by omega) K op o1 (by rw [t.1]; exact e2.2.2.2.1) (by rw [t.1]; exact e2.2.2.1 a1) (fun e => by rw [t.1] at e; exact absurd e e2.2.2.2.2)
      have on : opn (tk i) op = op := if_neg (by
        have := t.2.1
        intro e
        rcases e with e | e <;> rw [e] at this <;> rcases (show lv = 0 ∨ lv = 1 ∨ lv = 2 ∨ lv = 3 by omega) with y | y | y | y <;> subst y <;> cases this)
      rw [on] at pp
      have a3 := st.trans (a2.trans pp)
      have D := ih2 h5 q.2.1 (by omega) K 0 (fun h => hK h) (e2.2.1 a1)
      refine ⟨fun e => a3.trans (D.1 e), fun e _ => ?_, fun _ e => (by omega)⟩
      rcases D.2.1 e (by omega) with ⟨b1, b2, b3⟩ | ⟨b1, b2⟩
      · exact Or.inl ⟨b1, b2, a3.trans b3⟩
      · exact Or.inr ⟨b1, a3.trans b2⟩
  · intro op i out b i' o' _ ih h5 hi _ K w hK hw
    exact (ih h5 hi (by omega) K w (fun _ => hK (by decide)) hw).up (by decide) (by decide) (fun _ => by unfold Lw; omega) (by decide)
  · intro op i out b i' o' t5 _ ih h5 hi _ K w hK hw
    exact (ih h5 hi (fun _ => t5) K w (fun _ => hK (by decide)) hw).up (by decide) (by decide) (fun _ => by unfold Lw; omega) (by decide)
  · intro op i out b i' o' t5 _ ih h5 hi _ K w hK hw
    have hw : w = 2 := hw
    exact (ih h5 hi (by omega) K w (fun _ => hK (by decide)) ⟨by omega, fun _ => t5⟩).up (by decide) (by decide) (fun _ => by unfold Lw; omega) (by decide)
  · intro op i out b i' o' _ ih h5 hi _ K w hK hw
    exact (ih h5 hi (by omega) K w (fun _ => hK (by decide)) hw).up (by decide) (by decide) (fun h => by unfold Lw at h; omega) (by decide)
  · intro op i out b i' o' _ ih h5 hi _ K w hK hw
    have C := ih h5 hi (by omega) K w (fun h => absurd rfl h) hw
    refine ⟨C.1, fun e _ => Or.inr ⟨?_, ?_⟩, fun _ e => (by omega)⟩
    · have := (trk_v (tk i')).1
      show _ ≤ 7
      omega
    · have := C.2.2 e rfl
      rw [unw_st (show hr K < 7 from hK (by decide))] at this
      exact this
  · intro op i out o5 h5 hi t5 K w hK hw
    have hw : w = 2 := hw
    have t5 := t5 rfl
    refine ⟨fun _ => ?_, fun e => (by cases e), fun e => (by cases e)⟩
    rw [mm_s (show i < M by omega), if_neg (by omega), if_neg (by rw [t5]; decide), if_pos ⟨t5, hw⟩, if_pos (by omega)]
  · intro op i out i' o' o5 _ ih h5 hi t5 K w hK hw
    have hw : w = 2 := hw
    have t5 := t5 rfl
    have C := ih (by omega) (tk_st hN hi (by omega)) (by omega) (5 :: K) 2 (fun _ => by show 3 < 4; decide) rfl
    refine ⟨fun e => ?_, fun e => (by cases e), fun e => (by cases e)⟩
    rw [mm_s (show i < M by omega), if_neg (by omega), if_neg (by rw [t5]; decide), if_pos ⟨t5, hw⟩, if_neg (by omega)]
    exact C.1 e
  · intro op i out i' o' o5 pd ih h5 hi t5 K w hK hw
    have hw : w = 2 := hw
    have t5 := t5 rfl
    have s := tk_st hN hi (by omega)
    have q := pd_le hN (by omega) pd (by omega) s
    have C := ih (by omega) s (by omega) (5 :: K) 2 (fun _ => by show 3 < 4; decide) rfl
    have st : mm tk M i K op out w = mm tk M (i + 1) (5 :: K) (op + 1) out 2 := by
      rw [mm_s (show i < M by omega), if_neg (by omega), if_neg (by rw [t5]; decide), if_pos ⟨t5, hw⟩, if_neg (by omega)]
    refine ⟨fun e => (by cases e), fun _ _ => ?_, fun _ e => (by omega)⟩
    rcases C.2.1 rfl (by decide) with ⟨a1, a2, a3⟩ | ⟨a1, a2⟩
    · exact Or.inl ⟨by unfold Lw; omega, a2, st.trans a3⟩
    · have a1 : trk (tk i') ≤ 3 := a1
      have pp := mm_pop (tk := tk) (M := M) (i := i') (u := 5) (show i' < M by omega) K (op + 1) o' (by decide) a1 (fun e => absurd e (by decide))
      exact Or.inr ⟨a1, st.trans (a2.trans pp)⟩
  · intro op i out i' o' _ ih h5 hi _ K w hK hw
    have hk := hK (by decide)
    have hk : hr K < 4 := hk
    have C := ih h5 hi (by omega) K w (fun _ => by show hr K < 5; omega) hw
    exact ⟨C.1, fun e => (by cases e), fun e => (by cases e)⟩
  · intro op i out i' o' ne pd ih h5 hi _ K w hK hw
    have hk : hr K < 4 := hK (by decide)
    have C := ih h5 hi (by omega) K w (fun _ => by show hr K < 5; omega) hw
    refine ⟨fun e => (by cases e), fun _ _ => ?_, fun _ e => (by omega)⟩
    have v := trk_v (tk i')
    rcases C.2.1 rfl (by decide) with ⟨a1, a2, a3⟩ | ⟨a1, a2⟩
    · exact absurd (v.2.2.2.1.1 a2) ne
    · have a1 : trk (tk i') ≤ 4 := a1
      have n4 : trk (tk i') ≠ 4 := fun e => ne (v.2.2.2.1.1 e)
      exact Or.inr ⟨by show _ ≤ 3; omega, a2⟩
  · intro op i out i1 o1 i' o' c pd ih _ ih2 h5 hi _ K w hK hw
    have hk : hr K < 4 := hK (by decide)
    have q := pd_le hN (by omega) pd (by omega) hi
    have s := tk_st hN q.2.1 (by omega)
    have C := ih h5 hi (by omega) K w (fun _ => by show hr K < 5; omega) hw
    have c4 : trk (tk i1) = 4 := (trk_v (tk i1)).2.2.2.1.2 c
    have rk4 : rk (tk i1) = 4 := by unfold rk; rw [if_neg (by omega), if_neg (by omega)]; exact c4
    have D := ih2 h5 s (by omega) (tk i1 :: K) 1 (fun _ => by show rk (tk i1) < 5; omega) ⟨by decide, fun e => by cases e⟩
    have st : mm tk M i1 K op o1 0 = mm tk M (i1 + 1) (tk i1 :: K) op o1 1 := by
      rw [mm_s (show i1 < M by omega), if_pos rfl, if_neg (by omega), if_neg (by omega), if_neg (by omega), if_pos c4, unw_st (by omega)]
      show (if trk (tk i1) = 4 ∧ hr K = 4 then _ else _) = _
      rw [if_neg (by omega), if_neg (by omega)]
    refine ⟨fun e => ?_, fun e => (by cases e), fun e => (by cases e)⟩
    rcases C.2.1 rfl (by decide) with ⟨a1, a2, a3⟩ | ⟨a1, a2⟩
    · unfold Lw at a1; omega
    · exact a2.trans (st.trans (D.1 e))
  · intro op i out i1 o1 i' o' c pd ih pd2 ih2 h5 hi _ K w hK hw
    have hk : hr K < 4 := hK (by decide)
    have q := pd_le hN (by omega) pd (by omega) hi
    have s := tk_st hN q.2.1 (by omega)
    have q2 := pd_le hN (by omega) pd2 (by omega) s
    have C := ih h5 hi (by omega) K w (fun _ => by show hr K < 5; omega) hw
    have c4 : trk (tk i1) = 4 := (trk_v (tk i1)).2.2.2.1.2 c
    have rk4 : rk (tk i1) = 4 := by unfold rk; rw [if_neg (by omega), if_neg (by omega)]; exact c4
    have D := ih2 h5 s (by omega) (tk i1 :: K) 1 (fun _ => by show rk (tk i1) < 5; omega) ⟨by decide, fun e => by cases e⟩
    have st : mm tk M i1 K op o1 0 = mm tk M (i1 + 1) (tk i1 :: K) op o1 1 := by
      rw [mm_s (show i1 < M by omega), if_pos rfl, if_neg (by omega), if_neg (by omega), if_neg (by omega), if_pos c4, unw_st (by omega)]
      show (if trk (tk i1) = 4 ∧ hr K = 4 then _ else _) = _
      rw [if_neg (by omega), if_neg (by omega)]
    refine ⟨fun e => (by cases e), fun _ _ => ?_, fun _ e => (by omega)⟩
    rcases C.2.1 rfl (by decide) with ⟨a1, a2, a3⟩ | ⟨a1, a2⟩
    · unfold Lw at a1; omega
    rcases D.2.1 rfl (by decide) with ⟨b1, b2, b3⟩ | ⟨b1, b2⟩
    · unfold Lw at b1; omega
    have b1 : trk (tk i') ≤ 4 := b1
    by_cases z : trk (tk i') = 4
    · refine Or.inl ⟨by unfold Lw; omega, z, a2.trans (st.trans (b2.trans ?_))⟩
      have z2 := (trk_v (tk i')).2.2.2.1.1 z
      rw [mm_s (show i' < M by omega), if_pos rfl, if_neg (by omega), if_neg (by omega), if_neg (by omega), if_pos z, unw_st (by show rk (tk i1) < 5; omega)]
      show (if trk (tk i') = 4 ∧ rk (tk i1) = 4 then _ else _) = _
      rw [if_pos ⟨z, rk4⟩]
    · have pp := mm_pop (tk := tk) (M := M) (i := i') (u := tk i1) (show i' < M by omega) K op o' (by omega) (by omega) (fun _ => z)
      rw [show opn (tk i1) op = op from if_neg (by omega)] at pp
      exact Or.inr ⟨by show _ ≤ 3; omega, a2.trans (st.trans (b2.trans pp))⟩
  · intro op i out j h5 hi _ K w hK hw
    have hw : w ≠ 0 := hw.1
    refine ⟨fun e => (by cases e), fun _ e => absurd rfl e, fun _ _ => ?_⟩
    rw [mm_s (show i < M by omega), if_neg hw, if_pos j]
  · intro op i out j c o5 h5 hi _ K w hK hw
    have hw1 : w ≠ 0 := hw.1
    refine ⟨fun _ => ?_, fun e => (by cases e), fun e => (by cases e)⟩
    rw [mm_s (show i < M by omega), if_neg hw1, if_neg (by rw [j]; decide), if_neg (by omega)]
    by_cases z : tk i = 45
    · rw [if_pos z, if_pos (by omega)]
    · rw [if_neg z, if_pos (by omega), if_pos (by omega)]
  · intro op i out i' o' t o5 _ ih h5 hi _ K w hK hw
    have hw1 : w ≠ 0 := hw.1
    have C := ih (by omega) (tk_st hN hi (by omega)) (by omega) (12 :: K) 1 (fun e => absurd rfl e) ⟨by decide, fun e => by cases e⟩
    refine ⟨fun e => ?_, fun e => (by cases e), fun e => (by cases e)⟩
    rw [mm_s (show i < M by omega), if_neg hw1, if_neg (by rw [t]; decide), if_neg (by omega), if_pos t, if_neg (by omega)]
    exact C.1 e
  · intro op i out i' o' t o5 _ ih h5 hi _ K w hK hw
    have hw1 : w ≠ 0 := hw.1
    have C := ih (by omega) (tk_st hN hi (by omega)) (by omega) (12 :: K) 1 (fun e => absurd rfl e) ⟨by decide, fun e => by cases e⟩
    refine ⟨fun e => (by cases e), fun _ e => absurd rfl e, fun _ _ => ?_⟩
    rw [mm_s (show i < M by omega), if_neg hw1, if_neg (by rw [t]; decide), if_neg (by omega), if_pos t, if_neg (by omega)]
    have := C.2.2 rfl rfl
    rw [unw_pop K (by decide)] at this
    exact this
  · intro op i out i' o' t o5 _ ih h5 hi _ K w hK hw
    have hw1 : w ≠ 0 := hw.1
    have C := ih (by omega) (tk_st hN hi (by omega)) (by omega) (40 :: K) 2 (fun _ => by show 0 < 1; decide) rfl
    refine ⟨fun e => ?_, fun e => (by cases e), fun e => (by cases e)⟩
    rw [mm_s (show i < M by omega), if_neg hw1, if_neg (by rw [t]; decide), if_neg (by omega), if_neg (by omega), if_pos t, if_neg (by omega)]
    exact C.1 e
  · intro op i out i' o' t o5 t41 pd ih h5 hi _ K w hK hw
    have hw1 : w ≠ 0 := hw.1
    have s := tk_st hN hi (by omega)
    have q := pd_le hN (by omega) pd (by omega) s
    have C := ih (by omega) s (by omega) (40 :: K) 2 (fun _ => by show 0 < 1; decide) rfl
    refine ⟨fun _ => ?_, fun e => (by cases e), fun e => (by cases e)⟩
    rw [mm_s (show i < M by omega), if_neg hw1, if_neg (by rw [t]; decide), if_neg (by omega), if_neg (by omega), if_pos t, if_neg (by omega)]
    rcases C.2.1 rfl (by decide) with ⟨a1, a2, a3⟩ | ⟨a1, a2⟩
    · exact a3
    · have a1 : trk (tk i') ≤ 0 := a1
      rw [a2, mm_s (show i' < M by omega), if_pos rfl, unw_st (show hr (40 :: K) < 1 by show 0 < 1; decide)]
      by_cases z : tk i' = 59
      · rw [if_pos z]
      · rw [if_neg z, if_neg t41, if_pos (by omega)]
  · intro op i out i' o' t o5 t41 pd ih h5 hi _ K w hK hw
    have hw1 : w ≠ 0 := hw.1
    have s := tk_st hN hi (by omega)
    have q := pd_le hN (by omega) pd (by omega) s
    have C := ih (by omega) s (by omega) (40 :: K) 2 (fun _ => by show 0 < 1; decide) rfl
    refine ⟨fun e => (by cases e), fun _ e => absurd rfl e, fun _ _ => ?_⟩
    rw [mm_s (show i < M by omega), if_neg hw1, if_neg (by rw [t]; decide), if_neg (by omega), if_neg (by omega), if_pos t, if_neg (by omega)]
    rcases C.2.1 rfl (by decide) with ⟨a1, a2, a3⟩ | ⟨a1, a2⟩
    · rw [t41] at a2; cases a2
    · rw [a2, mm_s (show i' < M by omega), if_pos rfl, if_neg (by omega), if_pos t41, unw_st (show hr (40 :: K) < 1 by show 0 < 1; decide)]
      rfl
  · intro op i out j n45 n40 h5 hi _ K w hK hw
    have hw1 : w ≠ 0 := hw.1
    have hw2 : w = 2 → tk i ≠ 5 := hw.2
    refine ⟨fun _ => ?_, fun e => (by cases e), fun e => (by cases e)⟩
    rw [mm_s (show i < M by omega), if_neg hw1, if_neg (by rw [j]; decide), if_neg (fun e => hw2 e.2 e.1), if_neg n45, if_neg n40]
/-- a part of a text -/
theorem pm_part {N : Nat} (hN : 20000 ≤ tk N) (hM : M = N + 1) {p i : Nat} {out : List Nat} {b : Bool} {i' : Nat} {o' : List Nat} (hp : p < 3) (hi : i ≤ N) (h : Pp tk p i out b i' o') (hpi : tk i = p) : mm tk M (i + 1) [] 0 out 2 = if b = true then some (i' - 1, some o') else some (i', none) := by
  rcases h with ⟨z, _⟩ | ⟨_, ⟨e, rfl⟩ | ⟨i1, e, h⟩⟩
  · exact absurd hpi z
  · have C := pm_all (M := M) hN hM (by decide) e (by decide) (tk_st hN hi (by omega)) (by omega) [] 2 (fun _ => by show 0 < 1; decide) rfl
    exact C.1 rfl
  · have s := tk_st hN hi (by omega)
    have q := pd_le hN (by omega) e (by omega) s
    have C := pm_all (M := M) hN hM (by decide) e (by decide) s (by omega) [] 2 (fun _ => by show 0 < 1; decide) rfl
    rcases C.2.1 rfl (by decide) with ⟨a1, a2, a3⟩ | ⟨a1, a2⟩
    · rcases h with ⟨t, rfl, rfl⟩ | ⟨t, rfl, rfl⟩
      · rw [t] at a2; cases a2
      · exact a3
    · have a1 : trk (tk i1) ≤ 0 := a1
      rcases h with ⟨t, rfl, rfl⟩ | ⟨t, rfl, rfl⟩
      · rw [a2, mm_s (show i1 < M by omega), if_pos rfl, if_pos t]
        rfl
      · rw [a2, mm_s (show i' < M by omega), if_pos rfl, if_neg t]
        by_cases z : tk i' = 41
        · rw [if_pos z]; rfl
        · rw [if_neg z, if_pos (by omega)]; rfl
end PMA
