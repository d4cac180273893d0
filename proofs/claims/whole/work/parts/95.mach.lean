/-! the reference's way through the tokens, and that it is the class's -/
def trk (t : Nat) : Nat := if t = 3 then 1 else if t = 4 then 2 else if t = 60 then 4 else if t = 61 then 4 else if t = 43 then 5 else if t = 45 then 5 else if t = 42 then 6 else 0
def rk (u : Nat) : Nat := if u = 5 then 3 else if u = 12 then 7 else trk u
def opn (u op : Nat) : Nat := if u = 5 ∨ u = 12 then op - 1 else op
def unw (r : Nat) : List Nat → Nat → List Nat → List Nat × Nat × List Nat
  | [], op, out => ([], op, out)
  | u :: K, op, out => if rk u < r then (u :: K, op, out) else unw r K (opn u op) (out ++ [u])
def hr (K : List Nat) : Nat := match K with
  | [] => 0
  | u :: _ => rk u
abbrev Mres : Type := Option (Nat × Option (List Nat))
def mr (tk : Nat → Nat) : Nat → Nat → List Nat → Nat → List Nat → Nat → Mres
  | 0, _, _, _, _, _ => none
  | n + 1, i, K, op, out, w =>
    if w = 0 then
      if tk i = 59 then (match unw 1 K op out with
        | ([], _, o) => some (i, some o)
        | _ => some (i, none))
      else if tk i = 41 then (match unw 1 K op out with
        | ([], _, _) => some (i, none)
        | (_ :: K1, op1, o1) => match unw 7 K1 (op1 - 1) o1 with
          | (K2, op2, o2) => mr tk n (i + 1) K2 op2 o2 0)
      else if trk (tk i) = 0 then some (i, none)
      else (match unw (if trk (tk i) = 4 then 5 else trk (tk i)) K op out with
        | (K1, op1, o1) => if trk (tk i) = 4 ∧ hr K1 = 4 then some (i, none) else mr tk n (i + 1) (tk i :: K1) op1 o1 (if tk i = 3 ∨ tk i = 4 then 2 else 1))
    else
      if itm (tk i) = true then (match unw 7 K op (out ++ [tk i]) with
        | (K2, op2, o2) => mr tk n (i + 1) K2 op2 o2 0)
      else if tk i = 5 ∧ w = 2 then (if op = 5 then some (i, none) else mr tk n (i + 1) (5 :: K) (op + 1) out 2)
      else if tk i = 45 then (if op = 5 then some (i, none) else mr tk n (i + 1) (12 :: K) (op + 1) out 1)
      else if tk i = 40 then (if op = 5 then some (i, none) else mr tk n (i + 1) (40 :: K) (op + 1) out 2)
      else some (i, none)
theorem trk_v (t : Nat) : (trk t = 0 ∨ trk t = 1 ∨ trk t = 2 ∨ trk t = 4 ∨ trk t = 5 ∨ trk t = 6) ∧ (trk t = 1 → t = 3) ∧ (trk t = 2 → t = 4) ∧ (trk t = 4 ↔ (t = 60 ∨ t = 61)) ∧ (trk t = 5 → (t = 43 ∨ t = 45)) ∧ (trk t = 6 → t = 42) := by
  unfold trk
  split
  · omega
  · split
    · omega
    · split
      · omega
      · split
        · omega
        · split
          · omega
          · split
            · omega
            · split <;> omega
theorem unw_st {r : Nat} {K : List Nat} (h : hr K < r) (op : Nat) (out : List Nat) : unw r K op out = (K, op, out) := by
  cases K with
  | nil => rfl
  | cons u K => exact if_pos h
theorem unw_pop {r u : Nat} (K : List Nat) (h : ¬ rk u < r) (op : Nat) (out : List Nat) : unw r (u :: K) op out = unw r K (opn u op) (out ++ [u]) := if_neg h
section MACH
variable {tk : Nat → Nat} {M : Nat}
def mm (tk : Nat → Nat) (M i : Nat) (K : List Nat) (op : Nat) (out : List Nat) (w : Nat) : Mres := mr tk (M - i) i K op out w
theorem mm_s {i : Nat} (hi : i < M) (K : List Nat) (op : Nat) (out : List Nat) (w : Nat) : mm tk M i K op out w = if w = 0 then
      if tk i = 59 then (match unw 1 K op out with
        | ([], _, o) => some (i, some o)
        | _ => some (i, none))
      else if tk i = 41 then (match unw 1 K op out with
        | ([], _, _) => some (i, none)
        | (_ :: K1, op1, o1) => match unw 7 K1 (op1 - 1) o1 with
          | (K2, op2, o2) => mm tk M (i + 1) K2 op2 o2 0)
      else if trk (tk i) = 0 then some (i, none)
      else (match unw (if trk (tk i) = 4 then 5 else trk (tk i)) K op out with
        | (K1, op1, o1) => if trk (tk i) = 4 ∧ hr K1 = 4 then some (i, none) else mm tk M (i + 1) (tk i :: K1) op1 o1 (if tk i = 3 ∨ tk i = 4 then 2 else 1))
    else
      if itm (tk i) = true then (match unw 7 K op (out ++ [tk i]) with
        | (K2, op2, o2) => mm tk M (i + 1) K2 op2 o2 0)
      else if tk i = 5 ∧ w = 2 then (if op = 5 then some (i, none) else mm tk M (i + 1) (5 :: K) (op + 1) out 2)
      else if tk i = 45 then (if op = 5 then some (i, none) else mm tk M (i + 1) (12 :: K) (op + 1) out 1)
      else if tk i = 40 then (if op = 5 then some (i, none) else mm tk M (i + 1) (40 :: K) (op + 1) out 2)
      else some (i, none) := by
  unfold mm
  rw [show M - i = (M - (i + 1)) + 1 by omega]
  rfl
/-- a sign that waits may go at once -/
theorem mm_pop {i u : Nat} (hi : i < M) (K : List Nat) (op : Nat) (out : List Nat) (h1 : 1 ≤ rk u) (h2 : trk (tk i) ≤ rk u) (h3 : rk u = 4 → trk (tk i) ≠ 4) : mm tk M i (u :: K) op out 0 = mm tk M i K (opn u op) (out ++ [u]) 0 := by
  rw [mm_s hi, mm_s hi, if_pos rfl, if_pos rfl, unw_pop K (by omega)]
  by_cases t0 : trk (tk i) = 0
  · rw [if_pos t0, if_pos t0]
  · rw [if_neg t0, if_neg t0, unw_pop K]
    split <;> omega
def Lo (m : Nat) : Nat := if m = 0 ∨ m = 4 then 0 else if m = 1 ∨ m = 5 ∨ m = 8 then 1 else if m = 9 ∨ m = 12 ∨ m = 13 then 3 else if m = 2 ∨ m = 6 then 4 else if m = 3 ∨ m = 7 ∨ m = 10 then 5 else 7
def Hi (m : Nat) : Nat := if m = 0 ∨ m = 4 then 1 else if m = 1 ∨ m = 5 ∨ m = 8 then 2 else if m = 9 ∨ m = 12 ∨ m = 13 then 4 else if m = 2 ∨ m = 6 then 5 else if m = 3 ∨ m = 7 ∨ m = 10 then 6 else 7
/-- the modes that a second comparison can end -/
def Lw (m : Nat) : Prop := m = 0 ∨ m = 1 ∨ m = 4 ∨ m = 5 ∨ m = 8 ∨ m = 9 ∨ m = 12 ∨ m = 13
def Wc (tk : Nat → Nat) (m i w : Nat) : Prop := if 4 ≤ m ∧ m < 8 then w = 0 ∧ trk (tk i) ≤ Lo (m + 4) else if m = 0 ∨ m = 1 ∨ m = 8 ∨ m = 9 ∨ m = 12 then w = 2 else w ≠ 0 ∧ (w = 2 → tk i ≠ 5)
/-- what the machine makes of a parse -/
def Con (tk : Nat → Nat) (M m op i : Nat) (out : List Nat) (b : Bool) (i' : Nat) (o' : List Nat) (K : List Nat) (w : Nat) : Prop := (b = false → mm tk M i K op out w = some (i', none)) ∧ (b = true → m ≠ 14 → ((Lw m ∧ trk (tk i') = 4 ∧ mm tk M i K op out w = some (i', none)) ∨ (trk (tk i') ≤ Lo m ∧ mm tk M i K op out w = mm tk M i' K op o' 0))) ∧ (b = true → m = 14 → mm tk M i K op out w = (match unw 7 K op o' with
  | (K2, op2, o2) => mm tk M i' K2 op2 o2 0))
theorem pd_L {lv op i : Nat} {out : List Nat} {b : Bool} {i' : Nat} {o' : List Nat} (hl : lv < 4) (h : Pd tk (4 + lv) op i out b i' o') (hj : jnt lv (tk i) = false) : b = true ∧ i' = i ∧ o' = out := by
  obtain ⟨f, h⟩ := h
  cases f with
  | zero => cases h
  | succ f =>
    unfold ps at h
    rw [if_neg (by omega), if_pos (by omega), Nat.add_sub_cancel_left, if_neg (by rw [hj]; decide)] at h
    cases h
    exact ⟨rfl, rfl, rfl⟩
theorem jnt_t {lv t : Nat} (hl : lv < 4) : (jnt lv t = true → rk t = trk t ∧ trk t = (if lv = 0 then 1 else if lv = 1 then 2 else if lv = 2 then 5 else 6) ∧ (lv < 2 ↔ (t = 3 ∨ t = 4)) ∧ itm t = false ∧ t ≠ 59 ∧ t ≠ 41) ∧ (jnt lv t = false → trk t ≠ (if lv = 0 then 1 else if lv = 1 then 2 else if lv = 2 then 5 else 6)) := by
  have v := trk_v t
  rcases (show lv = 0 ∨ lv = 1 ∨ lv = 2 ∨ lv = 3 by omega) with z | z | z | z <;> subst z
  · refine ⟨fun h => ?_, fun h e => ?_⟩
    · have : t = 3 := by simpa [jnt] using h
      subst this; decide
    · rw [v.2.1 e] at h; cases h
  · refine ⟨fun h => ?_, fun h e => ?_⟩
    · have : t = 4 := by simpa [jnt] using h
      subst this; decide
    · rw [v.2.2.1 e] at h; cases h
  · refine ⟨fun h => ?_, fun h e => ?_⟩
    · have : t = 43 ∨ t = 45 := by simpa [jnt] using h
      rcases this with y | y <;> subst y <;> decide
    · rcases v.2.2.2.2.1 e with y | y <;> rw [y] at h <;> cases h
  · refine ⟨fun h => ?_, fun h e => ?_⟩
    · have : t = 42 := by simpa [jnt] using h
      subst this; decide
    · rw [v.2.2.2.2.2 e] at h; cases h
end MACH
