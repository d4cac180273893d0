/-! the parse of a row of tokens. Modes: 0..3 joined, 4..7 its loop, 8..11 its operand, 12 not, 13 comparison, 14 one -/
def jnt (lv t : Nat) : Bool := if lv = 0 then t == 3 else if lv = 1 then t == 4 else if lv = 2 then t == 43 || t == 45 else t == 42
def itm (t : Nat) : Bool := (Nat.ble 1000 t && Nat.ble t 19999) || (Nat.ble 6 t && Nat.ble t 11)
abbrev Prs : Type := Bool × Nat × List Nat
def pbt (o : Option Prs) (k : Nat → List Nat → Option Prs) : Option Prs := match o with
  | some (true, i, out) => k i out
  | some (false, i, out) => some (false, i, out)
  | none => none
def ps (tk : Nat → Nat) : Nat → Nat → Nat → Nat → List Nat → Option Prs
  | 0, _, _, _, _ => none
  | f + 1, m, op, i, out =>
    if m < 4 then pbt (ps tk f (8 + m) op i out) fun i o => ps tk f (4 + m) op i o
    else if m < 8 then (if jnt (m - 4) (tk i) = true then pbt (ps tk f (8 + (m - 4)) op (i + 1) out) fun i1 o => ps tk f (4 + (m - 4)) op i1 (o ++ [tk i]) else some (true, i, out))
    else if m = 8 then ps tk f 1 op i out
    else if m = 9 then (if tk i = 5 then ps tk f 12 op i out else ps tk f 13 op i out)
    else if m = 10 then ps tk f 3 op i out
    else if m = 11 then ps tk f 14 op i out
    else if m = 12 then (if op < 5 then pbt (ps tk f 9 (op + 1) (i + 1) out) fun i1 o => some (true, i1, o ++ [5]) else some (false, i, out))
    else if m = 13 then pbt (ps tk f 2 op i out) fun i1 o => if tk i1 = 60 ∨ tk i1 = 61 then pbt (ps tk f 2 op (i1 + 1) o) fun i2 o2 => some (true, i2, o2 ++ [tk i1]) else some (true, i1, o)
    else if itm (tk i) = true then some (true, i + 1, out ++ [tk i])
    else if tk i = 45 then (if op < 5 then pbt (ps tk f 14 (op + 1) (i + 1) out) fun i1 o => some (true, i1, o ++ [12]) else some (false, i, out))
    else if tk i = 40 then (if op < 5 then pbt (ps tk f 0 (op + 1) (i + 1) out) fun i1 o => if tk i1 = 41 then some (true, i1 + 1, o) else some (false, i1, o) else some (false, i, out))
    else some (false, i, out)
def Pd (tk : Nat → Nat) (m op i : Nat) (out : List Nat) (b : Bool) (i' : Nat) (o' : List Nat) : Prop := ∃ f, ps tk f m op i out = some (b, i', o')
theorem pbt_inv {o : Option Prs} {k : Nat → List Nat → Option Prs} {r : Prs} (h : pbt o k = some r) : (∃ i out, o = some (false, i, out) ∧ r = (false, i, out)) ∨ ∃ i out, o = some (true, i, out) ∧ k i out = some r := by
  match o, h with
  | none, h => cases h
  | some (false, i, out), h => exact Or.inl ⟨i, out, rfl, (Option.some.inj h).symm⟩
  | some (true, i, out), h => exact Or.inr ⟨i, out, rfl, h⟩
theorem ps_ind {tk : Nat → Nat} {P : Nat → Nat → Nat → List Nat → Bool → Nat → List Nat → Prop}
  (rJf : ∀ lv op i out i' o', lv < 4 → Pd tk (8 + lv) op i out false i' o' → P (8 + lv) op i out false i' o' → P lv op i out false i' o')
  (rJ : ∀ lv op i out i1 o1 b i2 o2, lv < 4 → Pd tk (8 + lv) op i out true i1 o1 → P (8 + lv) op i out true i1 o1 → Pd tk (4 + lv) op i1 o1 b i2 o2 → P (4 + lv) op i1 o1 b i2 o2 → P lv op i out b i2 o2)
  (rLe : ∀ lv op i out, lv < 4 → jnt lv (tk i) = false → P (4 + lv) op i out true i out)
  (rLf : ∀ lv op i out i' o', lv < 4 → jnt lv (tk i) = true → Pd tk (8 + lv) op (i + 1) out false i' o' → P (8 + lv) op (i + 1) out false i' o' → P (4 + lv) op i out false i' o')
  (rL : ∀ lv op i out i1 o1 b i2 o2, lv < 4 → jnt lv (tk i) = true → Pd tk (8 + lv) op (i + 1) out true i1 o1 → P (8 + lv) op (i + 1) out true i1 o1 → Pd tk (4 + lv) op i1 (o1 ++ [tk i]) b i2 o2 → P (4 + lv) op i1 (o1 ++ [tk i]) b i2 o2 → P (4 + lv) op i out b i2 o2)
  (r8 : ∀ op i out b i' o', Pd tk 1 op i out b i' o' → P 1 op i out b i' o' → P 8 op i out b i' o')
  (r9n : ∀ op i out b i' o', tk i = 5 → Pd tk 12 op i out b i' o' → P 12 op i out b i' o' → P 9 op i out b i' o')
  (r9c : ∀ op i out b i' o', tk i ≠ 5 → Pd tk 13 op i out b i' o' → P 13 op i out b i' o' → P 9 op i out b i' o')
  (r10 : ∀ op i out b i' o', Pd tk 3 op i out b i' o' → P 3 op i out b i' o' → P 10 op i out b i' o')
  (r11 : ∀ op i out b i' o', Pd tk 14 op i out b i' o' → P 14 op i out b i' o' → P 11 op i out b i' o')
  (r12s : ∀ op i out, ¬ op < 5 → P 12 op i out false i out)
  (r12f : ∀ op i out i' o', op < 5 → Pd tk 9 (op + 1) (i + 1) out false i' o' → P 9 (op + 1) (i + 1) out false i' o' → P 12 op i out false i' o')
  (r12 : ∀ op i out i' o', op < 5 → Pd tk 9 (op + 1) (i + 1) out true i' o' → P 9 (op + 1) (i + 1) out true i' o' → P 12 op i out true i' (o' ++ [5]))
  (r13f : ∀ op i out i' o', Pd tk 2 op i out false i' o' → P 2 op i out false i' o' → P 13 op i out false i' o')
  (r13e : ∀ op i out i' o', ¬ (tk i' = 60 ∨ tk i' = 61) → Pd tk 2 op i out true i' o' → P 2 op i out true i' o' → P 13 op i out true i' o')
  (r13g : ∀ op i out i1 o1 i' o', (tk i1 = 60 ∨ tk i1 = 61) → Pd tk 2 op i out true i1 o1 → P 2 op i out true i1 o1 → Pd tk 2 op (i1 + 1) o1 false i' o' → P 2 op (i1 + 1) o1 false i' o' → P 13 op i out false i' o')
  (r13 : ∀ op i out i1 o1 i' o', (tk i1 = 60 ∨ tk i1 = 61) → Pd tk 2 op i out true i1 o1 → P 2 op i out true i1 o1 → Pd tk 2 op (i1 + 1) o1 true i' o' → P 2 op (i1 + 1) o1 true i' o' → P 13 op i out true i' (o' ++ [tk i1]))
  (r14i : ∀ op i out, itm (tk i) = true → P 14 op i out true (i + 1) (out ++ [tk i]))
  (r14s : ∀ op i out, itm (tk i) = false → (tk i = 45 ∨ tk i = 40) → ¬ op < 5 → P 14 op i out false i out)
  (r14f : ∀ op i out i' o', tk i = 45 → op < 5 → Pd tk 14 (op + 1) (i + 1) out false i' o' → P 14 (op + 1) (i + 1) out false i' o' → P 14 op i out false i' o')
  (r14m : ∀ op i out i' o', tk i = 45 → op < 5 → Pd tk 14 (op + 1) (i + 1) out true i' o' → P 14 (op + 1) (i + 1) out true i' o' → P 14 op i out true i' (o' ++ [12]))
  (r14g : ∀ op i out i' o', tk i = 40 → op < 5 → Pd tk 0 (op + 1) (i + 1) out false i' o' → P 0 (op + 1) (i + 1) out false i' o' → P 14 op i out false i' o')
  (r14h : ∀ op i out i' o', tk i = 40 → op < 5 → tk i' ≠ 41 → Pd tk 0 (op + 1) (i + 1) out true i' o' → P 0 (op + 1) (i + 1) out true i' o' → P 14 op i out false i' o')
  (r14p : ∀ op i out i' o', tk i = 40 → op < 5 → tk i' = 41 → Pd tk 0 (op + 1) (i + 1) out true i' o' → P 0 (op + 1) (i + 1) out true i' o' → P 14 op i out true (i' + 1) o')
  (r14x : ∀ op i out, itm (tk i) = false → tk i ≠ 45 → tk i ≠ 40 → P 14 op i out false i out) :
  ∀ f m op i out b i' o', m ≤ 14 → ps tk f m op i out = some (b, i', o') → P m op i out b i' o' := by
  intro f
  induction f with
  | zero => intro m op i out b i' o' _ h; cases h
  | succ f ih =>
    intro m op i out b i' o' hm h
    have ih' : ∀ {m op i out b i' o'}, m ≤ 14 → ps tk f m op i out = some (b, i', o') → Pd tk m op i out b i' o' ∧ P m op i out b i' o' := fun hm h => ⟨⟨f, h⟩, ih _ _ _ _ _ _ _ hm h⟩
    unfold ps at h
    by_cases m4 : m < 4
    · rw [if_pos m4] at h
      rcases pbt_inv h with ⟨i1, o1, e1, e2⟩ | ⟨i1, o1, e1, e2⟩
      · cases e2
        have q := ih' (by omega) e1
        exact rJf _ _ _ _ _ _ m4 q.1 q.2
      · have q := ih' (by omega) e1
        have q2 := ih' (by omega) e2
        exact rJ _ _ _ _ _ _ _ _ _ m4 q.1 q.2 q2.1 q2.2
    rw [if_neg m4] at h
    by_cases m8 : m < 8
    · rw [if_pos m8] at h
      obtain ⟨lv, rfl⟩ : ∃ lv, m = 4 + lv := ⟨m - 4, by omega⟩
      rw [Nat.add_sub_cancel_left] at h
      by_cases j : jnt lv (tk i) = true
      · rw [if_pos j] at h
        rcases pbt_inv h with ⟨i1, o1, e1, e2⟩ | ⟨i1, o1, e1, e2⟩
        · cases e2
          have q := ih' (by omega) e1
          exact rLf _ _ _ _ _ _ (by omega) j q.1 q.2
        · have q := ih' (by omega) e1
          have q2 := ih' (by omega) e2
          exact rL _ _ _ _ _ _ _ _ _ (by omega) j q.1 q.2 q2.1 q2.2
      · rw [if_neg j] at h
        cases h
        exact rLe _ _ _ _ (by omega) (by simpa using j)
    rw [if_neg m8] at h
    by_cases x : m = 8
    · subst x
      rw [if_pos rfl] at h
      have q := ih' (by decide) h
      exact r8 _ _ _ _ _ _ q.1 q.2
    rw [if_neg x] at h
    by_cases x : m = 9
    · subst x
      rw [if_pos rfl] at h
      by_cases y : tk i = 5
      · rw [if_pos y] at h
        have q := ih' (by decide) h
        exact r9n _ _ _ _ _ _ y q.1 q.2
      · rw [if_neg y] at h
        have q := ih' (by decide) h
        exact r9c _ _ _ _ _ _ y q.1 q.2
    rw [if_neg x] at h
    by_cases x : m = 10
    · subst x
      rw [if_pos rfl] at h
      have q := ih' (by decide) h
      exact r10 _ _ _ _ _ _ q.1 q.2
    rw [if_neg x] at h
    by_cases x : m = 11
    · subst x
      rw [if_pos rfl] at h
      have q := ih' (by decide) h
      exact r11 _ _ _ _ _ _ q.1 q.2
    rw [if_neg x] at h
    by_cases x : m = 12
    · subst x
      rw [if_pos rfl] at h
      by_cases y : op < 5
      · rw [if_pos y] at h
        rcases pbt_inv h with ⟨i1, o1, e1, e2⟩ | ⟨i1, o1, e1, e2⟩
        · cases e2
          have q := ih' (by decide) e1
          exact r12f _ _ _ _ _ y q.1 q.2
        · cases e2
          have q := ih' (by decide) e1
          exact r12 _ _ _ _ _ y q.1 q.2
      · rw [if_neg y] at h
        cases h
        exact r12s _ _ _ y
    rw [if_neg x] at h
    by_cases x : m = 13
    · subst x
      rw [if_pos rfl] at h
      rcases pbt_inv h with ⟨i1, o1, e1, e2⟩ | ⟨i1, o1, e1, e2⟩
      · cases e2
        have q := ih' (by decide) e1
        exact r13f _ _ _ _ _ q.1 q.2
      · have q := ih' (by decide) e1
        by_cases y : tk i1 = 60 ∨ tk i1 = 61
        · rw [if_pos y] at e2
          rcases pbt_inv e2 with ⟨i2, o2, e3, e4⟩ | ⟨i2, o2, e3, e4⟩
          · cases e4
            have q2 := ih' (by decide) e3
            exact r13g _ _ _ _ _ _ _ y q.1 q.2 q2.1 q2.2
          · cases e4
            have q2 := ih' (by decide) e3
            exact r13 _ _ _ _ _ _ _ y q.1 q.2 q2.1 q2.2
        · rw [if_neg y] at e2
          cases e2
          exact r13e _ _ _ _ _ y q.1 q.2
    rw [if_neg x] at h
    have m14 : m = 14 := by omega
    subst m14
    by_cases y : itm (tk i) = true
    · rw [if_pos y] at h
      cases h
      exact r14i _ _ _ y
    rw [if_neg y] at h
    have y : itm (tk i) = false := by simpa using y
    by_cases z : tk i = 45
    · rw [if_pos z] at h
      by_cases w : op < 5
      · rw [if_pos w] at h
        rcases pbt_inv h with ⟨i1, o1, e1, e2⟩ | ⟨i1, o1, e1, e2⟩
        · cases e2
          have q := ih' (by decide) e1
          exact r14f _ _ _ _ _ z w q.1 q.2
        · cases e2
          have q := ih' (by decide) e1
          exact r14m _ _ _ _ _ z w q.1 q.2
      · rw [if_neg w] at h
        cases h
        exact r14s _ _ _ y (Or.inl z) w
    rw [if_neg z] at h
    by_cases z2 : tk i = 40
    · rw [if_pos z2] at h
      by_cases w : op < 5
      · rw [if_pos w] at h
        rcases pbt_inv h with ⟨i1, o1, e1, e2⟩ | ⟨i1, o1, e1, e2⟩
        · cases e2
          have q := ih' (by decide) e1
          exact r14g _ _ _ _ _ z2 w q.1 q.2
        · have q := ih' (by decide) e1
          by_cases v : tk i1 = 41
          · rw [if_pos v] at e2
            cases e2
            exact r14p _ _ _ _ _ z2 w v q.1 q.2
          · rw [if_neg v] at e2
            cases e2
            exact r14h _ _ _ _ _ z2 w v q.1 q.2
      · rw [if_neg w] at h
        cases h
        exact r14s _ _ _ y (Or.inr z2) w
    rw [if_neg z2] at h
    cases h
    exact r14x _ _ _ y z z2
theorem jnt_lt {lv t : Nat} (h : jnt lv t = true) : t < 20000 ∧ opC t := by
  unfold jnt at h
  unfold opC
  split at h
  · have : t = 3 := by simpa using h
    omega
  · split at h
    · have : t = 4 := by simpa using h
      omega
    · split at h
      · have : t = 43 ∨ t = 45 := by simpa using h
        omega
      · have : t = 42 := by simpa using h
        omega
theorem itm_lt {t : Nat} (h : itm t = true) : t < 20000 ∧ ((1000 ≤ t ∧ t < 20000) ∨ (6 ≤ t ∧ t ≤ 11)) := by
  unfold itm at h
  simp only [Bool.or_eq_true, Bool.and_eq_true, Nat.ble_eq] at h
  omega
/-- how far a parse goes -/
theorem pd_le {tk : Nat → Nat} {N : Nat} (hN : 20000 ≤ tk N) {m op i : Nat} {out : List Nat} {b : Bool} {i' : Nat} {o' : List Nat} (hm : m ≤ 14) (h : Pd tk m op i out b i' o') (h12 : m = 12 → tk i = 5) (hi : i ≤ N) : i ≤ i' ∧ i' ≤ N ∧ o'.length + i ≤ out.length + i' ∧ (b = true → m < 4 ∨ 8 ≤ m → i < i') := by
  obtain ⟨f, h⟩ := h
  have st : ∀ i, i ≤ N → tk i < 20000 → i + 1 ≤ N := fun i h1 h2 => by
    rcases Nat.lt_or_ge i N with q | q
    · exact q
    · have : i = N := by omega
      subst this; omega
  refine ps_ind (tk := tk) (P := fun m op i out b i' o' => (m = 12 → tk i = 5) → i ≤ N → i ≤ i' ∧ i' ≤ N ∧ o'.length + i ≤ out.length + i' ∧ (b = true → m < 4 ∨ 8 ≤ m → i < i')) ?_ ?_ ?_ ?_ ?_ ?_ ?_ ?_ ?_ ?_ ?_ ?_ ?_ ?_ ?_ ?_ ?_ ?_ ?_ ?_ ?_ ?_ ?_ ?_ ?_ f m op i out b i' o' hm h h12 hi
  · intro lv op i out i' o' hl _ ih _ hi
    have := ih (by omega) hi
    exact ⟨this.1, this.2.1, this.2.2.1, fun e => by cases e⟩
  · intro lv op i out i1 o1 b i2 o2 hl _ ih _ ih2 _ hi
    have q := ih (by omega) hi
    have q2 := ih2 (by omega) q.2.1
    have q3 := q.2.2.2 rfl (by omega)
    exact ⟨by omega, q2.2.1, by omega, fun _ _ => by omega⟩
  · intro lv op i out hl _ _ hi
    exact ⟨Nat.le_refl _, hi, Nat.le_refl _, fun _ e => by omega⟩
  · intro lv op i out i' o' hl j _ ih _ hi
    have := ih (by omega) (st i hi (jnt_lt j).1)
    exact ⟨by omega, this.2.1, by omega, fun e => by cases e⟩
  · intro lv op i out i1 o1 b i2 o2 hl j _ ih _ ih2 _ hi
    have q := ih (by omega) (st i hi (jnt_lt j).1)
    have q2 := ih2 (by omega) q.2.1
    have q3 := q.2.2.2 rfl (by omega)
    rw [List.length_append] at q2
    have : [tk i].length = 1 := rfl
    exact ⟨by omega, q2.2.1, by omega, fun _ _ => by omega⟩
  · intro op i out b i' o' _ ih _ hi
    have := ih (by omega) hi
    exact ⟨this.1, this.2.1, this.2.2.1, fun e _ => this.2.2.2 e (by omega)⟩
  · intro op i out b i' o' h5 _ ih _ hi
    have := ih (fun _ => h5) hi
    exact ⟨this.1, this.2.1, this.2.2.1, fun e _ => this.2.2.2 e (by omega)⟩
  · intro op i out b i' o' _ _ ih _ hi
    have := ih (by omega) hi
    exact ⟨this.1, this.2.1, this.2.2.1, fun e _ => this.2.2.2 e (by omega)⟩
  · intro op i out b i' o' _ ih _ hi
    have := ih (by omega) hi
    exact ⟨this.1, this.2.1, this.2.2.1, fun e _ => this.2.2.2 e (by omega)⟩
  · intro op i out b i' o' _ ih _ hi
    have := ih (by omega) hi
    exact ⟨this.1, this.2.1, this.2.2.1, fun e _ => this.2.2.2 e (by omega)⟩
  · intro op i out _ _ hi
    exact ⟨Nat.le_refl _, hi, Nat.le_refl _, fun e => by cases e⟩
  · intro op i out i' o' _ _ ih h5 hi
    have := ih (by omega) (st i hi (by rw [h5 rfl]; decide))
    exact ⟨by omega, this.2.1, by omega, fun e => by cases e⟩
  · intro op i out i' o' _ _ ih h5 hi
    have := ih (by omega) (st i hi (by rw [h5 rfl]; decide))
    have l : (o' ++ [5]).length = o'.length + 1 := by rw [List.length_append]; rfl
    exact ⟨by omega, this.2.1, by omega, fun _ _ => by omega⟩
  · intro op i out i' o' _ ih _ hi
    have := ih (by omega) hi
    exact ⟨this.1, this.2.1, this.2.2.1, fun e => by cases e⟩
  · intro op i out i' o' _ _ ih _ hi
    have := ih (by omega) hi
    exact ⟨this.1, this.2.1, this.2.2.1, fun e _ => this.2.2.2 e (by omega)⟩
  · intro op i out i1 o1 i' o' c _ ih _ ih2 _ hi
    have q := ih (by omega) hi
    have q2 := ih2 (by omega) (st i1 q.2.1 (by omega))
    exact ⟨by omega, q2.2.1, by omega, fun e => by cases e⟩
  · intro op i out i1 o1 i' o' c _ ih _ ih2 _ hi
    have q := ih (by omega) hi
    have q2 := ih2 (by omega) (st i1 q.2.1 (by omega))
    have l : (o' ++ [tk i1]).length = o'.length + 1 := by rw [List.length_append]; rfl
    exact ⟨by omega, q2.2.1, by omega, fun _ _ => by omega⟩
  · intro op i out j _ hi
    have l : (out ++ [tk i]).length = out.length + 1 := by rw [List.length_append]; rfl
    exact ⟨by omega, st i hi (itm_lt j).1, by omega, fun _ _ => by omega⟩
  · intro op i out _ _ _ _ hi
    exact ⟨Nat.le_refl _, hi, Nat.le_refl _, fun e => by cases e⟩
  · intro op i out i' o' t _ _ ih _ hi
    have := ih (by omega) (st i hi (by omega))
    exact ⟨by omega, this.2.1, by omega, fun e => by cases e⟩
  · intro op i out i' o' t _ _ ih _ hi
    have := ih (by omega) (st i hi (by omega))
    have l : (o' ++ [12]).length = o'.length + 1 := by rw [List.length_append]; rfl
    exact ⟨by omega, this.2.1, by omega, fun _ _ => by omega⟩
  · intro op i out i' o' t _ _ ih _ hi
    have := ih (by omega) (st i hi (by omega))
    exact ⟨by omega, this.2.1, by omega, fun e => by cases e⟩
  · intro op i out i' o' t _ _ _ ih _ hi
    have := ih (by omega) (st i hi (by omega))
    exact ⟨by omega, this.2.1, by omega, fun e => by cases e⟩
  · intro op i out i' o' t _ t2 _ ih _ hi
    have := ih (by omega) (st i hi (by omega))
    have := st i' this.2.1 (by omega)
    exact ⟨by omega, by omega, by omega, fun _ _ => by omega⟩
  · intro op i out _ _ _ _ hi
    exact ⟨Nat.le_refl _, hi, Nat.le_refl _, fun e => by cases e⟩
/-- a parse ends -/
def mrk (m : Nat) : Nat := if m = 0 then 14 else if m = 1 then 12 else if m = 2 then 9 else if m = 3 then 7 else if m < 8 then 1 else if m = 8 then 13 else if m = 9 then 11 else if m = 10 then 8 else if m = 11 then 6 else if m = 12 then 10 else if m = 13 then 10 else 5
theorem pbt_t {i : Nat} {o : List Nat} {k : Nat → List Nat → Option Prs} : pbt (some (true, i, o)) k = k i o := rfl
theorem pbt_f {i : Nat} {o : List Nat} {k : Nat → List Nat → Option Prs} : pbt (some (false, i, o)) k = some (false, i, o) := rfl
theorem ps_tot {tk : Nat → Nat} {N : Nat} (hN : 20000 ≤ tk N) : ∀ f m op i out, m ≤ 14 → (m = 12 → tk i = 5) → i ≤ N → 20 * (N - i) + mrk m < f → ∃ b i' o', ps tk f m op i out = some (b, i', o') := by
  have st : ∀ i, i ≤ N → tk i < 20000 → i + 1 ≤ N := fun i h1 h2 => by
    rcases Nat.lt_or_ge i N with q | q
    · exact q
    · have : i = N := by omega
      subst this; omega
  intro f
  induction f with
  | zero => intro m op i out _ _ _ h; omega
  | succ f ih =>
    intro m op i out hm h12 hi hf
    have go : ∀ {o : Option Prs} {k : Nat → List Nat → Option Prs}, (∃ b i' o', o = some (b, i', o')) → (∀ i' o', o = some (true, i', o') → ∃ b i2 o2, k i' o' = some (b, i2, o2)) → ∃ b i2 o2, pbt o k = some (b, i2, o2) := by
      intro o k ⟨b, i', o', e⟩ hk
      subst e
      cases b with
      | false => exact ⟨_, _, _, pbt_f⟩
      | true => exact hk _ _ rfl
    unfold ps
    by_cases m4 : m < 4
    · rw [if_pos m4]
      have r1 : mrk (8 + m) < mrk m := by
        rcases (show m = 0 ∨ m = 1 ∨ m = 2 ∨ m = 3 by omega) with z | z | z | z <;> subst z <;> decide
      have r2 : mrk (4 + m) = 1 := by
        rcases (show m = 0 ∨ m = 1 ∨ m = 2 ∨ m = 3 by omega) with z | z | z | z <;> subst z <;> decide
      refine go (ih (8 + m) op i out (by omega) (by omega) hi (by omega)) (fun i' o' e => ?_)
      have q := pd_le hN (by omega) ⟨f, e⟩ (by omega) hi
      have q3 := q.2.2.2 rfl (by omega)
      exact ih (4 + m) op i' o' (by omega) (by omega) q.2.1 (by omega)
    rw [if_neg m4]
    by_cases m8 : m < 8
    · rw [if_pos m8]
      obtain ⟨lv, rfl⟩ : ∃ lv, m = 4 + lv := ⟨m - 4, by omega⟩
      rw [Nat.add_sub_cancel_left]
      have r1 : mrk (8 + lv) < 14 := by
        rcases (show lv = 0 ∨ lv = 1 ∨ lv = 2 ∨ lv = 3 by omega) with z | z | z | z <;> subst z <;> decide
      have r2 : mrk (4 + lv) = 1 := by
        rcases (show lv = 0 ∨ lv = 1 ∨ lv = 2 ∨ lv = 3 by omega) with z | z | z | z <;> subst z <;> decide
      by_cases j : jnt lv (tk i) = true
      · rw [if_pos j]
        have s := st i hi (jnt_lt j).1
        refine go (ih (8 + lv) op (i + 1) out (by omega) (by omega) s (by omega)) (fun i' o' e => ?_)
        have q := pd_le hN (by omega) ⟨f, e⟩ (by omega) s
        exact ih (4 + lv) op i' _ (by omega) (by omega) q.2.1 (by omega)
      · rw [if_neg j]; exact ⟨_, _, _, rfl⟩
    rw [if_neg m8]
    by_cases x : m = 8
    · subst x
      rw [if_pos rfl]
      exact ih 1 op i out (by decide) (by omega) hi (by have : mrk 8 = 13 := rfl; have : mrk 1 = 12 := rfl; omega)
    rw [if_neg x]
    by_cases x : m = 9
    · subst x
      rw [if_pos rfl]
      by_cases y : tk i = 5
      · rw [if_pos y]
        exact ih 12 op i out (by decide) (fun _ => y) hi (by have : mrk 9 = 11 := rfl; have : mrk 12 = 10 := rfl; omega)
      · rw [if_neg y]
        exact ih 13 op i out (by decide) (by omega) hi (by have : mrk 9 = 11 := rfl; have : mrk 13 = 10 := rfl; omega)
    rw [if_neg x]
    by_cases x : m = 10
    · subst x
      rw [if_pos rfl]
      exact ih 3 op i out (by decide) (by omega) hi (by have : mrk 10 = 8 := rfl; have : mrk 3 = 7 := rfl; omega)
    rw [if_neg x]
    by_cases x : m = 11
    · subst x
      rw [if_pos rfl]
      exact ih 14 op i out (by decide) (by omega) hi (by have : mrk 11 = 6 := rfl; have : mrk 14 = 5 := rfl; omega)
    rw [if_neg x]
    by_cases x : m = 12
    · subst x
      rw [if_pos rfl]
      by_cases y : op < 5
      · rw [if_pos y]
        have s := st i hi (by rw [h12 rfl]; decide)
        exact go (ih 9 (op + 1) (i + 1) out (by decide) (by omega) s (by have : mrk 12 = 10 := rfl; have : mrk 9 = 11 := rfl; omega)) (fun i' o' e => ⟨_, _, _, rfl⟩)
      · rw [if_neg y]; exact ⟨_, _, _, rfl⟩
    rw [if_neg x]
    by_cases x : m = 13
    · subst x
      rw [if_pos rfl]
      have a1 : mrk 13 = 10 := rfl
      have a2 : mrk 2 = 9 := rfl
      refine go (ih 2 op i out (by decide) (by omega) hi (by omega)) (fun i1 o1 e => ?_)
      have q := pd_le hN (by omega) ⟨f, e⟩ (by omega) hi
      by_cases y : tk i1 = 60 ∨ tk i1 = 61
      · rw [if_pos y]
        have s := st i1 q.2.1 (by omega)
        exact go (ih 2 op (i1 + 1) o1 (by decide) (by omega) s (by omega)) (fun i' o' e => ⟨_, _, _, rfl⟩)
      · rw [if_neg y]; exact ⟨_, _, _, rfl⟩
    rw [if_neg x]
    have m14 : m = 14 := by omega
    subst m14
    have a1 : mrk 14 = 5 := rfl
    have a2 : mrk 0 = 14 := rfl
    by_cases y : itm (tk i) = true
    · rw [if_pos y]; exact ⟨_, _, _, rfl⟩
    rw [if_neg y]
    by_cases z : tk i = 45
    · rw [if_pos z]
      by_cases w : op < 5
      · rw [if_pos w]
        have s := st i hi (by omega)
        exact go (ih 14 (op + 1) (i + 1) out (by decide) (by omega) s (by omega)) (fun i' o' e => ⟨_, _, _, rfl⟩)
      · rw [if_neg w]; exact ⟨_, _, _, rfl⟩
    rw [if_neg z]
    by_cases z2 : tk i = 40
    · rw [if_pos z2]
      by_cases w : op < 5
      · rw [if_pos w]
        have s := st i hi (by omega)
        refine go (ih 0 (op + 1) (i + 1) out (by decide) (by omega) s (by omega)) (fun i' o' e => ?_)
        by_cases v : tk i' = 41
        · rw [if_pos v]; exact ⟨_, _, _, rfl⟩
        · rw [if_neg v]; exact ⟨_, _, _, rfl⟩
      · rw [if_neg w]; exact ⟨_, _, _, rfl⟩
    rw [if_neg z2]
    exact ⟨_, _, _, rfl⟩
theorem pd_tot {tk : Nat → Nat} {N : Nat} (hN : 20000 ≤ tk N) {i : Nat} (hi : i ≤ N) (out : List Nat) : ∃ b i' o', Pd tk 0 0 i out b i' o' := by
  obtain ⟨b, i', o', e⟩ := ps_tot hN (20 * (N - i) + 15) 0 0 i out (by decide) (by omega) hi (by have : mrk 0 = 14 := rfl; omega)
  exact ⟨b, i', o', _, e⟩
/-! what a parse writes is well formed -/
def hls : List Nat → Nat → Option Nat
  | [], n => some n
  | x :: r, n => (hgt x n).bind (hls r)
theorem hls_app : ∀ (a b : List Nat) (n : Nat), hls (a ++ b) n = (hls a n).bind (hls b)
  | [], b, n => rfl
  | x :: a, b, n => by
    show (hgt x n).bind (hls (a ++ b)) = ((hgt x n).bind (hls a)).bind (hls b)
    cases hgt x n with
    | none => rfl
    | some k => exact hls_app a b k
theorem hgt_op {x : Nat} (h : opC x) (n : Nat) : hgt x (n + 2) = some (n + 1) := by
  unfold opC at h
  unfold hgt
  rw [if_neg (by omega), if_neg (by omega), if_neg (by omega), if_neg (by omega), if_pos (by omega)]
  rfl
theorem hgt_one {x : Nat} (h : x = 5 ∨ x = 12) (n : Nat) : hgt x (n + 1) = some (n + 1) := by
  unfold hgt
  rw [if_neg (by omega), if_neg (by omega)]
  by_cases y : x = 5
  · rw [if_pos y, if_pos (by omega)]
  · rw [if_neg y, if_pos (by omega), if_pos (by omega)]
theorem hgt_itm {x : Nat} (h : itm x = true) (n : Nat) : hgt x n = some (n + 1) := by
  have := (itm_lt h).2
  unfold hgt
  by_cases y : 1000 ≤ x
  · rw [if_pos y]
  · rw [if_neg y, if_pos (by omega)]
def cmd (m : Nat) : Nat := if 4 ≤ m ∧ m < 8 then 1 else 0
theorem cmd0 {m : Nat} (h : m < 4 ∨ 8 ≤ m) : cmd m = 0 := if_neg (by omega)
theorem cmd1 {lv : Nat} (h : lv < 4) : cmd (4 + lv) = 1 := if_pos (by omega)
theorem pd_wf {tk : Nat → Nat} (hk : ∀ j, itm (tk j) = true → okC (tk j)) {m op i : Nat} {out : List Nat} {b : Bool} {i' : Nat} {o' : List Nat} (hm : m ≤ 14) (h : Pd tk m op i out b i' o') (hb : b = true) : ∃ s, o' = out ++ s ∧ (∀ x ∈ s, okC x) ∧ ∀ n, hls s (n + cmd m) = some (n + 1) := by
  obtain ⟨f, h⟩ := h
  have ok1 : ∀ {s : List Nat} {x : Nat}, (∀ y ∈ s, okC y) → okC x → ∀ y ∈ s ++ [x], okC y := by
    intro s x h1 h2 y hy
    rcases List.mem_append.1 hy with z | z
    · exact h1 y z
    · cases List.mem_singleton.1 z; exact h2
  have ok2 : ∀ {s t : List Nat}, (∀ y ∈ s, okC y) → (∀ y ∈ t, okC y) → ∀ y ∈ s ++ t, okC y := by
    intro s t h1 h2 y hy
    rcases List.mem_append.1 hy with z | z
    · exact h1 y z
    · exact h2 y z
  have one : ∀ (x n : Nat), hls [x] n = hgt x n := by
    intro x n
    show (hgt x n).bind (hls []) = _
    cases hgt x n <;> rfl
  have up : ∀ {m m' : Nat} {out o' : List Nat}, (m < 4 ∨ 8 ≤ m) → (m' < 4 ∨ 8 ≤ m') → (∃ s, o' = out ++ s ∧ (∀ x ∈ s, okC x) ∧ ∀ n, hls s (n + cmd m) = some (n + 1)) → ∃ s, o' = out ++ s ∧ (∀ x ∈ s, okC x) ∧ ∀ n, hls s (n + cmd m') = some (n + 1) := by
    intro m m' out o' h1 h2 h
    rw [cmd0 h1] at h
    rw [cmd0 h2]
    exact h
  refine ps_ind (tk := tk) (P := fun m op i out b i' o' => b = true → ∃ s, o' = out ++ s ∧ (∀ x ∈ s, okC x) ∧ ∀ n, hls s (n + cmd m) = some (n + 1)) ?_ ?_ ?_ ?_ ?_ ?_ ?_ ?_ ?_ ?_ ?_ ?_ ?_ ?_ ?_ ?_ ?_ ?_ ?_ ?_ ?_ ?_ ?_ ?_ ?_ f m op i out b i' o' hm h hb
  · intro lv op i out i' o' hl _ ih e; cases e
  · intro lv op i out i1 o1 b i2 o2 hl _ ih _ ih2 e
    obtain ⟨s1, e1, k1, g1⟩ := ih rfl
    obtain ⟨s2, e2, k2, g2⟩ := ih2 e
    refine ⟨s1 ++ s2, by rw [e2, e1, List.append_assoc], ok2 k1 k2, fun n => ?_⟩
    have a := g1 n
    have b := g2 n
    rw [cmd0 (by omega)] at a
    rw [cmd1 hl] at b
    rw [cmd0 (by omega), hls_app, a]
    exact b
  · intro lv op i out hl _ _
    refine ⟨[], by rw [List.append_nil], by simp, fun n => ?_⟩
    rw [cmd1 hl]; rfl
  · intro lv op i out i' o' hl j _ ih e; cases e
  · intro lv op i out i1 o1 b i2 o2 hl j _ ih _ ih2 e
    obtain ⟨s1, e1, k1, g1⟩ := ih rfl
    obtain ⟨s2, e2, k2, g2⟩ := ih2 e
    have oc := (jnt_lt j).2
    refine ⟨s1 ++ [tk i] ++ s2, by rw [e2, e1]; simp, ok2 (ok1 k1 (Or.inr (Or.inr (Or.inr (Or.inr oc))))) k2, fun n => ?_⟩
    have a := g1 (n + 1)
    have b := g2 n
    rw [cmd0 (by omega)] at a
    rw [cmd1 hl] at b
    rw [cmd1 hl, hls_app, hls_app, show hls s1 (n + 1) = some (n + 1 + 1) from a]
    show (hls [tk i] (n + 2)).bind (hls s2) = _
    rw [one, hgt_op oc]
    exact b
  · intro op i out b i' o' _ ih e; exact up (by omega) (by omega) (ih e)
  · intro op i out b i' o' _ _ ih e; exact up (by omega) (by omega) (ih e)
  · intro op i out b i' o' _ _ ih e; exact up (by omega) (by omega) (ih e)
  · intro op i out b i' o' _ ih e; exact up (by omega) (by omega) (ih e)
  · intro op i out b i' o' _ ih e; exact up (by omega) (by omega) (ih e)
  · intro op i out _ e; cases e
  · intro op i out i' o' _ _ ih e; cases e
  · intro op i out i' o' _ _ ih _
    obtain ⟨s1, e1, k1, g1⟩ := ih rfl
    refine ⟨s1 ++ [5], by rw [e1, List.append_assoc], ok1 k1 (Or.inr (Or.inr (Or.inl rfl))), fun n => ?_⟩
    have a := g1 n
    rw [cmd0 (by omega)] at a
    rw [cmd0 (by omega), hls_app, a]
    exact (one _ _).trans (hgt_one (Or.inl rfl) n)
  · intro op i out i' o' _ ih e; cases e
  · intro op i out i' o' _ _ ih e; exact up (by omega) (by omega) (ih e)
  · intro op i out i1 o1 i' o' c _ ih _ ih2 e; cases e
  · intro op i out i1 o1 i' o' c _ ih _ ih2 _
    obtain ⟨s1, e1, k1, g1⟩ := ih rfl
    obtain ⟨s2, e2, k2, g2⟩ := ih2 rfl
    have oc : opC (tk i1) := by unfold opC; omega
    refine ⟨s1 ++ (s2 ++ [tk i1]), by rw [e2, e1]; simp, ok2 k1 (ok1 k2 (Or.inr (Or.inr (Or.inr (Or.inr oc))))), fun n => ?_⟩
    have a := g1 n
    have b := g2 (n + 1)
    rw [cmd0 (by omega)] at a b
    rw [cmd0 (by omega), hls_app, a]
    show hls (s2 ++ [tk i1]) (n + 1) = _
    rw [hls_app, show hls s2 (n + 1) = some (n + 1 + 1) from b]
    exact (one _ _).trans (hgt_op oc n)
  · intro op i out j _
    refine ⟨[tk i], rfl, fun x hx => by cases List.mem_singleton.1 hx; exact hk i j, fun n => ?_⟩
    rw [cmd0 (by omega)]
    exact (one _ _).trans (hgt_itm j n)
  · intro op i out _ _ _ e; cases e
  · intro op i out i' o' t _ _ ih e; cases e
  · intro op i out i' o' t _ _ ih _
    obtain ⟨s1, e1, k1, g1⟩ := ih rfl
    refine ⟨s1 ++ [12], by rw [e1, List.append_assoc], ok1 k1 (Or.inr (Or.inr (Or.inr (Or.inl rfl)))), fun n => ?_⟩
    have a := g1 n
    rw [cmd0 (by omega)] at a
    rw [cmd0 (by omega), hls_app, a]
    exact (one _ _).trans (hgt_one (Or.inr rfl) n)
  · intro op i out i' o' t _ _ ih e; cases e
  · intro op i out i' o' t _ _ _ ih e; cases e
  · intro op i out i' o' t _ t2 _ ih e; exact up (by omega) (by omega) (ih e)
  · intro op i out _ _ _ e; cases e
/-- the row's walk, cut -/
theorem hgs_hls {a b : List Nat} : ∀ (s : List Nat) (a : List Nat) (n : Nat), lq (hgs (a ++ s ++ b)) s.length a.length (some n) = hls s n
  | [], a, n => rfl
  | x :: s, a, n => by
    show lq (hgs (a ++ x :: s ++ b)) s.length (a.length + 1) (hgs (a ++ x :: s ++ b) a.length (some n)) = (hgt x n).bind (hls s)
    have e : (a ++ x :: s ++ b).getD a.length 0 = x := by
      rw [List.getD_eq_getElem?_getD]
      simp
    show lq (hgs (a ++ x :: s ++ b)) s.length (a.length + 1) (hgt ((a ++ x :: s ++ b).getD a.length 0) n) = _
    rw [e]
    cases hgt x n with
    | none => exact hgs_no _ _ _
    | some k =>
      have := hgs_hls (b := b) (a := []) s (a ++ [x]) k
      rw [List.length_append, show [x].length = 1 from rfl, show a ++ [x] ++ s ++ b = a ++ x :: s ++ b by simp] at this
      exact this
