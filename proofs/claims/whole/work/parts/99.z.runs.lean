/-! the law's run on the small machine, and its room -/
theorem sz1 {h : MHeap} {a : Nat} {q : MCell} {t : Nat} {xs : List Value} (e : h[a]? = some (t, xs)) (hq : h[a]? = some q) (hx : xs.length ≤ 1200) : q.2.length ≤ 1200 := by
  rw [e] at hq
  cases hq
  exact hx
theorem sz2 {h : MHeap} {a : Nat} {q : MCell} {xs : List Int32} {n : Nat} (e : h[a]? = some (100, xs.map .int) ∧ xs.length = n) (hq : h[a]? = some q) (hn : n ≤ 1200) : q.2.length ≤ 1200 := sz1 e.1 hq (by rw [List.length_map, e.2]; exact hn)
theorem asz_le (o : Nat) (h1 : 29 ≤ o) (h2 : o ≤ 44) : asz o ≤ 1200 := by
  have : ∀ o, o < 45 → asz o ≤ 1200 := by decide
  exact this o (by omega)
theorem szs {h : MHeap} : ∀ {s : Sta}, OKS s → CV h s → RV h s → ∀ (a : Nat) (q : MCell), 3 ≤ a → h[a]? = some q → q.2.length ≤ 1200
  | (c, w, B, hs, L, Ts, tp, im, sh), ok, C, R, a, q, h3, hq => by
    obtain ⟨oB, oL, o3, _⟩ := ok
    obtain ⟨ps, ⟨b1, b2, b3, b4, b5, b6⟩, _, _, ⟨u, v, n, w', s22, s23, s24, s25⟩, k6, ⟨x, y, z, bs, tk, pl, it, t7, t8, _, t9, t10, t11⟩, ⟨lp, l1, l2, _⟩, ⟨m1, m2⟩, _, g, _⟩ := C
    obtain ⟨F, A, ⟨H, _⟩, _⟩ := R
    by_cases z : a = 3
    · subst z; exact sz1 b2 hq (Nat.le_of_ble_eq_true rfl)
    by_cases z : a = 4
    · subst z; exact sz1 b3 hq (Nat.le_of_ble_eq_true rfl)
    by_cases z : a = 5
    · subst z; exact sz1 b4 hq (by rw [List.length_append, List.length_map, List.length_replicate, b5]; have := b1.2.2.2.2; omega)
    by_cases z : a = 6
    · subst z; exact sz1 k6 hq (Nat.le_of_ble_eq_true rfl)
    by_cases z : a = 7
    · subst z; exact sz1 t7 hq (Nat.le_of_ble_eq_true rfl)
    by_cases z : a = 8
    · subst z; exact sz2 t8 hq (by decide)
    by_cases z : a = 9
    · subst z; exact sz2 t9 hq (by decide)
    by_cases z : a = 10
    · subst z; exact sz2 t10 hq (by decide)
    by_cases z : a = 11
    · subst z; exact sz2 t11 hq (by decide)
    by_cases z : a = 12
    · subst z; exact sz1 l1 hq (by rw [List.length_append, List.length_map, List.length_replicate, l2]; omega)
    by_cases z : a = 13
    · subst z; exact sz1 m1 hq (by decide)
    by_cases z : a < 22
    · have k := m2 ((a - 14) / 2) (by omega)
      rcases (show a = 14 + 2 * ((a - 14) / 2) ∨ a = 15 + 2 * ((a - 14) / 2) by omega) with y | y
      · rw [y] at hq; exact sz1 k.1 hq (Nat.le_of_ble_eq_true rfl)
      · rw [y] at hq; exact sz2 k.2 hq (by decide)
    by_cases z : a = 22
    · subst z; exact sz2 s22 hq (by decide)
    by_cases z : a = 23
    · subst z; exact sz2 s23 hq (by decide)
    by_cases z : a = 24
    · subst z; exact sz2 s24 hq (by decide)
    by_cases z : a = 25
    · subst z; exact sz2 s25 hq (by decide)
    by_cases z : a = 28
    · subst z; exact sz1 H.1 hq (Nat.le_of_ble_eq_true rfl)
    by_cases z : 29 ≤ a ∧ a ≤ 44
    · exact sz2 (H.2 a z.1 z.2) hq (asz_le a z.1 z.2)
    · have := g a q.1 q.2 (by omega) hq
      omega
theorem sum_le {l : List MCell} (h : ∀ q ∈ l, q.2.length ≤ 1200) : (l.map fun q => q.2.length).sum ≤ 1200 * l.length := by
  induction l with
  | nil => exact Nat.le_refl _
  | cons x l ih =>
    have h1 := h x (List.mem_cons_self ..)
    have h2 := ih (fun q hq => h q (List.mem_cons_of_mem _ hq))
    rw [List.map_cons, List.sum_cons, List.length_cons]
    omega
theorem law_runs (xs : List Int32) (hx : xs.length ≤ 448) : ∃ h', call 1001 263 [.ref 0] (prF xs (tx1.map .int) (tx2.map .int)) = some (some (.int 1), h') ∧ h'.length ≤ 600000 ∧ hsl h' ≤ 7302250 := by
  obtain ⟨h1, e1, l1, z1, K1⟩ := c_start (99, xs.map .int) 899
  obtain ⟨h2, e2, R2, l2, f2⟩ := r_start l1 988
  have C2 : CV h2 s0 := K1 h2 (fun a _ ha => f2 a ha) l2
  have I : LI xs h2 s0 := ⟨s0_ok, C2, R2, (f2 0 (by decide)).trans z1⟩
  obtain ⟨h', s', e, I', l⟩ := l_all hx 800 448 0 h2 s0 (Nat.zero_le _) (by omega) I (by omega)
  refine ⟨h', ?_, by omega, ?_⟩
  · have E := e_263 1000 0 (prF xs (tx1.map .int) (tx2.map .int))
    refine E.trans ?_
    show cV (call 1000 83 [.ref 3] [(99, xs.map .int), (98, tx1.map .int), (98, tx2.map .int), (11, o11)]) _ = _
    rw [show call 1000 83 [.ref 3] [(99, xs.map .int), (98, tx1.map .int), (98, tx2.map .int), (11, o11)] = some (none, h1) from e1, cV_s]
    show cV (call 1000 165 [.ref h1.length] (h1 ++ [(12, o12)])) (fun h6 => ex 1000 263 18 [sv (.ref 0), sv (.ref 3), sv (.ref h1.length), sv (.int 0)] [] h6) = _
    rw [l1, show call 1000 165 [.ref 28] (h1 ++ [(12, o12)]) = some (none, h2) from e2, cV_s]
    exact e
  · have hs : hsl h' ≤ 1200 * (h'.drop 3).length := sum_le (fun q hq => by
      obtain ⟨a, ha⟩ := List.getElem?_of_mem hq
      rw [List.getElem?_drop] at ha
      exact szs I'.1 I'.2.1 I'.2.2.1 (3 + a) q (by omega) ha)
    rw [List.length_drop] at hs
    omega
