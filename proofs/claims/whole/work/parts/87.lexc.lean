/-! the class's scan -/
theorem c_sl {h : MHeap} (T : h[2]? = some (98, tx2.map .int)) (d : Nat) : call (d + 4) 1004 [.ref 2] h = some (some (.int (nI 61)), h) := by
  show (bif Nat.ble 3 (d + 3) then prm 4 [.ref 2] h else none) = _
  rw [show Nat.ble 3 (d + 3) = true from Nat.ble_eq_true_of_le (by omega)]
  show prm 4 [.ref 2] h = _
  simp only [prm, slen, T]
  rfl
theorem c_sc {h : MHeap} (T : h[2]? = some (98, tx2.map .int)) {i : Nat} (hi : i < 61) (d : Nat) : call (d + 7) 1005 [.ref 2, .int (nI i)] h = some (some (.int (nI (wch.getD i 0))), h) := by
  show (bif Nat.ble 6 (d + 6) then prm 5 [.ref 2, .int (nI i)] h else none) = _
  rw [show Nat.ble 6 (d + 6) = true from Nat.ble_eq_true_of_le (by omega)]
  show sch none h 2 (nI i) _ = _
  have g : ∀ i, i < 61 → (tx2.map Value.int)[i]? = some (.int (nI (wch.getD i 0))) := by
    intro i hi
    have e : tx2 = wch.map nI := rfl
    have l : wch.length = 61 := rfl
    rw [e, List.getElem?_map, List.getElem?_map, List.getElem?_eq_getElem (by omega), List.getD_eq_getElem?_getD, List.getElem?_eq_getElem (by omega)]
    rfl
  simp only [sch, T, nI_clamp (show i < 2 ^ 31 by omega), g i hi, nI_pos (show i < 2 ^ 31 by omega)]
  simp
theorem wtab : ∀ k, k < 12 → wst.getD k 0 + wln.getD k 0 < 61 ∧ wch.getD (wst.getD k 0 + wln.getD k 0) 0 = 32 ∧ wln.getD k 0 < 8 ∧ 0 < wln.getD k 0 ∧ (k < 11 → wst.getD (k + 1) 0 = wst.getD k 0 + wln.getD k 0 + 1) ∧ (k = 11 → wst.getD k 0 + wln.getD k 0 + 1 = 61) ∧ allq (fun j => decide (97 ≤ wch.getD (wst.getD k 0 + j) 0) && decide (wch.getD (wst.getD k 0 + j) 0 ≤ 122)) (wln.getD k 0) = true := by decide +kernel
section LEXC
variable {h : MHeap} {tp : List Nat} {y z : Int32} {bs : List Int32}
theorem c_73 {p : Nat} (T : TL h tp p y z bs) (ht : tp.length ≤ 160) (o6 : ∀ x ∈ tp, x < 256) {k q : Nat} (hk : k < 12) (hq : q + wln.getD k 0 ≤ tp.length) (d : Nat) : call (d + 8) 73 [.ref 7, .int (nI q), .int (nI (wst.getD k 0)), .int (nI (wst.getD k 0 + wln.getD k 0))] h = some (some (.int (bI (allq (fun j => decide (wch.getD (wst.getD k 0 + j) 0 = by1 tp (q + j))) (wln.getD k 0)))), h) := by
  obtain ⟨w1, w2, w3, w4, w5, w6, w7⟩ := wtab k hk
  generalize wst.getD k 0 = a at *
  generalize wln.getD k 0 = n at *
  rw [e_73]
  have vs : ∀ (m : Nat) (K : Nat → MRes), vd none h 2 [98, m] K = K m := fun m K => vd_at T.2.2.2 rfl K
  refine up_ind (n := n) (i := 0) (P := fun j => (∀ i, i < j → wch.getD (a + i) 0 = by1 tp (q + i)) → ex (d + 7) 73 3 [sv (.ref 7), sv (.int (nI q)), sv (.int (nI a)), sv (.int (nI (a + n))), sv (.int (nI (a + j)))] [] h = some (some (.int (bI (allq (fun j => decide (wch.getD (a + j) 0 = by1 tp (q + j))) n))), h)) ?_ ?_ (by omega) (fun i hi => by omega)
  · intro hh
    rw [e_73_3, if_neg (nI_pos (by omega)), if_neg (nI_nlt (Nat.le_refl _) (by omega)), zr_1, allq_iff.2 (fun i hi => decide_eq_true (hh i hi))]
    rfl
  · intro j hj ih hh
    have hb := by_lt o6 (show q + j < tp.length by omega)
    have hw := allq_iff.1 w7 j hj
    rw [Bool.and_eq_true, decide_eq_true_iff, decide_eq_true_iff] at hw
    rw [e_73_3, if_neg (nI_pos (by omega)), if_pos (nI_lt (by omega) (by omega)), vs, c_sl T.2.2.2 (d + 3), cI_s, if_pos (nI_lt (by omega) (by decide)), vs, c_sc T.2.2.2 (by omega) d, cI_s, T.v, nI_add, pk_sub (by omega), show q + (a + j) - a = q + j by omega, c_75 T ht (by omega), cI_s, nI_1]
    by_cases e : wch.getD (a + j) 0 = by1 tp (q + j)
    · rw [if_pos (by rw [e])]
      exact ih (fun i hi => by
        by_cases x : i = j
        · subst x; exact e
        · exact hh i (by omega))
    · rw [if_neg (fun x => e ((nI_eq (by omega) (by omega)).1 x)), zr_0]
      have : allq (fun j => decide (wch.getD (a + j) 0 = by1 tp (q + j))) n = false := by
        cases x : allq (fun j => decide (wch.getD (a + j) 0 = by1 tp (q + j))) n with
        | false => rfl
        | true => exact absurd (of_decide_eq_true (allq_iff.1 x j hj)) e
      rw [this]; rfl
/-- a word ends at e -/
theorem c_72w {e : Nat} (T : TL h tp e y z bs) (ht : tp.length ≤ 160) (o6 : ∀ x ∈ tp, x < 256) {q : Nat} (hq : q ≤ e) (he : e ≤ tp.length) (d : Nat) : ex (d + 8) 72 45 [sv (.ref 7), sv (.int (nI q)), sv (.int 0), sv (.int 0), sv (.int 0)] [] h = some (some (.int (tC (wdt tp q e))), h) := by
  have vs : ∀ (m : Nat) (K : Nat → MRes), vd none h 2 [98, m] K = K m := fun m K => vd_at T.2.2.2 rfl K
  have word : ∀ k, k < 12 → ∀ j, j ≤ wln.getD k 0 → ex (d + 8) 72 45 [sv (.ref 7), sv (.int (nI q)), sv (.int (nI k)), sv (.int (nI (wst.getD k 0))), sv (.int (nI (wst.getD k 0 + j)))] [] h = if mwq tp q e k then some (some (.int (nI k)), h) else ex (d + 8) 72 45 [sv (.ref 7), sv (.int (nI q)), sv (.int (nI (k + 1))), sv (.int (nI (wst.getD k 0 + wln.getD k 0 + 1))), sv (.int (nI (wst.getD k 0 + wln.getD k 0 + 1)))] [] h := by
    intro k hk j hj
    obtain ⟨w1, w2, w3, w4, w5, w6, w7⟩ := wtab k hk
    refine up_ind (n := wln.getD k 0) (P := fun j => ex (d + 8) 72 45 [sv (.ref 7), sv (.int (nI q)), sv (.int (nI k)), sv (.int (nI (wst.getD k 0))), sv (.int (nI (wst.getD k 0 + j)))] [] h = if mwq tp q e k then some (some (.int (nI k)), h) else ex (d + 8) 72 45 [sv (.ref 7), sv (.int (nI q)), sv (.int (nI (k + 1))), sv (.int (nI (wst.getD k 0 + wln.getD k 0 + 1))), sv (.int (nI (wst.getD k 0 + wln.getD k 0 + 1)))] [] h) ?_ ?_ hj
    · rw [e_72_45, vs, c_sl T.2.2.2 (d + 4), cI_s, if_pos (nI_lt w1 (by decide)), vs, c_sc T.2.2.2 w1 (d + 1), cI_s, w2, if_pos (show nI 32 = (32 : Int32) from rfl), T.g5, pk_sub (by omega), pk_sub hq, nI_1, nI_1]
      unfold mwq
      by_cases x : wln.getD k 0 = e - q
      · rw [if_pos (by rw [Nat.add_sub_cancel_left, x]), T.v, c_73 T ht o6 hk (by omega) d, cI_s, decide_eq_true x, Bool.true_and]
        simp only [bI_0]
        cases allq (fun j => decide (wch.getD (wst.getD k 0 + j) 0 = by1 tp (q + j))) (wln.getD k 0) <;> rfl
      · rw [if_neg (fun x2 => x (by have := (nI_eq (by omega) (by omega)).1 x2; omega)), decide_eq_false x]
        rfl
    · intro j hj ih
      have hw := allq_iff.1 w7 j hj
      rw [Bool.and_eq_true, decide_eq_true_iff, decide_eq_true_iff] at hw
      rw [e_72_45, vs, c_sl T.2.2.2 (d + 4), cI_s, if_pos (nI_lt (by omega) (by decide)), vs, c_sc T.2.2.2 (by omega) (d + 1), cI_s, if_neg (show ¬ nI (wch.getD (wst.getD k 0 + j) 0) = (32 : Int32) from fun x => by have := (nI_eq (b := 32) (by omega) (by decide)).1 x; omega), nI_1]
      exact ih
  have key : ∀ k, k ≤ 12 → ∀ a, (k < 12 → a = wst.getD k 0) → (k = 12 → a = 61) → ex (d + 8) 72 45 [sv (.ref 7), sv (.int (nI q)), sv (.int (nI k)), sv (.int (nI a)), sv (.int (nI a))] [] h = some (some (.int (match fst1 (mwq tp q e) (12 - k) k with
    | some k => nI k
    | none => -2)), h) := by
    intro k hk
    refine up_ind (n := 12) (P := fun k => ∀ a, (k < 12 → a = wst.getD k 0) → (k = 12 → a = 61) → ex (d + 8) 72 45 [sv (.ref 7), sv (.int (nI q)), sv (.int (nI k)), sv (.int (nI a)), sv (.int (nI a))] [] h = some (some (.int (match fst1 (mwq tp q e) (12 - k) k with
      | some k => nI k
      | none => -2)), h)) ?_ ?_ hk
    · intro a _ ha
      rw [ha rfl, e_72_45, vs, c_sl T.2.2.2 (d + 4), cI_s, if_neg (by decide)]
      rfl
    · intro k hk ih a ha _
      obtain ⟨w1, w2, w3, w4, w5, w6, w7⟩ := wtab k hk
      have wd0 : ex (d + 8) 72 45 [sv (.ref 7), sv (.int (nI q)), sv (.int (nI k)), sv (.int (nI (wst.getD k 0))), sv (.int (nI (wst.getD k 0)))] [] h = _ := word k hk 0 (by omega)
      rw [ha hk, wd0, show 12 - k = (12 - (k + 1)) + 1 by omega]
      show _ = some (some (Value.int (match (if mwq tp q e k then some k else fst1 (mwq tp q e) (12 - (k + 1)) (k + 1)) with
        | some k => nI k
        | none => -2)), h)
      cases mwq tp q e k with
      | true => rfl
      | false => exact ih _ (fun x => (w5 (by omega)).symm) (fun x => w6 (by omega))
  have := key 0 (by omega) 0 (fun _ => rfl) (fun x => by omega)
  refine this.trans ?_
  unfold wdt
  have lt : ∀ m i k, fst1 (mwq tp q e) m i = some k → k < i + m := by
    intro m
    induction m with
    | zero => intro i k x; cases x
    | succ m ih =>
      intro i k x
      have x : (if mwq tp q e i then some i else fst1 (mwq tp q e) m (i + 1)) = some k := x
      split at x
      · cases x; omega
      · have := ih _ _ x; omega
  show some (some (Value.int (match fst1 (mwq tp q e) 12 0 with
    | some k => nI k
    | none => -2)), h) = _
  cases x : fst1 (mwq tp q e) 12 0 with
  | none => rfl
  | some k =>
    have := lt 12 0 k x
    show some (some (Value.int (nI k)), h) = some (some (Value.int (tC k)), h)
    unfold tC
    rw [if_neg (by omega), if_neg (by omega)]
theorem c_72 {q : Nat} (T : TL h tp (q + 1) y z bs) (ht : tp.length ≤ 160) (o6 : ∀ x ∈ tp, x < 256) (hq : q < tp.length) (d : Nat) : call (d + 9) 72 [.ref 7, .int (nI q)] h = some (some (.int (tC (wdt tp q (xt isLt tp (tp.length - (q + 1)) (q + 1))))), h.set 7 (c7 tp.length (nI (xt isLt tp (tp.length - (q + 1)) (q + 1))) y z)) := by
  rw [e_72]
  have := xt_run (q := isLt) (tp := tp) (fun i => ex (d + 8) 72 0 [sv (.ref 7), sv (.int (nI q)), none, none, none] [] (h.set 7 (c7 tp.length (nI i) y z))) (fun i => ex (d + 8) 72 45 [sv (.ref 7), sv (.int (nI q)), sv (.int 0), sv (.int 0), sv (.int 0)] [] (h.set 7 (c7 tp.length (nI i) y z))) (fun i hi => by
    have T1 := T.st i
    show ex _ _ _ _ _ _ = if _ then ex _ _ _ _ _ _ else ex _ _ _ _ _ _
    rw [e_72_0, T1.g5, T1.g0]
    by_cases q : i < tp.length
    · have hb := by_lt o6 q
      rw [if_pos (nI_lt q (by omega)), decide_eq_true q, Bool.true_and]
      simp only [T1.g5, T1.v, c_75 T1 ht q, cI_s, nI_1, T1.p5, set7, c_76 _ hb, bI_0]
      cases isLt (by1 tp i) <;> rfl
    · rw [if_neg (nI_nlt (by omega) (by omega)), decide_eq_false q]; rfl) (tp.length - (q + 1)) (q + 1) (by omega)
  rw [set_self T.1] at this
  have g := xt_ge isLt tp (tp.length - (q + 1)) (q + 1)
  rw [this, c_72w (T.st _) ht o6 (by omega) (by omega)]
theorem c_74 {q : Nat} (T : TL h tp (q + 1) y z bs) (ht : tp.length ≤ 160) (o6 : ∀ x ∈ tp, x < 256) (hq : q < tp.length) (hd : isDg (by1 tp q) = true) (d : Nat) : call (d + 3) 74 [.ref 7, .int (nI q)] h = some (some (.int (tC (if 4 < xt isDg tp (tp.length - (q + 1)) (q + 1) - q then 20001 else 1000 + nmv tp (xt isDg tp (tp.length - (q + 1)) (q + 1) - q) q 0))), h.set 7 (c7 tp.length (nI (xt isDg tp (tp.length - (q + 1)) (q + 1))) y z)) := by
  rw [e_74]
  have g := xt_ge isDg tp (tp.length - (q + 1)) (q + 1)
  have xa := xt_all isDg tp (tp.length - (q + 1)) (q + 1)
  have fin : ∀ (h1 : MHeap) (e : Nat), TL h1 tp e y z bs → q ≤ e → e ≤ tp.length → e - q ≤ 4 → (∀ j, q ≤ j → j < e → isDg (by1 tp j) = true) → ∀ m i v, i + m = e → q ≤ i → v < 10 ^ (i - q) → ex (d + 2) 74 55 [sv (.ref 7), sv (.int (nI q)), sv (.int (nI v)), sv (.int (nI i))] [] h1 = some (some (.int (nI (1000 + nmv tp m i v))), h1) ∧ nmv tp m i v < 10 ^ (e - q) := by
    intro h1 e T1 he1 he2 he3 hdg m
    induction m with
    | zero =>
      intro i v hi hqi hv
      have : i = e := by omega
      subst this
      refine ⟨?_, hv⟩
      rw [e_74_55, T1.g5, if_neg (nI_nlt (Nat.le_refl _) (by omega)), show (1000 : Int32) = nI 1000 from rfl, nI_add]
      rfl
    | succ m ih =>
      intro i v hi hqi hv
      have hb := by_lt o6 (show i < tp.length by omega)
      have hg := hdg i hqi (by omega)
      have hg2 : 48 ≤ by1 tp i ∧ by1 tp i ≤ 57 := by
        unfold isDg at hg
        rw [Bool.and_eq_true] at hg
        exact ⟨Nat.le_of_ble_eq_true hg.1, Nat.le_of_ble_eq_true hg.2⟩
      have hv2 : 10 * v + by1 tp i - 48 < 10 ^ (i + 1 - q) := by
        rw [show i + 1 - q = (i - q) + 1 by omega, Nat.pow_succ]
        omega
      have := ih (i + 1) (10 * v + by1 tp i - 48) (by omega) (by omega) hv2
      refine ⟨?_, this.2⟩
      rw [e_74_55, T1.g5, if_pos (nI_lt (by omega) (by omega)), T1.v, c_75 T1 ht (by omega), cI_s, show (10 : Int32) = nI 10 from rfl, pk_mul, nI_add, show (48 : Int32) = nI 48 from rfl, pk_sub (by omega), nI_1]
      exact this.1
  have := xt_run (q := isDg) (tp := tp) (fun i => ex (d + 2) 74 0 [sv (.ref 7), sv (.int (nI q)), none, none] [] (h.set 7 (c7 tp.length (nI i) y z))) (fun i => if (4 : Int32) < nI i - nI q then some (some (.int (-2)), h.set 7 (c7 tp.length (nI i) y z)) else ex (d + 2) 74 55 [sv (.ref 7), sv (.int (nI q)), sv (.int 0), sv (.int (nI q))] [] (h.set 7 (c7 tp.length (nI i) y z))) (fun i hi => by
    have T1 := T.st i
    show ex _ _ _ _ _ _ = if _ then ex _ _ _ _ _ _ else _
    rw [e_74_0, T1.g5, T1.g0]
    by_cases q : i < tp.length
    · have hb := by_lt o6 q
      rw [if_pos (nI_lt q (by omega)), decide_eq_true q, Bool.true_and]
      simp only [T1.g5, T1.v, c_75 T1 ht q, cI_s, nI_1, T1.p5, set7, c_77 _ hb, bI_0]
      cases isDg (by1 tp i) <;> rfl
    · rw [if_neg (nI_nlt (by omega) (by omega)), decide_eq_false q]
      simp only [T1.g5]
      rfl) (tp.length - (q + 1)) (q + 1) (by omega)
  rw [set_self T.1] at this
  rw [this]
  generalize xt isDg tp (tp.length - (q + 1)) (q + 1) = e at *
  rw [pk_sub (by omega)]
  by_cases x : 4 < e - q
  · rw [if_pos (show (4 : Int32) < nI (e - q) from nI_lt (a := 4) x (by omega)), if_pos x]
    rfl
  · rw [if_neg (show ¬ (4 : Int32) < nI (e - q) from nI_nlt (a := 4) (by omega) (by decide)), if_neg x]
    have r := fin _ e (T.st e) (by omega) (by omega) (by omega) (fun j h1 h2 => by
      by_cases w : j = q
      · subst w; exact hd
      · exact (xa j (by omega) h2).2) (e - q) q 0 (by omega) (Nat.le_refl _) (by rw [Nat.sub_self]; decide)
    have l4 : (10 : Nat) ^ (e - q) ≤ 10 ^ 4 := Nat.pow_le_pow_right (by decide) (by omega)
    have r2 := r.2
    refine r.1.trans ?_
    unfold tC
    rw [if_neg (by omega), if_neg (by omega)]
theorem c_71 {q : Nat} (T : TL h tp q y z bs) (ht : tp.length ≤ 160) (o6 : ∀ x ∈ tp, x < 256) (hq : q ≤ tp.length) (d : Nat) : call (d + 10) 71 [.ref 7] h = some (some (.int (tC (tkA tp q))), h.set 7 (c7 tp.length (nI (tkE tp q)) y z)) := by
  rw [e_71, T.g5, T.g0]
  unfold tkA tkE
  by_cases x : tp.length ≤ q
  · rw [if_neg (nI_nlt x (by omega)), if_pos x, if_pos x, set_self T.1]
    rfl
  · have hq2 : q < tp.length := by omega
    have hb := by_lt o6 hq2
    have T1 := T.st (q + 1)
    rw [if_pos (nI_lt hq2 (by omega)), if_neg x, if_neg x, T.v, c_75 T ht hq2, cI_s, T.g5, nI_1, T.p5, c_76 _ hb, cI_s]
    simp only [bI_0]
    cases w1 : isLt (by1 tp q) with
    | true =>
      rw [if_neg (by decide), T1.v, c_72 T1 ht o6 hq2, cI_s, set7]
      rfl
    | false =>
      rw [if_pos rfl, c_77 _ hb, cI_s]
      simp only [bI_0]
      cases w2 : isDg (by1 tp q) with
      | true =>
        rw [if_neg (by decide), T1.v, c_74 T1 ht o6 hq2 w2 (d + 6), cI_s, set7]
        rfl
      | false =>
        rw [if_pos rfl, c_78 _ hb, cI_s]
        simp only [bI_0]
        cases w3 : isMk (by1 tp q) with
        | true =>
          rw [if_neg (by decide)]
          show some (some (Value.int (nI (by1 tp q))), _) = some (some (Value.int (tC (by1 tp q))), _)
          unfold tC
          rw [if_neg (by omega), if_neg (by omega)]
          rfl
        | false => rfl
end LEXC
