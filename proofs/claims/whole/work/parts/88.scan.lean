/-! the row of tokens -/
def tkp (tp : List Nat) : Nat → Nat
  | 0 => 0
  | i + 1 => tkE tp (skb tp (tkp tp i))
def tkb (tp : List Nat) (i : Nat) : Nat := skb tp (tkp tp i)
def tkt (tp : List Nat) (i : Nat) : Nat := tkA tp (tkb tp i)
theorem skb_le {tp : List Nat} {p : Nat} (hp : p ≤ tp.length) : p ≤ skb tp p ∧ skb tp p ≤ tp.length := by
  have := xt_ge isBl tp (tp.length - p) p
  unfold skb
  omega
theorem tkE_le {tp : List Nat} {q : Nat} (hq : q ≤ tp.length) : q ≤ tkE tp q ∧ tkE tp q ≤ tp.length ∧ (q < tp.length → q < tkE tp q) := by
  unfold tkE
  have g1 := xt_ge isLt tp (tp.length - (q + 1)) (q + 1)
  have g2 := xt_ge isDg tp (tp.length - (q + 1)) (q + 1)
  split
  · exact ⟨Nat.le_refl _, hq, fun h => by omega⟩
  · split
    · omega
    · split
      · omega
      · omega
theorem tkp_le (tp : List Nat) : ∀ i, tkp tp i ≤ tp.length
  | 0 => Nat.zero_le _
  | i + 1 => (tkE_le (skb_le (tkp_le tp i)).2).2.1
theorem tkb_le (tp : List Nat) (i : Nat) : tkb tp i ≤ tp.length := (skb_le (tkp_le tp i)).2
theorem tkp_ge {tp : List Nat} : ∀ i, (∀ j, j < i → tkt tp j < 20000) → i ≤ tkp tp i
  | 0, _ => Nat.zero_le _
  | i + 1, h => by
    have := tkp_ge i (fun j hj => h j (by omega))
    have s := skb_le (tkp_le tp i)
    have e := tkE_le s.2
    have t := h i (by omega)
    have q : skb tp (tkp tp i) < tp.length := by
      rcases Nat.lt_or_ge (skb tp (tkp tp i)) tp.length with q | q
      · exact q
      · unfold tkt tkA tkb at t
        rw [if_pos q] at t
        omega
    have e2 := e.2.2 q
    show i + 1 ≤ tkE tp (skb tp (tkp tp i))
    omega
/-- the row's end -/
theorem tk_end (tp : List Nat) : ∃ N, N ≤ tp.length ∧ 20000 ≤ tkt tp N ∧ ∀ j, j < N → tkt tp j < 20000 := by
  have : ∀ m i, i + m = tp.length + 1 → (∀ j, j < i → tkt tp j < 20000) → ∃ N, N ≤ tp.length ∧ 20000 ≤ tkt tp N ∧ ∀ j, j < N → tkt tp j < 20000 := by
    intro m
    induction m with
    | zero =>
      intro i hi h
      have := tkp_ge i h
      have := tkp_le tp i
      omega
    | succ m ih =>
      intro i hi h
      rcases Nat.lt_or_ge (tkt tp i) 20000 with q | q
      · exact ih (i + 1) (by omega) (fun j hj => by
          by_cases x : j = i
          · subst x; exact q
          · exact h j (by omega))
      · exact ⟨i, by omega, q, h⟩
  exact this (tp.length + 1) 0 (by omega) (fun j hj => by omega)
theorem nmv_lt {tp : List Nat} {e : Nat} : ∀ m i v k, (∀ j, i ≤ j → j < i + m → isDg (by1 tp j) = true) → v < 10 ^ k → nmv tp m i v < 10 ^ (k + m) := by
  intro m
  induction m with
  | zero => intro i v k _ hv; exact hv
  | succ m ih =>
    intro i v k hd hv
    have hg := hd i (Nat.le_refl _) (by omega)
    have hg2 : 48 ≤ by1 tp i ∧ by1 tp i ≤ 57 := by
      unfold isDg at hg
      rw [Bool.and_eq_true] at hg
      exact ⟨Nat.le_of_ble_eq_true hg.1, Nat.le_of_ble_eq_true hg.2⟩
    have := ih (i + 1) (10 * v + by1 tp i - 48) (k + 1) (fun j h1 h2 => hd j (by omega) (by omega)) (by rw [Nat.pow_succ]; omega)
    rw [show k + (m + 1) = k + 1 + m by omega]
    exact this
theorem fst1_lt {q : Nat → Bool} : ∀ m i k, fst1 q m i = some k → k < i + m := by
  intro m
  induction m with
  | zero => intro i k x; cases x
  | succ m ih =>
    intro i k x
    have x : (if q i then some i else fst1 q m (i + 1)) = some k := x
    split at x
    · cases x; omega
    · have := ih _ _ x; omega
/-- what a token can be -/
theorem tkA_ok (tp : List Nat) (q : Nat) : tkA tp q < 12 ∨ (1000 ≤ tkA tp q ∧ tkA tp q < 11000) ∨ isMk (tkA tp q) = true ∨ tkA tp q = 20000 ∨ tkA tp q = 20001 := by
  unfold tkA
  split
  · omega
  · split
    · unfold wdt
      split
      · rename_i k e
        have := fst1_lt 12 0 k e
        omega
      · omega
    · split
      · rename_i hd
        split
        · omega
        · rename_i h4
          have g := xt_ge isDg tp (tp.length - (q + 1)) (q + 1)
          have xa := xt_all isDg tp (tp.length - (q + 1)) (q + 1)
          have := nmv_lt (tp := tp) (e := 0) (xt isDg tp (tp.length - (q + 1)) (q + 1) - q) q 0 0 (fun j h1 h2 => by
            by_cases w : j = q
            · subst w; exact hd
            · exact (xa j (by omega) (by omega)).2) (by decide)
          have l4 : (10 : Nat) ^ (0 + (xt isDg tp (tp.length - (q + 1)) (q + 1) - q)) ≤ 10 ^ 4 := Nat.pow_le_pow_right (by decide) (by omega)
          omega
      · split
        · rename_i h; exact Or.inr (Or.inr (Or.inl h))
        · omega
theorem isMk_lt {x : Nat} (h : isMk x = true) : x < 62 := by
  unfold isMk at h
  simp only [Bool.or_eq_true, beq_iff_eq] at h
  omega
theorem tkA_le (tp : List Nat) (q : Nat) : tkA tp q ≤ 20001 := by
  rcases tkA_ok tp q with h | h | h | h | h
  · omega
  · omega
  · have := isMk_lt h; omega
  · omega
  · omega
theorem tC_eq {t a : Nat} (ht : t ≤ 20001) (ha : a < 20000) : tC t = nI a ↔ t = a := by
  unfold tC
  by_cases x : t = 20000
  · rw [if_pos x]
    refine ⟨fun e => ?_, fun e => by omega⟩
    exact absurd (show (-1 : Int32) < 0 by decide) (by rw [e]; exact nI_pos (by omega))
  · rw [if_neg x]
    by_cases y : t = 20001
    · rw [if_pos y]
      refine ⟨fun e => ?_, fun e => by omega⟩
      exact absurd (show (-2 : Int32) < 0 by decide) (by rw [e]; exact nI_pos (by omega))
    · rw [if_neg y]
      exact nI_eq (by omega) (by omega)
theorem tC_m1 {t : Nat} (ht : t ≤ 20001) : tC t = -1 ↔ t = 20000 := by
  unfold tC
  by_cases x : t = 20000
  · rw [if_pos x]; exact ⟨fun _ => x, fun _ => rfl⟩
  · rw [if_neg x]
    by_cases y : t = 20001
    · rw [if_pos y]; exact ⟨fun e => absurd e (by decide), fun e => absurd e x⟩
    · rw [if_neg y]
      exact ⟨fun e => absurd (show (-1 : Int32) < 0 by decide) (by rw [← e]; exact nI_pos (by omega)), fun e => absurd e x⟩
theorem tC_m2 {t : Nat} (ht : t ≤ 20001) : tC t = -2 ↔ t = 20001 := by
  unfold tC
  by_cases x : t = 20000
  · rw [if_pos x]; exact ⟨fun e => absurd e (by decide), fun e => by omega⟩
  · rw [if_neg x]
    by_cases y : t = 20001
    · rw [if_pos y]; exact ⟨fun _ => y, fun _ => rfl⟩
    · rw [if_neg y]
      exact ⟨fun e => absurd (show (-2 : Int32) < 0 by decide) (by rw [← e]; exact nI_pos (by omega)), fun e => absurd e y⟩
/-- the tape of the class with its rows of tokens -/
def TK (h : MHeap) (tp : List Nat) (p : Nat) (y z : Int32) (bs tk pl : List Int32) (n : Nat) : Prop := TL h tp p y z bs ∧ arr h 9 tk 161 ∧ arr h 10 pl 161 ∧ ∀ j, j < n → tk.getD j 0 = tC (tkt tp j) ∧ pl.getD j 0 = nI (tkb tp j)
theorem c_69 {h : MHeap} {tp : List Nat} {x y z : Int32} {bs tk pl : List Int32} (t7 : h[7]? = some (c7 tp.length x y z)) (t8 : arr h 8 bs 160) (tb : ∀ i, i < tp.length → bs.getD i 0 = nI (by1 tp i)) (t2 : h[2]? = some (98, tx2.map .int)) (t9 : arr h 9 tk 161) (t10 : arr h 10 pl 161) (ht : tp.length ≤ 160) (o6 : ∀ x ∈ tp, x < 256) {N : Nat} (hN : N ≤ tp.length) (hs : 20000 ≤ tkt tp N) (hn : ∀ j, j < N → tkt tp j < 20000) (d : Nat) : ∃ h' p' tk' pl', call (d + 12) 69 [.ref 7] h = some (none, h') ∧ TK h' tp p' y z bs tk' pl' (N + 1) ∧ h'.length = h.length ∧ ∀ a : Nat, a ≠ 7 → a ≠ 9 → a ≠ 10 → h'[a]? = h[a]? := by
  have T0 : TL (h.set 7 (c7 tp.length (nI 0) y z)) tp 0 y z bs := ⟨gset t7 _, ⟨by rw [gset_ne _ (by decide)]; exact t8.1, t8.2⟩, tb, by rw [gset_ne _ (by decide)]; exact t2⟩
  have K0 : TK (h.set 7 (c7 tp.length (nI 0) y z)) tp 0 y z bs tk pl 0 := ⟨T0, ⟨by rw [gset_ne _ (by decide)]; exact t9.1, t9.2⟩, ⟨by rw [gset_ne _ (by decide)]; exact t10.1, t10.2⟩, fun j hj => by omega⟩
  rw [e_69, show (0 : Int32) = nI 0 from rfl, pfI_at t7 rfl (by show 5 < 8; decide)]
  show ∃ h' p' tk' pl', ex (d + 11) 69 9 [sv (.ref 7), sv (.int 1), sv (.int (nI 0))] [] (h.set 7 (c7 tp.length (nI 0) y z)) = _ ∧ _
  have key : ∀ i, i ≤ N → ∀ h1 tk pl, TK h1 tp (tkp tp i) y z bs tk pl i → h1.length = h.length → (∀ a : Nat, a ≠ 7 → a ≠ 9 → a ≠ 10 → h1[a]? = h[a]?) → ∃ h' p' tk' pl', ex (d + 11) 69 9 [sv (.ref 7), sv (.int 1), sv (.int (nI i))] [] h1 = some (none, h') ∧ TK h' tp p' y z bs tk' pl' (N + 1) ∧ h'.length = h.length ∧ ∀ a : Nat, a ≠ 7 → a ≠ 9 → a ≠ 10 → h'[a]? = h[a]? := by
    have one : ∀ i, i ≤ N → ∀ h1 tk pl, TK h1 tp (tkp tp i) y z bs tk pl i → h1.length = h.length → (∀ a : Nat, a ≠ 7 → a ≠ 9 → a ≠ 10 → h1[a]? = h[a]?) → ∃ h2 tk2 pl2, ex (d + 11) 69 9 [sv (.ref 7), sv (.int 1), sv (.int (nI i))] [] h1 = ex (d + 11) 69 9 [sv (.ref 7), sv (.int (if 20000 ≤ tkt tp i then 0 else 1)), sv (.int (nI (i + 1)))] [] h2 ∧ TK h2 tp (tkp tp (i + 1)) y z bs tk2 pl2 (i + 1) ∧ h2.length = h.length ∧ ∀ a : Nat, a ≠ 7 → a ≠ 9 → a ≠ 10 → h2[a]? = h[a]? := by
      intro i hi h1 tk pl K hl hf
      obtain ⟨T, t9, t10, tj⟩ := K
      have hi160 : i < 161 := by omega
      have vr : ∀ {h2 : MHeap} {x y z : Int32}, h2[7]? = some (c7 tp.length x y z) → (∀ k : Value → MRes, gfV none h2 7 [9] 2 k = k (.ref 9)) ∧ (∀ k : Value → MRes, gfV none h2 7 [9] 3 k = k (.ref 10)) := fun e => ⟨fun k => gfV_at e rfl rfl k, fun k => gfV_at e rfl rfl k⟩
      have bl := tkb_le tp i
      have Ta := T.st (tkb tp i)
      have t10a : (h1.set 7 (c7 tp.length (nI (tkb tp i)) y z))[10]? = some (100, pl.map .int) := by rw [gset_ne _ (by decide)]; exact t10.1
      have Tb : TL ((h1.set 7 (c7 tp.length (nI (tkb tp i)) y z)).set 10 (100, (pl.set i (nI (tkb tp i))).map .int)) tp (tkb tp i) y z bs := ⟨by rw [gset_ne _ (by decide)]; exact Ta.1, ⟨by rw [gset_ne _ (by decide)]; exact Ta.2.1.1, Ta.2.1.2⟩, Ta.2.2.1, by rw [gset_ne _ (by decide)]; exact Ta.2.2.2⟩
      have Tc := Tb.st (tkp tp (i + 1))
      generalize hA : (h1.set 7 (c7 tp.length (nI (tkb tp i)) y z)).set 10 (100, (pl.set i (nI (tkb tp i))).map .int) = hB at Tb Tc
      have t9c : (hB.set 7 (c7 tp.length (nI (tkp tp (i + 1))) y z))[9]? = some (100, tk.map .int) := by rw [gset_ne _ (by decide), ← hA, gset_ne _ (by decide), gset_ne _ (by decide)]; exact t9.1
      have t10c : (hB.set 7 (c7 tp.length (nI (tkp tp (i + 1))) y z))[10]? = some (100, (pl.set i (nI (tkb tp i))).map .int) := by rw [gset_ne _ (by decide), ← hA, gset t10a]
      generalize hC : hB.set 7 (c7 tp.length (nI (tkp tp (i + 1))) y z) = hD at Tc t9c t10c
      have Td : TL (hD.set 9 (100, (tk.set i (tC (tkt tp i))).map .int)) tp (tkp tp (i + 1)) y z bs := ⟨by rw [gset_ne _ (by decide)]; exact Tc.1, ⟨by rw [gset_ne _ (by decide)]; exact Tc.2.1.1, Tc.2.1.2⟩, Tc.2.2.1, by rw [gset_ne _ (by decide)]; exact Tc.2.2.2⟩
      have t9d : (hD.set 9 (100, (tk.set i (tC (tkt tp i))).map .int))[9]? = some (100, (tk.set i (tC (tkt tp i))).map .int) := gset t9c _
      have hg : (tk.set i (tC (tkt tp i))).getD i 0 = tC (tkt tp i) := by rw [getD_set (by rw [t9.2]; exact hi160), if_pos rfl]
      have tl : tkt tp i ≤ 20001 := tkA_le tp (tkb tp i)
      refine ⟨hD.set 9 (100, (tk.set i (tC (tkt tp i))).map .int), tk.set i (tC (tkt tp i)), pl.set i (nI (tkb tp i)), ?_, ⟨Td, ⟨t9d, by rw [List.length_set]; exact t9.2⟩, ⟨by rw [gset_ne _ (by decide)]; exact t10c, by rw [List.length_set]; exact t10.2⟩, ?_⟩, ?_, ?_⟩
      · rw [e_69_9, if_neg (by decide), (vr T.1).1, dR_ref, ar_ln t9.1, t9.2, if_pos (nI_lt hi160 (by decide)), (vr T.1).2, dR_ref, ar_ln t10.1, t10.2, if_pos (nI_lt hi160 (by decide)), T.v, c_70 T ht o6 (tkp_le tp i), cV_s]
        rw [show skb tp (tkp tp i) = tkb tp i from rfl, (vr Ta.1).2, Ta.g5, dR_ref, ar_as t10a (by rw [t10.2]; exact hi160) (by rw [t10.2]; decide), hA, (vr Tb.1).1, Tb.v, c_71 Tb ht o6 bl (d + 1), cI_s, dR_ref]
        rw [show tkE tp (tkb tp i) = tkp tp (i + 1) from rfl, show tkA tp (tkb tp i) = tkt tp i from rfl, hC, ar_as t9c (by rw [t9.2]; exact hi160) (by rw [t9.2]; decide), (vr Td.1).1, dR_ref, ar_al t9d (by rw [List.length_set, t9.2]; exact hi160) (by rw [List.length_set, t9.2]; decide), hg, nI_1]
        by_cases s0 : tkt tp i = 20000
        · rw [if_pos ((tC_m1 tl).2 s0), if_pos (by omega)]
        · rw [if_neg (fun e => s0 ((tC_m1 tl).1 e)), (vr Td.1).1, dR_ref, ar_al t9d (by rw [List.length_set, t9.2]; exact hi160) (by rw [List.length_set, t9.2]; decide), hg]
          by_cases s1 : tkt tp i = 20001
          · rw [if_pos ((tC_m2 tl).2 s1), if_pos (by omega)]
          · rw [if_neg (fun e => s1 ((tC_m2 tl).1 e)), if_neg (by omega)]
      · intro j hj
        rw [getD_set (by rw [t9.2]; exact hi160), getD_set (by rw [t10.2]; exact hi160)]
        by_cases x : j = i
        · subst x; rw [if_pos rfl, if_pos rfl]; exact ⟨rfl, rfl⟩
        · rw [if_neg x, if_neg x]; exact tj j (by omega)
      · rw [List.length_set, ← hC, List.length_set, ← hA, List.length_set, List.length_set]; exact hl
      · intro a h7 h9 h10
        rw [gset_ne _ (fun e => h9 e.symm), ← hC, gset_ne _ (fun e => h7 e.symm), ← hA, gset_ne _ (fun e => h10 e.symm), gset_ne _ (fun e => h7 e.symm)]
        exact hf a h7 h9 h10
    intro i hi
    refine up_ind (n := N) (P := fun i => ∀ h1 tk pl, TK h1 tp (tkp tp i) y z bs tk pl i → h1.length = h.length → (∀ a : Nat, a ≠ 7 → a ≠ 9 → a ≠ 10 → h1[a]? = h[a]?) → ∃ h' p' tk' pl', ex (d + 11) 69 9 [sv (.ref 7), sv (.int 1), sv (.int (nI i))] [] h1 = some (none, h') ∧ TK h' tp p' y z bs tk' pl' (N + 1) ∧ h'.length = h.length ∧ ∀ a : Nat, a ≠ 7 → a ≠ 9 → a ≠ 10 → h'[a]? = h[a]?) ?_ ?_ hi
    · intro h1 tk pl K hl hf
      obtain ⟨h2, tk2, pl2, e, K2, l2, f2⟩ := one N (Nat.le_refl _) h1 tk pl K hl hf
      refine ⟨h2, _, tk2, pl2, ?_, K2, l2, f2⟩
      rw [e, if_pos hs, e_69_9, if_pos rfl]
    · intro i hi ih h1 tk pl K hl hf
      obtain ⟨h2, tk2, pl2, e, K2, l2, f2⟩ := one i (by omega) h1 tk pl K hl hf
      rw [e, if_neg (by have := hn i hi; omega)]
      exact ih h2 tk2 pl2 K2 l2 f2
  exact key 0 (Nat.zero_le _) _ tk pl K0 List.length_set (fun a h7 _ _ => gset_ne _ (fun e => h7 e.symm))
