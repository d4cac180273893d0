/-! the tape's tokens -/
def by1 (tp : List Nat) (i : Nat) : Nat := tp.getD i 0
def xt (q : Nat → Bool) (tp : List Nat) : Nat → Nat → Nat
  | 0, i => i
  | m + 1, i => if decide (i < tp.length) && q (by1 tp i) then xt q tp m (i + 1) else i
def isBl (x : Nat) : Bool := x == 32 || x == 10
def isLt (x : Nat) : Bool := Nat.ble 97 x && Nat.ble x 122
def isDg (x : Nat) : Bool := Nat.ble 48 x && Nat.ble x 57
def isMk (x : Nat) : Bool := x == 40 || x == 41 || x == 42 || x == 43 || x == 45 || x == 59 || x == 60 || x == 61
/-- words: where they begin in the row, how long they are -/
def wst : List Nat := [0, 6, 12, 18, 21, 25, 29, 34, 38, 45, 50, 55]
def wln : List Nat := [5, 5, 5, 2, 3, 3, 4, 3, 6, 4, 4, 5]
def wch : List Nat := [116, 117, 114, 110, 115, 32, 115, 119, 97, 112, 115, 32, 108, 111, 111, 107, 115, 32, 111, 114, 32, 97, 110, 100, 32, 110, 111, 116, 32, 99, 97, 114, 100, 32, 114, 111, 119, 32, 99, 111, 108, 117, 109, 110, 32, 98, 97, 99, 107, 32, 109, 97, 110, 121, 32, 102, 97, 105, 108, 115, 32]
def allq (q : Nat → Bool) : Nat → Bool
  | 0 => true
  | n + 1 => q n && allq q n
theorem allq_iff {q : Nat → Bool} : ∀ {n : Nat}, allq q n = true ↔ ∀ i, i < n → q i = true := by
  intro n
  induction n with
  | zero => exact ⟨fun _ i hi => by omega, fun _ => rfl⟩
  | succ n ih =>
    show (q n && allq q n) = true ↔ _
    rw [Bool.and_eq_true, ih]
    constructor
    · rintro ⟨h1, h2⟩ i hi
      rcases Nat.lt_succ_iff_lt_or_eq.1 hi with z | z
      · exact h2 i z
      · subst z; exact h1
    · intro h; exact ⟨h n (by omega), fun i hi => h i (by omega)⟩
/-- word k stands from a place to one -/
def mwq (tp : List Nat) (q e k : Nat) : Bool := decide (wln.getD k 0 = e - q) && allq (fun j => decide (wch.getD (wst.getD k 0 + j) 0 = by1 tp (q + j))) (wln.getD k 0)
def wdt (tp : List Nat) (q e : Nat) : Nat := match fst1 (mwq tp q e) 12 0 with
  | some k => k
  | none => 20001
def nmv (tp : List Nat) : Nat → Nat → Nat → Nat
  | 0, _, v => v
  | m + 1, i, v => nmv tp m (i + 1) (10 * v + by1 tp i - 48)
/-- the token at a place that is no blank; behind it. 20000: the end; 20001: none -/
def tkA (tp : List Nat) (q : Nat) : Nat := if tp.length ≤ q then 20000 else if isLt (by1 tp q) then wdt tp q (xt isLt tp (tp.length - (q + 1)) (q + 1)) else if isDg (by1 tp q) then (if 4 < xt isDg tp (tp.length - (q + 1)) (q + 1) - q then 20001 else 1000 + nmv tp (xt isDg tp (tp.length - (q + 1)) (q + 1) - q) q 0) else if isMk (by1 tp q) then by1 tp q else 20001
def tkE (tp : List Nat) (q : Nat) : Nat := if tp.length ≤ q then q else if isLt (by1 tp q) then xt isLt tp (tp.length - (q + 1)) (q + 1) else if isDg (by1 tp q) then xt isDg tp (tp.length - (q + 1)) (q + 1) else q + 1
def skb (tp : List Nat) (p : Nat) : Nat := xt isBl tp (tp.length - p) p
def tC (t : Nat) : Int32 := if t = 20000 then -1 else if t = 20001 then -2 else nI t
theorem xt_ge (q : Nat → Bool) (tp : List Nat) : ∀ m i, i ≤ xt q tp m i ∧ xt q tp m i ≤ i + m := by
  intro m
  induction m with
  | zero => intro i; exact ⟨Nat.le_refl _, Nat.le_refl _⟩
  | succ m ih =>
    intro i
    show i ≤ (if decide (i < tp.length) && q (by1 tp i) then xt q tp m (i + 1) else i) ∧ _ ≤ _
    show i ≤ (if decide (i < tp.length) && q (by1 tp i) then xt q tp m (i + 1) else i) ∧ (if decide (i < tp.length) && q (by1 tp i) then xt q tp m (i + 1) else i) ≤ _
    split
    · have := ih (i + 1); omega
    · omega
theorem xt_all (q : Nat → Bool) (tp : List Nat) : ∀ m i j, i ≤ j → j < xt q tp m i → j < tp.length ∧ q (by1 tp j) = true := by
  intro m
  induction m with
  | zero => intro i j h1 h2; have : j < i := h2; omega
  | succ m ih =>
    intro i j h1 h2
    have h2 : j < (if decide (i < tp.length) && q (by1 tp i) then xt q tp m (i + 1) else i) := h2
    by_cases z : (decide (i < tp.length) && q (by1 tp i)) = true
    · rw [if_pos z] at h2
      rw [Bool.and_eq_true, decide_eq_true_iff] at z
      by_cases y : j = i
      · subst y; exact z
      · exact ih (i + 1) j (by omega) h2
    · rw [if_neg z] at h2; omega
/-- the loop over bytes: X goes on while q -/
theorem xt_run {q : Nat → Bool} {tp : List Nat} (X : Nat → MRes) (R : Nat → MRes) (hs : ∀ i, i ≤ tp.length → X i = if decide (i < tp.length) && q (by1 tp i) then X (i + 1) else R i) : ∀ m i, i + m = tp.length → X i = R (xt q tp m i) := by
  intro m
  induction m with
  | zero =>
    intro i hi
    rw [hs i (by omega), decide_eq_false (by omega)]
    rfl
  | succ m ih =>
    intro i hi
    rw [hs i (by omega)]
    show _ = R (if decide (i < tp.length) && q (by1 tp i) then xt q tp m (i + 1) else i)
    cases decide (i < tp.length) && q (by1 tp i)
    · rfl
    · exact ih (i + 1) (by omega)
theorem cmpB {n a : Nat} (hn : n < 256) (ha : a < 256) : (nI n = nI a) ↔ n = a := nI_eq (by omega) (by omega)
section LEXC
variable {h : MHeap} {tp : List Nat} {y z : Int32} {bs : List Int32}
/-- the tape, read up to p -/
def TL (h : MHeap) (tp : List Nat) (p : Nat) (y z : Int32) (bs : List Int32) : Prop := h[7]? = some (c7 tp.length (nI p) y z) ∧ arr h 8 bs 160 ∧ (∀ i, i < tp.length → bs.getD i 0 = nI (by1 tp i)) ∧ h[2]? = some (98, tx2.map .int)
theorem TL.st {p : Nat} (T : TL h tp p y z bs) (p' : Nat) : TL (h.set 7 (c7 tp.length (nI p') y z)) tp p' y z bs := ⟨gset T.1 _, ⟨by rw [gset_ne _ (by decide)]; exact T.2.1.1, T.2.1.2⟩, T.2.2.1, by rw [gset_ne _ (by decide)]; exact T.2.2.2⟩
theorem TL.g0 {p : Nat} (T : TL h tp p y z bs) (k : Int32 → MRes) : gfI none h 7 [9] 0 k = k (nI tp.length) := gfI_at T.1 rfl rfl k
theorem TL.g5 {p : Nat} (T : TL h tp p y z bs) (k : Int32 → MRes) : gfI none h 7 [9] 5 k = k (nI p) := gfI_at T.1 rfl rfl k
theorem TL.p5 {p : Nat} (T : TL h tp p y z bs) (p' : Nat) (k : MHeap → MRes) : pfI none h 7 [9] 5 (nI p') k = k (h.set 7 (c7 tp.length (nI p') y z)) := pfI_at T.1 rfl (by show 5 < 8; decide) _ k
theorem TL.v {p : Nat} (T : TL h tp p y z bs) (m : Nat) (k : Nat → MRes) : vd none h 7 [9, m] k = k m := vd_at T.1 rfl k
theorem c_75 {p : Nat} (T : TL h tp p y z bs) (ht : tp.length ≤ 160) {i : Nat} (hi : i < tp.length) (d : Nat) : call (d + 1) 75 [.ref 7, .int (nI i)] h = some (some (.int (nI (by1 tp i))), h) := by
  have g1 : ∀ k : Value → MRes, gfV none h 7 [9] 1 k = k (.ref 8) := fun k => gfV_at T.1 rfl rfl k
  rw [e_75, if_neg (nI_pos (by omega)), T.g0, if_pos (nI_lt hi (by omega)), g1, dR_ref, ar_ln T.2.1.1, T.2.1.2, if_pos (nI_lt (by omega) (by decide)), g1, dR_ref, ar_al T.2.1.1 (by rw [T.2.1.2]; omega) (by rw [T.2.1.2]; decide), T.2.2.1 i hi]
theorem c_76 (d : Nat) {x : Nat} (hx : x < 256) (h : MHeap) : call (d + 1) 76 [.int (nI x)] h = some (some (.int (bI (isLt x))), h) := by
  rw [e_76]
  have : ∀ x, x < 256 → (isLt x = false ↔ (nI x < (97 : Int32) ∨ (122 : Int32) < nI x)) := by decide +kernel
  have t := this x hx
  by_cases q1 : nI x < (97 : Int32)
  · rw [if_pos q1, t.2 (Or.inl q1)]; rfl
  · by_cases q2 : (122 : Int32) < nI x
    · rw [if_neg q1, if_pos q2, t.2 (Or.inr q2)]; rfl
    · rw [if_neg q1, if_neg q2]
      cases e : isLt x with
      | false => rcases t.1 e with y | y
                 · exact absurd y q1
                 · exact absurd y q2
      | true => rfl
theorem c_77 (d : Nat) {x : Nat} (hx : x < 256) (h : MHeap) : call (d + 1) 77 [.int (nI x)] h = some (some (.int (bI (isDg x))), h) := by
  rw [e_77]
  have : ∀ x, x < 256 → (isDg x = false ↔ (nI x < (48 : Int32) ∨ (57 : Int32) < nI x)) := by decide +kernel
  have t := this x hx
  by_cases q1 : nI x < (48 : Int32)
  · rw [if_pos q1, t.2 (Or.inl q1)]; rfl
  · by_cases q2 : (57 : Int32) < nI x
    · rw [if_neg q1, if_pos q2, t.2 (Or.inr q2)]; rfl
    · rw [if_neg q1, if_neg q2]
      cases e : isDg x with
      | false => rcases t.1 e with y | y
                 · exact absurd y q1
                 · exact absurd y q2
      | true => rfl
theorem c_78 (d : Nat) {x : Nat} (hx : x < 256) (h : MHeap) : call (d + 1) 78 [.int (nI x)] h = some (some (.int (bI (isMk x))), h) := by
  rw [e_78]
  simp only [zr_0, zr_1]
  by_cases b : 40 ≤ x ∧ x ≤ 61
  · obtain ⟨k, hk⟩ : ∃ k, x = 40 + k := ⟨x - 40, by omega⟩
    have hk2 : k < 22 := by omega
    subst hk
    rcases (show k = 0 ∨ k = 1 ∨ k = 2 ∨ k = 3 ∨ k = 4 ∨ k = 5 ∨ k = 6 ∨ k = 7 ∨ k = 8 ∨ k = 9 ∨ k = 10 ∨ k = 11 ∨ k = 12 ∨ k = 13 ∨ k = 14 ∨ k = 15 ∨ k = 16 ∨ k = 17 ∨ k = 18 ∨ k = 19 ∨ k = 20 ∨ k = 21 by omega) with w | w | w | w | w | w | w | w | w | w | w | w | w | w | w | w | w | w | w | w | w | w <;> subst w <;> rfl
  · have n : ∀ a, 40 ≤ a → a ≤ 61 → ¬ nI x = nI a := fun a h1 h2 e => by have := (nI_eq (by omega) (by omega)).1 e; omega
    have e : isMk x = false := by
      unfold isMk
      simp only [Bool.or_eq_false_iff, beq_eq_false_iff_ne]
      omega
    rw [e, if_neg (show ¬ nI x = (40 : Int32) from n 40 (by decide) (by decide)), if_neg (show ¬ nI x = (41 : Int32) from n 41 (by decide) (by decide)), if_neg (show ¬ nI x = (42 : Int32) from n 42 (by decide) (by decide)), if_neg (show ¬ nI x = (43 : Int32) from n 43 (by decide) (by decide)), if_neg (show ¬ nI x = (44 : Int32) from n 44 (by decide) (by decide)), if_neg (show ¬ nI x = (45 : Int32) from n 45 (by decide) (by decide)), if_neg (show ¬ nI x = (46 : Int32) from n 46 (by decide) (by decide)), if_neg (show ¬ nI x = (47 : Int32) from n 47 (by decide) (by decide)), if_neg (show ¬ nI x = (48 : Int32) from n 48 (by decide) (by decide)), if_neg (show ¬ nI x = (49 : Int32) from n 49 (by decide) (by decide)), if_neg (show ¬ nI x = (50 : Int32) from n 50 (by decide) (by decide)), if_neg (show ¬ nI x = (51 : Int32) from n 51 (by decide) (by decide)), if_neg (show ¬ nI x = (52 : Int32) from n 52 (by decide) (by decide)), if_neg (show ¬ nI x = (53 : Int32) from n 53 (by decide) (by decide)), if_neg (show ¬ nI x = (54 : Int32) from n 54 (by decide) (by decide)), if_neg (show ¬ nI x = (55 : Int32) from n 55 (by decide) (by decide)), if_neg (show ¬ nI x = (56 : Int32) from n 56 (by decide) (by decide)), if_neg (show ¬ nI x = (57 : Int32) from n 57 (by decide) (by decide)), if_neg (show ¬ nI x = (58 : Int32) from n 58 (by decide) (by decide)), if_neg (show ¬ nI x = (59 : Int32) from n 59 (by decide) (by decide)), if_neg (show ¬ nI x = (60 : Int32) from n 60 (by decide) (by decide)), if_neg (show ¬ nI x = (61 : Int32) from n 61 (by decide) (by decide))]
    rfl
theorem set7 (x y' : MCell) : (h.set 7 x).set 7 y' = h.set 7 y' := List.set_set ..
theorem by_lt {i : Nat} (o6 : ∀ x ∈ tp, x < 256) (hi : i < tp.length) : by1 tp i < 256 := o6 _ (by
  unfold by1
  rw [List.getD_eq_getElem?_getD, List.getElem?_eq_getElem hi]; exact List.getElem_mem _)
theorem c_70 {p : Nat} (T : TL h tp p y z bs) (ht : tp.length ≤ 160) (o6 : ∀ x ∈ tp, x < 256) (hp : p ≤ tp.length) (d : Nat) : call (d + 2) 70 [.ref 7] h = some (none, h.set 7 (c7 tp.length (nI (skb tp p)) y z)) := by
  rw [e_70]
  have := xt_run (q := isBl) (tp := tp) (fun i => ex (d + 1) 70 0 [sv (.ref 7)] [] (h.set 7 (c7 tp.length (nI i) y z))) (fun i => some (none, h.set 7 (c7 tp.length (nI i) y z))) (fun i hi => by
    have T1 := T.st i
    show ex _ _ _ _ _ _ = if _ then ex _ _ _ _ _ _ else _
    rw [e_70_0, T1.g5, T1.g0]
    by_cases q : i < tp.length
    · have hb := by_lt o6 q
      rw [if_pos (nI_lt q (by omega)), decide_eq_true q, Bool.true_and]
      simp only [T1.g5, T1.v, c_75 T1 ht q, cI_s, nI_1, T1.p5, set7]
      unfold isBl
      by_cases q1 : by1 tp i = 32
      · rw [if_pos (show nI (by1 tp i) = (32 : Int32) by rw [q1]; rfl), q1]; rfl
      · rw [if_neg (show ¬ nI (by1 tp i) = (32 : Int32) from fun e => q1 ((cmpB (a := 32) hb (by decide)).1 e))]
        by_cases q2 : by1 tp i = 10
        · rw [if_pos (show nI (by1 tp i) = (10 : Int32) by rw [q2]; rfl), q2]; rfl
        · rw [if_neg (show ¬ nI (by1 tp i) = (10 : Int32) from fun e => q2 ((cmpB (a := 10) hb (by decide)).1 e)), if_neg (by simp [q1, q2])]
    · rw [if_neg (nI_nlt (by omega) (by omega)), decide_eq_false q]; rfl) (tp.length - p) p (by omega)
  rw [set_self T.1] at this
  exact this
end LEXC
/-! the class's scan -/
theorem c_sl {h : MHeap} (T : h[2]? = some (98, tx2.map .int)) (d : Nat) : call (d + 4) 1004 [.ref 2] h = some (some (.int (nI 61)), h) := by
  show (bif Nat.ble 3 (d + 3) then prm 4 [.ref 2] h else none) = _
  rw [show Nat.ble 3 (d + 3) = true from Nat.ble_eq_true_of_le (by omega)]
  show prm 4 [.ref 2] h = _
  simp only [prm, slen, T]
  rfl
theorem c_sc {h : MHeap} (T : h[2]? = some (98, tx2.map .int)) {i : Nat} (hi : i < 61) (d : Nat) : call (d + 7) 1005 [.ref 2, .int (nI i)] h = some (some (.int (nI (wch.getD i 0))), h) := by
  show (bif Nat.ble 6 (d + 6) then prm 5 [.ref 2, .int (nI i)] h else none) = _
  rw [show Nat.ble 6 (d + 6) = true from Nat.ble_eq_true_of_le (by omega)]
  show sch none h 2 (nI i) _ = _
  have g : ∀ i, i < 61 → (tx2.map Value.int)[i]? = some (.int (nI (wch.getD i 0))) := by
    intro i hi
    have e : tx2 = wch.map nI := rfl
    have l : wch.length = 61 := rfl
    rw [e, List.getElem?_map, List.getElem?_map, List.getElem?_eq_getElem (by omega), List.getD_eq_getElem?_getD, List.getElem?_eq_getElem (by omega)]
    rfl
  simp only [sch, T, nI_clamp (show i < 2 ^ 31 by omega), g i hi, nI_pos (show i < 2 ^ 31 by omega)]
  simp
theorem wtab : ∀ k, k < 12 → wst.getD k 0 + wln.getD k 0 < 61 ∧ wch.getD (wst.getD k 0 + wln.getD k 0) 0 = 32 ∧ wln.getD k 0 < 8 ∧ 0 < wln.getD k 0 ∧ (k < 11 → wst.getD (k + 1) 0 = wst.getD k 0 + wln.getD k 0 + 1) ∧ (k = 11 → wst.getD k 0 + wln.getD k 0 + 1 = 61) ∧ allq (fun j => decide (97 ≤ wch.getD (wst.getD k 0 + j) 0) && decide (wch.getD (wst.getD k 0 + j) 0 ≤ 122)) (wln.getD k 0) = true := by decide +kernel
section LEXC
variable {h : MHeap} {tp : List Nat} {y z : Int32} {bs : List Int32}
theorem c_73 {p : Nat} (T : TL h tp p y z bs) (ht : tp.length ≤ 160) (o6 : ∀ x ∈ tp, x < 256) {k q : Nat} (hk : k < 12) (hq : q + wln.getD k 0 ≤ tp.length) (d : Nat) : call (d + 8) 73 [.ref 7, .int (nI q), .int (nI (wst.getD k 0)), .int (nI (wst.getD k 0 + wln.getD k 0))] h = some (some (.int (bI (allq (fun j => decide (wch.getD (wst.getD k 0 + j) 0 = by1 tp (q + j))) (wln.getD k 0)))), h) := by
  obtain ⟨w1, w2, w3, w4, w5, w6, w7⟩ := wtab k hk
  generalize wst.getD k 0 = a at *
  generalize wln.getD k 0 = n at *
  rw [e_73]
  have vs : ∀ (m : Nat) (K : Nat → MRes), vd none h 2 [98, m] K = K m := fun m K => vd_at T.2.2.2 rfl K
  refine up_ind (n := n) (i := 0) (P := fun j => (∀ i, i < j → wch.getD (a + i) 0 = by1 tp (q + i)) → ex (d + 7) 73 3 [sv (.ref 7), sv (.int (nI q)), sv (.int (nI a)), sv (.int (nI (a + n))), sv (.int (nI (a + j)))] [] h = some (some (.int (bI (allq (fun j => decide (wch.getD (a + j) 0 = by1 tp (q + j))) n))), h)) ?_ ?_ (by omega) (fun i hi => by omega)
  · intro hh
    rw [e_73_3, if_neg (nI_pos (by omega)), if_neg (nI_nlt (Nat.le_refl _) (by omega)), zr_1, allq_iff.2 (fun i hi => decide_eq_true (hh i hi))]
    rfl
  · intro j hj ih hh
    have hb := by_lt o6 (show q + j < tp.length by omega)
    have hw := allq_iff.1 w7 j hj
    rw [Bool.and_eq_true, decide_eq_true_iff, decide_eq_true_iff] at hw
    rw [e_73_3, if_neg (nI_pos (by omega)), if_pos (nI_lt (by omega) (by omega)), vs, c_sl T.2.2.2 (d + 3), cI_s, if_pos (nI_lt (by omega) (by decide)), vs, c_sc T.2.2.2 (by omega) d, cI_s, T.v, nI_add, pk_sub (by omega), show q + (a + j) - a = q + j by omega, c_75 T ht (by omega), cI_s, nI_1]
    by_cases e : wch.getD (a + j) 0 = by1 tp (q + j)
    · rw [if_pos (by rw [e])]
      exact ih (fun i hi => by
        by_cases x : i = j
        · subst x; exact e
        · exact hh i (by omega))
    · rw [if_neg (fun x => e ((nI_eq (by omega) (by omega)).1 x)), zr_0]
      have : allq (fun j => decide (wch.getD (a + j) 0 = by1 tp (q + j))) n = false := by
        cases x : allq (fun j => decide (wch.getD (a + j) 0 = by1 tp (q + j))) n with
        | false => rfl
        | true => exact absurd (of_decide_eq_true (allq_iff.1 x j hj)) e
      rw [this]; rfl
/-- a word ends at e -/
theorem c_72w {e : Nat} (T : TL h tp e y z bs) (ht : tp.length ≤ 160) (o6 : ∀ x ∈ tp, x < 256) {q : Nat} (hq : q ≤ e) (he : e ≤ tp.length) (d : Nat) : ex (d + 8) 72 45 [sv (.ref 7), sv (.int (nI q)), sv (.int 0), sv (.int 0), sv (.int 0)] [] h = some (some (.int (tC (wdt tp q e))), h) := by
  have vs : ∀ (m : Nat) (K : Nat → MRes), vd none h 2 [98, m] K = K m := fun m K => vd_at T.2.2.2 rfl K
  have word : ∀ k, k < 12 → ∀ j, j ≤ wln.getD k 0 → ex (d + 8) 72 45 [sv (.ref 7), sv (.int (nI q)), sv (.int (nI k)), sv (.int (nI (wst.getD k 0))), sv (.int (nI (wst.getD k 0 + j)))] [] h = if mwq tp q e k then some (some (.int (nI k)), h) else ex (d + 8) 72 45 [sv (.ref 7), sv (.int (nI q)), sv (.int (nI (k + 1))), sv (.int (nI (wst.getD k 0 + wln.getD k 0 + 1))), sv (.int (nI (wst.getD k 0 + wln.getD k 0 + 1)))] [] h := by
    intro k hk j hj
    obtain ⟨w1, w2, w3, w4, w5, w6, w7⟩ := wtab k hk
    refine up_ind (n := wln.getD k 0) (P := fun j => ex (d + 8) 72 45 [sv (.ref 7), sv (.int (nI q)), sv (.int (nI k)), sv (.int (nI (wst.getD k 0))), sv (.int (nI (wst.getD k 0 + j)))] [] h = if mwq tp q e k then some (some (.int (nI k)), h) else ex (d + 8) 72 45 [sv (.ref 7), sv (.int (nI q)), sv (.int (nI (k + 1))), sv (.int (nI (wst.getD k 0 + wln.getD k 0 + 1))), sv (.int (nI (wst.getD k 0 + wln.getD k 0 + 1)))] [] h) ?_ ?_ hj
    · rw [e_72_45, vs, c_sl T.2.2.2 (d + 4), cI_s, if_pos (nI_lt w1 (by decide)), vs, c_sc T.2.2.2 w1 (d + 1), cI_s, w2, if_pos (show nI 32 = (32 : Int32) from rfl), T.g5, pk_sub (by omega), pk_sub hq, nI_1, nI_1]
      unfold mwq
      by_cases x : wln.getD k 0 = e - q
      · rw [if_pos (by rw [Nat.add_sub_cancel_left, x]), T.v, c_73 T ht o6 hk (by omega) d, cI_s, decide_eq_true x, Bool.true_and]
        simp only [bI_0]
        cases allq (fun j => decide (wch.getD (wst.getD k 0 + j) 0 = by1 tp (q + j))) (wln.getD k 0) <;> rfl
      · rw [if_neg (fun x2 => x (by have := (nI_eq (by omega) (by omega)).1 x2; omega)), decide_eq_false x]
        rfl
    · intro j hj ih
      have hw := allq_iff.1 w7 j hj
      rw [Bool.and_eq_true, decide_eq_true_iff, decide_eq_true_iff] at hw
      rw [e_72_45, vs, c_sl T.2.2.2 (d + 4), cI_s, if_pos (nI_lt (by omega) (by decide)), vs, c_sc T.2.2.2 (by omega) (d + 1), cI_s, if_neg (show ¬ nI (wch.getD (wst.getD k 0 + j) 0) = (32 : Int32) from fun x => by have := (nI_eq (b := 32) (by omega) (by decide)).1 x; omega), nI_1]
      exact ih
  have key : ∀ k, k ≤ 12 → ∀ a, (k < 12 → a = wst.getD k 0) → (k = 12 → a = 61) → ex (d + 8) 72 45 [sv (.ref 7), sv (.int (nI q)), sv (.int (nI k)), sv (.int (nI a)), sv (.int (nI a))] [] h = some (some (.int (match fst1 (mwq tp q e) (12 - k) k with
    | some k => nI k
    | none => -2)), h) := by
    intro k hk
    refine up_ind (n := 12) (P := fun k => ∀ a, (k < 12 → a = wst.getD k 0) → (k = 12 → a = 61) → ex (d + 8) 72 45 [sv (.ref 7), sv (.int (nI q)), sv (.int (nI k)), sv (.int (nI a)), sv (.int (nI a))] [] h = some (some (.int (match fst1 (mwq tp q e) (12 - k) k with
      | some k => nI k
      | none => -2)), h)) ?_ ?_ hk
    · intro a _ ha
      rw [ha rfl, e_72_45, vs, c_sl T.2.2.2 (d + 4), cI_s, if_neg (by decide)]
      rfl
    · intro k hk ih a ha _
      obtain ⟨w1, w2, w3, w4, w5, w6, w7⟩ := wtab k hk
      have wd0 : ex (d + 8) 72 45 [sv (.ref 7), sv (.int (nI q)), sv (.int (nI k)), sv (.int (nI (wst.getD k 0))), sv (.int (nI (wst.getD k 0)))] [] h = _ := word k hk 0 (by omega)
      rw [ha hk, wd0, show 12 - k = (12 - (k + 1)) + 1 by omega]
      show _ = some (some (Value.int (match (if mwq tp q e k then some k else fst1 (mwq tp q e) (12 - (k + 1)) (k + 1)) with
        | some k => nI k
        | none => -2)), h)
      cases mwq tp q e k with
      | true => rfl
      | false => exact ih _ (fun x => (w5 (by omega)).symm) (fun x => w6 (by omega))
  have := key 0 (by omega) 0 (fun _ => rfl) (fun x => by omega)
  refine this.trans ?_
  unfold wdt
  have lt : ∀ m i k, fst1 (mwq tp q e) m i = some k → k < i + m := by
    intro m
    induction m with
    | zero => intro i k x; cases x
    | succ m ih =>
      intro i k x
      have x : (if mwq tp q e i then some i else fst1 (mwq tp q e) m (i + 1)) = some k := x
      split at x
      · cases x; omega
      · have := ih _ _ x; omega
  show some (some (Value.int (match fst1 (mwq tp q e) 12 0 with
    | some k => nI k
    | none => -2)), h) = _
  cases x : fst1 (mwq tp q e) 12 0 with
  | none => rfl
  | some k =>
    have := lt 12 0 k x
    show some (some (Value.int (nI k)), h) = some (some (Value.int (tC k)), h)
    unfold tC
    rw [if_neg (by omega), if_neg (by omega)]
theorem c_72 {q : Nat} (T : TL h tp (q + 1) y z bs) (ht : tp.length ≤ 160) (o6 : ∀ x ∈ tp, x < 256) (hq : q < tp.length) (d : Nat) : call (d + 9) 72 [.ref 7, .int (nI q)] h = some (some (.int (tC (wdt tp q (xt isLt tp (tp.length - (q + 1)) (q + 1))))), h.set 7 (c7 tp.length (nI (xt isLt tp (tp.length - (q + 1)) (q + 1))) y z)) := by
  rw [e_72]
  have := xt_run (q := isLt) (tp := tp) (fun i => ex (d + 8) 72 0 [sv (.ref 7), sv (.int (nI q)), none, none, none] [] (h.set 7 (c7 tp.length (nI i) y z))) (fun i => ex (d + 8) 72 45 [sv (.ref 7), sv (.int (nI q)), sv (.int 0), sv (.int 0), sv (.int 0)] [] (h.set 7 (c7 tp.length (nI i) y z))) (fun i hi => by
    have T1 := T.st i
    show ex _ _ _ _ _ _ = if _ then ex _ _ _ _ _ _ else ex _ _ _ _ _ _
    rw [e_72_0, T1.g5, T1.g0]
    by_cases q : i < tp.length
    · have hb := by_lt o6 q
      rw [if_pos (nI_lt q (by omega)), decide_eq_true q, Bool.true_and]
      simp only [T1.g5, T1.v, c_75 T1 ht q, cI_s, nI_1, T1.p5, set7, c_76 _ hb, bI_0]
      cases isLt (by1 tp i) <;> rfl
    · rw [if_neg (nI_nlt (by omega) (by omega)), decide_eq_false q]; rfl) (tp.length - (q + 1)) (q + 1) (by omega)
  rw [set_self T.1] at this
  have g := xt_ge isLt tp (tp.length - (q + 1)) (q + 1)
  rw [this, c_72w (T.st _) ht o6 (by omega) (by omega)]
theorem c_74 {q : Nat} (T : TL h tp (q + 1) y z bs) (ht : tp.length ≤ 160) (o6 : ∀ x ∈ tp, x < 256) (hq : q < tp.length) (hd : isDg (by1 tp q) = true) (d : Nat) : call (d + 3) 74 [.ref 7, .int (nI q)] h = some (some (.int (tC (if 4 < xt isDg tp (tp.length - (q + 1)) (q + 1) - q then 20001 else 1000 + nmv tp (xt isDg tp (tp.length - (q + 1)) (q + 1) - q) q 0))), h.set 7 (c7 tp.length (nI (xt isDg tp (tp.length - (q + 1)) (q + 1))) y z)) := by
  rw [e_74]
  have g := xt_ge isDg tp (tp.length - (q + 1)) (q + 1)
  have xa := xt_all isDg tp (tp.length - (q + 1)) (q + 1)
  have fin : ∀ (h1 : MHeap) (e : Nat), TL h1 tp e y z bs → q ≤ e → e ≤ tp.length → e - q ≤ 4 → (∀ j, q ≤ j → j < e → isDg (by1 tp j) = true) → ∀ m i v, i + m = e → q ≤ i → v < 10 ^ (i - q) → ex (d + 2) 74 55 [sv (.ref 7), sv (.int (nI q)), sv (.int (nI v)), sv (.int (nI i))] [] h1 = some (some (.int (nI (1000 + nmv tp m i v))), h1) ∧ nmv tp m i v < 10 ^ (e - q) := by
    intro h1 e T1 he1 he2 he3 hdg m
    induction m with
    | zero =>
      intro i v hi hqi hv
      have : i = e := by omega
      subst this
      refine ⟨?_, hv⟩
      rw [e_74_55, T1.g5, if_neg (nI_nlt (Nat.le_refl _) (by omega)), show (1000 : Int32) = nI 1000 from rfl, nI_add]
      rfl
    | succ m ih =>
      intro i v hi hqi hv
      have hb := by_lt o6 (show i < tp.length by omega)
      have hg := hdg i hqi (by omega)
      have hg2 : 48 ≤ by1 tp i ∧ by1 tp i ≤ 57 := by
        unfold isDg at hg
        rw [Bool.and_eq_true] at hg
        exact ⟨Nat.le_of_ble_eq_true hg.1, Nat.le_of_ble_eq_true hg.2⟩
      have hv2 : 10 * v + by1 tp i - 48 < 10 ^ (i + 1 - q) := by
        rw [show i + 1 - q = (i - q) + 1 by omega, Nat.pow_succ]
        omega
      have := ih (i + 1) (10 * v + by1 tp i - 48) (by omega) (by omega) hv2
      refine ⟨?_, this.2⟩
      rw [e_74_55, T1.g5, if_pos (nI_lt (by omega) (by omega)), T1.v, c_75 T1 ht (by omega), cI_s, show (10 : Int32) = nI 10 from rfl, pk_mul, nI_add, show (48 : Int32) = nI 48 from rfl, pk_sub (by omega), nI_1]
      exact this.1
  have := xt_run (q := isDg) (tp := tp) (fun i => ex (d + 2) 74 0 [sv (.ref 7), sv (.int (nI q)), none, none] [] (h.set 7 (c7 tp.length (nI i) y z))) (fun i => if (4 : Int32) < nI i - nI q then some (some (.int (-2)), h.set 7 (c7 tp.length (nI i) y z)) else ex (d + 2) 74 55 [sv (.ref 7), sv (.int (nI q)), sv (.int 0), sv (.int (nI q))] [] (h.set 7 (c7 tp.length (nI i) y z))) (fun i hi => by
    have T1 := T.st i
    show ex _ _ _ _ _ _ = if _ then ex _ _ _ _ _ _ else _
    rw [e_74_0, T1.g5, T1.g0]
    by_cases q : i < tp.length
    · have hb := by_lt o6 q
      rw [if_pos (nI_lt q (by omega)), decide_eq_true q, Bool.true_and]
      simp only [T1.g5, T1.v, c_75 T1 ht q, cI_s, nI_1, T1.p5, set7, c_77 _ hb, bI_0]
      cases isDg (by1 tp i) <;> rfl
    · rw [if_neg (nI_nlt (by omega) (by omega)), decide_eq_false q]
      simp only [T1.g5]
      rfl) (tp.length - (q + 1)) (q + 1) (by omega)
  rw [set_self T.1] at this
  rw [this]
  generalize xt isDg tp (tp.length - (q + 1)) (q + 1) = e at *
  rw [pk_sub (by omega)]
  by_cases x : 4 < e - q
  · rw [if_pos (show (4 : Int32) < nI (e - q) from nI_lt (a := 4) x (by omega)), if_pos x]
    rfl
  · rw [if_neg (show ¬ (4 : Int32) < nI (e - q) from nI_nlt (a := 4) (by omega) (by decide)), if_neg x]
    have r := fin _ e (T.st e) (by omega) (by omega) (by omega) (fun j h1 h2 => by
      by_cases w : j = q
      · subst w; exact hd
      · exact (xa j (by omega) h2).2) (e - q) q 0 (by omega) (Nat.le_refl _) (by rw [Nat.sub_self]; decide)
    have l4 : (10 : Nat) ^ (e - q) ≤ 10 ^ 4 := Nat.pow_le_pow_right (by decide) (by omega)
    have r2 := r.2
    refine r.1.trans ?_
    unfold tC
    rw [if_neg (by omega), if_neg (by omega)]
theorem c_71 {q : Nat} (T : TL h tp q y z bs) (ht : tp.length ≤ 160) (o6 : ∀ x ∈ tp, x < 256) (hq : q ≤ tp.length) (d : Nat) : call (d + 10) 71 [.ref 7] h = some (some (.int (tC (tkA tp q))), h.set 7 (c7 tp.length (nI (tkE tp q)) y z)) := by
  rw [e_71, T.g5, T.g0]
  unfold tkA tkE
  by_cases x : tp.length ≤ q
  · rw [if_neg (nI_nlt x (by omega)), if_pos x, if_pos x, set_self T.1]
    rfl
  · have hq2 : q < tp.length := by omega
    have hb := by_lt o6 hq2
    have T1 := T.st (q + 1)
    rw [if_pos (nI_lt hq2 (by omega)), if_neg x, if_neg x, T.v, c_75 T ht hq2, cI_s, T.g5, nI_1, T.p5, c_76 _ hb, cI_s]
    simp only [bI_0]
    cases w1 : isLt (by1 tp q) with
    | true =>
      rw [if_neg (by decide), T1.v, c_72 T1 ht o6 hq2, cI_s, set7]
      rfl
    | false =>
      rw [if_pos rfl, c_77 _ hb, cI_s]
      simp only [bI_0]
      cases w2 : isDg (by1 tp q) with
      | true =>
        rw [if_neg (by decide), T1.v, c_74 T1 ht o6 hq2 w2 (d + 6), cI_s, set7]
        rfl
      | false =>
        rw [if_pos rfl, c_78 _ hb, cI_s]
        simp only [bI_0]
        cases w3 : isMk (by1 tp q) with
        | true =>
          rw [if_neg (by decide)]
          show some (some (Value.int (nI (by1 tp q))), _) = some (some (Value.int (tC (by1 tp q))), _)
          unfold tC
          rw [if_neg (by omega), if_neg (by omega)]
          rfl
        | false => rfl
end LEXC
/-! the row of tokens -/
def tkp (tp : List Nat) : Nat → Nat
  | 0 => 0
  | i + 1 => tkE tp (skb tp (tkp tp i))
def tkb (tp : List Nat) (i : Nat) : Nat := skb tp (tkp tp i)
def tkt (tp : List Nat) (i : Nat) : Nat := tkA tp (tkb tp i)
theorem skb_le {tp : List Nat} {p : Nat} (hp : p ≤ tp.length) : p ≤ skb tp p ∧ skb tp p ≤ tp.length := by
  have := xt_ge isBl tp (tp.length - p) p
  unfold skb
  omega
theorem tkE_le {tp : List Nat} {q : Nat} (hq : q ≤ tp.length) : q ≤ tkE tp q ∧ tkE tp q ≤ tp.length ∧ (q < tp.length → q < tkE tp q) := by
  unfold tkE
  have g1 := xt_ge isLt tp (tp.length - (q + 1)) (q + 1)
  have g2 := xt_ge isDg tp (tp.length - (q + 1)) (q + 1)
  split
  · exact ⟨Nat.le_refl _, hq, fun h => by omega⟩
  · split
    · omega
    · split
      · omega
      · omega
theorem tkp_le (tp : List Nat) : ∀ i, tkp tp i ≤ tp.length
  | 0 => Nat.zero_le _
  | i + 1 => (tkE_le (skb_le (tkp_le tp i)).2).2.1
theorem tkb_le (tp : List Nat) (i : Nat) : tkb tp i ≤ tp.length := (skb_le (tkp_le tp i)).2
theorem tkp_ge {tp : List Nat} : ∀ i, (∀ j, j < i → tkt tp j < 20000) → i ≤ tkp tp i
  | 0, _ => Nat.zero_le _
  | i + 1, h => by
    have := tkp_ge i (fun j hj => h j (by omega))
    have s := skb_le (tkp_le tp i)
    have e := tkE_le s.2
    have t := h i (by omega)
    have q : skb tp (tkp tp i) < tp.length := by
      rcases Nat.lt_or_ge (skb tp (tkp tp i)) tp.length with q | q
      · exact q
      · unfold tkt tkA tkb at t
        rw [if_pos q] at t
        omega
    have e2 := e.2.2 q
    show i + 1 ≤ tkE tp (skb tp (tkp tp i))
    omega
/-- the row's end -/
theorem tk_end (tp : List Nat) : ∃ N, N ≤ tp.length ∧ 20000 ≤ tkt tp N ∧ ∀ j, j < N → tkt tp j < 20000 := by
  have : ∀ m i, i + m = tp.length + 1 → (∀ j, j < i → tkt tp j < 20000) → ∃ N, N ≤ tp.length ∧ 20000 ≤ tkt tp N ∧ ∀ j, j < N → tkt tp j < 20000 := by
    intro m
    induction m with
    | zero =>
      intro i hi h
      have := tkp_ge i h
      have := tkp_le tp i
      omega
    | succ m ih =>
      intro i hi h
      rcases Nat.lt_or_ge (tkt tp i) 20000 with q | q
      · exact ih (i + 1) (by omega) (fun j hj => by
          by_cases x : j = i
          · subst x; exact q
          · exact h j (by omega))
      · exact ⟨i, by omega, q, h⟩
  exact this (tp.length + 1) 0 (by omega) (fun j hj => by omega)
theorem nmv_lt {tp : List Nat} {e : Nat} : ∀ m i v k, (∀ j, i ≤ j → j < i + m → isDg (by1 tp j) = true) → v < 10 ^ k → nmv tp m i v < 10 ^ (k + m) := by
  intro m
  induction m with
  | zero => intro i v k _ hv; exact hv
  | succ m ih =>
    intro i v k hd hv
    have hg := hd i (Nat.le_refl _) (by omega)
    have hg2 : 48 ≤ by1 tp i ∧ by1 tp i ≤ 57 := by
      unfold isDg at hg
      rw [Bool.and_eq_true] at hg
      exact ⟨Nat.le_of_ble_eq_true hg.1, Nat.le_of_ble_eq_true hg.2⟩
    have := ih (i + 1) (10 * v + by1 tp i - 48) (k + 1) (fun j h1 h2 => hd j (by omega) (by omega)) (by rw [Nat.pow_succ]; omega)
    rw [show k + (m + 1) = k + 1 + m by omega]
    exact this
theorem fst1_lt {q : Nat → Bool} : ∀ m i k, fst1 q m i = some k → k < i + m := by
  intro m
  induction m with
  | zero => intro i k x; cases x
  | succ m ih =>
    intro i k x
    have x : (if q i then some i else fst1 q m (i + 1)) = some k := x
    split at x
    · cases x; omega
    · have := ih _ _ x; omega
/-- what a token can be -/
theorem tkA_ok (tp : List Nat) (q : Nat) : tkA tp q < 12 ∨ (1000 ≤ tkA tp q ∧ tkA tp q < 11000) ∨ isMk (tkA tp q) = true ∨ tkA tp q = 20000 ∨ tkA tp q = 20001 := by
  unfold tkA
  split
  · omega
  · split
    · unfold wdt
      split
      · rename_i k e
        have := fst1_lt 12 0 k e
        omega
      · omega
    · split
      · rename_i hd
        split
        · omega
        · rename_i h4
          have g := xt_ge isDg tp (tp.length - (q + 1)) (q + 1)
          have xa := xt_all isDg tp (tp.length - (q + 1)) (q + 1)
          have := nmv_lt (tp := tp) (e := 0) (xt isDg tp (tp.length - (q + 1)) (q + 1) - q) q 0 0 (fun j h1 h2 => by
            by_cases w : j = q
            · subst w; exact hd
            · exact (xa j (by omega) (by omega)).2) (by decide)
          have l4 : (10 : Nat) ^ (0 + (xt isDg tp (tp.length - (q + 1)) (q + 1) - q)) ≤ 10 ^ 4 := Nat.pow_le_pow_right (by decide) (by omega)
          omega
      · split
        · rename_i h; exact Or.inr (Or.inr (Or.inl h))
        · omega
theorem isMk_lt {x : Nat} (h : isMk x = true) : x < 62 := by
  unfold isMk at h
  simp only [Bool.or_eq_true, beq_iff_eq] at h
  omega
theorem tkA_le (tp : List Nat) (q : Nat) : tkA tp q ≤ 20001 := by
  rcases tkA_ok tp q with h | h | h | h | h
  · omega
  · omega
  · have := isMk_lt h; omega
  · omega
  · omega
theorem tC_eq {t a : Nat} (ht : t ≤ 20001) (ha : a < 20000) : tC t = nI a ↔ t = a := by
  unfold tC
  by_cases x : t = 20000
  · rw [if_pos x]
    refine ⟨fun e => ?_, fun e => by omega⟩
    exact absurd (show (-1 : Int32) < 0 by decide) (by rw [e]; exact nI_pos (by omega))
  · rw [if_neg x]
    by_cases y : t = 20001
    · rw [if_pos y]
      refine ⟨fun e => ?_, fun e => by omega⟩
      exact absurd (show (-2 : Int32) < 0 by decide) (by rw [e]; exact nI_pos (by omega))
    · rw [if_neg y]
      exact nI_eq (by omega) (by omega)
theorem tC_m1 {t : Nat} (ht : t ≤ 20001) : tC t = -1 ↔ t = 20000 := by
  unfold tC
  by_cases x : t = 20000
  · rw [if_pos x]; exact ⟨fun _ => x, fun _ => rfl⟩
  · rw [if_neg x]
    by_cases y : t = 20001
    · rw [if_pos y]; exact ⟨fun e => absurd e (by decide), fun e => absurd e x⟩
    · rw [if_neg y]
      exact ⟨fun e => absurd (show (-1 : Int32) < 0 by decide) (by rw [← e]; exact nI_pos (by omega)), fun e => absurd e x⟩
theorem tC_m2 {t : Nat} (ht : t ≤ 20001) : tC t = -2 ↔ t = 20001 := by
  unfold tC
  by_cases x : t = 20000
  · rw [if_pos x]; exact ⟨fun e => absurd e (by decide), fun e => by omega⟩
  · rw [if_neg x]
    by_cases y : t = 20001
    · rw [if_pos y]; exact ⟨fun _ => y, fun _ => rfl⟩
    · rw [if_neg y]
      exact ⟨fun e => absurd (show (-2 : Int32) < 0 by decide) (by rw [← e]; exact nI_pos (by omega)), fun e => absurd e y⟩
/-- the tape of the class with its rows of tokens -/
def TK (h : MHeap) (tp : List Nat) (p : Nat) (y z : Int32) (bs tk pl : List Int32) (n : Nat) : Prop := TL h tp p y z bs ∧ arr h 9 tk 161 ∧ arr h 10 pl 161 ∧ ∀ j, j < n → tk.getD j 0 = tC (tkt tp j) ∧ pl.getD j 0 = nI (tkb tp j)
theorem c_69 {h : MHeap} {tp : List Nat} {x y z : Int32} {bs tk pl : List Int32} (t7 : h[7]? = some (c7 tp.length x y z)) (t8 : arr h 8 bs 160) (tb : ∀ i, i < tp.length → bs.getD i 0 = nI (by1 tp i)) (t2 : h[2]? = some (98, tx2.map .int)) (t9 : arr h 9 tk 161) (t10 : arr h 10 pl 161) (ht : tp.length ≤ 160) (o6 : ∀ x ∈ tp, x < 256) {N : Nat} (hN : N ≤ tp.length) (hs : 20000 ≤ tkt tp N) (hn : ∀ j, j < N → tkt tp j < 20000) (d : Nat) : ∃ h' p' tk' pl', call (d + 12) 69 [.ref 7] h = some (none, h') ∧ TK h' tp p' y z bs tk' pl' (N + 1) ∧ h'.length = h.length ∧ ∀ a : Nat, a ≠ 7 → a ≠ 9 → a ≠ 10 → h'[a]? = h[a]? := by
  have T0 : TL (h.set 7 (c7 tp.length (nI 0) y z)) tp 0 y z bs := ⟨gset t7 _, ⟨by rw [gset_ne _ (by decide)]; exact t8.1, t8.2⟩, tb, by rw [gset_ne _ (by decide)]; exact t2⟩
  have K0 : TK (h.set 7 (c7 tp.length (nI 0) y z)) tp 0 y z bs tk pl 0 := ⟨T0, ⟨by rw [gset_ne _ (by decide)]; exact t9.1, t9.2⟩, ⟨by rw [gset_ne _ (by decide)]; exact t10.1, t10.2⟩, fun j hj => by omega⟩
  rw [e_69, show (0 : Int32) = nI 0 from rfl, pfI_at t7 rfl (by show 5 < 8; decide)]
  show ∃ h' p' tk' pl', ex (d + 11) 69 9 [sv (.ref 7), sv (.int 1), sv (.int (nI 0))] [] (h.set 7 (c7 tp.length (nI 0) y z)) = _ ∧ _
  have key : ∀ i, i ≤ N → ∀ h1 tk pl, TK h1 tp (tkp tp i) y z bs tk pl i → h1.length = h.length → (∀ a : Nat, a ≠ 7 → a ≠ 9 → a ≠ 10 → h1[a]? = h[a]?) → ∃ h' p' tk' pl', ex (d + 11) 69 9 [sv (.ref 7), sv (.int 1), sv (.int (nI i))] [] h1 = some (none, h') ∧ TK h' tp p' y z bs tk' pl' (N + 1) ∧ h'.length = h.length ∧ ∀ a : Nat, a ≠ 7 → a ≠ 9 → a ≠ 10 → h'[a]? = h[a]? := by
    have one : ∀ i, i ≤ N → ∀ h1 tk pl, TK h1 tp (tkp tp i) y z bs tk pl i → h1.length = h.length → (∀ a : Nat, a ≠ 7 → a ≠ 9 → a ≠ 10 → h1[a]? = h[a]?) → ∃ h2 tk2 pl2, ex (d + 11) 69 9 [sv (.ref 7), sv (.int 1), sv (.int (nI i))] [] h1 = ex (d + 11) 69 9 [sv (.ref 7), sv (.int (if 20000 ≤ tkt tp i then 0 else 1)), sv (.int (nI (i + 1)))] [] h2 ∧ TK h2 tp (tkp tp (i + 1)) y z bs tk2 pl2 (i + 1) ∧ h2.length = h.length ∧ ∀ a : Nat, a ≠ 7 → a ≠ 9 → a ≠ 10 → h2[a]? = h[a]? := by
      intro i hi h1 tk pl K hl hf
      obtain ⟨T, t9, t10, tj⟩ := K
      have hi160 : i < 161 := by omega
      have vr : ∀ {h2 : MHeap} {x y z : Int32}, h2[7]? = some (c7 tp.length x y z) → (∀ k : Value → MRes, gfV none h2 7 [9] 2 k = k (.ref 9)) ∧ (∀ k : Value → MRes, gfV none h2 7 [9] 3 k = k (.ref 10)) := fun e => ⟨fun k => gfV_at e rfl rfl k, fun k => gfV_at e rfl rfl k⟩
      have bl := tkb_le tp i
      have Ta := T.st (tkb tp i)
      have t10a : (h1.set 7 (c7 tp.length (nI (tkb tp i)) y z))[10]? = some (100, pl.map .int) := by rw [gset_ne _ (by decide)]; exact t10.1
      have Tb : TL ((h1.set 7 (c7 tp.length (nI (tkb tp i)) y z)).set 10 (100, (pl.set i (nI (tkb tp i))).map .int)) tp (tkb tp i) y z bs := ⟨by rw [gset_ne _ (by decide)]; exact Ta.1, ⟨by rw [gset_ne _ (by decide)]; exact Ta.2.1.1, Ta.2.1.2⟩, Ta.2.2.1, by rw [gset_ne _ (by decide)]; exact Ta.2.2.2⟩
      have Tc := Tb.st (tkp tp (i + 1))
      generalize hA : (h1.set 7 (c7 tp.length (nI (tkb tp i)) y z)).set 10 (100, (pl.set i (nI (tkb tp i))).map .int) = hB at Tb Tc
      have t9c : (hB.set 7 (c7 tp.length (nI (tkp tp (i + 1))) y z))[9]? = some (100, tk.map .int) := by rw [gset_ne _ (by decide), ← hA, gset_ne _ (by decide), gset_ne _ (by decide)]; exact t9.1
      have t10c : (hB.set 7 (c7 tp.length (nI (tkp tp (i + 1))) y z))[10]? = some (100, (pl.set i (nI (tkb tp i))).map .int) := by rw [gset_ne _ (by decide), ← hA, gset t10a]
      generalize hC : hB.set 7 (c7 tp.length (nI (tkp tp (i + 1))) y z) = hD at Tc t9c t10c
      have Td : TL (hD.set 9 (100, (tk.set i (tC (tkt tp i))).map .int)) tp (tkp tp (i + 1)) y z bs := ⟨by rw [gset_ne _ (by decide)]; exact Tc.1, ⟨by rw [gset_ne _ (by decide)]; exact Tc.2.1.1, Tc.2.1.2⟩, Tc.2.2.1, by rw [gset_ne _ (by decide)]; exact Tc.2.2.2⟩
      have t9d : (hD.set 9 (100, (tk.set i (tC (tkt tp i))).map .int))[9]? = some (100, (tk.set i (tC (tkt tp i))).map .int) := gset t9c _
      have hg : (tk.set i (tC (tkt tp i))).getD i 0 = tC (tkt tp i) := by rw [getD_set (by rw [t9.2]; exact hi160), if_pos rfl]
      have tl : tkt tp i ≤ 20001 := tkA_le tp (tkb tp i)
      refine ⟨hD.set 9 (100, (tk.set i (tC (tkt tp i))).map .int), tk.set i (tC (tkt tp i)), pl.set i (nI (tkb tp i)), ?_, ⟨Td, ⟨t9d, by rw [List.length_set]; exact t9.2⟩, ⟨by rw [gset_ne _ (by decide)]; exact t10c, by rw [List.length_set]; exact t10.2⟩, ?_⟩, ?_, ?_⟩
      · rw [e_69_9, if_neg (by decide), (vr T.1).1, dR_ref, ar_ln t9.1, t9.2, if_pos (nI_lt hi160 (by decide)), (vr T.1).2, dR_ref, ar_ln t10.1, t10.2, if_pos (nI_lt hi160 (by decide)), T.v, c_70 T ht o6 (tkp_le tp i), cV_s]
        rw [show skb tp (tkp tp i) = tkb tp i from rfl, (vr Ta.1).2, Ta.g5, dR_ref, ar_as t10a (by rw [t10.2]; exact hi160) (by rw [t10.2]; decide), hA, (vr Tb.1).1, Tb.v, c_71 Tb ht o6 bl (d + 1), cI_s, dR_ref]
        rw [show tkE tp (tkb tp i) = tkp tp (i + 1) from rfl, show tkA tp (tkb tp i) = tkt tp i from rfl, hC, ar_as t9c (by rw [t9.2]; exact hi160) (by rw [t9.2]; decide), (vr Td.1).1, dR_ref, ar_al t9d (by rw [List.length_set, t9.2]; exact hi160) (by rw [List.length_set, t9.2]; decide), hg, nI_1]
        by_cases s0 : tkt tp i = 20000
        · rw [if_pos ((tC_m1 tl).2 s0), if_pos (by omega)]
        · rw [if_neg (fun e => s0 ((tC_m1 tl).1 e)), (vr Td.1).1, dR_ref, ar_al t9d (by rw [List.length_set, t9.2]; exact hi160) (by rw [List.length_set, t9.2]; decide), hg]
          by_cases s1 : tkt tp i = 20001
          · rw [if_pos ((tC_m2 tl).2 s1), if_pos (by omega)]
          · rw [if_neg (fun e => s1 ((tC_m2 tl).1 e)), if_neg (by omega)]
      · intro j hj
        rw [getD_set (by rw [t9.2]; exact hi160), getD_set (by rw [t10.2]; exact hi160)]
        by_cases x : j = i
        · subst x; rw [if_pos rfl, if_pos rfl]; exact ⟨rfl, rfl⟩
        · rw [if_neg x, if_neg x]; exact tj j (by omega)
      · rw [List.length_set, ← hC, List.length_set, ← hA, List.length_set, List.length_set]; exact hl
      · intro a h7 h9 h10
        rw [gset_ne _ (fun e => h9 e.symm), ← hC, gset_ne _ (fun e => h7 e.symm), ← hA, gset_ne _ (fun e => h10 e.symm), gset_ne _ (fun e => h7 e.symm)]
        exact hf a h7 h9 h10
    intro i hi
    refine up_ind (n := N) (P := fun i => ∀ h1 tk pl, TK h1 tp (tkp tp i) y z bs tk pl i → h1.length = h.length → (∀ a : Nat, a ≠ 7 → a ≠ 9 → a ≠ 10 → h1[a]? = h[a]?) → ∃ h' p' tk' pl', ex (d + 11) 69 9 [sv (.ref 7), sv (.int 1), sv (.int (nI i))] [] h1 = some (none, h') ∧ TK h' tp p' y z bs tk' pl' (N + 1) ∧ h'.length = h.length ∧ ∀ a : Nat, a ≠ 7 → a ≠ 9 → a ≠ 10 → h'[a]? = h[a]?) ?_ ?_ hi
    · intro h1 tk pl K hl hf
      obtain ⟨h2, tk2, pl2, e, K2, l2, f2⟩ := one N (Nat.le_refl _) h1 tk pl K hl hf
      refine ⟨h2, _, tk2, pl2, ?_, K2, l2, f2⟩
      rw [e, if_pos hs, e_69_9, if_pos rfl]
    · intro i hi ih h1 tk pl K hl hf
      obtain ⟨h2, tk2, pl2, e, K2, l2, f2⟩ := one i (by omega) h1 tk pl K hl hf
      rw [e, if_neg (by have := hn i hi; omega)]
      exact ih h2 tk2 pl2 K2 l2 f2
  exact key 0 (Nat.zero_le _) _ tk pl K0 List.length_set (fun a h7 _ _ => gset_ne _ (fun e => h7 e.symm))
