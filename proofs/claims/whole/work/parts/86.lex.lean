/-! the tape's tokens -/
def by1 (tp : List Nat) (i : Nat) : Nat := tp.getD i 0
def xt (q : Nat → Bool) (tp : List Nat) : Nat → Nat → Nat
  | 0, i => i
  | m + 1, i => if decide (i < tp.length) && q (by1 tp i) then xt q tp m (i + 1) else i
def isBl (x : Nat) : Bool := x == 32 || x == 10
def isLt (x : Nat) : Bool := Nat.ble 97 x && Nat.ble x 122
def isDg (x : Nat) : Bool := Nat.ble 48 x && Nat.ble x 57
def isMk (x : Nat) : Bool := x == 40 || x == 41 || x == 42 || x == 43 || x == 45 || x == 59 || x == 60 || x == 61
/-- words: where they begin in the row, how long they are -/
def wst : List Nat := [0, 6, 12, 18, 21, 25, 29, 34, 38, 45, 50, 55]
def wln : List Nat := [5, 5, 5, 2, 3, 3, 4, 3, 6, 4, 4, 5]
def wch : List Nat := [116, 117, 114, 110, 115, 32, 115, 119, 97, 112, 115, 32, 108, 111, 111, 107, 115, 32, 111, 114, 32, 97, 110, 100, 32, 110, 111, 116, 32, 99, 97, 114, 100, 32, 114, 111, 119, 32, 99, 111, 108, 117, 109, 110, 32, 98, 97, 99, 107, 32, 109, 97, 110, 121, 32, 102, 97, 105, 108, 115, 32]
def allq (q : Nat → Bool) : Nat → Bool
  | 0 => true
  | n + 1 => q n && allq q n
theorem allq_iff {q : Nat → Bool} : ∀ {n : Nat}, allq q n = true ↔ ∀ i, i < n → q i = true := by
  intro n
  induction n with
  | zero => exact ⟨fun _ i hi => by omega, fun _ => rfl⟩
  | succ n ih =>
    show (q n && allq q n) = true ↔ _
    rw [Bool.and_eq_true, ih]
    constructor
    · rintro ⟨h1, h2⟩ i hi
      rcases Nat.lt_succ_iff_lt_or_eq.1 hi with z | z
      · exact h2 i z
      · subst z; exact h1
    · intro h; exact ⟨h n (by omega), fun i hi => h i (by omega)⟩
/-- word k stands from a place to one -/
def mwq (tp : List Nat) (q e k : Nat) : Bool := decide (wln.getD k 0 = e - q) && allq (fun j => decide (wch.getD (wst.getD k 0 + j) 0 = by1 tp (q + j))) (wln.getD k 0)
def wdt (tp : List Nat) (q e : Nat) : Nat := match fst1 (mwq tp q e) 12 0 with
  | some k => k
  | none => 20001
def nmv (tp : List Nat) : Nat → Nat → Nat → Nat
  | 0, _, v => v
  | m + 1, i, v => nmv tp m (i + 1) (10 * v + by1 tp i - 48)
/-- the token at a place that is no blank; behind it. 20000: the end; 20001: none -/
def tkA (tp : List Nat) (q : Nat) : Nat := if tp.length ≤ q then 20000 else if isLt (by1 tp q) then wdt tp q (xt isLt tp (tp.length - (q + 1)) (q + 1)) else if isDg (by1 tp q) then (if 4 < xt isDg tp (tp.length - (q + 1)) (q + 1) - q then 20001 else 1000 + nmv tp (xt isDg tp (tp.length - (q + 1)) (q + 1) - q) q 0) else if isMk (by1 tp q) then by1 tp q else 20001
def tkE (tp : List Nat) (q : Nat) : Nat := if tp.length ≤ q then q else if isLt (by1 tp q) then xt isLt tp (tp.length - (q + 1)) (q + 1) else if isDg (by1 tp q) then xt isDg tp (tp.length - (q + 1)) (q + 1) else q + 1
def skb (tp : List Nat) (p : Nat) : Nat := xt isBl tp (tp.length - p) p
def tC (t : Nat) : Int32 := if t = 20000 then -1 else if t = 20001 then -2 else nI t
theorem xt_ge (q : Nat → Bool) (tp : List Nat) : ∀ m i, i ≤ xt q tp m i ∧ xt q tp m i ≤ i + m := by
  intro m
  induction m with
  | zero => intro i; exact ⟨Nat.le_refl _, Nat.le_refl _⟩
  | succ m ih =>
    intro i
    show i ≤ (if decide (i < tp.length) && q (by1 tp i) then xt q tp m (i + 1) else i) ∧ _ ≤ _
    show i ≤ (if decide (i < tp.length) && q (by1 tp i) then xt q tp m (i + 1) else i) ∧ (if decide (i < tp.length) && q (by1 tp i) then xt q tp m (i + 1) else i) ≤ _
    split
    · have := ih (i + 1); omega
    · omega
theorem xt_all (q : Nat → Bool) (tp : List Nat) : ∀ m i j, i ≤ j → j < xt q tp m i → j < tp.length ∧ q (by1 tp j) = true := by
  intro m
  induction m with
  | zero => intro i j h1 h2; have : j < i := h2; omega
  | succ m ih =>
    intro i j h1 h2
    have h2 : j < (if decide (i < tp.length) && q (by1 tp i) then xt q tp m (i + 1) else i) := h2
    by_cases z : (decide (i < tp.length) && q (by1 tp i)) = true
    · rw [if_pos z] at h2
      rw [Bool.and_eq_true, decide_eq_true_iff] at z
      by_cases y : j = i
      · subst y; exact z
      · exact ih (i + 1) j (by omega) h2
    · rw [if_neg z] at h2; omega
/-- the loop over bytes: X goes on while q -/
theorem xt_run {q : Nat → Bool} {tp : List Nat} (X : Nat → MRes) (R : Nat → MRes) (hs : ∀ i, i ≤ tp.length → X i = if decide (i < tp.length) && q (by1 tp i) then X (i + 1) else R i) : ∀ m i, i + m = tp.length → X i = R (xt q tp m i) := by
  intro m
  induction m with
  | zero =>
    intro i hi
    rw [hs i (by omega), decide_eq_false (by omega)]
    rfl
  | succ m ih =>
    intro i hi
    rw [hs i (by omega)]
    show _ = R (if decide (i < tp.length) && q (by1 tp i) then xt q tp m (i + 1) else i)
    cases decide (i < tp.length) && q (by1 tp i)
    · rfl
    · exact ih (i + 1) (by omega)
theorem cmpB {n a : Nat} (hn : n < 256) (ha : a < 256) : (nI n = nI a) ↔ n = a := nI_eq (by omega) (by omega)
section LEXC
variable {h : MHeap} {tp : List Nat} {y z : Int32} {bs : List Int32}
/-- the tape, read up to p -/
def TL (h : MHeap) (tp : List Nat) (p : Nat) (y z : Int32) (bs : List Int32) : Prop := h[7]? = some (c7 tp.length (nI p) y z) ∧ arr h 8 bs 160 ∧ (∀ i, i < tp.length → bs.getD i 0 = nI (by1 tp i)) ∧ h[2]? = some (98, tx2.map .int)
theorem TL.st {p : Nat} (T : TL h tp p y z bs) (p' : Nat) : TL (h.set 7 (c7 tp.length (nI p') y z)) tp p' y z bs := ⟨gset T.1 _, ⟨by rw [gset_ne _ (by decide)]; exact T.2.1.1, T.2.1.2⟩, T.2.2.1, by rw [gset_ne _ (by decide)]; exact T.2.2.2⟩
theorem TL.g0 {p : Nat} (T : TL h tp p y z bs) (k : Int32 → MRes) : gfI none h 7 [9] 0 k = k (nI tp.length) := gfI_at T.1 rfl rfl k
theorem TL.g5 {p : Nat} (T : TL h tp p y z bs) (k : Int32 → MRes) : gfI none h 7 [9] 5 k = k (nI p) := gfI_at T.1 rfl rfl k
theorem TL.p5 {p : Nat} (T : TL h tp p y z bs) (p' : Nat) (k : MHeap → MRes) : pfI none h 7 [9] 5 (nI p') k = k (h.set 7 (c7 tp.length (nI p') y z)) := pfI_at T.1 rfl (by show 5 < 8; decide) _ k
theorem TL.v {p : Nat} (T : TL h tp p y z bs) (m : Nat) (k : Nat → MRes) : vd none h 7 [9, m] k = k m := vd_at T.1 rfl k
theorem c_75 {p : Nat} (T : TL h tp p y z bs) (ht : tp.length ≤ 160) {i : Nat} (hi : i < tp.length) (d : Nat) : call (d + 1) 75 [.ref 7, .int (nI i)] h = some (some (.int (nI (by1 tp i))), h) := by
  have g1 : ∀ k : Value → MRes, gfV none h 7 [9] 1 k = k (.ref 8) := fun k => gfV_at T.1 rfl rfl k
  rw [e_75, if_neg (nI_pos (by omega)), T.g0, if_pos (nI_lt hi (by omega)), g1, dR_ref, ar_ln T.2.1.1, T.2.1.2, if_pos (nI_lt (by omega) (by decide)), g1, dR_ref, ar_al T.2.1.1 (by rw [T.2.1.2]; omega) (by rw [T.2.1.2]; decide), T.2.2.1 i hi]
theorem c_76 (d : Nat) {x : Nat} (hx : x < 256) (h : MHeap) : call (d + 1) 76 [.int (nI x)] h = some (some (.int (bI (isLt x))), h) := by
  rw [e_76]
  have : ∀ x, x < 256 → (isLt x = false ↔ (nI x < (97 : Int32) ∨ (122 : Int32) < nI x)) := by decide +kernel
  have t := this x hx
  by_cases q1 : nI x < (97 : Int32)
  · rw [if_pos q1, t.2 (Or.inl q1)]; rfl
  · by_cases q2 : (122 : Int32) < nI x
    · rw [if_neg q1, if_pos q2, t.2 (Or.inr q2)]; rfl
    · rw [if_neg q1, if_neg q2]
      cases e : isLt x with
      | false => rcases t.1 e with y | y
                 · exact absurd y q1
                 · exact absurd y q2
      | true => rfl
theorem c_77 (d : Nat) {x : Nat} (hx : x < 256) (h : MHeap) : call (d + 1) 77 [.int (nI x)] h = some (some (.int (bI (isDg x))), h) := by
  rw [e_77]
  have : ∀ x, x < 256 → (isDg x = false ↔ (nI x < (48 : Int32) ∨ (57 : Int32) < nI x)) := by decide +kernel
  have t := this x hx
  by_cases q1 : nI x < (48 : Int32)
  · rw [if_pos q1, t.2 (Or.inl q1)]; rfl
  · by_cases q2 : (57 : Int32) < nI x
    · rw [if_neg q1, if_pos q2, t.2 (Or.inr q2)]; rfl
    · rw [if_neg q1, if_neg q2]
      cases e : isDg x with
      | false => rcases t.1 e with y | y
                 · exact absurd y q1
                 · exact absurd y q2
      | true => rfl
theorem c_78 (d : Nat) {x : Nat} (hx : x < 256) (h : MHeap) : call (d + 1) 78 [.int (nI x)] h = some (some (.int (bI (isMk x))), h) := by
  rw [e_78]
  simp only [zr_0, zr_1]
  by_cases b : 40 ≤ x ∧ x ≤ 61
  · obtain ⟨k, hk⟩ : ∃ k, x = 40 + k := ⟨x - 40, by omega⟩
    have hk2 : k < 22 := by omega
    subst hk
    rcases (show k = 0 ∨ k = 1 ∨ k = 2 ∨ k = 3 ∨ k = 4 ∨ k = 5 ∨ k = 6 ∨ k = 7 ∨ k = 8 ∨ k = 9 ∨ k = 10 ∨ k = 11 ∨ k = 12 ∨ k = 13 ∨ k = 14 ∨ k = 15 ∨ k = 16 ∨ k = 17 ∨ k = 18 ∨ k = 19 ∨ k = 20 ∨ k = 21 by omega) with w | w | w | w | w | w | w | w | w | w | w | w | w | w | w | w | w | w | w | w | w | w <;> subst w <;> rfl
  · have n : ∀ a, 40 ≤ a → a ≤ 61 → ¬ nI x = nI a := fun a h1 h2 e => by have := (nI_eq (by omega) (by omega)).1 e; omega
    have e : isMk x = false := by
      unfold isMk
      simp only [Bool.or_eq_false_iff, beq_eq_false_iff_ne]
      omega
    rw [e, if_neg (show ¬ nI x = (40 : Int32) from n 40 (by decide) (by decide)), if_neg (show ¬ nI x = (41 : Int32) from n 41 (by decide) (by decide)), if_neg (show ¬ nI x = (42 : Int32) from n 42 (by decide) (by decide)), if_neg (show ¬ nI x = (43 : Int32) from n 43 (by decide) (by decide)), if_neg (show ¬ nI x = (44 : Int32) from n 44 (by decide) (by decide)), if_neg (show ¬ nI x = (45 : Int32) from n 45 (by decide) (by decide)), if_neg (show ¬ nI x = (46 : Int32) from n 46 (by decide) (by decide)), if_neg (show ¬ nI x = (47 : Int32) from n 47 (by decide) (by decide)), if_neg (show ¬ nI x = (48 : Int32) from n 48 (by decide) (by decide)), if_neg (show ¬ nI x = (49 : Int32) from n 49 (by decide) (by decide)), if_neg (show ¬ nI x = (50 : Int32) from n 50 (by decide) (by decide)), if_neg (show ¬ nI x = (51 : Int32) from n 51 (by decide) (by decide)), if_neg (show ¬ nI x = (52 : Int32) from n 52 (by decide) (by decide)), if_neg (show ¬ nI x = (53 : Int32) from n 53 (by decide) (by decide)), if_neg (show ¬ nI x = (54 : Int32) from n 54 (by decide) (by decide)), if_neg (show ¬ nI x = (55 : Int32) from n 55 (by decide) (by decide)), if_neg (show ¬ nI x = (56 : Int32) from n 56 (by decide) (by decide)), if_neg (show ¬ nI x = (57 : Int32) from n 57 (by decide) (by decide)), if_neg (show ¬ nI x = (58 : Int32) from n 58 (by decide) (by decide)), if_neg (show ¬ nI x = (59 : Int32) from n 59 (by decide) (by decide)), if_neg (show ¬ nI x = (60 : Int32) from n 60 (by decide) (by decide)), if_neg (show ¬ nI x = (61 : Int32) from n 61 (by decide) (by decide))]
    rfl
theorem set7 (x y' : MCell) : (h.set 7 x).set 7 y' = h.set 7 y' := List.set_set ..
theorem by_lt {i : Nat} (o6 : ∀ x ∈ tp, x < 256) (hi : i < tp.length) : by1 tp i < 256 := o6 _ (by
  unfold by1
  rw [List.getD_eq_getElem?_getD, List.getElem?_eq_getElem hi]; exact List.getElem_mem _)
theorem c_70 {p : Nat} (T : TL h tp p y z bs) (ht : tp.length ≤ 160) (o6 : ∀ x ∈ tp, x < 256) (hp : p ≤ tp.length) (d : Nat) : call (d + 2) 70 [.ref 7] h = some (none, h.set 7 (c7 tp.length (nI (skb tp p)) y z)) := by
  rw [e_70]
  have := xt_run (q := isBl) (tp := tp) (fun i => ex (d + 1) 70 0 [sv (.ref 7)] [] (h.set 7 (c7 tp.length (nI i) y z))) (fun i => some (none, h.set 7 (c7 tp.length (nI i) y z))) (fun i hi => by
    have T1 := T.st i
    show ex _ _ _ _ _ _ = if _ then ex _ _ _ _ _ _ else _
    rw [e_70_0, T1.g5, T1.g0]
    by_cases q : i < tp.length
    · have hb := by_lt o6 q
      rw [if_pos (nI_lt q (by omega)), decide_eq_true q, Bool.true_and]
      simp only [T1.g5, T1.v, c_75 T1 ht q, cI_s, nI_1, T1.p5, set7]
      unfold isBl
      by_cases q1 : by1 tp i = 32
      · rw [if_pos (show nI (by1 tp i) = (32 : Int32) by rw [q1]; rfl), q1]; rfl
      · rw [if_neg (show ¬ nI (by1 tp i) = (32 : Int32) from fun e => q1 ((cmpB (a := 32) hb (by decide)).1 e))]
        by_cases q2 : by1 tp i = 10
        · rw [if_pos (show nI (by1 tp i) = (10 : Int32) by rw [q2]; rfl), q2]; rfl
        · rw [if_neg (show ¬ nI (by1 tp i) = (10 : Int32) from fun e => q2 ((cmpB (a := 10) hb (by decide)).1 e)), if_neg (by simp [q1, q2])]
    · rw [if_neg (nI_nlt (by omega) (by omega)), decide_eq_false q]; rfl) (tp.length - p) p (by omega)
  rw [set_self T.1] at this
  exact this
end LEXC
