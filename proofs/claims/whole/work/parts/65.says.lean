/-! texts: what they say -/
/-- items: names 6 .. 11, numbers from 1000 on, signs -/
def opC (x : Nat) : Prop := x = 3 ∨ x = 4 ∨ x = 42 ∨ x = 43 ∨ x = 45 ∨ x = 60 ∨ x = 61
def okC (x : Nat) : Prop := (1000 ≤ x ∧ x < 11000) ∨ (6 ≤ x ∧ x ≤ 11) ∨ x = 5 ∨ x = 12 ∨ opC x
def rcd (x : Nat) : Nat := if 1000 ≤ x then x - 1000 + 100000 else if 6 ≤ x ∧ x ≤ 11 then x - 6 else match x with
  | 3 => 11
  | 4 => 12
  | 5 => 13
  | 12 => 19
  | 60 => 14
  | 61 => 15
  | 43 => 16
  | 45 => 17
  | _ => 18
def jn (x : Nat) (s t : Int32) : Int32 := match x with
  | 3 => if s = 0 then (if t = 0 then 0 else 1) else 1
  | 4 => if s = 0 then 0 else if t = 0 then 0 else 1
  | 60 => if s < t then 1 else 0
  | 61 => if s = t then 1 else 0
  | 43 => s + t
  | 45 => s - t
  | _ => s * t
theorem c_40 (d : Nat) (h : MHeap) (p : Bool) : call (d + 1) 40 [.int (bI p)] h = some (some (.int (bI p)), h) := by
  rw [e_40]
  cases p <;> rfl
theorem c_39 (d : Nat) {x : Nat} (hx : opC x) (s t : Int32) (h : MHeap) : call (d + 2) 39 [.int (nI x), .int s, .int t] h = some (some (.int (jn x s t)), h) := by
  have k0 : call (d + 1) 40 [.int 0] h = some (some (.int 0), h) := c_40 d h false
  have k1 : call (d + 1) 40 [.int 1] h = some (some (.int 1), h) := c_40 d h true
  rw [e_39]
  rcases hx with z | z | z | z | z | z | z <;> subst z <;> simp only [k0, k1, cI_s]
  · show (if s = 0 then _ else _) = (some (some (.int (if s = 0 then (if t = 0 then 0 else 1) else 1)), h) : MRes)
    by_cases h1 : s = 0 <;> by_cases h2 : t = 0 <;> simp [h1, h2]
  · show (if s = 0 then _ else _) = (some (some (.int (if s = 0 then 0 else if t = 0 then 0 else 1)), h) : MRes)
    by_cases h1 : s = 0 <;> by_cases h2 : t = 0 <;> simp [h1, h2]
  · rfl
  · rfl
  · rfl
  · show (if s < t then _ else _) = (some (some (.int (if s < t then 1 else 0)), h) : MRes)
    by_cases h1 : s < t <;> simp [h1]
  · show (if s = t then _ else _) = (some (some (.int (if s = t then 1 else 0)), h) : MRes)
    by_cases h1 : s = t <;> simp [h1]
theorem r_191 (d : Nat) {x : Nat} (hx : opC x) (s t : Int32) (h : MHeap) : call (d + 1) 191 [.int (nI (rcd x)), .int s, .int t] h = some (some (.int (jn x s t)), h) := by
  rw [e_191]
  rcases hx with z | z | z | z | z | z | z <;> subst z
  · show (if s = 0 then _ else _) = (some (some (.int (if s = 0 then (if t = 0 then 0 else 1) else 1)), h) : MRes)
    by_cases h1 : s = 0 <;> by_cases h2 : t = 0 <;> simp [h1, h2]
  · show (if s = 0 then _ else _) = (some (some (.int (if s = 0 then 0 else if t = 0 then 0 else 1)), h) : MRes)
    by_cases h1 : s = 0 <;> by_cases h2 : t = 0 <;> simp [h1, h2]
  · rfl
  · rfl
  · rfl
  · show (if s < t then _ else _) = (some (some (.int (if s < t then 1 else 0)), h) : MRes)
    by_cases h1 : s < t <;> simp [h1]
  · show (if s = t then _ else _) = (some (some (.int (if s = t then 1 else 0)), h) : MRes)
    by_cases h1 : s = t <;> simp [h1]
/-- a row holds a stack (its top first) -/
def stk (u : List Int32) : List Int32 → Prop
  | [] => True
  | t :: r => u.getD r.length 0 = t ∧ stk u r
theorem getD_set' {xs : List Int32} {i j : Nat} {x : Int32} (h : j ≠ i) : (xs.set i x).getD j 0 = xs.getD j 0 := by
  rw [List.getD_eq_getElem?_getD, List.getD_eq_getElem?_getD, List.getElem?_set_ne (fun z => h z.symm)]
theorem stk_set {u : List Int32} {v : Int32} : ∀ {r : List Int32} {k : Nat}, stk u r → r.length ≤ k → stk (u.set k v) r
  | [], _, _, _ => trivial
  | t :: r, k, h, hk => by
    have hk : r.length + 1 ≤ k := hk
    exact ⟨by rw [getD_set' (by omega)]; exact h.1, stk_set h.2 (by omega)⟩
theorem stk_push {u : List Int32} {v : Int32} {r : List Int32} (h : stk u r) (hl : r.length < u.length) : stk (u.set r.length v) (v :: r) := by
  refine ⟨?_, stk_set h (Nat.le_refl _)⟩
  rw [getD_set hl, if_pos rfl]
/-- one item's work -/
def ev1 (nm : List Int32) (x : Nat) (st : List Int32) : List Int32 := if 1000 ≤ x then nI (x - 1000) :: st else if 6 ≤ x ∧ x ≤ 11 then nm.getD (x - 6) 0 :: st else if x = 5 then (match st with
  | t :: r => (if t = 0 then 1 else 0) :: r
  | [] => []) else if x = 12 then (match st with
  | t :: r => -t :: r
  | [] => []) else (match st with
  | t :: s :: r => jn x s t :: r
  | _ => [])
def hgt (x n : Nat) : Option Nat := if 1000 ≤ x then some (n + 1) else if 6 ≤ x ∧ x ≤ 11 then some (n + 1) else if x = 5 then (if 1 ≤ n then some n else none) else if x = 12 then (if 1 ≤ n then some n else none) else if 2 ≤ n then some (n - 1) else none
theorem ev1_len {nm : List Int32} {x m : Nat} {st : List Int32} (h : hgt x st.length = some m) : (ev1 nm x st).length = m := by
  unfold hgt at h
  unfold ev1
  by_cases h1 : 1000 ≤ x
  · rw [if_pos h1] at h ⊢; cases h; rfl
  · rw [if_neg h1] at h ⊢
    by_cases h2 : 6 ≤ x ∧ x ≤ 11
    · rw [if_pos h2] at h ⊢; cases h; rfl
    · rw [if_neg h2] at h ⊢
      by_cases h3 : x = 5
      · rw [if_pos h3] at h ⊢
        cases st with
        | nil => simp at h
        | cons t r => simp at h; simp; omega
      · rw [if_neg h3] at h ⊢
        by_cases h4 : x = 12
        · rw [if_pos h4] at h ⊢
          cases st with
          | nil => simp at h
          | cons t r => simp at h; simp; omega
        · rw [if_neg h4] at h ⊢
          match st, h with
          | [], h => simp at h
          | [_], h => simp at h
          | t :: s :: r, h => simp at h; simp; omega
section CLS
variable {h : MHeap} {nm u : List Int32}
theorem c_38 (d : Nat) (hu : h[25]? = some (100, u.map .int)) (hl : u.length = 160) {n : Nat} (hn : n < 160) (v : Int32) : call (d + 1) 38 [.int v, .ref 25, .int (nI n)] h = some (some (.int (nI (n + 1))), h.set 25 (100, (u.set n v).map .int)) := by
  rw [e_38, if_neg (nI_pos (by omega)), ar_ln hu, hl, if_pos (nI_lt (by omega) (by decide)), ar_as hu (by omega) (by omega), nI_1]
theorem nI_s1 (n : Nat) : nI (n + 1) - 1 = nI n := by
  rw [show (1 : Int32) = nI 1 from rfl, pk_sub (by omega), Nat.add_sub_cancel]
theorem nI_s2 (n : Nat) : nI (n + 2) - 2 = nI n := by
  rw [show (2 : Int32) = nI 2 from rfl, pk_sub (by omega), Nat.add_sub_cancel]
theorem nI_s3 (n : Nat) : nI (n + 2) - 1 = nI (n + 1) := nI_s1 (n + 1)
theorem c_40' (d : Nat) (h : MHeap) : call (d + 1) 40 [.int 0] h = some (some (.int 0), h) ∧ call (d + 1) 40 [.int 1] h = some (some (.int 1), h) := ⟨c_40 d h false, c_40 d h true⟩
theorem c_37_3 (d : Nat) (hn : h[24]? = some (100, nm.map .int)) (hnl : nm.length = 6) (hu : h[25]? = some (100, u.map .int)) (hl : u.length = 160) {t s : Int32} {r : List Int32} (hs : stk u (t :: s :: r)) (hr : r.length + 2 ≤ 160) : call (d + 3) 37 [.int (nI 3), .ref 24, .ref 25, .int (nI (r.length + 2))] h = some (some (.int (nI (r.length + 1))), h.set 25 (100, (u.set r.length (jn 3 s t)).map .int)) := by
  have t1 : u.getD (r.length + 1) 0 = t := hs.1
  have t2 : u.getD r.length 0 = s := hs.2.1
  rw [e_37, if_pos (by decide), if_pos (by decide)]
  rw [if_neg (show ¬ nI (r.length + 2) < (1 : Int32) from nI_nlt (b := 1) (by omega) (by omega)), ar_ln hu, hl, if_neg (nI_nlt (by omega) (by omega)), nI_s3, ar_al hu (by omega) (by omega), t1, if_neg (by decide), if_neg (by decide), if_neg (show ¬ nI (r.length + 2) < (2 : Int32) from nI_nlt (b := 2) (by omega) (by omega)), nI_s2, ar_al hu (by omega) (by omega), t2, c_39 d (by unfold opC; decide), cI_s, c_38 (d + 1) hu hl (by omega), cI_s]
theorem c_37_4 (d : Nat) (hn : h[24]? = some (100, nm.map .int)) (hnl : nm.length = 6) (hu : h[25]? = some (100, u.map .int)) (hl : u.length = 160) {t s : Int32} {r : List Int32} (hs : stk u (t :: s :: r)) (hr : r.length + 2 ≤ 160) : call (d + 3) 37 [.int (nI 4), .ref 24, .ref 25, .int (nI (r.length + 2))] h = some (some (.int (nI (r.length + 1))), h.set 25 (100, (u.set r.length (jn 4 s t)).map .int)) := by
  have t1 : u.getD (r.length + 1) 0 = t := hs.1
  have t2 : u.getD r.length 0 = s := hs.2.1
  rw [e_37, if_pos (by decide), if_pos (by decide)]
  rw [if_neg (show ¬ nI (r.length + 2) < (1 : Int32) from nI_nlt (b := 1) (by omega) (by omega)), ar_ln hu, hl, if_neg (nI_nlt (by omega) (by omega)), nI_s3, ar_al hu (by omega) (by omega), t1, if_neg (by decide), if_neg (by decide), if_neg (show ¬ nI (r.length + 2) < (2 : Int32) from nI_nlt (b := 2) (by omega) (by omega)), nI_s2, ar_al hu (by omega) (by omega), t2, c_39 d (by unfold opC; decide), cI_s, c_38 (d + 1) hu hl (by omega), cI_s]
theorem c_37_42 (d : Nat) (hn : h[24]? = some (100, nm.map .int)) (hnl : nm.length = 6) (hu : h[25]? = some (100, u.map .int)) (hl : u.length = 160) {t s : Int32} {r : List Int32} (hs : stk u (t :: s :: r)) (hr : r.length + 2 ≤ 160) : call (d + 3) 37 [.int (nI 42), .ref 24, .ref 25, .int (nI (r.length + 2))] h = some (some (.int (nI (r.length + 1))), h.set 25 (100, (u.set r.length (jn 42 s t)).map .int)) := by
  have t1 : u.getD (r.length + 1) 0 = t := hs.1
  have t2 : u.getD r.length 0 = s := hs.2.1
  rw [e_37, if_pos (by decide), if_neg (by decide), ar_ln hn, hnl, if_neg (by decide)]
  rw [if_neg (show ¬ nI (r.length + 2) < (1 : Int32) from nI_nlt (b := 1) (by omega) (by omega)), ar_ln hu, hl, if_neg (nI_nlt (by omega) (by omega)), nI_s3, ar_al hu (by omega) (by omega), t1, if_neg (by decide), if_neg (by decide), if_neg (show ¬ nI (r.length + 2) < (2 : Int32) from nI_nlt (b := 2) (by omega) (by omega)), nI_s2, ar_al hu (by omega) (by omega), t2, c_39 d (by unfold opC; decide), cI_s, c_38 (d + 1) hu hl (by omega), cI_s]
theorem c_37_43 (d : Nat) (hn : h[24]? = some (100, nm.map .int)) (hnl : nm.length = 6) (hu : h[25]? = some (100, u.map .int)) (hl : u.length = 160) {t s : Int32} {r : List Int32} (hs : stk u (t :: s :: r)) (hr : r.length + 2 ≤ 160) : call (d + 3) 37 [.int (nI 43), .ref 24, .ref 25, .int (nI (r.length + 2))] h = some (some (.int (nI (r.length + 1))), h.set 25 (100, (u.set r.length (jn 43 s t)).map .int)) := by
  have t1 : u.getD (r.length + 1) 0 = t := hs.1
  have t2 : u.getD r.length 0 = s := hs.2.1
  rw [e_37, if_pos (by decide), if_neg (by decide), ar_ln hn, hnl, if_neg (by decide)]
  rw [if_neg (show ¬ nI (r.length + 2) < (1 : Int32) from nI_nlt (b := 1) (by omega) (by omega)), ar_ln hu, hl, if_neg (nI_nlt (by omega) (by omega)), nI_s3, ar_al hu (by omega) (by omega), t1, if_neg (by decide), if_neg (by decide), if_neg (show ¬ nI (r.length + 2) < (2 : Int32) from nI_nlt (b := 2) (by omega) (by omega)), nI_s2, ar_al hu (by omega) (by omega), t2, c_39 d (by unfold opC; decide), cI_s, c_38 (d + 1) hu hl (by omega), cI_s]
theorem c_37_45 (d : Nat) (hn : h[24]? = some (100, nm.map .int)) (hnl : nm.length = 6) (hu : h[25]? = some (100, u.map .int)) (hl : u.length = 160) {t s : Int32} {r : List Int32} (hs : stk u (t :: s :: r)) (hr : r.length + 2 ≤ 160) : call (d + 3) 37 [.int (nI 45), .ref 24, .ref 25, .int (nI (r.length + 2))] h = some (some (.int (nI (r.length + 1))), h.set 25 (100, (u.set r.length (jn 45 s t)).map .int)) := by
  have t1 : u.getD (r.length + 1) 0 = t := hs.1
  have t2 : u.getD r.length 0 = s := hs.2.1
  rw [e_37, if_pos (by decide), if_neg (by decide), ar_ln hn, hnl, if_neg (by decide)]
  rw [if_neg (show ¬ nI (r.length + 2) < (1 : Int32) from nI_nlt (b := 1) (by omega) (by omega)), ar_ln hu, hl, if_neg (nI_nlt (by omega) (by omega)), nI_s3, ar_al hu (by omega) (by omega), t1, if_neg (by decide), if_neg (by decide), if_neg (show ¬ nI (r.length + 2) < (2 : Int32) from nI_nlt (b := 2) (by omega) (by omega)), nI_s2, ar_al hu (by omega) (by omega), t2, c_39 d (by unfold opC; decide), cI_s, c_38 (d + 1) hu hl (by omega), cI_s]
theorem c_37_60 (d : Nat) (hn : h[24]? = some (100, nm.map .int)) (hnl : nm.length = 6) (hu : h[25]? = some (100, u.map .int)) (hl : u.length = 160) {t s : Int32} {r : List Int32} (hs : stk u (t :: s :: r)) (hr : r.length + 2 ≤ 160) : call (d + 3) 37 [.int (nI 60), .ref 24, .ref 25, .int (nI (r.length + 2))] h = some (some (.int (nI (r.length + 1))), h.set 25 (100, (u.set r.length (jn 60 s t)).map .int)) := by
  have t1 : u.getD (r.length + 1) 0 = t := hs.1
  have t2 : u.getD r.length 0 = s := hs.2.1
  rw [e_37, if_pos (by decide), if_neg (by decide), ar_ln hn, hnl, if_neg (by decide)]
  rw [if_neg (show ¬ nI (r.length + 2) < (1 : Int32) from nI_nlt (b := 1) (by omega) (by omega)), ar_ln hu, hl, if_neg (nI_nlt (by omega) (by omega)), nI_s3, ar_al hu (by omega) (by omega), t1, if_neg (by decide), if_neg (by decide), if_neg (show ¬ nI (r.length + 2) < (2 : Int32) from nI_nlt (b := 2) (by omega) (by omega)), nI_s2, ar_al hu (by omega) (by omega), t2, c_39 d (by unfold opC; decide), cI_s, c_38 (d + 1) hu hl (by omega), cI_s]
theorem c_37_61 (d : Nat) (hn : h[24]? = some (100, nm.map .int)) (hnl : nm.length = 6) (hu : h[25]? = some (100, u.map .int)) (hl : u.length = 160) {t s : Int32} {r : List Int32} (hs : stk u (t :: s :: r)) (hr : r.length + 2 ≤ 160) : call (d + 3) 37 [.int (nI 61), .ref 24, .ref 25, .int (nI (r.length + 2))] h = some (some (.int (nI (r.length + 1))), h.set 25 (100, (u.set r.length (jn 61 s t)).map .int)) := by
  have t1 : u.getD (r.length + 1) 0 = t := hs.1
  have t2 : u.getD r.length 0 = s := hs.2.1
  rw [e_37, if_pos (by decide), if_neg (by decide), ar_ln hn, hnl, if_neg (by decide)]
  rw [if_neg (show ¬ nI (r.length + 2) < (1 : Int32) from nI_nlt (b := 1) (by omega) (by omega)), ar_ln hu, hl, if_neg (nI_nlt (by omega) (by omega)), nI_s3, ar_al hu (by omega) (by omega), t1, if_neg (by decide), if_neg (by decide), if_neg (show ¬ nI (r.length + 2) < (2 : Int32) from nI_nlt (b := 2) (by omega) (by omega)), nI_s2, ar_al hu (by omega) (by omega), t2, c_39 d (by unfold opC; decide), cI_s, c_38 (d + 1) hu hl (by omega), cI_s]
theorem c_37_5 (d : Nat) (hn : h[24]? = some (100, nm.map .int)) (hnl : nm.length = 6) (hu : h[25]? = some (100, u.map .int)) (hl : u.length = 160) {t : Int32} {r : List Int32} (hs : stk u (t :: r)) (hr : r.length + 1 ≤ 160) : call (d + 3) 37 [.int (nI 5), .ref 24, .ref 25, .int (nI (r.length + 1))] h = some (some (.int (nI (r.length + 1))), h.set 25 (100, (u.set r.length (if t = 0 then 1 else 0)).map .int)) := by
  rw [e_37, if_pos (by decide), if_pos (by decide)]
  rw [if_neg (show ¬ nI (r.length + 1) < (1 : Int32) from nI_nlt (b := 1) (by omega) (by omega)), ar_ln hu, hl, if_neg (nI_nlt (by omega) (by omega)), nI_s1, ar_al hu (by omega) (by omega), hs.1, if_pos (by decide), e_37_77, if_pos (by decide), e_37_92, e_37_92, (c_40' (d + 1) h).1, (c_40' (d + 1) h).2, cI_s, cI_s, e_37_101, e_37_101, nI_s1, c_38 (d + 1) hu hl (by omega), c_38 (d + 1) hu hl (by omega), cI_s, cI_s]
  by_cases q : t = 0
  · rw [if_pos q, if_pos q]
  · rw [if_neg q, if_neg q]
theorem c_37_12 (d : Nat) (hn : h[24]? = some (100, nm.map .int)) (hnl : nm.length = 6) (hu : h[25]? = some (100, u.map .int)) (hl : u.length = 160) {t : Int32} {r : List Int32} (hs : stk u (t :: r)) (hr : r.length + 1 ≤ 160) : call (d + 3) 37 [.int (nI 12), .ref 24, .ref 25, .int (nI (r.length + 1))] h = some (some (.int (nI (r.length + 1))), h.set 25 (100, (u.set r.length (-t)).map .int)) := by
  rw [e_37, if_pos (by decide), if_neg (by decide), ar_ln hn, hnl, if_neg (by decide)]
  rw [if_neg (show ¬ nI (r.length + 1) < (1 : Int32) from nI_nlt (b := 1) (by omega) (by omega)), ar_ln hu, hl, if_neg (nI_nlt (by omega) (by omega)), nI_s1, ar_al hu (by omega) (by omega), hs.1, if_neg (by decide), if_pos (by decide), e_37_77, if_neg (by decide), e_37_101, nI_s1, c_38 (d + 1) hu hl (by omega), cI_s]
theorem c_37 (d : Nat) (hn : h[24]? = some (100, nm.map .int)) (hnl : nm.length = 6) (hu : h[25]? = some (100, u.map .int)) (hl : u.length = 160) {x m : Nat} {st : List Int32} (hx : okC x) (hs : stk u st) (hg : hgt x st.length = some m) (hm : m ≤ 160) (hst : st.length ≤ 160) : ∃ u' : List Int32, call (d + 3) 37 [.int (nI x), .ref 24, .ref 25, .int (nI st.length)] h = some (some (.int (nI m)), h.set 25 (100, u'.map .int)) ∧ u'.length = 160 ∧ stk u' (ev1 nm x st) := by
  unfold hgt at hg
  unfold ev1
  by_cases x1 : 1000 ≤ x
  · rw [if_pos x1] at hg ⊢
    cases hg
    have hx2 : x < 11000 := by
      rcases hx with z | z | z | z | z
      · exact z.2
      · omega
      · omega
      · omega
      · unfold opC at z; omega
    refine ⟨u.set st.length (nI (x - 1000)), ?_, by rw [List.length_set]; exact hl, stk_push hs (by omega)⟩
    rw [e_37, if_neg (show ¬ nI x < (1000 : Int32) from nI_nlt (b := 1000) x1 (by omega)), show (1000 : Int32) = nI 1000 from rfl, pk_sub x1, c_38 (d + 1) hu hl (by omega), cI_s]
  · rw [if_neg x1] at hg ⊢
    by_cases x2 : 6 ≤ x ∧ x ≤ 11
    · rw [if_pos x2] at hg ⊢
      cases hg
      refine ⟨u.set st.length (nm.getD (x - 6) 0), ?_, by rw [List.length_set]; exact hl, stk_push hs (by omega)⟩
      rw [e_37, if_pos (show nI x < (1000 : Int32) from nI_lt (b := 1000) (by omega) (by decide)), show (6 : Int32) = nI 6 from rfl, pk_sub x2.1, if_neg (nI_pos (by omega)), ar_ln hn, hnl, if_pos (nI_lt (by omega) (by decide)), ar_al hn (by omega) (by omega), c_38 (d + 1) hu hl (by omega), cI_s]
    · rw [if_neg x2] at hg ⊢
      have hx3 : x = 5 ∨ x = 12 ∨ opC x := by
        rcases hx with z | z | z
        · omega
        · exact absurd z x2
        · exact z
      rcases hx3 with z | z | z
      · subst z
        rw [if_pos rfl] at hg ⊢
        match st, hs, hg, hst with
        | [], _, hg, _ => simp at hg
        | t :: r, hs, hg, hst =>
          have hst : r.length + 1 ≤ 160 := hst
          have hg : (if 1 ≤ r.length + 1 then some (r.length + 1) else none) = some m := hg
          rw [if_pos (by omega)] at hg
          cases hg
          exact ⟨_, c_37_5 d hn hnl hu hl hs hst, by rw [List.length_set]; exact hl, stk_push hs.2 (by omega)⟩
      · subst z
        rw [if_neg (by decide), if_pos rfl] at hg ⊢
        match st, hs, hg, hst with
        | [], _, hg, _ => simp at hg
        | t :: r, hs, hg, hst =>
          have hst : r.length + 1 ≤ 160 := hst
          have hg : (if 1 ≤ r.length + 1 then some (r.length + 1) else none) = some m := hg
          rw [if_pos (by omega)] at hg
          cases hg
          exact ⟨_, c_37_12 d hn hnl hu hl hs hst, by rw [List.length_set]; exact hl, stk_push hs.2 (by omega)⟩
      · have n5 : x ≠ 5 := by unfold opC at z; omega
        have n12 : x ≠ 12 := by unfold opC at z; omega
        rw [if_neg n5, if_neg n12] at hg ⊢
        match st, hs, hg, hst with
        | [], _, hg, _ => simp at hg
        | [_], _, hg, _ => simp at hg
        | t :: s :: r, hs, hg, hst =>
          have hst : r.length + 2 ≤ 160 := hst
          have hg : (if 2 ≤ r.length + 2 then some (r.length + 2 - 1) else none) = some m := hg
          rw [if_pos (by omega)] at hg
          cases hg
          refine ⟨u.set r.length (jn x s t), ?_, by rw [List.length_set]; exact hl, stk_push hs.2.2 (by omega)⟩
          rcases z with z | z | z | z | z | z | z <;> subst z
          · exact c_37_3 d hn hnl hu hl hs hst
          · exact c_37_4 d hn hnl hu hl hs hst
          · exact c_37_42 d hn hnl hu hl hs hst
          · exact c_37_43 d hn hnl hu hl hs hst
          · exact c_37_45 d hn hnl hu hl hs hst
          · exact c_37_60 d hn hnl hu hl hs hst
          · exact c_37_61 d hn hnl hu hl hs hst
end CLS
