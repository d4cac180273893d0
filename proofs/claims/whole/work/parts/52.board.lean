/-! the class's board -/
theorem dR_ref {α : Type} (no : α) (o : Nat) (k : Nat → α) : dR no (.ref o) k = k o := rfl
theorem dA_ref {α : Type} (no : α) (o : Nat) (k : α) : dA no (.ref o) k = k := rfl
theorem dA_null {α : Type} (no : α) (k : α) : dA no .null k = k := rfl
theorem dD_ref {α : Type} (no : α) (o : Nat) (k : α) : dD no (.ref o) k = k := rfl
theorem dD_int {α : Type} (no : α) (x : Int32) (k : α) : dD no (.int x) k = k := rfl
theorem dN_ref {α : Type} (no : α) (o : Nat) (k1 k2 : α) : dN no (.ref o) k1 k2 = k2 := rfl
theorem dN_null {α : Type} (no : α) (k1 k2 : α) : dN no .null k1 k2 = k1 := rfl
theorem cI_s (x : Int32) (h : MHeap) (k : Int32 → MHeap → MRes) : cI (some (some (.int x), h)) k = k x h := rfl
theorem cJ_s (x : Int64) (h : MHeap) (k : Int64 → MHeap → MRes) : cJ (some (some (.long x), h)) k = k x h := rfl
theorem cV_s (h : MHeap) (k : MHeap → MRes) : cV (some (none, h)) k = k h := rfl
theorem cR_r (o : Nat) (h : MHeap) (k : Value → MHeap → MRes) : cR (some (some (.ref o), h)) k = k (.ref o) h := rfl
theorem cR_n (h : MHeap) (k : Value → MHeap → MRes) : cR (some (some .null, h)) k = k .null h := rfl
theorem gfV_at {h : MHeap} {p t j : Nat} {fs : List Value} (hp : h[p]? = some (t, fs)) {ts : List Nat} (ht : ts.contains t = true) {o : Nat} (hj : fs[j]? = some (.ref o)) (k : Value → MRes) : gfV none h p ts j k = k (.ref o) := by
  simp only [gfV, hp, ht, hj, if_true, dA_ref]
theorem vd_at {h : MHeap} {p t m : Nat} {fs : List Value} (hp : h[p]? = some (t, fs)) {ps : List Nat} (hm : vdP ps t = some m) (k : Nat → MRes) : vd none h p ps k = k m := by
  simp only [vd, hp, hm]
abbrev c3 (lc lw : Int32) : MCell := (11, [.ref 4, .ref 6, .ref 7, .ref 12, .int lc, .int lw, .ref 13, .ref 22, .ref 23, .ref 24, .ref 25])
abbrev c4 (c w : Nat) (b : Int32) (n : Nat) : MCell := (0, [.int (nI c), .int (nI w), .int b, .int (nI n), .ref 5])
abbrev c5 (ps : List Nat) : MCell := (101, ps.map .ref ++ List.replicate (7 - ps.length) .null)
abbrev okE (e : Ent) : Prop := e.1 ≤ 5 ∧ e.2.1 ≤ 4095 ∧ e.2.2 ≤ 9
/-- cards, wide, backs, heaps as the class has them -/
def CB (h : MHeap) (c w : Nat) (b : Int32) (hs : List Ent) (lc lw : Int32) (ps : List Nat) : Prop :=
  (0 < c ∧ c ≤ 12 ∧ 0 < w ∧ w ≤ 12 ∧ hs.length ≤ 7) ∧ h[3]? = some (c3 lc lw) ∧ h[4]? = some (c4 c w b hs.length) ∧ h[5]? = some (c5 ps) ∧ ps.length = hs.length ∧ (∀ (i : Nat) (e : Ent), hs[i]? = some e → okE e ∧ ∃ p : Nat, ps[i]? = some p ∧ h[p]? = some (hpC e (inN c w e)))
section CBS
variable {h : MHeap} {c w : Nat} {b : Int32} {hs : List Ent} {lc lw : Int32} {ps : List Nat}
theorem CB.bd (H : CB h c w b hs lc lw ps) : 0 < c ∧ c ≤ 12 ∧ 0 < w ∧ w ≤ 12 ∧ hs.length ≤ 7 := H.1
theorem CB.o0 (H : CB h c w b hs lc lw ps) (k : Value → MRes) : gfV none h 3 [11] 0 k = k (.ref 4) := gfV_at H.2.1 rfl rfl k
theorem CB.o1 (H : CB h c w b hs lc lw ps) (k : Value → MRes) : gfV none h 3 [11] 1 k = k (.ref 6) := gfV_at H.2.1 rfl rfl k
theorem CB.o2 (H : CB h c w b hs lc lw ps) (k : Value → MRes) : gfV none h 3 [11] 2 k = k (.ref 7) := gfV_at H.2.1 rfl rfl k
theorem CB.o3 (H : CB h c w b hs lc lw ps) (k : Value → MRes) : gfV none h 3 [11] 3 k = k (.ref 12) := gfV_at H.2.1 rfl rfl k
theorem CB.o4 (H : CB h c w b hs lc lw ps) (k : Int32 → MRes) : gfI none h 3 [11] 4 k = k lc := gfI_at H.2.1 rfl rfl k
theorem CB.o5 (H : CB h c w b hs lc lw ps) (k : Int32 → MRes) : gfI none h 3 [11] 5 k = k lw := gfI_at H.2.1 rfl rfl k
theorem CB.o6 (H : CB h c w b hs lc lw ps) (k : Value → MRes) : gfV none h 3 [11] 6 k = k (.ref 13) := gfV_at H.2.1 rfl rfl k
theorem CB.o7 (H : CB h c w b hs lc lw ps) (k : Value → MRes) : gfV none h 3 [11] 7 k = k (.ref 22) := gfV_at H.2.1 rfl rfl k
theorem CB.o8 (H : CB h c w b hs lc lw ps) (k : Value → MRes) : gfV none h 3 [11] 8 k = k (.ref 23) := gfV_at H.2.1 rfl rfl k
theorem CB.o9 (H : CB h c w b hs lc lw ps) (k : Value → MRes) : gfV none h 3 [11] 9 k = k (.ref 24) := gfV_at H.2.1 rfl rfl k
theorem CB.o10 (H : CB h c w b hs lc lw ps) (k : Value → MRes) : gfV none h 3 [11] 10 k = k (.ref 25) := gfV_at H.2.1 rfl rfl k
theorem CB.b0 (H : CB h c w b hs lc lw ps) (k : Int32 → MRes) : gfI none h 4 [0] 0 k = k (nI c) := gfI_at H.2.2.1 rfl rfl k
theorem CB.b1 (H : CB h c w b hs lc lw ps) (k : Int32 → MRes) : gfI none h 4 [0] 1 k = k (nI w) := gfI_at H.2.2.1 rfl rfl k
theorem CB.b2 (H : CB h c w b hs lc lw ps) (k : Int32 → MRes) : gfI none h 4 [0] 2 k = k b := gfI_at H.2.2.1 rfl rfl k
theorem CB.b3 (H : CB h c w b hs lc lw ps) (k : Int32 → MRes) : gfI none h 4 [0] 3 k = k (nI hs.length) := gfI_at H.2.2.1 rfl rfl k
theorem CB.b4 (H : CB h c w b hs lc lw ps) (k : Value → MRes) : gfV none h 4 [0] 4 k = k (.ref 5) := gfV_at H.2.2.1 rfl rfl k
theorem CB.v3 (H : CB h c w b hs lc lw ps) (m : Nat) (k : Nat → MRes) : vd none h 3 [11, m] k = k m := vd_at H.2.1 rfl k
theorem CB.v4 (H : CB h c w b hs lc lw ps) (m : Nat) (k : Nat → MRes) : vd none h 4 [0, m] k = k m := vd_at H.2.2.1 rfl k
theorem CB.l5 (H : CB h c w b hs lc lw ps) (k : Int32 → MRes) : aln none h 5 k = k 7 := by
  have h1 := H.2.2.2.1
  have h2 : (ps.map Value.ref ++ List.replicate (7 - ps.length) Value.null).length = 7 := by
    have := H.2.2.2.2.1; have := H.1.2.2.2.2
    simp; omega
  simp only [aln, h1, c5, h2]
  rfl
theorem CB.at (H : CB h c w b hs lc lw ps) {i : Nat} {e : Ent} (hi : hs[i]? = some e) : ∃ p : Nat, h[p]? = some (hpC e (inN c w e)) ∧ okE e ∧ ∀ k : Value → MRes, alV none h 5 (nI i) k = k (.ref p) := by
  obtain ⟨he, p, hp, hc⟩ := H.2.2.2.2.2 i e hi
  refine ⟨p, hc, he, ?_⟩
  intro k
  have h1 := H.2.2.2.1
  have h8 : i < hs.length := (List.getElem?_eq_some_iff.1 hi).1
  have h7 := H.1.2.2.2.2
  have h9 : i < ps.length := by rw [H.2.2.2.2.1]; exact h8
  have h2 : (ps.map Value.ref ++ List.replicate (7 - ps.length) Value.null)[i]? = some (.ref p) := by
    rw [List.getElem?_append_left (by simpa using h9), List.getElem?_map, hp]; rfl
  simp only [alV, h1, c5, nI_clamp (show i < 2 ^ 31 by omega), h2, nI_pos (show i < 2 ^ 31 by omega), dA_ref]
  rfl
theorem c_4 (H : CB h c w b hs lc lw ps) (d : Nat) : call (d + 2) 4 [.ref 4] h = some (some (.int (nI (2 ^ c - 1))), h) := by
  have := H.bd
  have h2 : (2 : Nat) ^ c ≤ 2 ^ 12 := Nat.pow_le_pow_right (by decide) (by omega)
  have h3 : 0 < (2 : Nat) ^ c := Nat.two_pow_pos _
  rw [e_4, H.b0, e_136, bit_nI (by omega), cI_s, show (1 : Int32) = nI 1 from rfl, pk_sub (by omega)]
theorem c_15 (H : CB h c w b hs lc lw ps) (d : Nat) : call (d + 2) 15 [.ref 4] h = some (some (.int (nI (2 ^ hs.length - 1))), h) := by
  have := H.bd
  have h3 : 0 < (2 : Nat) ^ hs.length := Nat.two_pow_pos _
  rw [e_15, H.b3, e_136, bit_nI (by omega), cI_s, show (1 : Int32) = nI 1 from rfl, pk_sub (by omega)]
theorem c_5 (H : CB h c w b hs lc lw ps) (d : Nat) (a : Int32) : call (d + 2) 5 [.ref 4, .int a] h = some (some (.int (bI (inR a 0 (nI (c - 1))))), h) := by
  have := H.bd
  rw [e_5, H.b0, c_133, cI_s, zr_bI, show (1 : Int32) = nI 1 from rfl, pk_sub (by omega)]
theorem c_6 (H : CB h c w b hs lc lw ps) (d : Nat) (a : Int32) : call (d + 3) 6 [.ref 4, .int a] h = some (some (.int (bI (inR a 0 (nI (2 ^ c - 1))))), h) := by
  rw [e_6, H.v4, c_4 H, cI_s, c_133, cI_s, zr_bI]
theorem c_7 (H : CB h c w b hs lc lw ps) (d : Nat) (a e : Int32) : call (d + 2) 7 [.ref 4, .int a, .int e] h = some (some (.int (bI ((!decide ((b >>> (a &&& 31)) &&& 1 = 0)) != (!decide ((b >>> (e &&& 31)) &&& 1 = 0))))), h) := by
  rw [e_7, H.b2, c_137, cI_s, H.b2, c_137, cI_s]
  simp only [bI_eq, zr_0, zr_1]
  generalize (!decide ((b >>> (a &&& 31)) &&& 1 = 0)) = x
  generalize (!decide ((b >>> (e &&& 31)) &&& 1 = 0)) = y
  cases x <;> cases y <;> rfl
theorem c_14 (H : CB h c w b hs lc lw ps) (d : Nat) {i : Nat} {e : Ent} (hi : hs[i]? = some e) : ∃ p : Nat, call (d + 1) 14 [.ref 4, .int (nI i)] h = some (some (.ref p), h) ∧ h[p]? = some (hpC e (inN c w e)) ∧ okE e := by
  obtain ⟨p, hp, he, ha⟩ := H.at hi
  have h8 : i < hs.length := (List.getElem?_eq_some_iff.1 hi).1
  have h7 := H.bd
  refine ⟨p, ?_, hp, he⟩
  rw [e_14, if_neg (nI_pos (by omega)), H.b3, if_pos (nI_lt h8 (by omega)), H.b4, dR_ref, H.l5, if_pos (show nI i < (7 : Int32) from nI_lt (b := 7) (by omega) (by decide)), H.b4, dR_ref, ha, dA_ref]
theorem c_14n (H : CB h c w b hs lc lw ps) (d : Nat) {a : Int32} (ha : inR a 0 (nI hs.length - 1) = false) : call (d + 1) 14 [.ref 4, .int a] h = some (some .null, h) := by
  have h7 := H.bd
  rw [e_14]
  by_cases h1 : a < 0
  · rw [if_pos h1]
  · rw [if_neg h1, H.b3, if_neg]
    intro h2
    obtain ⟨j, hj, rfl⟩ := nI_of h1
    have h3 : j < hs.length := (nI_ltI hj (by omega)).1 h2
    have h4 : nI hs.length - 1 = nI (hs.length - 1) := by rw [show (1 : Int32) = nI 1 from rfl, pk_sub (by omega)]
    rw [h4] at ha
    have h5 : ¬ nI (hs.length - 1) < nI j := nI_nlt (by omega) (by omega)
    simp [inR, h1, h5] at ha
/-! signs as one number -/
theorem pkN_snoc (xs : List Nat) (x : Nat) : pkN (xs ++ [x]) = pkN xs + 16 ^ xs.length * x := by
  induction xs with
  | nil => simp [pkN]
  | cons a r ih => simp only [List.cons_append, pkN, ih, List.length_cons, Nat.pow_succ]; rw [Nat.mul_add, ← Nat.add_assoc, ← Nat.mul_assoc, Nat.mul_comm 16 (16 ^ r.length)]
theorem pkN_lt {xs : List Nat} (h : ∀ x ∈ xs, x < 16) : pkN xs < 16 ^ xs.length := by
  induction xs with
  | nil => simp [pkN]
  | cons a r ih =>
    have h1 := ih (fun x hx => h x (List.mem_cons_of_mem _ hx))
    have h2 := h a List.mem_cons_self
    simp only [pkN, List.length_cons, Nat.pow_succ]
    omega
theorem pkN_get {xs : List Nat} (h : ∀ x ∈ xs, x < 16) : ∀ i, i < xs.length → pkN xs / 16 ^ i % 16 = xs.getD i 0 := by
  induction xs with
  | nil => intro i hi; simp at hi
  | cons a r ih =>
    intro i hi
    have h2 := h a List.mem_cons_self
    cases i with
    | zero => simp only [pkN, Nat.pow_zero, Nat.div_one, List.getD_cons_zero]; omega
    | succ i =>
      rw [List.getD_cons_succ, ← ih (fun x hx => h x (List.mem_cons_of_mem _ hx)) i (by simpa using hi)]
      rw [Nat.pow_succ, Nat.mul_comm, ← Nat.div_div_eq_div_mul]
      congr 2
      simp only [pkN]
      omega
theorem pkN_inj : ∀ {xs ys : List Nat}, xs.length = ys.length → (∀ x ∈ xs, x < 16) → (∀ x ∈ ys, x < 16) → (pkN xs = pkN ys ↔ xs = ys) := by
  intro xs
  induction xs with
  | nil => intro ys hl _ _; cases ys with
    | nil => simp
    | cons b s => simp at hl
  | cons a r ih =>
    intro ys hl hx hy
    cases ys with
    | nil => simp at hl
    | cons b s =>
      have h1 := hx a List.mem_cons_self
      have h2 := hy b List.mem_cons_self
      have h3 := ih (ys := s) (by simpa using hl) (fun x hh => hx x (List.mem_cons_of_mem _ hh)) (fun x hh => hy x (List.mem_cons_of_mem _ hh))
      simp only [pkN, List.cons.injEq]
      rw [← h3]
      omega
theorem p16 (n : Nat) : (16 : Nat) ^ n = 2 ^ (4 * n) := by rw [Nat.pow_mul]
theorem pk_step {a x i : Nat} (hi : i < 7) (ha : a < 16 ^ i) (hx : x < 16) : nI a ||| (nI x <<< ((4 * nI i) &&& 31)) = nI (a + 16 ^ i * x) := by
  rw [show (4 : Int32) = nI 4 from rfl, pk_mul]
  have h1 : (16 : Nat) ^ i ≤ 16 ^ 6 := Nat.pow_le_pow_right (by decide) (by omega)
  have h2 : (2 : Nat) ^ (4 * i) ≤ 16 ^ 6 := by rw [← p16]; exact h1
  have h3 : x * 2 ^ (4 * i) < 2 ^ 32 := Nat.lt_of_le_of_lt (Nat.mul_le_mul (show x ≤ 16 by omega) h2) (by decide)
  rw [shl_nI (by omega) h3, fa_or, p16, Nat.mul_comm x, Nat.or_comm, ← Nat.two_pow_add_eq_or_of_lt (by rw [← p16]; exact ha), Nat.add_comm]
theorem sg_in {v i : Nat} (hi : i < 7) (hv : v < 2 ^ 31) : (nI v >>> ((4 * nI i) &&& 31)) &&& 15 = nI (v / 16 ^ i % 16) := by
  rw [show (4 : Int32) = nI 4 from rfl, pk_mul, shr_nI (by omega) hv, show (15 : Int32) = nI 15 from rfl, fa_and, p16]
  rw [show 15 = 2 ^ 4 - 1 from rfl, Nat.and_two_pow_sub_one_eq_mod]
/-- signs of all heaps, as a list -/
def sl (c w : Nat) (hs : List Ent) (l : Int32) : List Nat := hs.map fun e => sgN c w e l
theorem sgs_sl (c w : Nat) (hs : List Ent) (l : Int32) : sgs c w hs l = pkN (sl c w hs l) := rfl
theorem sl_len (c w : Nat) (hs : List Ent) (l : Int32) : (sl c w hs l).length = hs.length := by simp [sl]
theorem sl_le {c w : Nat} {hs : List Ent} (he : ∀ e ∈ hs, okE e) (l : Int32) : ∀ x ∈ sl c w hs l, x ≤ 10 := by
  intro x hx
  obtain ⟨e, h1, rfl⟩ := List.mem_map.1 hx
  exact sgX_lt (he e h1).2.2
theorem CB.ok (H : CB h c w b hs lc lw ps) : ∀ e ∈ hs, okE e := by
  intro e he
  obtain ⟨i, hi⟩ := List.getElem?_of_mem he
  exact (H.2.2.2.2.2 i e hi).1
theorem inN12 {c : Nat} (hc : c ≤ 12) (w : Nat) (e : Ent) : inN c w e < 4096 := by
  have h1 := inN_lt c w e
  have h2 : (2 : Nat) ^ c ≤ 2 ^ 12 := Nat.pow_le_pow_right (by decide) hc
  omega
theorem sl_lt {c w : Nat} {hs : List Ent} (he : ∀ e ∈ hs, okE e) (l : Int32) : ∀ x ∈ sl c w hs l, x < 16 := fun x hx => by have := sl_le he l x hx; omega
theorem sgs_lt {c w : Nat} {hs : List Ent} (hn : hs.length ≤ 7) (he : ∀ e ∈ hs, okE e) (l : Int32) : sgs c w hs l < 2 ^ 28 := by
  have h1 := pkN_lt (sl_lt (c := c) (w := w) he l)
  rw [sl_len] at h1
  have h2 : (16 : Nat) ^ hs.length ≤ 16 ^ 7 := Nat.pow_le_pow_right (by decide) hn
  exact Nat.lt_of_lt_of_le h1 h2
theorem sgs_take_succ (c w : Nat) {hs : List Ent} {i : Nat} {e : Ent} (hi : hs[i]? = some e) (l : Int32) : sgs c w (hs.take (i + 1)) l = sgs c w (hs.take i) l + 16 ^ i * sgN c w e l := by
  have h8 : i < hs.length := (List.getElem?_eq_some_iff.1 hi).1
  have h9 : hs.take (i + 1) = hs.take i ++ [e] := by
    rw [List.take_succ, hi]; rfl
  unfold sgs
  rw [h9, List.map_append, List.map_cons, List.map_nil, pkN_snoc]
  simp [Nat.min_eq_left (Nat.le_of_lt h8)]
theorem c_16 (H : CB h c w b hs lc lw ps) (d : Nat) (l : Int32) : call (d + 4) 16 [.ref 4, .int l] h = some (some (.int (nI (sgs c w hs l))), h) := by
  have hb := H.bd
  rw [e_16]
  refine up_ind (n := hs.length) (i := 0) (P := fun i => ∀ a4, ex (d + 3) 16 4 [sv (.ref 4), sv (.int l), sv (.int (nI (sgs c w (hs.take i) l))), sv (.int (nI i)), a4] [] h = some (some (.int (nI (sgs c w hs l))), h)) ?_ ?_ (by omega) none
  · intro a4
    rw [e_16_4, H.b3, if_neg (nI_nlt (Nat.le_refl _) (by omega)), List.take_length]
  · intro i hi ih a4
    obtain ⟨e, he⟩ : ∃ e, hs[i]? = some e := ⟨_, List.getElem?_eq_getElem hi⟩
    obtain ⟨p, h1, hp, h2, h3, h4⟩ := c_14 H (d + 2) he
    have h5 : sgs c w (hs.take i) l < 16 ^ i := by
      have := pkN_lt (sl_lt (c := c) (w := w) (fun e he => H.ok e (List.mem_of_mem_take he)) l (hs := hs.take i))
      rw [sl_len, List.length_take, Nat.min_eq_left (Nat.le_of_lt hi)] at this
      exact this
    have h6 : sgN c w e l < 16 := by have := sgX_lt (e := e) (x := l.toBitVec.toNat &&& inN c w e) h4; unfold sgN; omega
    rw [e_16_4, H.b3, if_pos (nI_lt hi (by omega)), H.v4, h1, cR_r, dA_ref, dA_ref, dN_ref, dA_ref, dR_ref, c_sign d hp h2 h4 (inN12 (by omega) w e), nI_1]
    have ih := ih (sv (.ref p))
    rw [sgs_take_succ c w he] at ih
    rw [← pk_step (by omega) h5 h6] at ih
    exact ih
end CBS
