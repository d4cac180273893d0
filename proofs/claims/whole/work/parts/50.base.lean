/-! loops, answers, small numbers as ints -/
def lp {σ : Type} (f : Nat → σ → σ) : Nat → σ → σ
  | 0, s => s
  | k + 1, s => f k (lp f k s)
theorem up_ind {n : Nat} {P : Nat → Prop} (h0 : P n) (hs : ∀ i, i < n → P (i + 1) → P i) {i : Nat} (hi : i ≤ n) : P i := by
  have key : ∀ k i, i + k = n → P i := by
    intro k
    induction k with
    | zero => intro i h; have : i = n := by omega
              subst this; exact h0
    | succ k ih => intro i h; exact hs i (by omega) (ih (i + 1) (by omega))
  exact key (n - i) i (by omega)
theorem lp_congr {σ : Type} {f g : Nat → σ → σ} {n : Nat} {s : σ} (h : ∀ j s, j < n → f j s = g j s) : lp f n s = lp g n s := by
  induction n with
  | zero => rfl
  | succ n ih => show f n _ = g n _; rw [ih (fun j s hj => h j s (by omega)), h n _ (by omega)]
theorem lp_inv {σ : Type} {f : Nat → σ → σ} {n : Nat} {s : σ} (I : Nat → σ → Prop) (h : ∀ j s, j < n → I j s → I (j + 1) (f j s)) (h0 : I 0 s) : I n (lp f n s) := by
  induction n with
  | zero => exact h0
  | succ n ih => exact h n _ (by omega) (ih (fun j s hj => h j s (by omega)))
theorem lp_sim {σ τ : Type} {f : Nat → σ → σ} {g : Nat → τ → τ} {n : Nat} {s : σ} {t : τ} (R : Nat → σ → τ → Prop) (h : ∀ j s t, j < n → R j s t → R (j + 1) (f j s) (g j t)) (h0 : R 0 s t) : R n (lp f n s) (lp g n t) := by
  induction n with
  | zero => exact h0
  | succ n ih => exact h n _ _ (by omega) (ih (fun j s t hj => h j s t (by omega)))
theorem fa_and (a b : Nat) : nI a &&& nI b = nI (a &&& b) := by
  apply Int32.toBitVec_inj.1
  show BitVec.ofNat 32 a &&& BitVec.ofNat 32 b = BitVec.ofNat 32 (a &&& b)
  apply BitVec.eq_of_getLsbD_eq
  intro i hi
  simp [hi]
theorem fa_or (a b : Nat) : nI a ||| nI b = nI (a ||| b) := by
  apply Int32.toBitVec_inj.1
  show BitVec.ofNat 32 a ||| BitVec.ofNat 32 b = BitVec.ofNat 32 (a ||| b)
  apply BitVec.eq_of_getLsbD_eq
  intro i hi
  simp [hi]
theorem fa_xor (a b : Nat) : nI a ^^^ nI b = nI (a ^^^ b) := by
  apply Int32.toBitVec_inj.1
  show BitVec.ofNat 32 a ^^^ BitVec.ofNat 32 b = BitVec.ofNat 32 (a ^^^ b)
  apply BitVec.eq_of_getLsbD_eq
  intro i hi
  simp [hi]
theorem nI_lit (n : Nat) : (OfNat.ofNat n : Int32) = nI n := rfl
theorem nI_tn (x : Int32) : x = nI x.toBitVec.toNat := by
  apply Int32.toBitVec_inj.1
  show x.toBitVec = BitVec.ofNat 32 x.toBitVec.toNat
  simp
theorem and_nI (x : Int32) (y : Nat) : ∃ z, z ≤ y ∧ z = x.toBitVec.toNat &&& y ∧ x &&& nI y = nI z := ⟨_, Nat.and_le_right, rfl, by conv => lhs; rw [nI_tn x, fa_and]⟩
theorem sm31 : ∀ i, i < 32 → ((nI i &&& 31).toBitVec.smod 32).toNat = i := by decide +kernel
theorem shl_nI {n i : Nat} (hi : i < 32) (h : n * 2 ^ i < 2 ^ 32) : nI n <<< (nI i &&& 31) = nI (n * 2 ^ i) := pk_shlN _ i (sm31 i hi) h
theorem shr_nI {n i : Nat} (hi : i < 32) (h : n < 2 ^ 31) : nI n >>> (nI i &&& 31) = nI (n / 2 ^ i) := pk_shrN h _ i (sm31 i hi)
theorem bit_nI {i : Nat} (hi : i < 31) : (1 : Int32) <<< (nI i &&& 31) = nI (2 ^ i) := by
  have h2 : (2 : Nat) ^ i < 2 ^ 32 := Nat.pow_lt_pow_right (by decide) (by omega)
  rw [show (1 : Int32) = nI 1 from rfl, shl_nI (by omega) (by omega), Nat.one_mul]
theorem and1_nI {n : Nat} : nI n &&& 1 = nI (n % 2) := by
  rw [show (1 : Int32) = nI 1 from rfl, fa_and, Nat.and_one_is_mod]
theorem hb_nI {n i : Nat} (hi : i < 31) (h : n < 2 ^ 31) : (nI n >>> (nI i &&& 31)) &&& 1 = nI (n / 2 ^ i % 2) := by
  rw [shr_nI (by omega) h, and1_nI]
/-- a bit of an int, as 0 or 1 -/
theorem m2_cases (n : Nat) : n % 2 = 0 ∨ n % 2 = 1 := by omega
theorem nI_lt0 {a b : Nat} (ha : a < 2 ^ 31) (hb : b < 2 ^ 31) : (nI a < nI b) = (a < b) := propext (nI_ltI ha hb)
theorem nI_eq0 {a b : Nat} (ha : a < 2 ^ 31) (hb : b < 2 ^ 31) : (nI a = nI b) = (a = b) := propext (nI_eq ha hb)
/-! sets of cards; heaps by kind, members, more -/
abbrev Ent : Type := Nat × Nat × Nat
def tg : Nat → Nat
  | 0 => 3
  | 1 => 6
  | 2 => 2
  | 3 => 1
  | 4 => 8
  | _ => 10
def fig (r i : Nat) : Bool := decide (i / 2 ^ (r % 4) % 2 = 1)
def mem1 (m i : Nat) : Bool := decide (m / 2 ^ i % 2 = 1)
def isin (w : Nat) (e : Ent) (i : Nat) : Bool := match e.1 with
  | 1 => decide (i / w = e.2.2)
  | 2 => fig e.2.2 i
  | 3 => decide (i % w = e.2.2)
  | 5 => fig e.2.2 i != mem1 e.2.1 i
  | _ => mem1 e.2.1 i
def inN (c w : Nat) (e : Ent) : Nat := lp (fun i s => s ||| (if isin w e i then 2 ^ i else 0)) c 0
theorem inN_lt (c w : Nat) (e : Ent) : inN c w e < 2 ^ c := by
  unfold inN
  refine lp_inv (fun i s => s < 2 ^ i) ?_ (by decide)
  intro j s _ h
  have h2 : (2 : Nat) ^ (j + 1) = 2 ^ j + 2 ^ j := by rw [Nat.pow_succ]; omega
  apply Nat.or_lt_two_pow
  · omega
  · split
    · exact Nat.pow_lt_pow_right (by decide) (by omega)
    · exact Nat.two_pow_pos _
def onN (x : Nat) : Nat := lp (fun i s => s + x / 2 ^ i % 2) 12 0
def wtN (x : Nat) : Nat := lp (fun i s => s + x / 2 ^ i % 2 * (i + 1)) 12 0
/-- the sign of a heap of kind k, more r, by the set x of those that lie in it and show their backs -/
def sgX (e : Ent) (x : Nat) : Nat := match e.1 with
  | 4 => wtN x % (e.2.2 + 2)
  | 5 => 1 - onN x % 2
  | _ => onN x % 2
def sgN (c w : Nat) (e : Ent) (l : Int32) : Nat := sgX e (l.toBitVec.toNat &&& inN c w e)
theorem sgX_lt {e : Ent} {x : Nat} (h : e.2.2 ≤ 9) : sgX e x ≤ 10 := by
  unfold sgX
  split
  · have := Nat.mod_lt (wtN x) (show 0 < e.2.2 + 2 by omega); omega
  · omega
  · omega
/-- signs of all heaps as one number -/
def pkN : List Nat → Nat
  | [] => 0
  | x :: r => x + 16 * pkN r
def sgs (c w : Nat) (hs : List Ent) (l : Int32) : Nat := pkN (hs.map fun e => sgN c w e l)
def bI (p : Bool) : Int32 := bif p then 1 else 0
theorem bI_0 (p : Bool) : (bI p = 0) = (p = false) := by cases p <;> simp [bI]
theorem zr_bI {α : Type} (no : α) (p : Bool) (k : α) : zr no (bI p) k = k := by cases p <;> simp [zr, bI]
theorem zr_0 {α : Type} (no k : α) : zr no 0 k = k := by simp [zr]
theorem zr_1 {α : Type} (no k : α) : zr no 1 k = k := by simp [zr]
/-! the shared methods that read no heap -/
def inR (a l m : Int32) : Bool := !decide (a < l) && !decide (m < a)
theorem c_133 (d : Nat) (a l m : Int32) (h : MHeap) : call (d + 1) 133 [.int a, .int l, .int m] h = some (some (.int (bI (inR a l m))), h) := by
  rw [e_133]
  by_cases h1 : a < l <;> by_cases h2 : m < a <;> simp [h1, h2, inR, zr, bI]
theorem c_134 (d : Nat) (a : Int32) (h : MHeap) : call (d + 2) 134 [.int a] h = some (some (.int (bI (inR a 0 255))), h) := by
  rw [e_134, c_133]
  simp only [cI, zr_bI]
theorem c_137 (d : Nat) (a b : Int32) (h : MHeap) : call (d + 1) 137 [.int a, .int b] h = some (some (.int (bI (!decide ((a >>> (b &&& 31)) &&& 1 = 0)))), h) := by
  rw [e_137]
  by_cases h1 : (a >>> (b &&& 31)) &&& 1 = 0 <;> simp [h1, zr, bI]
theorem c_1 (d : Nat) {a w : Nat} (ha : a < 2 ^ 31) (h0 : 0 < w) (hw : w < 2 ^ 31) (h : MHeap) : call (d + 1) 1 [.int (nI a), .int (nI w)] h = some (some (.int (nI (a / w))), h) := by
  rw [e_1, if_pos (show (0 : Int32) < nI w from nI_lt h0 hw)]
  simp [dv, nI_ne0 h0 hw, pk_div ha h0 hw]
theorem c_2 (d : Nat) {a w : Nat} (ha : a < 2 ^ 31) (h0 : 0 < w) (hw : w < 2 ^ 31) (h : MHeap) : call (d + 1) 2 [.int (nI a), .int (nI w)] h = some (some (.int (nI (a % w))), h) := by
  rw [e_2, if_pos (show (0 : Int32) < nI w from nI_lt h0 hw)]
  simp [dv, nI_ne0 h0 hw, pk_rem ha h0 hw]
/-- Integer.bitCount -/
def bc1 (a0 : Int32) : Int32 := a0 - ((Int32.toUInt32 a0 >>> (Int32.toUInt32 (1 : Int32) &&& Int32.toUInt32 31)).toInt32 &&& (1431655765 : Int32))
def bc2 (a0 : Int32) : Int32 := (a0 &&& (858993459 : Int32)) + ((Int32.toUInt32 a0 >>> (Int32.toUInt32 (2 : Int32) &&& Int32.toUInt32 31)).toInt32 &&& (858993459 : Int32))
def bc3 (a0 : Int32) : Int32 := (a0 + (Int32.toUInt32 a0 >>> (Int32.toUInt32 (4 : Int32) &&& Int32.toUInt32 31)).toInt32) &&& (252645135 : Int32)
def bc4 (a0 : Int32) : Int32 := a0 + (Int32.toUInt32 a0 >>> (Int32.toUInt32 (8 : Int32) &&& Int32.toUInt32 31)).toInt32
def bc5 (a0 : Int32) : Int32 := a0 + (Int32.toUInt32 a0 >>> (Int32.toUInt32 (16 : Int32) &&& Int32.toUInt32 31)).toInt32
def bcI (a : Int32) : Int32 := bc5 (bc4 (bc3 (bc2 (bc1 a)))) &&& 63
theorem c_260 (d : Nat) (a : Int32) (h : MHeap) : call (d + 1) 260 [.int a] h = some (some (.int (bcI a)), h) := by
  rw [e_260, e_260_10, e_260_24, e_260_34, e_260_41, e_260_48]
  rfl
theorem bc_tab0 : ∀ a, a < 64 → ∀ b, b < 64 → bcI (nI (64 * a + b)) = nI (onN (64 * a + b)) := by decide +kernel
theorem bc_tab (x : Nat) (h : x < 4096) : bcI (nI x) = nI (onN x) := by
  have := bc_tab0 (x / 64) (by omega) (x % 64) (by omega)
  rwa [Nat.div_add_mod] at this
theorem c_138 (d : Nat) {x : Nat} (hx : x < 4096) (h : MHeap) : call (d + 2) 138 [.int (nI x)] h = some (some (.int (nI (onN x))), h) := by
  rw [e_138, if_neg, c_260]
  · simp only [cI, bc_tab x hx]
  · intro e
    have := nI_pos (n := x) (by omega)
    rw [e] at this
    exact this (by decide)
theorem c_138n (d : Nat) (h : MHeap) : call (d + 2) 138 [.int (-1)] h = some (some (.int (-1)), h) := by
  rw [e_138, if_pos rfl]
