/-! the reference's tokens -/
/-- its order of the words -/
def rho (k : Nat) : Nat := if k < 3 then k else if k < 6 then k + 6 else k - 3
def tau (r : Nat) : Nat := if r < 3 then r else if r < 9 then r + 3 else r - 6
theorem rho_tau : ∀ r, r < 12 → rho (tau r) = r ∧ tau r < 12 ∧ tau (rho r) = r ∧ rho r < 12 := by decide +kernel
theorem wdsT : ∀ r, r < 12 → ∀ j, j < 8 → wds.getD (8 * r + j) 0 = (if j < wln.getD (tau r) 0 then nI (wch.getD (wst.getD (tau r) 0 + j) 0) else 32) ∧ wln.getD (tau r) 0 ≤ 8 := by decide +kernel
theorem wlet : ∀ k, k < 12 → ∀ j, j < 8 → j < wln.getD k 0 → 97 ≤ wch.getD (wst.getD k 0 + j) 0 ∧ wch.getD (wst.getD k 0 + j) 0 ≤ 122 := by decide +kernel
theorem wuni : ∀ k, k < 12 → ∀ l, l < 12 → wln.getD k 0 = wln.getD l 0 → allq (fun j => decide (wch.getD (wst.getD k 0 + j) 0 = wch.getD (wst.getD l 0 + j) 0)) (wln.getD k 0) = true → k = l := by decide +kernel
theorem mwq_iff {tp : List Nat} {q e k : Nat} : mwq tp q e k = true ↔ wln.getD k 0 = e - q ∧ ∀ j, j < wln.getD k 0 → wch.getD (wst.getD k 0 + j) 0 = by1 tp (q + j) := by
  unfold mwq
  rw [Bool.and_eq_true, decide_eq_true_iff, allq_iff]
  constructor
  · rintro ⟨h1, h2⟩; exact ⟨h1, fun j hj => of_decide_eq_true (h2 j hj)⟩
  · rintro ⟨h1, h2⟩; exact ⟨h1, fun j hj => decide_eq_true (h2 j hj)⟩
theorem mwq_uni {tp : List Nat} {q e k l : Nat} (hk : k < 12) (hl : l < 12) (h1 : mwq tp q e k = true) (h2 : mwq tp q e l = true) : k = l := by
  rw [mwq_iff] at h1 h2
  refine wuni k hk l hl (h1.1.trans h2.1.symm) (allq_iff.2 fun j hj => decide_eq_true ?_)
  rw [h1.2 j hj, h2.2 j (by rw [h2.1, ← h1.1]; exact hj)]
theorem fst1_some {q : Nat → Bool} : ∀ m i k, fst1 q m i = some k → i ≤ k ∧ k < i + m ∧ q k = true := by
  intro m
  induction m with
  | zero => intro i k x; cases x
  | succ m ih =>
    intro i k x
    have x : (if q i then some i else fst1 q m (i + 1)) = some k := x
    split at x
    · cases x; exact ⟨Nat.le_refl _, by omega, by assumption⟩
    · have := ih _ _ x; exact ⟨by omega, by omega, this.2.2⟩
theorem fst1_none {q : Nat → Bool} : ∀ m i, fst1 q m i = none → ∀ k, i ≤ k → k < i + m → q k = false := by
  intro m
  induction m with
  | zero => intro i _ k h1 h2; omega
  | succ m ih =>
    intro i x k h1 h2
    have x : (if q i then some i else fst1 q m (i + 1)) = none := x
    split at x
    · cases x
    · rename_i hq
      by_cases z : k = i
      · subst z; simpa using hq
      · exact ih _ x k (by omega) (by omega)
/-- what the reference calls a word: 12 is none -/
def rwd (tp : List Nat) (q e : Nat) : Nat := match fst1 (mwq tp q e) 12 0 with
  | some k => rho k
  | none => 12
section RLEX
variable {h : MHeap} {F : Nat → Int32} {A : Nat → List Int32} {tp : List Nat}
theorem r_180 (H : RH h F A) (hb : ∀ i, i < tp.length → (A 32).getD i 0 = nI (by1 tp i)) (hw : A 39 = wds) (ht : tp.length ≤ 160) (o6 : ∀ x ∈ tp, x < 256) {q e : Nat} (he : e ≤ tp.length) (hq : q < e) (hl : ∀ j, q ≤ j → j < e → isLt (by1 tp j) = true) (d : Nat) : call (d + 1) 180 [.ref 28, .int (nI q), .int (nI e)] h = some (some (.int (nI (rwd tp q e))), h) := by
  -- one place of one word
  let cnd : Nat → Nat → Bool := fun r j => if q + j < e then decide (wds.getD (8 * r + j) 0 = nI (by1 tp (q + j))) else decide (wds.getD (8 * r + j) 0 = 32)
  have inner : ∀ r, r < 12 → ∀ j, j ≤ 8 → ∀ fl : Bool, ((fl = true ∧ ∀ i, j ≤ i → i < 8 → cnd r i = true) → ex d 180 26 [sv (.ref 28), sv (.int (nI q)), sv (.int (nI e)), sv (.int (nI r)), sv (.int (bI fl)), sv (.int (nI j))] [] h = some (some (.int (nI r)), h)) ∧ (¬ (fl = true ∧ ∀ i, j ≤ i → i < 8 → cnd r i = true) → ∃ a4 a5, ex d 180 26 [sv (.ref 28), sv (.int (nI q)), sv (.int (nI e)), sv (.int (nI r)), sv (.int (bI fl)), sv (.int (nI j))] [] h = ex d 180 2 [sv (.ref 28), sv (.int (nI q)), sv (.int (nI e)), sv (.int (nI (r + 1))), a4, a5] [] h) := by
    intro r hr j hj
    refine up_ind (n := 8) (P := fun j => ∀ fl : Bool, ((fl = true ∧ ∀ i, j ≤ i → i < 8 → cnd r i = true) → ex d 180 26 [sv (.ref 28), sv (.int (nI q)), sv (.int (nI e)), sv (.int (nI r)), sv (.int (bI fl)), sv (.int (nI j))] [] h = some (some (.int (nI r)), h)) ∧ (¬ (fl = true ∧ ∀ i, j ≤ i → i < 8 → cnd r i = true) → ∃ a4 a5, ex d 180 26 [sv (.ref 28), sv (.int (nI q)), sv (.int (nI e)), sv (.int (nI r)), sv (.int (bI fl)), sv (.int (nI j))] [] h = ex d 180 2 [sv (.ref 28), sv (.int (nI q)), sv (.int (nI e)), sv (.int (nI (r + 1))), a4, a5] [] h)) ?_ ?_ hj
    · intro fl
      cases fl with
      | true =>
        refine ⟨fun _ => ?_, fun z => absurd ⟨rfl, fun i h1 h2 => by omega⟩ z⟩
        rw [e_180_26, if_neg (by decide), if_neg (by decide)]
      | false =>
        refine ⟨fun z => (by cases z.1), fun _ => ⟨sv (.int (bI false)), sv (.int (nI 8)), ?_⟩⟩
        rw [e_180_26, if_neg (by decide), if_pos (by decide), nI_1]
    · intro j hj ih fl
      cases fl with
      | false =>
        refine ⟨fun z => (by cases z.1), fun _ => ⟨sv (.int (bI false)), sv (.int (nI j)), ?_⟩⟩
        rw [e_180_26, if_pos (show nI j < (8 : Int32) from nI_lt (b := 8) hj (by decide)), if_pos (by decide), if_pos (by decide), nI_1]
      | true =>
        have st : ex d 180 26 [sv (.ref 28), sv (.int (nI q)), sv (.int (nI e)), sv (.int (nI r)), sv (.int (bI true)), sv (.int (nI j))] [] h = ex d 180 26 [sv (.ref 28), sv (.int (nI q)), sv (.int (nI e)), sv (.int (nI r)), sv (.int (bI (cnd r j))), sv (.int (nI (j + 1)))] [] h := by
          have z9 : (96 : Nat) = asz 39 := rfl
          rw [e_180_26, if_pos (show nI j < (8 : Int32) from nI_lt (b := 8) hj (by decide)), if_neg (by decide), H.f27, dR_ref, show (8 : Int32) = nI 8 from rfl, pk_mul, nI_add, H.al (by decide) (by decide) (by rw [← z9]; omega), nI_add, hw, nI_1]
          show _ = ex d 180 26 [sv (.ref 28), sv (.int (nI q)), sv (.int (nI e)), sv (.int (nI r)), sv (.int (bI (if q + j < e then decide (wds.getD (8 * r + j) 0 = nI (by1 tp (q + j))) else decide (wds.getD (8 * r + j) 0 = 32)))), sv (.int (nI (j + 1)))] [] h
          by_cases y : q + j < e
          · rw [if_pos (nI_lt y (by omega)), if_pos y, H.f7, dR_ref, H.al (by decide) (by decide) (show q + j < 160 by omega), hb (q + j) (by omega)]
            by_cases w : wds.getD (8 * r + j) 0 = nI (by1 tp (q + j))
            · rw [if_pos w, decide_eq_true w]; rfl
            · rw [if_neg w, decide_eq_false w]; rfl
          · rw [if_neg (nI_nlt (by omega) (by omega)), if_neg y]
            by_cases w : wds.getD (8 * r + j) 0 = 32
            · rw [if_pos w, decide_eq_true w]; rfl
            · rw [if_neg w, decide_eq_false w]; rfl
        rw [st]
        have := ih (cnd r j)
        refine ⟨fun z => this.1 ⟨z.2 j (Nat.le_refl _) hj, fun i h1 h2 => z.2 i (by omega) h2⟩, fun z => this.2 (fun w => z ⟨rfl, fun i h1 h2 => ?_⟩)⟩
        by_cases v : i = j
        · subst v; exact w.1
        · exact w.2 i (by omega) h2
  have eqv : ∀ r, r < 12 → (e - q ≤ 8 ∧ (∀ i, 0 ≤ i → i < 8 → cnd r i = true) ↔ mwq tp q e (tau r) = true) := by
    intro r hr
    have wt := wdsT r hr
    have tr := (rho_tau r hr).2.1
    have l8 := (wt 0 (by decide)).2
    have let2 : ∀ j, q ≤ j → j < e → 97 ≤ by1 tp j ∧ by1 tp j < 256 := by
      intro j h1 h2
      have := hl j h1 h2
      unfold isLt at this
      rw [Bool.and_eq_true] at this
      exact ⟨Nat.le_of_ble_eq_true this.1, by_lt o6 (by omega)⟩
    rw [mwq_iff]
    constructor
    · rintro ⟨h8, hc⟩
      have ln : wln.getD (tau r) 0 = e - q := by
        rcases Nat.lt_trichotomy (wln.getD (tau r) 0) (e - q) with z | z | z
        · have c1 := hc (wln.getD (tau r) 0) (Nat.zero_le _) (by omega)
          have c1 : (if q + wln.getD (tau r) 0 < e then decide (wds.getD (8 * r + wln.getD (tau r) 0) 0 = nI (by1 tp (q + wln.getD (tau r) 0))) else decide (wds.getD (8 * r + wln.getD (tau r) 0) 0 = 32)) = true := c1
          rw [if_pos (by omega), (wt _ (by omega)).1, if_neg (by omega), decide_eq_true_iff] at c1
          have := let2 (q + wln.getD (tau r) 0) (by omega) (by omega)
          have := (nI_eq (a := 32) (by decide) (by omega)).1 c1
          omega
        · exact z
        · have c1 := hc (e - q) (Nat.zero_le _) (by omega)
          have c1 : (if q + (e - q) < e then decide (wds.getD (8 * r + (e - q)) 0 = nI (by1 tp (q + (e - q)))) else decide (wds.getD (8 * r + (e - q)) 0 = 32)) = true := c1
          rw [if_neg (by omega), (wt _ (by omega)).1, if_pos z, decide_eq_true_iff] at c1
          have w := wlet (tau r) tr (e - q) (by omega) z
          have := (nI_eq (b := 32) (by omega) (by decide)).1 c1
          omega
      refine ⟨ln, fun j hj => ?_⟩
      have c1 := hc j (Nat.zero_le _) (by omega)
      have c1 : (if q + j < e then decide (wds.getD (8 * r + j) 0 = nI (by1 tp (q + j))) else decide (wds.getD (8 * r + j) 0 = 32)) = true := c1
      rw [if_pos (by omega), (wt j (by omega)).1, if_pos hj, decide_eq_true_iff] at c1
      have w := wlet (tau r) tr j (by omega) hj
      have b := let2 (q + j) (by omega) (by omega)
      exact (nI_eq (by omega) (by omega)).1 c1
    · rintro ⟨ln, hc⟩
      refine ⟨by omega, fun j _ hj => ?_⟩
      show (if q + j < e then decide (wds.getD (8 * r + j) 0 = nI (by1 tp (q + j))) else decide (wds.getD (8 * r + j) 0 = 32)) = true
      by_cases y : q + j < e
      · rw [if_pos y, (wt j hj).1, if_pos (by omega), hc j (by omega)]
        exact decide_eq_true rfl
      · rw [if_neg y, (wt j hj).1, if_neg (by omega)]
        exact decide_eq_true rfl
  have outer : ∀ r, r < 12 → ∀ a4 a5, ∃ b4 b5, ex d 180 2 [sv (.ref 28), sv (.int (nI q)), sv (.int (nI e)), sv (.int (nI r)), a4, a5] [] h = if mwq tp q e (tau r) = true then some (some (.int (nI r)), h) else ex d 180 2 [sv (.ref 28), sv (.int (nI q)), sv (.int (nI e)), sv (.int (nI (r + 1))), b4, b5] [] h := by
    intro r hr a4 a5
    rw [e_180_2, if_pos (show nI r < (12 : Int32) from nI_lt (b := 12) hr (by decide)), pk_sub (by omega)]
    have E := eqv r hr
    by_cases y : 8 < e - q
    · rw [if_pos (show (8 : Int32) < nI (e - q) from nI_lt (a := 8) y (by omega))]
      obtain ⟨b4, b5, w⟩ := (inner r hr 0 (by decide) false).2 (fun z => by cases z.1)
      refine ⟨b4, b5, ?_⟩
      rw [if_neg (fun z => by have := (E.2 z).1; omega)]
      exact w
    · rw [if_neg (show ¬ (8 : Int32) < nI (e - q) from nI_nlt (a := 8) (by omega) (by decide))]
      by_cases z : mwq tp q e (tau r) = true
      · refine ⟨none, none, ?_⟩
        rw [if_pos z]
        exact (inner r hr 0 (by decide) true).1 ⟨rfl, (E.2 z).2⟩
      · obtain ⟨b4, b5, w⟩ := (inner r hr 0 (by decide) true).2 (fun v => z (E.1 ⟨by omega, v.2⟩))
        refine ⟨b4, b5, ?_⟩
        rw [if_neg z]
        exact w
  rw [e_180]
  unfold rwd
  cases x : fst1 (mwq tp q e) 12 0 with
  | none =>
    have no := fst1_none 12 0 x
    have : ∀ r, r ≤ 12 → ∀ a4 a5, ex d 180 2 [sv (.ref 28), sv (.int (nI q)), sv (.int (nI e)), sv (.int (nI r)), a4, a5] [] h = some (some (.int (nI 12)), h) := by
      intro r hr
      refine up_ind (n := 12) (P := fun r => ∀ a4 a5, ex d 180 2 [sv (.ref 28), sv (.int (nI q)), sv (.int (nI e)), sv (.int (nI r)), a4, a5] [] h = some (some (.int (nI 12)), h)) ?_ ?_ hr
      · intro a4 a5
        rw [e_180_2, if_neg (by decide)]
        rfl
      · intro r hr ih a4 a5
        obtain ⟨b4, b5, w⟩ := outer r hr a4 a5
        rw [w, if_neg (by rw [no _ (Nat.zero_le _) (by have := (rho_tau r hr).2.1; omega)]; decide)]
        exact ih b4 b5
    exact this 0 (by decide) none none
  | some k =>
    obtain ⟨_, hk, hk2⟩ := fst1_some 12 0 k x
    have hk : k < 12 := by omega
    have rk := rho_tau k hk
    have : ∀ r, r ≤ rho k → ∀ a4 a5, ex d 180 2 [sv (.ref 28), sv (.int (nI q)), sv (.int (nI e)), sv (.int (nI r)), a4, a5] [] h = some (some (.int (nI (rho k))), h) := by
      intro r hr
      refine up_ind (n := rho k) (P := fun r => ∀ a4 a5, ex d 180 2 [sv (.ref 28), sv (.int (nI q)), sv (.int (nI e)), sv (.int (nI r)), a4, a5] [] h = some (some (.int (nI (rho k))), h)) ?_ ?_ hr
      · intro a4 a5
        obtain ⟨b4, b5, w⟩ := outer (rho k) rk.2.2.2 a4 a5
        rw [w, rk.2.2.1, if_pos hk2]
      · intro r hr ih a4 a5
        obtain ⟨b4, b5, w⟩ := outer r (by omega) a4 a5
        rw [w, if_neg (fun z => by
          have := mwq_uni (rho_tau r (by omega)).2.1 hk z hk2
          have r2 := (rho_tau r (by omega)).1
          rw [this] at r2
          omega)]
        exact ih b4 b5
    exact this 0 (Nat.zero_le _) none none
end RLEX
/-! the reference's next token -/
def rtT (t : Nat) : Int32 := if t < 3 then 3 else if t < 6 then nI (t + 1) else if t < 12 then 2 else if t = 20000 then 0 else if t = 20001 then -1 else if 1000 ≤ t then 1 else nI t
def RTK (t : Nat) (c v : Int32) : Prop := c = rtT t ∧ (t < 3 → v = nI t) ∧ (6 ≤ t ∧ t ≤ 11 → v = nI (t - 6)) ∧ (1000 ≤ t ∧ t < 20000 → v = nI (t - 1000))
def FN (F F' : Nat → Int32) : Prop := ∀ k, (k < 23 ∨ 26 < k) → F' k = F k
theorem FN.rf (F : Nat → Int32) : FN F F := fun _ _ => rfl
theorem FN.st {F F' : Nat → Int32} (a : FN F F') {j : Nat} (hj : 23 ≤ j ∧ j ≤ 26) (x : Int32) : FN F (fu F' j x) := fun k hk => by
  rw [fu_ne _ _ (by omega)]; exact a k hk
theorem xt_stop {q : Nat → Bool} {tp : List Nat} : ∀ m i, i + m = tp.length → xt q tp m i < tp.length → q (by1 tp (xt q tp m i)) = false := by
  intro m
  induction m with
  | zero => intro i hi h; have h : i < tp.length := h; omega
  | succ m ih =>
    intro i hi h
    have e : xt q tp (m + 1) i = if decide (i < tp.length) && q (by1 tp i) then xt q tp m (i + 1) else i := rfl
    rw [decide_eq_true (show i < tp.length by omega), Bool.true_and] at e
    cases z : q (by1 tp i) with
    | true =>
      rw [z, if_pos rfl] at e
      rw [e] at h ⊢
      exact ih (i + 1) (by omega) h
    | false =>
      rw [z, if_neg (by decide)] at e
      rw [e]; exact z
theorem xt_hd {q : Nat → Bool} {tp : List Nat} {b : Nat} (hb : b < tp.length) (hq : q (by1 tp b) = true) : xt q tp (tp.length - b) b = xt q tp (tp.length - (b + 1)) (b + 1) := by
  rw [show tp.length - b = (tp.length - (b + 1)) + 1 by omega]
  show (if decide (b < tp.length) && q (by1 tp b) then xt q tp (tp.length - (b + 1)) (b + 1) else b) = _
  rw [decide_eq_true hb, hq]
  rfl
theorem inR_Lt : ∀ x, x < 256 → inR (nI x) 97 122 = isLt x := by decide +kernel
theorem inR_Dg : ∀ x, x < 256 → inR (nI x) 48 57 = isDg x := by decide +kernel
theorem mkc {x : Nat} (hx : x < 256) (P Q : MRes) : (if nI x = (40 : Int32) then P else if nI x = (41 : Int32) then P else if nI x = (59 : Int32) then P else if nI x = (43 : Int32) then P else if nI x = (45 : Int32) then P else if nI x = (42 : Int32) then P else if nI x = (60 : Int32) then P else if nI x = (61 : Int32) then P else Q) = if isMk x = true then P else Q := by
  have c : ∀ a, a < 256 → ((nI x = nI a) = (x = a)) := fun a ha => propext (cmpB hx ha)
  simp only [show (nI x = (40 : Int32)) = (x = 40) from c 40 (by decide), show (nI x = (41 : Int32)) = (x = 41) from c 41 (by decide), show (nI x = (59 : Int32)) = (x = 59) from c 59 (by decide), show (nI x = (43 : Int32)) = (x = 43) from c 43 (by decide), show (nI x = (45 : Int32)) = (x = 45) from c 45 (by decide), show (nI x = (42 : Int32)) = (x = 42) from c 42 (by decide), show (nI x = (60 : Int32)) = (x = 60) from c 60 (by decide), show (nI x = (61 : Int32)) = (x = 61) from c 61 (by decide)]
  by_cases a1 : x = 40
  · subst a1; rfl
  by_cases a2 : x = 41
  · subst a2; rfl
  by_cases a3 : x = 59
  · subst a3; rfl
  by_cases a4 : x = 43
  · subst a4; rfl
  by_cases a5 : x = 45
  · subst a5; rfl
  by_cases a6 : x = 42
  · subst a6; rfl
  by_cases a7 : x = 60
  · subst a7; rfl
  by_cases a8 : x = 61
  · subst a8; rfl
  rw [if_neg a1, if_neg a2, if_neg a3, if_neg a4, if_neg a5, if_neg a6, if_neg a7, if_neg a8, if_neg]
  unfold isMk
  simp [a1, a2, a3, a4, a5, a6, a7, a8]
noncomputable def nxW (d : Nat) (x : Int32) (h : MHeap) : MRes := gfI none h 28 [12] 24 fun x9 => gfI none h 28 [12] 23 fun x10 => vd none h 28 [12, 180] fun m11 => cI (call d m11 [.ref 28, .int x9, .int x10] h) fun x13 h12 => if x13 < 3 then (pfI none h12 28 [12] 25 3 fun h14 => if x13 < 3 then ex d 181 211 [sv (.ref 28), sv (.int x), sv (.int x13)] [.int x13, .ref 28] h14 else ex d 181 211 [sv (.ref 28), sv (.int x), sv (.int x13)] [.int (x13 - 3), .ref 28] h14) else if x13 < 9 then (pfI none h12 28 [12] 25 2 fun h14 => if x13 < 3 then ex d 181 211 [sv (.ref 28), sv (.int x), sv (.int x13)] [.int x13, .ref 28] h14 else ex d 181 211 [sv (.ref 28), sv (.int x), sv (.int x13)] [.int (x13 - 3), .ref 28] h14) else if x13 = 12 then (pfI none h12 28 [12] 25 (-1) fun h14 => if x13 < 3 then ex d 181 211 [sv (.ref 28), sv (.int x), sv (.int x13)] [.int x13, .ref 28] h14 else ex d 181 211 [sv (.ref 28), sv (.int x), sv (.int x13)] [.int (x13 - 3), .ref 28] h14) else (pfI none h12 28 [12] 25 (4 + x13 - 9) fun h14 => if x13 < 3 then ex d 181 211 [sv (.ref 28), sv (.int x), sv (.int x13)] [.int x13, .ref 28] h14 else ex d 181 211 [sv (.ref 28), sv (.int x), sv (.int x13)] [.int (x13 - 3), .ref 28] h14)
/-- what a token leaves -/
def NXR (h : MHeap) (F : Nat → Int32) (A : Nat → List Int32) (b e t : Nat) (r : MRes) : Prop := ∃ h' F', r = some (none, h') ∧ RH h' F' A ∧ Fr h h' ∧ FN F F' ∧ F' 23 = nI e ∧ F' 24 = nI b ∧ RTK t (F' 25) (F' 26)
section RNX
variable {h : MHeap} {F : Nat → Int32} {A : Nat → List Int32} {tp : List Nat}
theorem r_211 {h1 : MHeap} {F1 : Nat → Int32} (H : RH h1 F1 A) (G : Fr h h1) (N : FN F F1) {b e t : Nat} (e3 : F1 23 = nI e) (e4 : F1 24 = nI b) (x w v : Int32) (R : RTK t (F1 25) v) (d : Nat) : NXR h F A b e t (ex d 181 211 [sv (.ref 28), sv (.int x), sv (.int w)] [.int v, .ref 28] h1) := by
  refine ⟨_, _, ?_, H.setF (fu F1 26 v), G.tr (Fr.st _ (by decide) (by decide) _), N.st (by decide) v, by rw [fu_ne _ _ (by decide)]; exact e3, by rw [fu_ne _ _ (by decide)]; exact e4, by rw [fu_ne _ _ (by decide), fu_eq]; exact R⟩
  rw [e_181_211, H.p26]
theorem nx_w {h1 : MHeap} {F1 : Nat → Int32} (H : RH h1 F1 A) (G : Fr h h1) (N : FN F F1) (hb : ∀ i, i < tp.length → (A 32).getD i 0 = nI (by1 tp i)) (hw : A 39 = wds) (ht : tp.length ≤ 160) (o6 : ∀ x ∈ tp, x < 256) {b e : Nat} (he : e ≤ tp.length) (hq : b < e) (hl : ∀ j, b ≤ j → j < e → isLt (by1 tp j) = true) (e3 : F1 23 = nI e) (e4 : F1 24 = nI b) (x : Int32) (d : Nat) : NXR h F A b e (wdt tp b e) (nxW (d + 1) x h1) := by
  unfold nxW
  have v : ∀ (m : Nat) (K : Nat → MRes), vd none h1 28 [12, m] K = K m := fun m K => H.v m K
  rw [H.f24, H.f23, e3, e4, v, r_180 H hb hw ht o6 he hq hl, cI_s]
  have P : ∀ c : Int32, RH (h1.set 28 (rC (fu F1 25 c))) (fu F1 25 c) A ∧ Fr h (h1.set 28 (rC (fu F1 25 c))) ∧ FN F (fu F1 25 c) ∧ (fu F1 25 c) 23 = nI e ∧ (fu F1 25 c) 24 = nI b ∧ (fu F1 25 c) 25 = c := fun c => ⟨H.setF _, G.tr (Fr.st _ (by decide) (by decide) _), N.st (by decide) c, by rw [fu_ne _ _ (by decide)]; exact e3, by rw [fu_ne _ _ (by decide)]; exact e4, fu_eq _ _ _⟩
  cases z : fst1 (mwq tp b e) 12 0 with
  | none =>
    rw [show rwd tp b e = 12 by unfold rwd; rw [z], show wdt tp b e = 20001 by unfold wdt; rw [z]]
    obtain ⟨p1, p2, p3, p4, p5, p6⟩ := P (-1)
    rw [if_neg (by decide), if_neg (by decide), if_pos (by decide), H.p25, if_neg (by decide)]
    exact r_211 (t := 20001) p1 p2 p3 p4 p5 _ _ _ ⟨p6, fun y => by omega, fun y => by omega, fun y => by omega⟩ _
  | some k =>
    have hk : k < 12 := by have := (fst1_some 12 0 k z).2.1; omega
    rw [show rwd tp b e = rho k by unfold rwd; rw [z], show wdt tp b e = k by unfold wdt; rw [z]]
    by_cases k3 : k < 3
    · obtain ⟨p1, p2, p3, p4, p5, p6⟩ := P 3
      rw [show rho k = k from if_pos k3, if_pos (show nI k < (3 : Int32) from nI_lt (b := 3) k3 (by decide)), H.p25, if_pos (show nI k < (3 : Int32) from nI_lt (b := 3) k3 (by decide))]
      exact r_211 p1 p2 p3 p4 p5 _ _ _ ⟨by rw [p6]; unfold rtT; rw [if_pos k3], fun y => rfl, fun y => by omega, fun y => by omega⟩ _
    · by_cases k6 : k < 6
      · have q1 : (4 : Int32) + nI (k + 6) - 9 = nI (k + 1) := by
          rw [show (4 : Int32) = nI 4 from rfl, nI_add, show (9 : Int32) = nI 9 from rfl, pk_sub (by omega)]
          congr 1
          omega
        obtain ⟨p1, p2, p3, p4, p5, p6⟩ := P (nI (k + 1))
        rw [show rho k = k + 6 by unfold rho; rw [if_neg k3, if_pos k6], if_neg (show ¬ nI (k + 6) < (3 : Int32) from nI_nlt (b := 3) (by omega) (by omega)), if_neg (show ¬ nI (k + 6) < (9 : Int32) from nI_nlt (b := 9) (by omega) (by omega)), if_neg (show ¬ nI (k + 6) = (12 : Int32) from fun y => by have := (nI_eq (b := 12) (by omega) (by decide)).1 y; omega), q1, H.p25, if_neg (show ¬ nI (k + 6) < (3 : Int32) from nI_nlt (b := 3) (by omega) (by omega))]
        exact r_211 p1 p2 p3 p4 p5 _ _ _ ⟨by rw [p6]; unfold rtT; rw [if_neg k3, if_pos k6], fun y => by omega, fun y => by omega, fun y => by omega⟩ _
      · obtain ⟨p1, p2, p3, p4, p5, p6⟩ := P 2
        rw [show rho k = k - 3 by unfold rho; rw [if_neg k3, if_neg k6], if_neg (show ¬ nI (k - 3) < (3 : Int32) from nI_nlt (b := 3) (by omega) (by omega)), if_pos (show nI (k - 3) < (9 : Int32) from nI_lt (b := 9) (by omega) (by decide)), H.p25, if_neg (show ¬ nI (k - 3) < (3 : Int32) from nI_nlt (b := 3) (by omega) (by omega)), show nI (k - 3) - 3 = nI (k - 6) by rw [show (3 : Int32) = nI 3 from rfl, pk_sub (by omega), show k - 3 - 3 = k - 6 by omega]]
        exact r_211 p1 p2 p3 p4 p5 _ _ _ ⟨by rw [p6]; unfold rtT; rw [if_neg k3, if_neg k6, if_pos hk], fun y => by omega, fun y => rfl, fun y => by omega⟩ _
theorem r_103 (hb : ∀ i, i < tp.length → (A 32).getD i 0 = nI (by1 tp i)) (hw : A 39 = wds) (ht : tp.length ≤ 160) (o6 : ∀ x ∈ tp, x < 256) {b e : Nat} (he : e ≤ tp.length) (hq : b < e) (hl : ∀ j, b ≤ j → j < e → isLt (by1 tp j) = true) (hs : e < tp.length → isLt (by1 tp e) = false) (x : Int32) (d : Nat) : ∀ i, i ≤ e → b ≤ i → ∀ (h1 : MHeap) (F1 : Nat → Int32), RH h1 F1 A → Fr h h1 → FN F F1 → F1 8 = nI tp.length → F1 23 = nI i → F1 24 = nI b → NXR h F A b e (wdt tp b e) (ex (d + 1) 181 103 [sv (.ref 28), sv (.int x), none] [] h1) := by
  intro i hi
  refine up_ind (n := e) (P := fun i => b ≤ i → ∀ (h1 : MHeap) (F1 : Nat → Int32), RH h1 F1 A → Fr h h1 → FN F F1 → F1 8 = nI tp.length → F1 23 = nI i → F1 24 = nI b → NXR h F A b e (wdt tp b e) (ex (d + 1) 181 103 [sv (.ref 28), sv (.int x), none] [] h1)) ?_ ?_ hi
  · intro _ h1 F1 H G N e8 e3 e4
    rw [e_181_103]
    by_cases y : e < tp.length
    · rw [H.f23, e3, H.f8, e8, if_pos (nI_lt y (by omega)), H.f7, H.f23, e3, dR_ref, H.al (by decide) (by decide) (show e < 160 by omega), hb e y, r_166, cI_s, inR_Lt _ (by_lt o6 y), hs y, if_pos (show bI false = 0 from rfl)]
      exact nx_w H G N hb hw ht o6 he hq hl e3 e4 x d
    · rw [H.f23, e3, H.f8, e8, if_neg (nI_nlt (by omega) (by omega))]
      exact nx_w H G N hb hw ht o6 he hq hl e3 e4 x d
  · intro i hi ih hbi h1 F1 H G N e8 e3 e4
    have y : i < tp.length := by omega
    rw [e_181_103, H.f23, e3, H.f8, e8, if_pos (nI_lt y (by omega)), H.f7, H.f23, e3, dR_ref, H.al (by decide) (by decide) (show i < 160 by omega), hb i y, r_166, cI_s, inR_Lt _ (by_lt o6 y), hl i hbi hi, if_neg (by decide), H.f23, e3, nI_1, H.p23]
    exact ih (by omega) _ _ (H.setF _) (G.tr (Fr.st _ (by decide) (by decide) _)) (N.st (by decide) _) (by rw [fu_ne _ _ (by decide)]; exact e8) (fu_eq _ _ _) (by rw [fu_ne _ _ (by decide)]; exact e4)
theorem r_230 (hb : ∀ i, i < tp.length → (A 32).getD i 0 = nI (by1 tp i)) (ht : tp.length ≤ 160) (o6 : ∀ x ∈ tp, x < 256) {b e : Nat} (he : e ≤ tp.length) (hq : b < e) (hl : ∀ j, b ≤ j → j < e → isDg (by1 tp j) = true) (hs : e < tp.length → isDg (by1 tp e) = false) (x : Int32) (d : Nat) : ∀ i, i ≤ e → b ≤ i → ∀ (h1 : MHeap) (F1 : Nat → Int32), RH h1 F1 A → Fr h h1 → FN F F1 → F1 8 = nI tp.length → F1 23 = nI i → F1 24 = nI b → (e - b ≤ 4 → ∃ v, F1 26 = nI v ∧ nmv tp (e - i) i v = nmv tp (e - b) b 0) → NXR h F A b e (if 4 < e - b then 20001 else 1000 + nmv tp (e - b) b 0) (ex (d + 1) 181 230 [sv (.ref 28), sv (.int x), sv (.int (nI (i - b)))] [] h1) := by
  have fin : ∀ (h1 : MHeap) (F1 : Nat → Int32), RH h1 F1 A → Fr h h1 → FN F F1 → F1 23 = nI e → F1 24 = nI b → (e - b ≤ 4 → ∃ v, F1 26 = nI v ∧ nmv tp (e - e) e v = nmv tp (e - b) b 0) → NXR h F A b e (if 4 < e - b then 20001 else 1000 + nmv tp (e - b) b 0) (if (4 : Int32) < nI (e - b) then (pfI none h1 28 [12] 25 (-1) fun h9 => some (none, h9)) else (pfI none h1 28 [12] 25 1 fun h9 => some (none, h9))) := by
    intro h1 F1 H G N e3 e4 hv
    by_cases y : 4 < e - b
    · rw [if_pos y, if_pos (show (4 : Int32) < nI (e - b) from nI_lt (a := 4) y (by omega)), H.p25]
      exact ⟨_, _, rfl, H.setF _, G.tr (Fr.st _ (by decide) (by decide) _), N.st (by decide) _, by rw [fu_ne _ _ (by decide)]; exact e3, by rw [fu_ne _ _ (by decide)]; exact e4, fu_eq _ _ _, fun y => by omega, fun y => by omega, fun y => by omega⟩
    · rw [if_neg y, if_neg (show ¬ (4 : Int32) < nI (e - b) from nI_nlt (a := 4) (by omega) (by decide)), H.p25]
      obtain ⟨v, v1, v2⟩ := hv (by omega)
      rw [Nat.sub_self] at v2
      have v2 : v = nmv tp (e - b) b 0 := v2
      have lt := nmv_lt (tp := tp) (e := 0) (e - b) b 0 0 (fun j h1 h2 => hl j h1 (by omega)) (by decide)
      have l4 : (10 : Nat) ^ (0 + (e - b)) ≤ 10 ^ 4 := Nat.pow_le_pow_right (by decide) (by omega)
      refine ⟨_, _, rfl, H.setF _, G.tr (Fr.st _ (by decide) (by decide) _), N.st (by decide) _, by rw [fu_ne _ _ (by decide)]; exact e3, by rw [fu_ne _ _ (by decide)]; exact e4, ?_, fun y => by omega, fun y => by omega, fun y => ?_⟩
      · rw [fu_eq]
        unfold rtT
        rw [if_neg (by omega), if_neg (by omega), if_neg (by omega), if_neg (by omega), if_neg (by omega), if_pos (by omega)]
      · rw [fu_ne _ _ (by decide), v1, v2, Nat.add_sub_cancel_left]
  intro i hi
  refine up_ind (n := e) (P := fun i => b ≤ i → ∀ (h1 : MHeap) (F1 : Nat → Int32), RH h1 F1 A → Fr h h1 → FN F F1 → F1 8 = nI tp.length → F1 23 = nI i → F1 24 = nI b → (e - b ≤ 4 → ∃ v, F1 26 = nI v ∧ nmv tp (e - i) i v = nmv tp (e - b) b 0) → NXR h F A b e (if 4 < e - b then 20001 else 1000 + nmv tp (e - b) b 0) (ex (d + 1) 181 230 [sv (.ref 28), sv (.int x), sv (.int (nI (i - b)))] [] h1)) ?_ ?_ hi
  · intro _ h1 F1 H G N e8 e3 e4 hv
    rw [e_181_230]
    by_cases y : e < tp.length
    · rw [H.f23, e3, H.f8, e8, if_pos (nI_lt y (by omega)), H.f7, H.f23, e3, dR_ref, H.al (by decide) (by decide) (show e < 160 by omega), hb e y, r_166, cI_s, inR_Dg _ (by_lt o6 y), hs y, if_pos (show bI false = 0 from rfl)]
      exact fin h1 F1 H G N e3 e4 hv
    · rw [H.f23, e3, H.f8, e8, if_neg (nI_nlt (by omega) (by omega))]
      exact fin h1 F1 H G N e3 e4 hv
  · intro i hi ih hbi h1 F1 H G N e8 e3 e4 hv
    have y : i < tp.length := by omega
    have hg := hl i hbi hi
    have hg2 : 48 ≤ by1 tp i ∧ by1 tp i ≤ 57 := by
      unfold isDg at hg
      rw [Bool.and_eq_true] at hg
      exact ⟨Nat.le_of_ble_eq_true hg.1, Nat.le_of_ble_eq_true hg.2⟩
    rw [e_181_230, H.f23, e3, H.f8, e8, if_pos (nI_lt y (by omega)), H.f7, H.f23, e3, dR_ref, H.al (by decide) (by decide) (show i < 160 by omega), hb i y, r_166, cI_s, inR_Dg _ (by_lt o6 y), hg, if_neg (show ¬ bI true = 0 by decide)]
    by_cases c4 : i - b < 4
    · rw [if_pos (show nI (i - b) < (4 : Int32) from nI_lt (b := 4) c4 (by decide)), H.f26, H.f7, H.f23, e3, dR_ref, H.al (by decide) (by decide) (show i < 160 by omega), hb i y, H.p26]
      have H2 := H.setF (fu F1 26 (10 * F1 26 + nI (by1 tp i) - 48))
      have e32 : (fu F1 26 (10 * F1 26 + nI (by1 tp i) - 48)) 23 = nI i := by rw [fu_ne _ _ (by decide)]; exact e3
      rw [H2.f23, e32, nI_1, H2.p23, nI_1, show i - b + 1 = i + 1 - b by omega]
      refine ih (by omega) _ _ (H2.setF _) ((G.tr (Fr.st _ (by decide) (by decide) _)).tr (Fr.st _ (by decide) (by decide) _)) ((N.st (by decide) _).st (by decide) _) (by rw [fu_ne _ _ (by decide), fu_ne _ _ (by decide)]; exact e8) (fu_eq _ _ _) (by rw [fu_ne _ _ (by decide), fu_ne _ _ (by decide)]; exact e4) (fun z => ?_)
      obtain ⟨v, v1, v2⟩ := hv z
      refine ⟨10 * v + by1 tp i - 48, ?_, ?_⟩
      · rw [fu_ne _ _ (by decide), fu_eq, v1, show (10 : Int32) = nI 10 from rfl, pk_mul, nI_add, show (48 : Int32) = nI 48 from rfl, pk_sub (by omega)]
      · rw [show e - i = (e - (i + 1)) + 1 by omega] at v2
        exact v2
    · rw [if_neg (show ¬ nI (i - b) < (4 : Int32) from nI_nlt (b := 4) (by omega) (by omega)), H.p26]
      have H2 := H.setF (fu F1 26 0)
      have e32 : (fu F1 26 0) 23 = nI i := by rw [fu_ne _ _ (by decide)]; exact e3
      rw [H2.f23, e32, nI_1, H2.p23, nI_1, show i - b + 1 = i + 1 - b by omega]
      exact ih (by omega) _ _ (H2.setF _) ((G.tr (Fr.st _ (by decide) (by decide) _)).tr (Fr.st _ (by decide) (by decide) _)) ((N.st (by decide) _).st (by decide) _) (by rw [fu_ne _ _ (by decide), fu_ne _ _ (by decide)]; exact e8) (fu_eq _ _ _) (by rw [fu_ne _ _ (by decide), fu_ne _ _ (by decide)]; exact e4) (fun z => by omega)
theorem r_390 {h1 : MHeap} {F1 : Nat → Int32} (H : RH h1 F1 A) (G : Fr h h1) (N : FN F F1) {b t : Nat} (e3 : F1 23 = nI b) (e4 : F1 24 = nI b) (x w v : Int32) (R : RTK t v (F1 26)) (d : Nat) : NXR h F A b (b + 1) t (ex d 181 390 [sv (.ref 28), sv (.int x), sv (.int w)] [.int v, .ref 28] h1) := by
  have H2 := H.setF (fu F1 25 v)
  have e32 : (fu F1 25 v) 23 = nI b := by rw [fu_ne _ _ (by decide)]; exact e3
  refine ⟨_, _, ?_, H2.setF (fu (fu F1 25 v) 23 (nI (b + 1))), (G.tr (Fr.st _ (by decide) (by decide) _)).tr (Fr.st _ (by decide) (by decide) _), (N.st (by decide) v).st (by decide) _, fu_eq _ _ _, by rw [fu_ne _ _ (by decide), fu_ne _ _ (by decide)]; exact e4, by rw [fu_ne _ _ (by decide), fu_eq, fu_ne _ _ (by decide), fu_ne _ _ (by decide)]; exact R⟩
  rw [e_181_390, H.p25, H2.f23, e32, nI_1, H2.p23]
theorem r_181 (H : RH h F A) (e8 : F 8 = nI tp.length) (hb : ∀ i, i < tp.length → (A 32).getD i 0 = nI (by1 tp i)) (hw : A 39 = wds) (ht : tp.length ≤ 160) (o6 : ∀ x ∈ tp, x < 256) {p : Nat} (hp : p ≤ tp.length) (e23 : F 23 = nI p) (d : Nat) : NXR h F A (skb tp p) (tkE tp (skb tp p)) (tkA tp (skb tp p)) (call (d + 2) 181 [.ref 28] h) := by
  rw [e_181]
  have sb := skb_le hp
  have stp := xt_stop (q := isBl) (tp := tp) (tp.length - p) p (by omega)
  have all := xt_all isBl tp (tp.length - p) p
  have eb : skb tp p = xt isBl tp (tp.length - p) p := rfl
  rw [← eb] at stp all
  generalize skb tp p = b at sb stp all eb
  have key : ∀ i, i ≤ b → p ≤ i → ∀ (h1 : MHeap) (F1 : Nat → Int32), RH h1 F1 A → Fr h h1 → FN F F1 → F1 8 = nI tp.length → F1 23 = nI i → NXR h F A b (tkE tp b) (tkA tp b) (ex (d + 1) 181 0 [sv (.ref 28), none, none] [] h1) := by
    intro i hi
    refine up_ind (n := b) (P := fun i => p ≤ i → ∀ (h1 : MHeap) (F1 : Nat → Int32), RH h1 F1 A → Fr h h1 → FN F F1 → F1 8 = nI tp.length → F1 23 = nI i → NXR h F A b (tkE tp b) (tkA tp b) (ex (d + 1) 181 0 [sv (.ref 28), none, none] [] h1)) ?_ ?_ hi
    · intro _ h1 F1 H1 G1 N1 e81 e31
      have A1 := H1.setF (fu F1 24 (nI b))
      have A2 := A1.setF (fu (fu F1 24 (nI b)) 25 0)
      have A3 := A2.setF (fu (fu (fu F1 24 (nI b)) 25 0) 26 0)
      have g8 : (fu (fu (fu F1 24 (nI b)) 25 0) 26 0) 8 = nI tp.length := by rw [fu_ne _ _ (by decide), fu_ne _ _ (by decide), fu_ne _ _ (by decide)]; exact e81
      have g23 : (fu (fu (fu F1 24 (nI b)) 25 0) 26 0) 23 = nI b := by rw [fu_ne _ _ (by decide), fu_ne _ _ (by decide), fu_ne _ _ (by decide)]; exact e31
      have g24 : (fu (fu (fu F1 24 (nI b)) 25 0) 26 0) 24 = nI b := by rw [fu_ne _ _ (by decide), fu_ne _ _ (by decide), fu_eq]
      have g25 : (fu (fu (fu F1 24 (nI b)) 25 0) 26 0) 25 = 0 := by rw [fu_ne _ _ (by decide), fu_eq]
      have g26 : (fu (fu (fu F1 24 (nI b)) 25 0) 26 0) 26 = 0 := fu_eq _ _ _
      have GG := ((G1.tr (Fr.st _ (o := 28) (by decide) (by decide) (rC (fu F1 24 (nI b))))).tr (Fr.st _ (o := 28) (by decide) (by decide) (rC (fu (fu F1 24 (nI b)) 25 0)))).tr (Fr.st _ (o := 28) (by decide) (by decide) (rC (fu (fu (fu F1 24 (nI b)) 25 0) 26 0)))
      have NN := ((N1.st (j := 24) (by decide) (nI b)).st (j := 25) (by decide) 0).st (j := 26) (by decide) 0
      rw [e_181_0, H1.f23, e31, H1.f8, e81]
      by_cases y : b < tp.length
      · have hx := by_lt o6 y
        have nb := stp y
        unfold isBl at nb
        rw [Bool.or_eq_false_iff, beq_eq_false_iff_ne, beq_eq_false_iff_ne] at nb
        have n32 : ¬ nI (by1 tp b) = (32 : Int32) := fun e => nb.1 ((cmpB (a := 32) hx (by decide)).1 e)
        have n10 : ¬ nI (by1 tp b) = (10 : Int32) := fun e => nb.2 ((cmpB (a := 10) hx (by decide)).1 e)
        have l160 : b < 160 := by omega
        rw [if_pos (nI_lt y (by omega)), H1.f7, H1.f23, e31, dR_ref, H1.al (by decide) (by decide) (show b < 160 by omega), hb b y, if_neg n32, H1.f7, H1.f23, e31, dR_ref, H1.al (by decide) (by decide) (show b < 160 by omega), hb b y, if_neg n10, H1.f23, e31, H1.p24, A1.p25, A2.p26, A3.f23, g23, A3.f8, g8, if_neg (fun e => by have := (nI_eq (by omega) (by omega)).1 e; omega), A3.f7, A3.f23, g23, dR_ref, A3.al (by decide) (by decide) (show b < 160 by omega), hb b y, r_166, cI_s, inR_Lt _ hx]
        have nl : ¬ tp.length ≤ b := by omega
        cases c1 : isLt (by1 tp b) with
        | true =>
          rw [if_neg (show ¬ bI true = 0 by decide), show tkA tp b = wdt tp b (xt isLt tp (tp.length - (b + 1)) (b + 1)) by unfold tkA; rw [if_neg nl, if_pos c1], show tkE tp b = xt isLt tp (tp.length - (b + 1)) (b + 1) by unfold tkE; rw [if_neg nl, if_pos c1]]
          have hd := xt_hd y c1
          have ge := xt_ge isLt tp (tp.length - (b + 1)) (b + 1)
          have s2 := xt_stop (q := isLt) (tp := tp) (tp.length - b) b (by omega)
          have a2 := xt_all isLt tp (tp.length - b) b
          rw [hd] at s2 a2
          exact r_103 hb hw ht o6 (by omega) (by omega) (fun j h1 h2 => (a2 j h1 h2).2) s2 _ d b (by omega) (Nat.le_refl _) _ _ A3 GG NN g8 g23 g24
        | false =>
          have c1' : ¬ isLt (by1 tp b) = true := by rw [c1]; decide
          rw [if_pos (show bI false = 0 from rfl), r_166, cI_s, inR_Dg _ hx]
          cases c2 : isDg (by1 tp b) with
          | true =>
            rw [if_neg (show ¬ bI true = 0 by decide), show tkA tp b = (if 4 < xt isDg tp (tp.length - (b + 1)) (b + 1) - b then 20001 else 1000 + nmv tp (xt isDg tp (tp.length - (b + 1)) (b + 1) - b) b 0) by unfold tkA; rw [if_neg nl, if_neg c1', if_pos c2], show tkE tp b = xt isDg tp (tp.length - (b + 1)) (b + 1) by unfold tkE; rw [if_neg nl, if_neg c1', if_pos c2]]
            have hd := xt_hd y c2
            have ge := xt_ge isDg tp (tp.length - (b + 1)) (b + 1)
            have s2 := xt_stop (q := isDg) (tp := tp) (tp.length - b) b (by omega)
            have a2 := xt_all isDg tp (tp.length - b) b
            rw [hd] at s2 a2
            have := r_230 (h := h) (F := F) (A := A) (tp := tp) hb ht o6 (b := b) (e := xt isDg tp (tp.length - (b + 1)) (b + 1)) (by omega) (by omega) (fun j h1 h2 => (a2 j h1 h2).2) s2 (nI (by1 tp b)) d b (by omega) (Nat.le_refl _) _ _ A3 GG NN g8 g23 g24 (fun _ => ⟨0, g26, rfl⟩)
            rw [Nat.sub_self] at this
            exact this
          | false =>
            have c2' : ¬ isDg (by1 tp b) = true := by rw [c2]; decide
            rw [if_pos (show bI false = 0 from rfl), mkc hx, show tkE tp b = b + 1 by unfold tkE; rw [if_neg nl, if_neg c1', if_neg c2']]
            cases c3 : isMk (by1 tp b) with
            | true =>
              have ml := isMk_lt c3
              have mg : 40 ≤ by1 tp b := by
                unfold isMk at c3
                simp only [Bool.or_eq_true, beq_iff_eq] at c3
                omega
              rw [show tkA tp b = by1 tp b by unfold tkA; rw [if_neg nl, if_neg c1', if_neg c2', if_pos c3], if_pos rfl, e_181_374, e_181_379, if_neg (show ¬ (1 : Int32) = 0 by decide)]
              exact r_390 A3 GG NN g23 g24 _ _ _ ⟨by unfold rtT; rw [if_neg (by omega), if_neg (by omega), if_neg (by omega), if_neg (by omega), if_neg (by omega), if_neg (by omega)], fun y => by omega, fun y => by omega, fun y => by omega⟩ _
            | false =>
              have c3' : ¬ isMk (by1 tp b) = true := by rw [c3]; decide
              rw [show tkA tp b = 20001 by unfold tkA; rw [if_neg nl, if_neg c1', if_neg c2', if_neg c3'], if_neg (show ¬ false = true by decide), e_181_379, if_pos rfl]
              exact r_390 A3 GG NN g23 g24 _ _ _ ⟨rfl, fun y => by omega, fun y => by omega, fun y => by omega⟩ _
      · have bl : b = tp.length := by omega
        rw [if_neg (nI_nlt (by omega) (by omega)), H1.f23, e31, H1.p24, A1.p25, A2.p26, A3.f23, g23, A3.f8, g8, if_pos (by rw [bl])]
        rw [show tkA tp b = 20000 from if_pos (by omega), show tkE tp b = b from if_pos (by omega)]
        exact ⟨_, _, rfl, A3, GG, NN, g23, g24, g25, fun y => by omega, fun y => by omega, fun y => by omega⟩
    · intro i hi ih hpi h1 F1 H1 G1 N1 e81 e31
      obtain ⟨y, bl⟩ := all i hpi hi
      have hx := by_lt o6 y
      have l160 : i < 160 := by omega
      have go := ih (by omega) _ _ (H1.setF (fu F1 23 (nI (i + 1)))) (G1.tr (Fr.st _ (by decide) (by decide) _)) (N1.st (by decide) _) (by rw [fu_ne _ _ (by decide)]; exact e81) (fu_eq _ _ _)
      rw [e_181_0, H1.f23, e31, H1.f8, e81, if_pos (nI_lt y (by omega)), H1.f7, H1.f23, e31, dR_ref, H1.al (by decide) (by decide) (show i < 160 by omega), hb i y]
      unfold isBl at bl
      rw [Bool.or_eq_true, beq_iff_eq, beq_iff_eq] at bl
      by_cases z : by1 tp i = 32
      · rw [if_pos (by rw [z]; rfl), H1.f23, e31, nI_1, H1.p23]
        exact go
      · rw [if_neg (show ¬ nI (by1 tp i) = (32 : Int32) from fun e => z ((cmpB (a := 32) hx (by decide)).1 e)), H1.f7, H1.f23, e31, dR_ref, H1.al (by decide) (by decide) (show i < 160 by omega), hb i y, if_pos (show nI (by1 tp i) = (10 : Int32) by rw [show by1 tp i = 10 by omega]; rfl), H1.f23, e31, nI_1, H1.p23]
        exact go
  exact key p sb.1 (Nat.le_refl _) h F H (Fr.rf h) (FN.rf F) e8 e23
end RNX
