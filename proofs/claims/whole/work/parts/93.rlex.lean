/-! the reference's tokens -/
/-- its order of the words -/
def rho (k : Nat) : Nat := if k < 3 then k else if k < 6 then k + 6 else k - 3
def tau (r : Nat) : Nat := if r < 3 then r else if r < 9 then r + 3 else r - 6
theorem rho_tau : ∀ r, r < 12 → rho (tau r) = r ∧ tau r < 12 ∧ tau (rho r) = r ∧ rho r < 12 := by decide +kernel
theorem wdsT : ∀ r, r < 12 → ∀ j, j < 8 → wds.getD (8 * r + j) 0 = (if j < wln.getD (tau r) 0 then nI (wch.getD (wst.getD (tau r) 0 + j) 0) else 32) ∧ wln.getD (tau r) 0 ≤ 8 := by decide +kernel
theorem wlet : ∀ k, k < 12 → ∀ j, j < 8 → j < wln.getD k 0 → 97 ≤ wch.getD (wst.getD k 0 + j) 0 ∧ wch.getD (wst.getD k 0 + j) 0 ≤ 122 := by decide +kernel
theorem wuni : ∀ k, k < 12 → ∀ l, l < 12 → wln.getD k 0 = wln.getD l 0 → allq (fun j => decide (wch.getD (wst.getD k 0 + j) 0 = wch.getD (wst.getD l 0 + j) 0)) (wln.getD k 0) = true → k = l := by decide +kernel
theorem mwq_iff {tp : List Nat} {q e k : Nat} : mwq tp q e k = true ↔ wln.getD k 0 = e - q ∧ ∀ j, j < wln.getD k 0 → wch.getD (wst.getD k 0 + j) 0 = by1 tp (q + j) := by
  unfold mwq
  rw [Bool.and_eq_true, decide_eq_true_iff, allq_iff]
  constructor
  · rintro ⟨h1, h2⟩; exact ⟨h1, fun j hj => of_decide_eq_true (h2 j hj)⟩
  · rintro ⟨h1, h2⟩; exact ⟨h1, fun j hj => decide_eq_true (h2 j hj)⟩
theorem mwq_uni {tp : List Nat} {q e k l : Nat} (hk : k < 12) (hl : l < 12) (h1 : mwq tp q e k = true) (h2 : mwq tp q e l = true) : k = l := by
  rw [mwq_iff] at h1 h2
  refine wuni k hk l hl (h1.1.trans h2.1.symm) (allq_iff.2 fun j hj => decide_eq_true ?_)
  rw [h1.2 j hj, h2.2 j (by rw [h2.1, ← h1.1]; exact hj)]
theorem fst1_some {q : Nat → Bool} : ∀ m i k, fst1 q m i = some k → i ≤ k ∧ k < i + m ∧ q k = true := by
  intro m
  induction m with
  | zero => intro i k x; cases x
  | succ m ih =>
    intro i k x
    have x : (if q i then some i else fst1 q m (i + 1)) = some k := x
    split at x
    · cases x; exact ⟨Nat.le_refl _, by omega, by assumption⟩
    · have := ih _ _ x; exact ⟨by omega, by omega, this.2.2⟩
theorem fst1_none {q : Nat → Bool} : ∀ m i, fst1 q m i = none → ∀ k, i ≤ k → k < i + m → q k = false := by
  intro m
  induction m with
  | zero => intro i _ k h1 h2; omega
  | succ m ih =>
    intro i x k h1 h2
    have x : (if q i then some i else fst1 q m (i + 1)) = none := x
    split at x
    · cases x
    · rename_i hq
      by_cases z : k = i
      · subst z; simpa using hq
      · exact ih _ x k (by omega) (by omega)
/-- what the reference calls a word: 12 is none -/
def rwd (tp : List Nat) (q e : Nat) : Nat := match fst1 (mwq tp q e) 12 0 with
  | some k => rho k
  | none => 12
section RLEX
variable {h : MHeap} {F : Nat → Int32} {A : Nat → List Int32} {tp : List Nat}
theorem r_180 (H : RH h F A) (hb : ∀ i, i < tp.length → (A 32).getD i 0 = nI (by1 tp i)) (hw : A 39 = wds) (ht : tp.length ≤ 160) (o6 : ∀ x ∈ tp, x < 256) {q e : Nat} (he : e ≤ tp.length) (hq : q < e) (hl : ∀ j, q ≤ j → j < e → isLt (by1 tp j) = true) (d : Nat) : call (d + 1) 180 [.ref 28, .int (nI q), .int (nI e)] h = some (some (.int (nI (rwd tp q e))), h) := by
  -- one place of one word
  let cnd : Nat → Nat → Bool := fun r j => if q + j < e then decide (wds.getD (8 * r + j) 0 = nI (by1 tp (q + j))) else decide (wds.getD (8 * r + j) 0 = 32)
  have inner : ∀ r, r < 12 → ∀ j, j ≤ 8 → ∀ fl : Bool, ((fl = true ∧ ∀ i, j ≤ i → i < 8 → cnd r i = true) → ex d 180 26 [sv (.ref 28), sv (.int (nI q)), sv (.int (nI e)), sv (.int (nI r)), sv (.int (bI fl)), sv (.int (nI j))] [] h = some (some (.int (nI r)), h)) ∧ (¬ (fl = true ∧ ∀ i, j ≤ i → i < 8 → cnd r i = true) → ∃ a4 a5, ex d 180 26 [sv (.ref 28), sv (.int (nI q)), sv (.int (nI e)), sv (.int (nI r)), sv (.int (bI fl)), sv (.int (nI j))] [] h = ex d 180 2 [sv (.ref 28), sv (.int (nI q)), sv (.int (nI e)), sv (.int (nI (r + 1))), a4, a5] [] h) := by
    intro r hr j hj
    refine up_ind (n := 8) (P := fun j => ∀ fl : Bool, ((fl = true ∧ ∀ i, j ≤ i → i < 8 → cnd r i = true) → ex d 180 26 [sv (.ref 28), sv (.int (nI q)), sv (.int (nI e)), sv (.int (nI r)), sv (.int (bI fl)), sv (.int (nI j))] [] h = some (some (.int (nI r)), h)) ∧ (¬ (fl = true ∧ ∀ i, j ≤ i → i < 8 → cnd r i = true) → ∃ a4 a5, ex d 180 26 [sv (.ref 28), sv (.int (nI q)), sv (.int (nI e)), sv (.int (nI r)), sv (.int (bI fl)), sv (.int (nI j))] [] h = ex d 180 2 [sv (.ref 28), sv (.int (nI q)), sv (.int (nI e)), sv (.int (nI (r + 1))), a4, a5] [] h)) ?_ ?_ hj
    · intro fl
      cases fl with
      | true =>
        refine ⟨fun _ => ?_, fun z => absurd ⟨rfl, fun i h1 h2 => by omega⟩ z⟩
        rw [e_180_26, if_neg (by decide), if_neg (by decide)]
      | false =>
        refine ⟨fun z => (by cases z.1), fun _ => ⟨sv (.int (bI false)), sv (.int (nI 8)), ?_⟩⟩
        rw [e_180_26, if_neg (by decide), if_pos (by decide), nI_1]
    · intro j hj ih fl
      cases fl with
      | false =>
        refine ⟨fun z => (by cases z.1), fun _ => ⟨sv (.int (bI false)), sv (.int (nI j)), ?_⟩⟩
        rw [e_180_26, if_pos (show nI j < (8 : Int32) from nI_lt (b := 8) hj (by decide)), if_pos (by decide), if_pos (by decide), nI_1]
      | true =>
        have st : ex d 180 26 [sv (.ref 28), sv (.int (nI q)), sv (.int (nI e)), sv (.int (nI r)), sv (.int (bI true)), sv (.int (nI j))] [] h = ex d 180 26 [sv (.ref 28), sv (.int (nI q)), sv (.int (nI e)), sv (.int (nI r)), sv (.int (bI (cnd r j))), sv (.int (nI (j + 1)))] [] h := by
          have z9 : (96 : Nat) = asz 39 := rfl
          rw [e_180_26, if_pos (show nI j < (8 : Int32) from nI_lt (b := 8) hj (by decide)), if_neg (by decide), H.f27, dR_ref, show (8 : Int32) = nI 8 from rfl, pk_mul, nI_add, H.al (by decide) (by decide) (by rw [← z9]; omega), nI_add, hw, nI_1]
          show _ = ex d 180 26 [sv (.ref 28), sv (.int (nI q)), sv (.int (nI e)), sv (.int (nI r)), sv (.int (bI (if q + j < e then decide (wds.getD (8 * r + j) 0 = nI (by1 tp (q + j))) else decide (wds.getD (8 * r + j) 0 = 32)))), sv (.int (nI (j + 1)))] [] h
          by_cases y : q + j < e
          · rw [if_pos (nI_lt y (by omega)), if_pos y, H.f7, dR_ref, H.al (by decide) (by decide) (show q + j < 160 by omega), hb (q + j) (by omega)]
            by_cases w : wds.getD (8 * r + j) 0 = nI (by1 tp (q + j))
            · rw [if_pos w, decide_eq_true w]; rfl
            · rw [if_neg w, decide_eq_false w]; rfl
          · rw [if_neg (nI_nlt (by omega) (by omega)), if_neg y]
            by_cases w : wds.getD (8 * r + j) 0 = 32
            · rw [if_pos w, decide_eq_true w]; rfl
            · rw [if_neg w, decide_eq_false w]; rfl
        rw [st]
        have := ih (cnd r j)
        refine ⟨fun z => this.1 ⟨z.2 j (Nat.le_refl _) hj, fun i h1 h2 => z.2 i (by omega) h2⟩, fun z => this.2 (fun w => z ⟨rfl, fun i h1 h2 => ?_⟩)⟩
        by_cases v : i = j
        · subst v; exact w.1
        · exact w.2 i (by omega) h2
  have eqv : ∀ r, r < 12 → (e - q ≤ 8 ∧ (∀ i, 0 ≤ i → i < 8 → cnd r i = true) ↔ mwq tp q e (tau r) = true) := by
    intro r hr
    have wt := wdsT r hr
    have tr := (rho_tau r hr).2.1
    have l8 := (wt 0 (by decide)).2
    have let2 : ∀ j, q ≤ j → j < e → 97 ≤ by1 tp j ∧ by1 tp j < 256 := by
      intro j h1 h2
      have := hl j h1 h2
      unfold isLt at this
      rw [Bool.and_eq_true] at this
      exact ⟨Nat.le_of_ble_eq_true this.1, by_lt o6 (by omega)⟩
    rw [mwq_iff]
    constructor
    · rintro ⟨h8, hc⟩
      have ln : wln.getD (tau r) 0 = e - q := by
        rcases Nat.lt_trichotomy (wln.getD (tau r) 0) (e - q) with z | z | z
        · have c1 := hc (wln.getD (tau r) 0) (Nat.zero_le _) (by omega)
          have c1 : (if q + wln.getD (tau r) 0 < e then decide (wds.getD (8 * r + wln.getD (tau r) 0) 0 = nI (by1 tp (q + wln.getD (tau r) 0))) else decide (wds.getD (8 * r + wln.getD (tau r) 0) 0 = 32)) = true := c1
          rw [if_pos (by omega), (wt _ (by omega)).1, if_neg (by omega), decide_eq_true_iff] at c1
          have := let2 (q + wln.getD (tau r) 0) (by omega) (by omega)
          have := (nI_eq (a := 32) (by decide) (by omega)).1 c1
          omega
        · exact z
        · have c1 := hc (e - q) (Nat.zero_le _) (by omega)
          have c1 : (if q + (e - q) < e then decide (wds.getD (8 * r + (e - q)) 0 = nI (by1 tp (q + (e - q)))) else decide (wds.getD (8 * r + (e - q)) 0 = 32)) = true := c1
          rw [if_neg (by omega), (wt _ (by omega)).1, if_pos z, decide_eq_true_iff] at c1
          have w := wlet (tau r) tr (e - q) (by omega) z
          have := (nI_eq (b := 32) (by omega) (by decide)).1 c1
          omega
      refine ⟨ln, fun j hj => ?_⟩
      have c1 := hc j (Nat.zero_le _) (by omega)
      have c1 : (if q + j < e then decide (wds.getD (8 * r + j) 0 = nI (by1 tp (q + j))) else decide (wds.getD (8 * r + j) 0 = 32)) = true := c1
      rw [if_pos (by omega), (wt j (by omega)).1, if_pos hj, decide_eq_true_iff] at c1
      have w := wlet (tau r) tr j (by omega) hj
      have b := let2 (q + j) (by omega) (by omega)
      exact (nI_eq (by omega) (by omega)).1 c1
    · rintro ⟨ln, hc⟩
      refine ⟨by omega, fun j _ hj => ?_⟩
      show (if q + j < e then decide (wds.getD (8 * r + j) 0 = nI (by1 tp (q + j))) else decide (wds.getD (8 * r + j) 0 = 32)) = true
      by_cases y : q + j < e
      · rw [if_pos y, (wt j hj).1, if_pos (by omega), hc j (by omega)]
        exact decide_eq_true rfl
      · rw [if_neg y, (wt j hj).1, if_neg (by omega)]
        exact decide_eq_true rfl
  have outer : ∀ r, r < 12 → ∀ a4 a5, ∃ b4 b5, ex d 180 2 [sv (.ref 28), sv (.int (nI q)), sv (.int (nI e)), sv (.int (nI r)), a4, a5] [] h = if mwq tp q e (tau r) = true then some (some (.int (nI r)), h) else ex d 180 2 [sv (.ref 28), sv (.int (nI q)), sv (.int (nI e)), sv (.int (nI (r + 1))), b4, b5] [] h := by
    intro r hr a4 a5
    rw [e_180_2, if_pos (show nI r < (12 : Int32) from nI_lt (b := 12) hr (by decide)), pk_sub (by omega)]
    have E := eqv r hr
    by_cases y : 8 < e - q
    · rw [if_pos (show (8 : Int32) < nI (e - q) from nI_lt (a := 8) y (by omega))]
      obtain ⟨b4, b5, w⟩ := (inner r hr 0 (by decide) false).2 (fun z => by cases z.1)
      refine ⟨b4, b5, ?_⟩
      rw [if_neg (fun z => by have := (E.2 z).1; omega)]
      exact w
    · rw [if_neg (show ¬ (8 : Int32) < nI (e - q) from nI_nlt (a := 8) (by omega) (by decide))]
      by_cases z : mwq tp q e (tau r) = true
      · refine ⟨none, none, ?_⟩
        rw [if_pos z]
        exact (inner r hr 0 (by decide) true).1 ⟨rfl, (E.2 z).2⟩
      · obtain ⟨b4, b5, w⟩ := (inner r hr 0 (by decide) true).2 (fun v => z (E.1 ⟨by omega, v.2⟩))
        refine ⟨b4, b5, ?_⟩
        rw [if_neg z]
        exact w
  rw [e_180]
  unfold rwd
  cases x : fst1 (mwq tp q e) 12 0 with
  | none =>
    have no := fst1_none 12 0 x
    have : ∀ r, r ≤ 12 → ∀ a4 a5, ex d 180 2 [sv (.ref 28), sv (.int (nI q)), sv (.int (nI e)), sv (.int (nI r)), a4, a5] [] h = some (some (.int (nI 12)), h) := by
      intro r hr
      refine up_ind (n := 12) (P := fun r => ∀ a4 a5, ex d 180 2 [sv (.ref 28), sv (.int (nI q)), sv (.int (nI e)), sv (.int (nI r)), a4, a5] [] h = some (some (.int (nI 12)), h)) ?_ ?_ hr
      · intro a4 a5
        rw [e_180_2, if_neg (by decide)]
        rfl
      · intro r hr ih a4 a5
        obtain ⟨b4, b5, w⟩ := outer r hr a4 a5
        rw [w, if_neg (by rw [no _ (Nat.zero_le _) (by have := (rho_tau r hr).2.1; omega)]; decide)]
        exact ih b4 b5
    exact this 0 (by decide) none none
  | some k =>
    obtain ⟨_, hk, hk2⟩ := fst1_some 12 0 k x
    have hk : k < 12 := by omega
    have rk := rho_tau k hk
    have : ∀ r, r ≤ rho k → ∀ a4 a5, ex d 180 2 [sv (.ref 28), sv (.int (nI q)), sv (.int (nI e)), sv (.int (nI r)), a4, a5] [] h = some (some (.int (nI (rho k))), h) := by
      intro r hr
      refine up_ind (n := rho k) (P := fun r => ∀ a4 a5, ex d 180 2 [sv (.ref 28), sv (.int (nI q)), sv (.int (nI e)), sv (.int (nI r)), a4, a5] [] h = some (some (.int (nI (rho k))), h)) ?_ ?_ hr
      · intro a4 a5
        obtain ⟨b4, b5, w⟩ := outer (rho k) rk.2.2.2 a4 a5
        rw [w, rk.2.2.1, if_pos hk2]
      · intro r hr ih a4 a5
        obtain ⟨b4, b5, w⟩ := outer r (by omega) a4 a5
        rw [w, if_neg (fun z => by
          have := mwq_uni (rho_tau r (by omega)).2.1 hk z hk2
          have r2 := (rho_tau r (by omega)).1
          rw [this] at r2
          omega)]
        exact ih b4 b5
    exact this 0 (Nat.zero_le _) none none
end RLEX
