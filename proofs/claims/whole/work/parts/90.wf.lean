/-! what a parse writes is well formed -/
def hls : List Nat → Nat → Option Nat
  | [], n => some n
  | x :: r, n => (hgt x n).bind (hls r)
theorem hls_app : ∀ (a b : List Nat) (n : Nat), hls (a ++ b) n = (hls a n).bind (hls b)
  | [], b, n => rfl
  | x :: a, b, n => by
    show (hgt x n).bind (hls (a ++ b)) = ((hgt x n).bind (hls a)).bind (hls b)
    cases hgt x n with
    | none => rfl
    | some k => exact hls_app a b k
theorem hgt_op {x : Nat} (h : opC x) (n : Nat) : hgt x (n + 2) = some (n + 1) := by
  unfold opC at h
  unfold hgt
  rw [if_neg (by omega), if_neg (by omega), if_neg (by omega), if_neg (by omega), if_pos (by omega)]
  rfl
theorem hgt_one {x : Nat} (h : x = 5 ∨ x = 12) (n : Nat) : hgt x (n + 1) = some (n + 1) := by
  unfold hgt
  rw [if_neg (by omega), if_neg (by omega)]
  by_cases y : x = 5
  · rw [if_pos y, if_pos (by omega)]
  · rw [if_neg y, if_pos (by omega), if_pos (by omega)]
theorem hgt_itm {x : Nat} (h : itm x = true) (n : Nat) : hgt x n = some (n + 1) := by
  have := (itm_lt h).2
  unfold hgt
  by_cases y : 1000 ≤ x
  · rw [if_pos y]
  · rw [if_neg y, if_pos (by omega)]
def cmd (m : Nat) : Nat := if 4 ≤ m ∧ m < 8 then 1 else 0
theorem cmd0 {m : Nat} (h : m < 4 ∨ 8 ≤ m) : cmd m = 0 := if_neg (by omega)
theorem cmd1 {lv : Nat} (h : lv < 4) : cmd (4 + lv) = 1 := if_pos (by omega)
theorem pd_wf {tk : Nat → Nat} (hk : ∀ j, itm (tk j) = true → okC (tk j)) {m op i : Nat} {out : List Nat} {b : Bool} {i' : Nat} {o' : List Nat} (hm : m ≤ 14) (h : Pd tk m op i out b i' o') (hb : b = true) : ∃ s, o' = out ++ s ∧ (∀ x ∈ s, okC x) ∧ ∀ n, hls s (n + cmd m) = some (n + 1) := by
  obtain ⟨f, h⟩ := h
  have ok1 : ∀ {s : List Nat} {x : Nat}, (∀ y ∈ s, okC y) → okC x → ∀ y ∈ s ++ [x], okC y := by
    intro s x h1 h2 y hy
    rcases List.mem_append.1 hy with z | z
    · exact h1 y z
    · cases List.mem_singleton.1 z; exact h2
  have ok2 : ∀ {s t : List Nat}, (∀ y ∈ s, okC y) → (∀ y ∈ t, okC y) → ∀ y ∈ s ++ t, okC y := by
    intro s t h1 h2 y hy
    rcases List.mem_append.1 hy with z | z
    · exact h1 y z
    · exact h2 y z
  have one : ∀ (x n : Nat), hls [x] n = hgt x n := by
    intro x n
    show (hgt x n).bind (hls []) = _
    cases hgt x n <;> rfl
  have up : ∀ {m m' : Nat} {out o' : List Nat}, (m < 4 ∨ 8 ≤ m) → (m' < 4 ∨ 8 ≤ m') → (∃ s, o' = out ++ s ∧ (∀ x ∈ s, okC x) ∧ ∀ n, hls s (n + cmd m) = some (n + 1)) → ∃ s, o' = out ++ s ∧ (∀ x ∈ s, okC x) ∧ ∀ n, hls s (n + cmd m') = some (n + 1) := by
    intro m m' out o' h1 h2 h
    rw [cmd0 h1] at h
    rw [cmd0 h2]
    exact h
  refine ps_ind (tk := tk) (P := fun m op i out b i' o' => b = true → ∃ s, o' = out ++ s ∧ (∀ x ∈ s, okC x) ∧ ∀ n, hls s (n + cmd m) = some (n + 1)) ?_ ?_ ?_ ?_ ?_ ?_ ?_ ?_ ?_ ?_ ?_ ?_ ?_ ?_ ?_ ?_ ?_ ?_ ?_ ?_ ?_ ?_ ?_ ?_ ?_ f m op i out b i' o' hm h hb
  · intro lv op i out i' o' hl _ ih e; cases e
  · intro lv op i out i1 o1 b i2 o2 hl _ ih _ ih2 e
    obtain ⟨s1, e1, k1, g1⟩ := ih rfl
    obtain ⟨s2, e2, k2, g2⟩ := ih2 e
    refine ⟨s1 ++ s2, by rw [e2, e1, List.append_assoc], ok2 k1 k2, fun n => ?_⟩
    have a := g1 n
    have b := g2 n
    rw [cmd0 (by omega)] at a
    rw [cmd1 hl] at b
    rw [cmd0 (by omega), hls_app, a]
    exact b
  · intro lv op i out hl _ _
    refine ⟨[], by rw [List.append_nil], by simp, fun n => ?_⟩
    rw [cmd1 hl]; rfl
  · intro lv op i out i' o' hl j _ ih e; cases e
  · intro lv op i out i1 o1 b i2 o2 hl j _ ih _ ih2 e
    obtain ⟨s1, e1, k1, g1⟩ := ih rfl
    obtain ⟨s2, e2, k2, g2⟩ := ih2 e
    have oc := (jnt_lt j).2
    refine ⟨s1 ++ [tk i] ++ s2, by rw [e2, e1]; simp, ok2 (ok1 k1 (Or.inr (Or.inr (Or.inr (Or.inr oc))))) k2, fun n => ?_⟩
    have a := g1 (n + 1)
    have b := g2 n
    rw [cmd0 (by omega)] at a
    rw [cmd1 hl] at b
    rw [cmd1 hl, hls_app, hls_app, show hls s1 (n + 1) = some (n + 1 + 1) from a]
    show (hls [tk i] (n + 2)).bind (hls s2) = _
    rw [one, hgt_op oc]
    exact b
  · intro op i out b i' o' _ ih e; exact up (by omega) (by omega) (ih e)
  · intro op i out b i' o' _ _ ih e; exact up (by omega) (by omega) (ih e)
  · intro op i out b i' o' _ _ ih e; exact up (by omega) (by omega) (ih e)
  · intro op i out b i' o' _ ih e; exact up (by omega) (by omega) (ih e)
  · intro op i out b i' o' _ ih e; exact up (by omega) (by omega) (ih e)
  · intro op i out _ e; cases e
  · intro op i out i' o' _ _ ih e; cases e
  · intro op i out i' o' _ _ ih _
    obtain ⟨s1, e1, k1, g1⟩ := ih rfl
    refine ⟨s1 ++ [5], by rw [e1, List.append_assoc], ok1 k1 (Or.inr (Or.inr (Or.inl rfl))), fun n => ?_⟩
    have a := g1 n
    rw [cmd0 (by omega)] at a
    rw [cmd0 (by omega), hls_app, a]
    exact (one _ _).trans (hgt_one (Or.inl rfl) n)
  · intro op i out i' o' _ ih e; cases e
  · intro op i out i' o' _ _ ih e; exact up (by omega) (by omega) (ih e)
  · intro op i out i1 o1 i' o' c _ ih _ ih2 e; cases e
  · intro op i out i1 o1 i' o' c _ ih _ ih2 _
    obtain ⟨s1, e1, k1, g1⟩ := ih rfl
    obtain ⟨s2, e2, k2, g2⟩ := ih2 rfl
    have oc : opC (tk i1) := by unfold opC; omega
    refine ⟨s1 ++ (s2 ++ [tk i1]), by rw [e2, e1]; simp, ok2 k1 (ok1 k2 (Or.inr (Or.inr (Or.inr (Or.inr oc))))), fun n => ?_⟩
    have a := g1 n
    have b := g2 (n + 1)
    rw [cmd0 (by omega)] at a b
    rw [cmd0 (by omega), hls_app, a]
    show hls (s2 ++ [tk i1]) (n + 1) = _
    rw [hls_app, show hls s2 (n + 1) = some (n + 1 + 1) from b]
    exact (one _ _).trans (hgt_op oc n)
  · intro op i out j _
    refine ⟨[tk i], rfl, fun x hx => by cases List.mem_singleton.1 hx; exact hk i j, fun n => ?_⟩
    rw [cmd0 (by omega)]
    exact (one _ _).trans (hgt_itm j n)
  · intro op i out _ _ _ e; cases e
  · intro op i out i' o' t _ _ ih e; cases e
  · intro op i out i' o' t _ _ ih _
    obtain ⟨s1, e1, k1, g1⟩ := ih rfl
    refine ⟨s1 ++ [12], by rw [e1, List.append_assoc], ok1 k1 (Or.inr (Or.inr (Or.inr (Or.inl rfl)))), fun n => ?_⟩
    have a := g1 n
    rw [cmd0 (by omega)] at a
    rw [cmd0 (by omega), hls_app, a]
    exact (one _ _).trans (hgt_one (Or.inr rfl) n)
  · intro op i out i' o' t _ _ ih e; cases e
  · intro op i out i' o' t _ _ _ ih e; cases e
  · intro op i out i' o' t _ t2 _ ih e; exact up (by omega) (by omega) (ih e)
  · intro op i out _ _ _ e; cases e
/-- the row's walk, cut -/
theorem hgs_hls {a b : List Nat} : ∀ (s : List Nat) (a : List Nat) (n : Nat), lq (hgs (a ++ s ++ b)) s.length a.length (some n) = hls s n
  | [], a, n => rfl
  | x :: s, a, n => by
    show lq (hgs (a ++ x :: s ++ b)) s.length (a.length + 1) (hgs (a ++ x :: s ++ b) a.length (some n)) = (hgt x n).bind (hls s)
    have e : (a ++ x :: s ++ b).getD a.length 0 = x := by
      rw [List.getD_eq_getElem?_getD]
      simp
    show lq (hgs (a ++ x :: s ++ b)) s.length (a.length + 1) (hgt ((a ++ x :: s ++ b).getD a.length 0) n) = _
    rw [e]
    cases hgt x n with
    | none => exact hgs_no _ _ _
    | some k =>
      have := hgs_hls (b := b) (a := []) s (a ++ [x]) k
      rw [List.length_append, show [x].length = 1 from rfl, show a ++ [x] ++ s ++ b = a ++ x :: s ++ b by simp] at this
      exact this
