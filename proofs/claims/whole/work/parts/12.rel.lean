/-! the small machine's state beside the real one's -/
def okV (v : Value) : Bool := match v with
  | .int _ => true
  | .long _ => true
  | .null => true
  | .ref _ => true
  | _ => false
def shv (ad : Nat → Nat) (v : Value) : Value := match v with
  | .ref k => .ref (ad k)
  | v => v
theorem shv_cat (ad : Nat → Nat) (v : Value) : (shv ad v).category = v.category := by cases v <;> rfl
def prs (ad : Nat → Nat) : Nat → MLoc → List (Nat × Value)
  | _, [] => []
  | k, some (.inl v) :: r => (k, shv ad v) :: prs ad (k + 1) r
  | k, some (.inr y) :: r => (k, .long y) :: prs ad (k + 1) r
  | k, none :: r => prs ad (k + 1) r
def lok (L : MLoc) : Prop := ∀ v, some (.inl v) ∈ L → v.category = 1
def LR (ad : Nat → Nat) (ls : Array Slot) (nL : Nat) (L : MLoc) : Prop := lv_has ls nL (prs ad 0 L) ∧ L.length = nL ∧ lok L
theorem prs_ge {ad : Nat → Nat} : ∀ (L : MLoc) (k : Nat) (q : Nat × Value), q ∈ prs ad k L → k ≤ q.1 := by
  intro L
  induction L with
  | nil => intro k q h; cases h
  | cons x r ih =>
    intro k q h
    rcases x with _ | (v | y)
    · exact Nat.le_of_succ_le (ih _ _ h)
    · rcases List.mem_cons.mp h with rfl | h
      · exact Nat.le_refl _
      · exact Nat.le_of_succ_le (ih _ _ h)
    · rcases List.mem_cons.mp h with rfl | h
      · exact Nat.le_refl _
      · exact Nat.le_of_succ_le (ih _ _ h)
theorem prs_tail {ad : Nat → Nat} {x : MSl} {r : MLoc} {k : Nat} {q : Nat × Value} (h : q ∈ prs ad (k + 1) r) : q ∈ prs ad k (x :: r) := by
  rcases x with _ | (v | y)
  · exact h
  · exact List.mem_cons_of_mem _ h
  · exact List.mem_cons_of_mem _ h
theorem lok_tail {x : MSl} {r : MLoc} (h : lok (x :: r)) : lok r := fun v hv => h v (List.mem_cons_of_mem _ hv)
theorem prs_mst {ad : Nat → Nat} : ∀ (L : MLoc) (k i : Nat) (v : Value) (q : Nat × Value), lok L → q ∈ prs ad k (mst L i v) → q = (k + i, shv ad v) ∨ (q ∈ prs ad k L ∧ q.1 ≠ k + i ∧ ¬ (q.1 + 1 = k + i ∧ q.2.category = 2)) := by
  intro L
  induction L with
  | nil => intro k i v q _ h; cases h
  | cons x r ih =>
    intro k i v q hl h
    cases i with
    | zero =>
      have h : q ∈ (k, shv ad v) :: prs ad (k + 1) r := h
      rcases List.mem_cons.mp h with rfl | h
      · exact Or.inl rfl
      · have := prs_ge _ _ _ h
        exact Or.inr ⟨prs_tail h, by omega, by omega⟩
    | succ n =>
      have hrec : ∀ q, q ∈ prs ad (k + 1) (mst r n v) → q = (k + (n + 1), shv ad v) ∨ (q ∈ prs ad k (x :: r) ∧ q.1 ≠ k + (n + 1) ∧ ¬ (q.1 + 1 = k + (n + 1) ∧ q.2.category = 2)) := by
        intro q h
        rcases ih (k + 1) n v q (lok_tail hl) h with e | ⟨e1, e2, e3⟩
        · exact Or.inl (by rw [e]; congr 1; omega)
        · exact Or.inr ⟨prs_tail e1, by omega, by omega⟩
      cases n with
      | zero =>
        rcases x with _ | (w | y)
        · exact hrec q h
        · have h : q ∈ (k, shv ad w) :: prs ad (k + 1) (mst r 0 v) := h
          rcases List.mem_cons.mp h with rfl | h
          · refine Or.inr ⟨List.mem_cons_self, by show k ≠ _; omega, fun z => ?_⟩
            have h1 := hl w List.mem_cons_self
            have h2 : (shv ad w).category = 2 := z.2
            rw [shv_cat] at h2
            omega
          · exact hrec q h
        · exact hrec q h
      | succ n =>
        rcases x with _ | (w | y)
        · exact hrec q h
        · have h : q ∈ (k, shv ad w) :: prs ad (k + 1) (mst r (n + 1) v) := h
          rcases List.mem_cons.mp h with rfl | h
          · exact Or.inr ⟨List.mem_cons_self, by show k ≠ _; omega, fun z => by have := z.1; simp only at this; omega⟩
          · exact hrec q h
        · have h : q ∈ (k, Value.long y) :: prs ad (k + 1) (mst r (n + 1) v) := h
          rcases List.mem_cons.mp h with rfl | h
          · exact Or.inr ⟨List.mem_cons_self, by show k ≠ _; omega, fun z => by have := z.1; simp only at this; omega⟩
          · exact hrec q h
theorem prs_mhd {ad : Nat → Nat} : ∀ (L : MLoc) (k : Nat) (q : Nat × Value), q ∈ prs ad k (mhd L) → q ∈ prs ad k L ∧ q.1 ≠ k := by
  intro L k q h
  cases L with
  | nil => cases h
  | cons x r =>
    have h : q ∈ prs ad (k + 1) r := h
    have := prs_ge _ _ _ h
    exact ⟨prs_tail h, by omega⟩
theorem prs_mstL {ad : Nat → Nat} : ∀ (L : MLoc) (k i : Nat) (y : Int64) (q : Nat × Value), lok L → q ∈ prs ad k (mstL L i y) → q = (k + i, .long y) ∨ (q ∈ prs ad k L ∧ q.1 ≠ k + i ∧ q.1 ≠ k + i + 1 ∧ ¬ (q.1 + 1 = k + i ∧ q.2.category = 2)) := by
  intro L
  induction L with
  | nil => intro k i v q _ h; cases h
  | cons x r ih =>
    intro k i v q hl h
    cases i with
    | zero =>
      have h : q ∈ (k, .long v) :: prs ad (k + 1) (mhd r) := h
      rcases List.mem_cons.mp h with rfl | h
      · exact Or.inl rfl
      · obtain ⟨h1, h2⟩ := prs_mhd _ _ _ h
        have := prs_ge _ _ _ h1
        exact Or.inr ⟨prs_tail h1, by omega, by omega, by omega⟩
    | succ n =>
      have hrec : ∀ q, q ∈ prs ad (k + 1) (mstL r n v) → q = (k + (n + 1), .long v) ∨ (q ∈ prs ad k (x :: r) ∧ q.1 ≠ k + (n + 1) ∧ q.1 ≠ k + (n + 1) + 1 ∧ ¬ (q.1 + 1 = k + (n + 1) ∧ q.2.category = 2)) := by
        intro q h
        rcases ih (k + 1) n v q (lok_tail hl) h with e | ⟨e1, e2, e3, e4⟩
        · exact Or.inl (by rw [e]; congr 1; omega)
        · exact Or.inr ⟨prs_tail e1, by omega, by omega, by omega⟩
      cases n with
      | zero =>
        rcases x with _ | (w | y)
        · exact hrec q h
        · have h : q ∈ (k, shv ad w) :: prs ad (k + 1) (mstL r 0 v) := h
          rcases List.mem_cons.mp h with rfl | h
          · refine Or.inr ⟨List.mem_cons_self, by show k ≠ _; omega, by show k ≠ _; omega, fun z => ?_⟩
            have h1 := hl w List.mem_cons_self
            have h2 : (shv ad w).category = 2 := z.2
            rw [shv_cat] at h2
            omega
          · exact hrec q h
        · exact hrec q h
      | succ n =>
        rcases x with _ | (w | y)
        · exact hrec q h
        · have h : q ∈ (k, shv ad w) :: prs ad (k + 1) (mstL r (n + 1) v) := h
          rcases List.mem_cons.mp h with rfl | h
          · exact Or.inr ⟨List.mem_cons_self, by show k ≠ _; omega, by show k ≠ _; omega, fun z => by have := z.1; simp only at this; omega⟩
          · exact hrec q h
        · have h : q ∈ (k, Value.long y) :: prs ad (k + 1) (mstL r (n + 1) v) := h
          rcases List.mem_cons.mp h with rfl | h
          · exact Or.inr ⟨List.mem_cons_self, by show k ≠ _; omega, by show k ≠ _; omega, fun z => by have := z.1; simp only at this; omega⟩
          · exact hrec q h
theorem mst_len : ∀ (L : MLoc) (i : Nat) (v : Value), (mst L i v).length = L.length := by
  intro L
  induction L with
  | nil => intro i v; rfl
  | cons x r ih =>
    intro i v
    cases i with
    | zero => rfl
    | succ n => show (mst r n v).length + 1 = r.length + 1; rw [ih]
theorem mhd_len (L : MLoc) : (mhd L).length = L.length := by cases L <;> rfl
theorem mstL_len : ∀ (L : MLoc) (i : Nat) (v : Int64), (mstL L i v).length = L.length := by
  intro L
  induction L with
  | nil => intro i v; rfl
  | cons x r ih =>
    intro i v
    cases i with
    | zero => show (mhd r).length + 1 = _; rw [mhd_len]; rfl
    | succ n => show (mstL r n v).length + 1 = r.length + 1; rw [ih]
theorem clr_mem {x : MSl} {v : Value} (h : clr x = some (.inl v)) : x = some (.inl v) := by
  rcases x with _ | (w | y)
  · exact h
  · exact h
  · cases h
theorem mst_lok : ∀ (L : MLoc) (i : Nat) (v : Value), lok L → v.category = 1 → lok (mst L i v) := by
  intro L
  induction L with
  | nil => intro i v _ _ w h; cases h
  | cons x r ih =>
    intro i v hl hv w h
    cases i with
    | zero =>
      have h : some (.inl w) ∈ sv v :: r := h
      rcases List.mem_cons.mp h with e | h
      · cases e; exact hv
      · exact hl w (List.mem_cons_of_mem _ h)
    | succ n =>
      cases n with
      | zero =>
        have h : some (.inl w) ∈ clr x :: mst r 0 v := h
        rcases List.mem_cons.mp h with e | h
        · exact hl w (by rw [clr_mem e.symm]; exact List.mem_cons_self)
        · exact ih 0 v (lok_tail hl) hv w h
      | succ n =>
        have h : some (.inl w) ∈ x :: mst r (n + 1) v := h
        rcases List.mem_cons.mp h with e | h
        · exact hl w (by rw [e]; exact List.mem_cons_self)
        · exact ih (n + 1) v (lok_tail hl) hv w h
theorem mhd_lok {L : MLoc} (h : lok L) : lok (mhd L) := by
  intro v hv
  cases L with
  | nil => cases hv
  | cons x r =>
    have hv : some (.inl v) ∈ none :: r := hv
    rcases List.mem_cons.mp hv with e | hv
    · cases e
    · exact h v (List.mem_cons_of_mem _ hv)
theorem mstL_lok : ∀ (L : MLoc) (i : Nat) (y : Int64), lok L → lok (mstL L i y) := by
  intro L
  induction L with
  | nil => intro i v _ w h; cases h
  | cons x r ih =>
    intro i v hl w h
    cases i with
    | zero =>
      have h : some (.inl w) ∈ sy v :: mhd r := h
      rcases List.mem_cons.mp h with e | h
      · cases e
      · exact mhd_lok (lok_tail hl) w h
    | succ n =>
      cases n with
      | zero =>
        have h : some (.inl w) ∈ clr x :: mstL r 0 v := h
        rcases List.mem_cons.mp h with e | h
        · exact hl w (by rw [clr_mem e.symm]; exact List.mem_cons_self)
        · exact ih 0 v (lok_tail hl) w h
      | succ n =>
        have h : some (.inl w) ∈ x :: mstL r (n + 1) v := h
        rcases List.mem_cons.mp h with e | h
        · exact hl w (by rw [e]; exact List.mem_cons_self)
        · exact ih (n + 1) v (lok_tail hl) w h
theorem mlg_prs {ad : Nat → Nat} : ∀ (L : MLoc) (k n : Nat) (v : Value), mlg L n = some (.inl v) → (k + n, shv ad v) ∈ prs ad k L := by
  intro L
  induction L with
  | nil => intro k n v h; cases h
  | cons x r ih =>
    intro k n v h
    cases n with
    | zero =>
      have h : x = some (.inl v) := h
      subst h
      exact List.mem_cons_self
    | succ n =>
      have := ih (k + 1) n v h
      rw [show k + 1 + n = k + (n + 1) by omega] at this
      exact prs_tail this
theorem mlg_prsL {ad : Nat → Nat} : ∀ (L : MLoc) (k n : Nat) (y : Int64), mlg L n = some (.inr y) → (k + n, Value.long y) ∈ prs ad k L := by
  intro L
  induction L with
  | nil => intro k n v h; cases h
  | cons x r ih =>
    intro k n v h
    cases n with
    | zero =>
      have h : x = some (.inr v) := h
      subst h
      exact List.mem_cons_self
    | succ n =>
      have := ih (k + 1) n v h
      rw [show k + 1 + n = k + (n + 1) by omega] at this
      exact prs_tail this
theorem LR.at {ad : Nat → Nat} {ls : Array Slot} {nL : Nat} {L : MLoc} (h : LR ad ls nL L) {n : Nat} {v : Value} (hv : mlg L n = some (.inl v)) : ls[n]? = some (.val (shv ad v)) := by
  have := h.1.2.2 _ (mlg_prs L 0 n v hv)
  simpa using this
theorem LR.atL {ad : Nat → Nat} {ls : Array Slot} {nL : Nat} {L : MLoc} (h : LR ad ls nL L) {n : Nat} {y : Int64} (hv : mlg L n = some (.inr y)) : ls[n]? = some (.val (.long y)) := by
  have := h.1.2.2 _ (mlg_prsL L 0 n y hv)
  simpa using this
theorem LR.st {ad : Nat → Nat} {ls ls' : Array Slot} {nL i : Nat} {L : MLoc} {v : Value} (h : LR ad ls nL L) (hc : v.category = 1) (h' : lv_has ls' nL ((i, shv ad v) :: (prs ad 0 L).filter (fun q => !(q.1 == i) && !(q.1 + 1 == i && q.2.category == 2)))) : LR ad ls' nL (mst L i v) := by
  refine ⟨⟨h'.1, h'.2.1, fun q hq => ?_⟩, by rw [mst_len]; exact h.2.1, mst_lok _ _ _ h.2.2 hc⟩
  refine h'.2.2 q ?_
  rcases prs_mst L 0 i v q h.2.2 hq with e | ⟨e1, e2, e3⟩
  · rw [e]; simp
  · refine List.mem_cons_of_mem _ (List.mem_filter.mpr ⟨e1, ?_⟩)
    simp only [Nat.zero_add] at e2 e3
    simp [e2]
    omega
theorem LR.stL {ad : Nat → Nat} {ls ls' : Array Slot} {nL i : Nat} {L : MLoc} {y : Int64} (h : LR ad ls nL L) (h' : lv_has ls' nL ((i, Value.long y) :: (prs ad 0 L).filter (fun q => !(q.1 == i) && (!(q.1 == i + 1) && !(q.1 + 1 == i && q.2.category == 2))))) : LR ad ls' nL (mstL L i y) := by
  refine ⟨⟨h'.1, h'.2.1, fun q hq => ?_⟩, by rw [mstL_len]; exact h.2.1, mstL_lok _ _ _ h.2.2⟩
  refine h'.2.2 q ?_
  rcases prs_mstL L 0 i y q h.2.2 hq with e | ⟨e1, e2, e3, e4⟩
  · rw [e]; simp
  · refine List.mem_cons_of_mem _ (List.mem_filter.mpr ⟨e1, ?_⟩)
    simp only [Nat.zero_add] at e2 e3 e4
    simp [e2, e3]
    omega
theorem prs_pad {ad : Nat → Nat} : ∀ (n k : Nat) (L : MLoc), prs ad k (padL n L) = prs ad k L := by
  intro n
  induction n with
  | zero => intro k L; rfl
  | succ n ih =>
    intro k L
    cases L with
    | nil => show prs ad (k + 1) (padL n []) = _; rw [ih]; rfl
    | cons x r =>
      rcases x with _ | (v | y)
      · show prs ad (k + 1) (padL n r) = _; rw [ih]; rfl
      · show _ :: prs ad (k + 1) (padL n r) = _; rw [ih]; rfl
      · show _ :: prs ad (k + 1) (padL n r) = _; rw [ih]; rfl
theorem prs_ent {ad : Nat → Nat} : ∀ (as : List Value) (k : Nat), (∀ v ∈ as, okV v = true) → prs ad k (entL as) = lv_args k (as.map (shv ad)) := by
  intro as
  induction as with
  | nil => intro k _; rfl
  | cons v r ih =>
    intro k h
    have hv := h v List.mem_cons_self
    have hr := fun w hw => h w (List.mem_cons_of_mem _ hw)
    cases v with
    | int x => show _ :: prs ad (k + 1) (entL r) = _; rw [ih _ hr]; rfl
    | long x => show _ :: prs ad (k + 2) (entL r) = _; rw [ih _ hr]; rfl
    | null => show _ :: prs ad (k + 1) (entL r) = _; rw [ih _ hr]; rfl
    | ref x => show _ :: prs ad (k + 1) (entL r) = _; rw [ih _ hr]; rfl
    | float x => cases hv
    | double x => cases hv
    | retAddr x => cases hv
theorem ent_lok : ∀ (as : List Value), (∀ v ∈ as, okV v = true) → lok (entL as) := by
  intro as
  induction as with
  | nil => intro _ v h; cases h
  | cons v r ih =>
    intro h w hw
    have hv := h v List.mem_cons_self
    have hr := ih fun w hw => h w (List.mem_cons_of_mem _ hw)
    cases v with
    | int x => rcases List.mem_cons.mp hw with e | hw; (cases e; rfl); exact hr w hw
    | long x =>
      rcases List.mem_cons.mp hw with e | hw
      · cases e
      · rcases List.mem_cons.mp hw with e | hw
        · cases e
        · exact hr w hw
    | null => rcases List.mem_cons.mp hw with e | hw; (cases e; rfl); exact hr w hw
    | ref x => rcases List.mem_cons.mp hw with e | hw; (cases e; rfl); exact hr w hw
    | float x => cases hv
    | double x => cases hv
    | retAddr x => cases hv
theorem pad_lok : ∀ (n : Nat) (L : MLoc), lok L → lok (padL n L) := by
  intro n
  induction n with
  | zero => intro L h; exact h
  | succ n ih =>
    intro L h
    cases L with
    | nil =>
      intro v hv
      rcases List.mem_cons.mp hv with e | hv
      · cases e
      · exact ih [] h v hv
    | cons x r =>
      intro v hv
      rcases List.mem_cons.mp hv with e | hv
      · exact h v (by rw [e]; exact List.mem_cons_self)
      · exact ih r (lok_tail h) v hv
theorem pad_len : ∀ (n : Nat) (L : MLoc), L.length ≤ n → (padL n L).length = n := by
  intro n
  induction n with
  | zero => intro L h; exact Nat.le_zero.mp h
  | succ n ih =>
    intro L h
    cases L with
    | nil => show (padL n []).length + 1 = _; rw [ih [] (Nat.zero_le _)]
    | cons x r => show (padL n r).length + 1 = _; rw [ih r (Nat.le_of_succ_le_succ h)]
theorem ent_len {ad : Nat → Nat} : ∀ (as : List Value), (∀ v ∈ as, okV v = true) → (entL as).length = (lg_sl (as.map (shv ad))).length := by
  intro as
  induction as with
  | nil => intro _; rfl
  | cons v r ih =>
    intro h
    have hv := h v List.mem_cons_self
    have hr := ih fun w hw => h w (List.mem_cons_of_mem _ hw)
    cases v with
    | int x => show (entL r).length + 1 = _; rw [hr]; simp [lg_sl, shv, Value.category, Nat.add_comm]
    | long x => show (entL r).length + 1 + 1 = _; rw [hr]; simp [lg_sl, shv, Value.category, Nat.add_comm]
    | null => show (entL r).length + 1 = _; rw [hr]; simp [lg_sl, shv, Value.category, Nat.add_comm]
    | ref x => show (entL r).length + 1 = _; rw [hr]; simp [lg_sl, shv, Value.category, Nat.add_comm]
    | float x => cases hv
    | double x => cases hv
    | retAddr x => cases hv
/-- a method's first state -/
theorem LR.entry {ad : Nat → Nat} {nL : Nat} {as : List Value} (h : ∀ v ∈ as, okV v = true) (hn : (entL as).length ≤ nL) : LR ad ((lg_sl (as.map (shv ad)) ++ List.replicate (nL - (lg_sl (as.map (shv ad))).length) Slot.unset).toArray) nL (padL nL (entL as)) := by
  refine ⟨?_, pad_len _ _ hn, pad_lok _ _ (ent_lok _ h)⟩
  rw [prs_pad, prs_ent _ _ h]
  exact lv_entry (as.map (shv ad)) (by rw [← ent_len as h]; exact hn)
