/-! the heap only grows -/
def gr (h h1 : MHeap) : Prop := h.length ≤ h1.length ∧ hsl h ≤ hsl h1
theorem gr_rfl (h : MHeap) : gr h h := ⟨Nat.le_refl _, Nat.le_refl _⟩
theorem gr_trans {a b c : MHeap} (h1 : gr a b) (h2 : gr b c) : gr a c := ⟨Nat.le_trans h1.1 h2.1, Nat.le_trans h1.2 h2.2⟩
theorem gr_set {h : MHeap} {o : Nat} {q q' : MCell} (hq : h[o]? = some q) (hl : q'.2.length = q.2.length) : gr h (h.set o q') := ⟨by rw [List.length_set]; exact Nat.le_refl _, by rw [hsl_set hq hl]; exact Nat.le_refl _⟩
theorem gr_push {h : MHeap} (h3 : 3 ≤ h.length) (q : MCell) : gr h (h ++ [q]) := ⟨by rw [List.length_append]; omega, by rw [hsl_push h3]; omega⟩
theorem dI_T {v : Value} {k : Int32 → Prop} (h : ∀ x, k x) : dI True v k := by cases v <;> first | exact h _ | trivial
theorem dL_T {v : Value} {k : Int64 → Prop} (h : ∀ x, k x) : dL True v k := by cases v <;> first | exact h _ | trivial
theorem dR_T {v : Value} {k : Nat → Prop} (h : ∀ x, k x) : dR True v k := by cases v <;> first | exact h _ | trivial
theorem dA_T {v : Value} {k : Prop} (h : k) : dA True v k := by cases v <;> first | exact h | trivial
theorem dN_T {v : Value} {k1 k2 : Prop} (h1 : k1) (h2 : k2) : dN True v k1 k2 := by cases v <;> first | exact h1 | exact h2 | trivial
theorem dD_T {v : Value} {k : Prop} (h : k) : dD True v k := by cases v <;> first | exact h | trivial
theorem dv_T {y : Int32} {k : Prop} (h : k) : dv True y k := by unfold dv; split <;> first | exact h | trivial
theorem dvL_T {y : Int64} {k : Prop} (h : k) : dvL True y k := by unfold dvL; split <;> first | exact h | trivial
theorem zr_T {y : Int32} {k : Prop} (h : k) : zr True y k := by unfold zr; split <;> first | exact h | trivial
theorem gS_T {q : MSl} {k : Value → Prop} (h : ∀ v, k v) : gS True q k := by rcases q with _ | (v | y) <;> first | exact h _ | trivial
theorem gSL_T {q : MSl} {k : Int64 → Prop} (h : ∀ v, k v) : gSL True q k := by rcases q with _ | (v | y) <;> first | exact h _ | trivial
theorem gfI_T {h : MHeap} {o : Nat} {ts : List Nat} {j : Nat} {k : Int32 → Prop} (e : ∀ x, k x) : gfI True h o ts j k := by
  unfold gfI; (repeat' split) <;> first | exact e _ | trivial
theorem gfV_T {h : MHeap} {o : Nat} {ts : List Nat} {j : Nat} {k : Value → Prop} (e : ∀ x, k x) : gfV True h o ts j k := by
  unfold gfV; (repeat' split) <;> first | exact dA_T (e _) | trivial
theorem pfI_T {h : MHeap} {o : Nat} {ts : List Nat} {j : Nat} {x : Int32} {k : MHeap → Prop} (e : ∀ h1, gr h h1 → k h1) : pfI True h o ts j x k := by
  unfold pfI
  split
  · rename_i hq
    split
    · exact e _ (gr_set hq (by simp))
    · trivial
  · trivial
theorem pfV_T {h : MHeap} {o : Nat} {ts : List Nat} {j : Nat} {x : Value} {k : MHeap → Prop} (e : ∀ h1, gr h h1 → k h1) : pfV True h o ts j x k := by
  unfold pfV
  split
  · rename_i hq
    split
    · exact dA_T (e _ (gr_set hq (by simp)))
    · trivial
  · trivial
theorem aln_T {h : MHeap} {o : Nat} {k : Int32 → Prop} (e : ∀ x, k x) : aln True h o k := by
  unfold aln; (repeat' split) <;> first | exact e _ | trivial
theorem alI_T {h : MHeap} {o : Nat} {i : Int32} {k : Int32 → Prop} (e : ∀ x, k x) : alI True h o i k := by
  unfold alI; (repeat' split) <;> first | exact e _ | trivial
theorem alV_T {h : MHeap} {o : Nat} {i : Int32} {k : Value → Prop} (e : ∀ x, k x) : alV True h o i k := by
  unfold alV; (repeat' split) <;> first | exact dA_T (e _) | trivial
theorem asI_T {h : MHeap} {o : Nat} {i x : Int32} {k : MHeap → Prop} (e : ∀ h1, gr h h1 → k h1) : asI True h o i x k := by
  unfold asI
  split
  · rename_i hq
    split
    · exact e _ (gr_set hq (by simp))
    · trivial
  · trivial
theorem asV_T {h : MHeap} {o : Nat} {i : Int32} {x : Value} {k : MHeap → Prop} (e : ∀ h1, gr h h1 → k h1) : asV True h o i x k := by
  unfold asV
  split
  · rename_i hq
    (repeat' split) <;> first | exact e _ (gr_set hq (by simp)) | trivial
  · trivial
theorem nwA_T {h : MHeap} (h3 : 3 ≤ h.length) {t : Nat} {n : Int32} {v : Value} {k : Nat → MHeap → Prop} (e : ∀ o h1, gr h h1 → k o h1) : nwA True h t n v k := by
  unfold nwA
  split
  · trivial
  · exact e _ _ (gr_push h3 _)
theorem inO_T {h : MHeap} {o : Nat} {ts us : List Nat} {k : Int32 → Prop} (e : ∀ x, k x) : inO True h o ts us k := by
  unfold inO; (repeat' split) <;> first | exact e _ | trivial
theorem vd_T {h : MHeap} {o : Nat} {ps : List Nat} {k : Nat → Prop} (e : ∀ x, k x) : vd True h o ps k := by
  unfold vd; (repeat' split) <;> first | exact e _ | trivial
theorem cond_T {c : Bool} {k : Prop} (e : k) : bif c then k else True := by cases c <;> first | exact e | trivial
theorem swc_T {x : Int32} {kd : Prop} {k : Nat → Prop} (hd : kd) (hk : ∀ t, k t) : ∀ (cs : List Value) (ts : List Nat), swc x kd k cs ts := by
  intro cs
  induction cs with
  | nil => intro ts; unfold swc; exact hd
  | cons c cs ih =>
    intro ts
    cases c with
    | int y =>
      cases ts with
      | nil => unfold swc; exact hd
      | cons t ts =>
        show if x = y then k t else swc x kd k cs ts
        split
        · exact hk _
        · exact ih _
    | _ => unfold swc; exact hd
set_option maxHeartbeats 4000000 in
theorem stK_grow (i : Instr) (rs : List Nat) (cs : List Value) (L : MLoc) (S : List Value) (h : MHeap) (h3 : 3 ≤ h.length) : stK True (fun _ h1 => gr h h1) (fun _ _ h1 => gr h h1) (fun _ _ _ h1 => gr h h1) (fun _ _ _ _ h1 => gr h h1) i rs cs L S h := by
  cases i <;> simp only [stK] <;> repeat' first
    | exact trivial
    | exact gr_rfl _
    | assumption
    | (apply dI_T; intro _)
    | (apply dL_T; intro _)
    | (apply dR_T; intro _)
    | apply dA_T
    | apply dN_T
    | apply dD_T
    | apply dv_T
    | apply dvL_T
    | apply zr_T
    | (apply gS_T; intro _)
    | (apply gSL_T; intro _)
    | (apply gfI_T; intro _)
    | (apply gfV_T; intro _)
    | (apply pfI_T; intro _ _)
    | (apply pfV_T; intro _ _)
    | (apply aln_T; intro _)
    | (apply alI_T; intro _)
    | (apply alV_T; intro _)
    | (apply asI_T; intro _ _)
    | (apply asV_T; intro _ _)
    | (apply nwA_T h3; intro _ _ _)
    | exact gr_push h3 _
    | (apply inO_T; intro _)
    | (apply vd_T; intro _)
    | apply cond_T
    | (apply swc_T; (first | exact gr_rfl _ | exact trivial); intro _)
    | split
