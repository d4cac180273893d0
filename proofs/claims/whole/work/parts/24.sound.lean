/-! soundness: what the small machine's run gives, a contract of the real one says -/
theorem prm_gr {m : Nat} {as : List Value} {h h2 : MHeap} {v : Option Value} (e : prm m as h = some (v, h2)) : gr h h2 := by
  unfold prm at e
  split at e
  · split at e
    · cases e; exact gr_rfl _
    · cases e
  · split at e
    · cases e; exact gr_rfl _
    · cases e
  · split at e
    · obtain ⟨vs, ws, e1, e2, c1, c2, c3, c4, c5, rfl, rfl⟩ := acp_spec e
      exact gr_set e2 (cpyL_len c4 c5)
    · cases e
  · split at e
    · cases e; exact gr_rfl _
    · cases e
  · split at e
    · unfold slen at e
      (repeat' split at e) <;> first | (cases e; done) | (cases e; exact gr_rfl _)
    · cases e
  · split at e
    · unfold sch at e
      (repeat' split at e) <;> first | (cases e; done) | (cases e; exact gr_rfl _)
    · cases e
  · cases e
theorem cK_some2 {q : Nat} {r : MRes} {k : List Value → MHeap → MRes} {x : Option Value × MHeap} (h : cK q r k = some x) : ∃ v h1, r = some (v, h1) ∧ okS v.toList ∧ k v.toList h1 = some x := by
  unfold cK at h
  split at h
  · unfold cV at h
    split at h
    · exact ⟨_, _, rfl, fun _ z => (by cases z), h⟩
    · cases h
  · unfold cI at h
    split at h
    · exact ⟨_, _, rfl, fun w z => (by rw [List.mem_singleton.mp z]; rfl), h⟩
    · cases h
  · unfold cR at h
    split at h
    · unfold dA at h
      split at h
      · exact ⟨_, _, rfl, fun w z => (by rw [List.mem_singleton.mp z]; rfl), h⟩
      · exact ⟨_, _, rfl, fun w z => (by rw [List.mem_singleton.mp z]; rfl), h⟩
      · cases h
    · cases h
  · unfold cJ at h
    split at h
    · exact ⟨_, _, rfl, fun w z => (by rw [List.mem_singleton.mp z]; rfl), h⟩
    · cases h
/-- what an instruction hands to a call: values of its stack, the heap as it is -/
theorem stK_okas (i : Instr) (rs : List Nat) (cs : List Value) (L : MLoc) (S : List Value) (h : MHeap) (hS : okS S) : stK True (fun _ _ => True) (fun _ _ _ => True) (fun _ _ _ _ => True) (fun _ as _ _ h1 => okS as ∧ h1 = h) i rs cs L S h := by
  have key : ∀ (n : Nat) (as S1 : List Value), pops n [] S = some (as, S1) → okS as ∧ okS S1 := by
    intro n as S1 hp
    obtain ⟨-, hSe, -⟩ := pops_at (ad := id) hp
    rw [hSe] at hS
    exact ⟨fun v hv => hS v (List.mem_append_left _ (List.mem_reverse.mpr hv)), hS.right⟩
  cases i
  case invokestatic k =>
    simp only [stK]
    split
    · split
      · rename_i hp
        apply cond_T
        exact ⟨(key _ _ _ hp).1, trivial⟩
      · trivial
    · trivial
  case invokespecial k =>
    simp only [stK]
    split
    · split
      · rename_i hp
        apply dR_T
        intro o
        have hk := key _ _ _ hp
        split
        · apply cond_T
          exact ⟨okS.cons rfl hk.1, trivial⟩
        · apply inO_T
          intro _
          apply cond_T
          exact ⟨okS.cons rfl hk.1, trivial⟩
      · trivial
    · trivial
  case invokevirtual k =>
    simp only [stK]
    split
    · split
      · rename_i hp
        apply dR_T
        intro o
        apply vd_T
        intro _
        have hk := key _ _ _ hp
        apply cond_T
        exact ⟨okS.cons rfl hk.1, trivial⟩
      · trivial
    · trivial
  all_goals (simp only [stK]; repeat' first
    | exact trivial
    | (apply dI_T; intro _)
    | (apply dL_T; intro _)
    | (apply dR_T; intro _)
    | apply dA_T
    | apply dN_T
    | apply dD_T
    | apply dv_T
    | apply dvL_T
    | apply zr_T
    | (apply gS_T; intro _)
    | (apply gSL_T; intro _)
    | (apply gfI_T; intro _)
    | (apply gfV_T; intro _)
    | (apply pfI_T; intro _ _)
    | (apply pfV_T; intro _ _)
    | (apply aln_T; intro _)
    | (apply alI_T; intro _)
    | (apply alV_T; intro _)
    | (apply asI_T; intro _ _)
    | (apply asV_T; intro _ _)
    | (unfold nwA; split <;> exact trivial)
    | (apply inO_T; intro _)
    | (apply swc_T; exact trivial; intro _; exact trivial)
    | split)
theorem st1_gr {i : Instr} {rs : List Nat} {cs : List Value} {L : MLoc} {S : List Value} {h : MHeap} (h3 : 3 ≤ h.length) {o : MOut} (e : st1 i rs cs L S h = o) : itp True (fun _ h1 => gr h h1) (fun _ _ h1 => gr h h1) (fun _ _ _ h1 => gr h h1) (fun _ _ _ _ h1 => gr h h1) o := by
  have := stK_grow i rs cs L S h h3
  rw [stK_itp, e] at this
  exact this
theorem st1_ok {i : Instr} {rs : List Nat} {cs : List Value} {L : MLoc} {S : List Value} {h : MHeap} (hS : okS S) {o : MOut} (e : st1 i rs cs L S h = o) : itp True (fun _ _ => True) (fun _ _ _ => True) (fun _ _ _ _ => True) (fun _ as _ _ h1 => okS as ∧ h1 = h) o := by
  have := stK_okas i rs cs L S h hS
  rw [stK_itp, e] at this
  exact this
theorem rcall_cases {n d m' : Nat} {as : List Value} {h : MHeap} {x : Option Value × MHeap} (e : rcall n d m' as h = some x) : ∃ d1, d = d1 + 1 ∧ ((1000 ≤ m' ∧ prx d1 (m' - 1000) as h = some x) ∨ (m' < 1000 ∧ (entL as).length ≤ (prg m').2 ∧ run n d1 m' 0 (padL (prg m').2 (entL as)) [] h = some x)) := by
  unfold rcall at e
  cases d with
  | zero => cases e
  | succ d =>
    refine ⟨d, rfl, ?_⟩
    cases hb : Nat.ble 1000 m' with
    | true =>
      simp only [hb, cond_true] at e
      exact Or.inl ⟨Nat.le_of_ble_eq_true hb, e⟩
    | false =>
      cases hb2 : Nat.ble (entL as).length (prg m').2 with
      | false => simp only [hb, hb2, cond_false] at e; cases e
      | true =>
        simp only [hb, hb2, cond_false, cond_true] at e
        refine Or.inr ⟨?_, Nat.le_of_ble_eq_true hb2, e⟩
        rcases Nat.lt_or_ge m' 1000 with q | q
        · exact q
        · rw [Nat.ble_eq_true_of_le q] at hb; cases hb
theorem run_gr : ∀ (n d m pc : Nat) (L : MLoc) (S : List Value) (h : MHeap) (x : Option Value × MHeap), run n d m pc L S h = some x → 3 ≤ h.length → gr h x.2 := by
  intro n
  induction n with
  | zero => intro d m pc L S h x e; simp [run] at e
  | succ n ih =>
    intro d m pc L S h x e h3
    rw [run_itp] at e
    split at e
    · cases e
    · rename_i i r hs
      cases ho : st1 i.2.1 i.2.2.1 i.2.2.2 L S h with
      | none => rw [ho] at e; cases e
      | some o =>
        have hg := st1_gr h3 ho
        rw [ho] at e
        rcases o with ⟨v, h1⟩ | ⟨L1, S1, h1⟩ | ⟨j, L1, S1, h1⟩ | ⟨m', as, q, S1, h1⟩
        · cases e; exact hg
        · exact gr_trans hg (ih _ _ _ _ _ _ _ e (Nat.le_trans h3 hg.1))
        · exact gr_trans hg (ih _ _ _ _ _ _ _ e (Nat.le_trans h3 hg.1))
        · have e : cK q (rcall n d m' as h1) (fun vs h => run n d m (nxt r) L (vs ++ S1) h) = some x := e
          have hg : gr h h1 := hg
          obtain ⟨v, h2, hr, -, e2⟩ := cK_some2 e
          have hg2 : gr h1 h2 := by
            obtain ⟨d1, -, ⟨-, q⟩ | ⟨-, -, q⟩⟩ := rcall_cases hr
            · exact prm_gr (prx_prm q).1
            · exact ih _ _ _ _ _ _ _ q (Nat.le_trans h3 hg.1)
          exact gr_trans hg (gr_trans hg2 (ih _ _ _ _ _ _ _ e2 (Nat.le_trans h3 (Nat.le_trans hg.1 hg2.1))))
