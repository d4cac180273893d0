/-! likely, right -/
section PQS
variable {c w : Nat} {b : Int32} {hs : List Ent} {T : Txt}
def syN (c w : Nat) (b : Int32) (hs : List Ent) (T : Txt) (g i : Nat) : Nat := (syT c w b hs T g i).toBitVec.toNat
theorem syN_ok (g i : Nat) : syN c w b hs T g i ≤ 99 ∧ syT c w b hs T g i = nI (syN c w b hs T g i) := by
  obtain ⟨k, hk, e⟩ := clp_nI (tvl (nms c w b hs i) T g)
  unfold syN
  have e : syT c w b hs T g i = nI k := e
  rw [e, pk_tn (by omega)]
  exact ⟨hk, rfl⟩
def w0 (c w : Nat) (b : Int32) (hs : List Ent) : Nat := if sgs c w hs b = 0 then 100 else 0
def w1 (c w : Nat) (b : Int32) (hs : List Ent) (T : Txt) (i : Nat) : Nat := if sgs c w hs (b ^^^ nI (2 ^ i)) = 0 then syN c w b hs T 0 i else 0
def w2 (c w : Nat) (b : Int32) (hs : List Ent) (T : Txt) (i : Nat) : Nat := if sgs c w hs (swd b i (i + 1)) = 0 then syN c w b hs T 1 i else 0
/-- weights of ways -/
def wts (c w : Nat) (b : Int32) (hs : List Ent) (T : Txt) (j : Nat) : Nat := if j = 0 then w0 c w b hs else if 1 ≤ j ∧ j < 1 + c then w1 c w b hs T (j - 1) else if 21 ≤ j ∧ j < 20 + c ∧ unl b (j - 21) (j - 21 + 1) = true then w2 c w b hs T (j - 21) else 0
theorem w1_le (i : Nat) : w1 c w b hs T i ≤ 99 := by
  unfold w1
  split
  · exact (syN_ok 0 i).1
  · omega
theorem w2_le (i : Nat) : w2 c w b hs T i ≤ 99 := by
  unfold w2
  split
  · exact (syN_ok 1 i).1
  · omega
theorem wts_le (j : Nat) : wts c w b hs T j ≤ 100 := by
  unfold wts
  split
  · unfold w0; split <;> omega
  · split
    · have := w1_le (c := c) (w := w) (b := b) (hs := hs) (T := T) (j - 1); omega
    · split
      · have := w2_le (c := c) (w := w) (b := b) (hs := hs) (T := T) (j - 21); omega
      · omega
/-- the first of most weight, its weight, all together -/
def scn (W : Nat → Nat) (i : Nat) (s : Int32 × Nat × Nat) : Int32 × Nat × Nat := if s.2.1 < W i then (nI i, W i, s.2.2 + W i) else (s.1, s.2.1, s.2.2 + W i)
theorem scn_0 {W : Nat → Nat} {i : Nat} {s : Int32 × Nat × Nat} (h : W i = 0) : scn W i s = s := by
  unfold scn; rw [h, if_neg (by omega)]; rfl
theorem scn_inv (W : Nat → Nat) (hW : ∀ i, W i ≤ 100) : ∀ n, (lq (scn W) n 0 (-1, 0, 0)).2.2 ≤ 100 * n ∧ (lq (scn W) n 0 (-1, 0, 0)).2.1 ≤ (lq (scn W) n 0 (-1, 0, 0)).2.2 ∧ (((lq (scn W) n 0 (-1, 0, 0)).1 = -1 ∧ (lq (scn W) n 0 (-1, 0, 0)).2.1 = 0 ∧ (lq (scn W) n 0 (-1, 0, 0)).2.2 = 0) ∨ (∃ i, i < n ∧ (lq (scn W) n 0 (-1, 0, 0)).1 = nI i ∧ (lq (scn W) n 0 (-1, 0, 0)).2.1 = W i ∧ 0 < W i)) := by
  intro n
  have key := lq_inv (f := scn W) (fun n s => s.2.2 ≤ 100 * n ∧ s.2.1 ≤ s.2.2 ∧ ((s.1 = -1 ∧ s.2.1 = 0 ∧ s.2.2 = 0) ∨ (∃ i, i < n ∧ s.1 = nI i ∧ s.2.1 = W i ∧ 0 < W i))) n 0 (-1, 0, 0) ?_ ⟨by decide, by decide, Or.inl ⟨rfl, rfl, rfl⟩⟩
  · rw [Nat.zero_add] at key; exact key
  · intro i s _ _ ⟨h1, h2, h3⟩
    have hi := hW i
    unfold scn
    by_cases q : s.2.1 < W i
    · rw [if_pos q]
      exact ⟨by show s.2.2 + W i ≤ _; omega, by show W i ≤ s.2.2 + W i; omega, Or.inr ⟨i, by omega, rfl, rfl, by omega⟩⟩
    · rw [if_neg q]
      refine ⟨by show s.2.2 + W i ≤ _; omega, by show s.2.1 ≤ s.2.2 + W i; omega, ?_⟩
      rcases h3 with ⟨z1, z2, z3⟩ | ⟨k, z1, z2, z3, z4⟩
      · refine Or.inl ⟨z1, z2, ?_⟩
        show s.2.2 + W i = 0
        omega
      · exact Or.inr ⟨k, by omega, z2, z3, z4⟩
theorem lq_sh {σ : Type} {f : Nat → σ → σ} (k : Nat) : ∀ m j s, lq (fun i => f (k + i)) m j s = lq f m (k + j) s := by
  intro m
  induction m with
  | zero => intro j s; rfl
  | succ m ih => intro j s; exact ih (j + 1) (f (k + j) s)
/-- the reference's order -/
theorem scn_ref {W : Nat → Nat} (h2 : c ≤ 12) (h0 : ∀ j, (1 + c ≤ j ∧ j < 21) ∨ 20 + c ≤ j → W j = 0) (hc : 0 < c) : lq (scn W) 33 0 (-1, 0, 0) = lq (fun i => scn W (21 + i)) (c - 1) 0 (lq (fun i => scn W (1 + i)) c 0 (scn W 0 (-1, 0, 0))) := by
  rw [lq_sh, lq_sh]
  rw [show (33 : Nat) = 1 + (c + ((20 - c) + ((c - 1) + (13 - c)))) by omega]
  rw [lq_add, lq_add, lq_add, lq_add]
  have e1 : ∀ m k s, (∀ j, k ≤ j → j < k + m → W j = 0) → lq (scn W) m k s = s := by
    intro m
    induction m with
    | zero => intro k s _; rfl
    | succ m ih =>
      intro k s hh
      show lq (scn W) m (k + 1) (scn W k s) = s
      rw [scn_0 (hh k (by omega) (by omega))]
      exact ih (k + 1) s (fun j h1 h2 => hh j (by omega) (by omega))
  rw [e1 (13 - c) _ _ (fun j z1 z2 => h0 j (by omega)), e1 (20 - c) _ _ (fun j z1 z2 => h0 j (by omega))]
  rw [show 0 + 1 + c + (20 - c) = 21 + 0 by omega, show 0 + 1 = 1 + 0 by omega]
  rfl
theorem wts_0 (h2 : c ≤ 12) (j : Nat) (h : (1 + c ≤ j ∧ j < 21) ∨ 20 + c ≤ j) : wts c w b hs T j = 0 := by
  unfold wts
  rw [if_neg (by omega), if_neg (by omega), if_neg (by omega)]
/-! the class's rows of weights -/
def wsF (g : Nat → Nat) (h h1 : MHeap) : Prop := FC h h1 ∧ ∃ v : List Int32, h1[23]? = some (100, v.map .int) ∧ v.length = 33 ∧ ∀ j, j < 33 → v.getD j 0 = nI (g j)
theorem FC.s23 {h : MHeap} (C : CS h) {u : List Int32} (hu : u.length = 33) : FC h (h.set 23 (100, u.map .int)) := by
  obtain ⟨u0, v, n, s, ⟨c1, d1⟩, ⟨c2, d2⟩, ⟨c3, d3⟩, ⟨c4, d4⟩⟩ := C
  refine ⟨List.length_set, fun a ha => gset_ne _ (by omega), u0, u, n, s, ⟨?_, d1⟩, ⟨gset c2 _, hu⟩, ⟨?_, d3⟩, ⟨?_, d4⟩⟩
  · rw [gset_ne _ (by decide)]; exact c1
  · rw [gset_ne _ (by decide)]; exact c3
  · rw [gset_ne _ (by decide)]; exact c4
theorem wsF.fd {g : Nat → Nat} {h h1 h2 : MHeap} (I : wsF g h h1) (G : FD h1 h2) : wsF g h h2 := by
  obtain ⟨G0, v, hv, hl, hg⟩ := I
  exact ⟨G0.tr G.fc, v, by rw [G.2.1 23 (by decide)]; exact hv, hl, hg⟩
theorem wsF.set {g : Nat → Nat} {h h1 : MHeap} (I : wsF g h h1) {k : Nat} (hk : k < 33) (x : Nat) : ∃ h2, (∀ K : MHeap → MRes, asI none h1 23 (nI k) (nI x) K = K h2) ∧ wsF (fu g k x) h h2 := by
  obtain ⟨G0, v, hv, hl, hg⟩ := I
  refine ⟨h1.set 23 (100, (v.set k (nI x)).map .int), fun K => ar_as hv (by omega) (by omega) _ K, G0.tr (FC.s23 G0.2.2 (by rw [List.length_set]; exact hl)), v.set k (nI x), gset hv _, by rw [List.length_set]; exact hl, ?_⟩
  intro j hj
  rw [getD_set (by omega)]
  unfold fu
  by_cases z : j = k
  · rw [if_pos z, if_pos z]
  · rw [if_neg z, if_neg z]; exact hg j hj
theorem c_261 {h : MHeap} {o : Nat} {v : List Int32} (hv : h[o]? = some (100, v.map .int)) (hl : v.length < 2 ^ 31) (x : Int32) (d : Nat) : call (d + 1) 261 [.ref o, .int x] h = some (none, h.set o (100, (List.replicate v.length x).map .int)) := by
  rw [e_261, ar_ln hv]
  have key : ∀ i, i ≤ v.length → ∀ u : List Int32, u.length = v.length → (∀ j, j < i → u.getD j 0 = x) → ex d 261 5 [sv (.ref o), sv (.int x), sv (.int (nI i)), sv (.int (nI v.length))] [] (h.set o (100, u.map .int)) = some (none, h.set o (100, (List.replicate v.length x).map .int)) := by
    intro i hi
    refine up_ind (n := v.length) (P := fun i => ∀ u : List Int32, u.length = v.length → (∀ j, j < i → u.getD j 0 = x) → ex d 261 5 [sv (.ref o), sv (.int x), sv (.int (nI i)), sv (.int (nI v.length))] [] (h.set o (100, u.map .int)) = some (none, h.set o (100, (List.replicate v.length x).map .int))) ?_ ?_ hi
    · intro u hu hj
      rw [e_261_5, if_neg (nI_nlt (Nat.le_refl _) hl)]
      have : u = List.replicate v.length x := by
        apply List.ext_getElem?
        intro j
        by_cases hj2 : j < v.length
        · have := hj j hj2
          rw [List.getD_eq_getElem?_getD, List.getElem?_eq_getElem (by omega)] at this
          rw [List.getElem?_replicate, if_pos hj2, List.getElem?_eq_getElem (by omega)]
          exact congrArg some this
        · rw [List.getElem?_eq_none (by omega), List.getElem?_eq_none (by simp; omega)]
      rw [this]
    · intro i hi ih u hu hj
      rw [e_261_5, if_pos (nI_lt hi hl), ar_as2 hv (by omega) (by omega), nI_1]
      refine ih (u.set i x) (by rw [List.length_set]; exact hu) ?_
      intro j hj2
      rw [getD_set (by omega)]
      by_cases z : j = i
      · rw [if_pos z]
      · rw [if_neg z]; exact hj j (by omega)
  have := key 0 (by omega) v rfl (fun j hj => by omega)
  rw [set_self hv] at this
  exact this
def wgs (c w : Nat) (b : Int32) (hs : List Ent) (T : Txt) (i : Nat) (g : Nat → Nat) : Nat → Nat :=
  let g1 := if i < c then fu g (1 + i) (w1 c w b hs T i) else g
  if i + 1 < c ∧ unl b i (i + 1) = true then fu g1 (21 + i) (w2 c w b hs T i) else g1
theorem wgs_ok (h2 : c ≤ 12) : ∀ j, j < 33 → lq (wgs c w b hs T) 12 0 (fu (fun _ => 0) 0 (w0 c w b hs)) j = wts c w b hs T j := by
  have key := lq_inv (f := wgs c w b hs T) (fun n g => ∀ j, j < 33 → g j = if j = 0 ∨ (1 ≤ j ∧ j < 1 + n) ∨ (21 ≤ j ∧ j < 21 + n) then wts c w b hs T j else 0) 12 0 (fu (fun _ => 0) 0 (w0 c w b hs)) ?_ ?_
  · intro j hj
    have := key j hj
    rw [this]
    by_cases z : j = 0 ∨ (1 ≤ j ∧ j < 1 + (0 + 12)) ∨ (21 ≤ j ∧ j < 21 + (0 + 12))
    · rw [if_pos z]
    · rw [if_neg z]
      unfold wts
      rw [if_neg (by omega)]
      by_cases z1 : 1 ≤ j ∧ j < 1 + c
      · omega
      · rw [if_neg z1, if_neg (by omega)]
  · intro i g _ hi hg j hj
    have h1 : (if i < c then fu g (1 + i) (w1 c w b hs T i) else g) j = if j = 0 ∨ (1 ≤ j ∧ j < 1 + (i + 1)) ∨ (21 ≤ j ∧ j < 21 + i) then wts c w b hs T j else 0 := by
      by_cases q : i < c
      · rw [if_pos q]
        unfold fu
        by_cases z : j = 1 + i
        · rw [if_pos z, if_pos (by omega)]
          unfold wts
          rw [if_neg (by omega), if_pos (by omega), z, Nat.add_sub_cancel_left]
        · rw [if_neg z, hg j hj]
          by_cases z2 : j = 0 ∨ (1 ≤ j ∧ j < 1 + i) ∨ (21 ≤ j ∧ j < 21 + i)
          · rw [if_pos z2, if_pos (by omega)]
          · rw [if_neg z2, if_neg (by omega)]
      · rw [if_neg q, hg j hj]
        by_cases z : j = 1 + i
        · rw [if_neg (by omega), if_pos (by omega)]
          unfold wts
          rw [if_neg (by omega), if_neg (by omega), if_neg (by omega)]
        · by_cases z2 : j = 0 ∨ (1 ≤ j ∧ j < 1 + i) ∨ (21 ≤ j ∧ j < 21 + i)
          · rw [if_pos z2, if_pos (by omega)]
          · rw [if_neg z2, if_neg (by omega)]
    show (if i + 1 < c ∧ unl b i (i + 1) = true then fu (if i < c then fu g (1 + i) (w1 c w b hs T i) else g) (21 + i) (w2 c w b hs T i) else (if i < c then fu g (1 + i) (w1 c w b hs T i) else g)) j = _
    by_cases q : i + 1 < c ∧ unl b i (i + 1) = true
    · rw [if_pos q]
      by_cases z : j = 21 + i
      · subst z
        rw [fu_eq, if_pos (by omega)]
        unfold wts
        rw [if_neg (by omega)]
        by_cases y : 1 ≤ 21 + i ∧ 21 + i < 1 + c
        · omega
        · rw [if_neg y, Nat.add_sub_cancel_left, if_pos ⟨by omega, by omega, q.2⟩]
      · rw [fu_ne _ _ z, h1]
        by_cases z2 : j = 0 ∨ (1 ≤ j ∧ j < 1 + (i + 1)) ∨ (21 ≤ j ∧ j < 21 + i)
        · rw [if_pos z2, if_pos (by omega)]
        · rw [if_neg z2, if_neg (by omega)]
    · rw [if_neg q, h1]
      by_cases z : j = 21 + i
      · subst z
        rw [if_neg (by omega), if_pos (by omega)]
        unfold wts
        rw [if_neg (by omega)]
        by_cases y : 1 ≤ 21 + i ∧ 21 + i < 1 + c
        · omega
        · rw [if_neg y, Nat.add_sub_cancel_left, if_neg (fun y2 => q ⟨by omega, y2.2.2⟩)]
      · by_cases z2 : j = 0 ∨ (1 ≤ j ∧ j < 1 + (i + 1)) ∨ (21 ≤ j ∧ j < 21 + i)
        · rw [if_pos z2, if_pos (by omega)]
        · rw [if_neg z2, if_neg (by omega)]
  · intro j hj
    show fu _ 0 _ j = _
    unfold fu
    by_cases z : j = 0
    · subst z; rw [if_pos rfl, if_pos (by omega)]; rfl
    · rw [if_neg z, if_neg (by omega)]
end PQS
