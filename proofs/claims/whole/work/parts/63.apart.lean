/-! the class's rows that are used again; apart, reach -/
def CS (h : MHeap) : Prop := ∃ u v n s : List Int32, (h[22]? = some (100, u.map .int) ∧ u.length = 299) ∧ (h[23]? = some (100, v.map .int) ∧ v.length = 33) ∧ (h[24]? = some (100, n.map .int) ∧ n.length = 6) ∧ (h[25]? = some (100, s.map .int) ∧ s.length = 160)
def FC (h h' : MHeap) : Prop := h'.length = h.length ∧ (∀ a : Nat, (a < 22 ∨ 25 < a) → h'[a]? = h[a]?) ∧ CS h'
theorem FC.rf {h : MHeap} (C : CS h) : FC h h := ⟨rfl, fun _ _ => rfl, C⟩
theorem FC.tr {h1 h2 h3 : MHeap} (a : FC h1 h2) (b : FC h2 h3) : FC h1 h3 := ⟨b.1.trans a.1, fun p hp => (b.2.1 p hp).trans (a.2.1 p hp), b.2.2⟩
theorem tg_ne {k : Nat} (h : k ≤ 5) : tg k ≠ 100 := by
  rcases kcases h with z | z | z | z | z | z <;> subst z <;> decide
theorem CB.fc {h h' : MHeap} {c w : Nat} {b : Int32} {hs : List Ent} {lc lw : Int32} {ps : List Nat} (H : CB h c w b hs lc lw ps) (C : CS h) (G : FC h h') : CB h' c w b hs lc lw ps := by
  obtain ⟨h1, h2, h3, h4, h5, h6⟩ := H
  refine ⟨h1, ?_, ?_, ?_, h5, ?_⟩
  · rw [G.2.1 3 (by decide)]; exact h2
  · rw [G.2.1 4 (by decide)]; exact h3
  · rw [G.2.1 5 (by decide)]; exact h4
  · intro i e he
    obtain ⟨q1, p, q2, q3⟩ := h6 i e he
    refine ⟨q1, p, q2, ?_⟩
    rw [G.2.1 p ?_]
    · exact q3
    · obtain ⟨u, v, n, s, ⟨c1, _⟩, ⟨c2, _⟩, ⟨c3, _⟩, ⟨c4, _⟩⟩ := C
      have t := tg_ne q1.1
      apply Classical.byContradiction
      intro z
      rcases (show p = 22 ∨ p = 23 ∨ p = 24 ∨ p = 25 by omega) with y | y | y | y <;> subst y
      · rw [c1] at q3; exact t (congrArg (fun x => (x.getD (0, [])).1) q3).symm
      · rw [c2] at q3; exact t (congrArg (fun x => (x.getD (0, [])).1) q3).symm
      · rw [c3] at q3; exact t (congrArg (fun x => (x.getD (0, [])).1) q3).symm
      · rw [c4] at q3; exact t (congrArg (fun x => (x.getD (0, [])).1) q3).symm
section ARR
variable {h : MHeap} {o : Nat} {xs : List Int32}
theorem ar_al (H : h[o]? = some (100, xs.map .int)) {i : Nat} (hi : i < xs.length) (hx : xs.length < 2 ^ 31) (k : Int32 → MRes) : alI none h o (nI i) k = k (xs.getD i 0) := by
  have h2 : (xs.map Value.int)[i]? = some (.int (xs.getD i 0)) := by
    rw [List.getElem?_map, List.getElem?_eq_getElem hi, List.getD_eq_getElem?_getD, List.getElem?_eq_getElem hi]; rfl
  simp only [alI, H, nI_clamp (show i < 2 ^ 31 by omega), h2, nI_pos (show i < 2 ^ 31 by omega)]
  simp
theorem ar_as (H : h[o]? = some (100, xs.map .int)) {i : Nat} (hi : i < xs.length) (hx : xs.length < 2 ^ 31) (x : Int32) (k : MHeap → MRes) : asI none h o (nI i) x k = k (h.set o (100, (xs.set i x).map .int)) := by
  simp only [asI, H, nI_clamp (show i < 2 ^ 31 by omega), nI_pos (show i < 2 ^ 31 by omega), List.length_map, hi, List.map_set]
  simp
theorem ar_ln (H : h[o]? = some (100, xs.map .int)) (k : Int32 → MRes) : aln none h o k = k (nI xs.length) := by
  simp only [aln, H, List.length_map]
  simp
end ARR
theorem set_self {h : MHeap} {p : Nat} {x : MCell} (hp : h[p]? = some x) : h.set p x = h := by
  apply List.ext_getElem?
  intro i
  by_cases q : p = i
  · subst q; rw [gset hp, hp]
  · rw [gset_ne _ q]
theorem FC.s22 {h : MHeap} (C : CS h) {u : List Int32} (hu : u.length = 299) : FC h (h.set 22 (100, u.map .int)) := by
  obtain ⟨u0, v, n, s, ⟨c1, d1⟩, ⟨c2, d2⟩, ⟨c3, d3⟩, ⟨c4, d4⟩⟩ := C
  refine ⟨List.length_set, fun a ha => gset_ne _ (by omega), u, v, n, s, ⟨gset c1 _, hu⟩, ⟨?_, d2⟩, ⟨?_, d3⟩, ⟨?_, d4⟩⟩
  · rw [gset_ne _ (by decide)]; exact c2
  · rw [gset_ne _ (by decide)]; exact c3
  · rw [gset_ne _ (by decide)]; exact c4
/-- a sign is noted, if it isn't known -/
def ntD (v : Nat) (D : List Nat) : List Nat := if v ∈ D then D else D ++ [v]
def pfx (u : List Int32) (D : List Nat) : Prop := ∀ i, i < D.length → u.getD i 0 = nI (D.getD i 0)
theorem ntD_len (v : Nat) (D : List Nat) : D.length ≤ (ntD v D).length ∧ (ntD v D).length ≤ D.length + 1 := by
  unfold ntD
  split
  · omega
  · simp
theorem ntD_mem (v : Nat) (D : List Nat) (x : Nat) : x ∈ ntD v D ↔ x ∈ D ∨ x = v := by
  unfold ntD
  split
  · rename_i h
    constructor
    · exact Or.inl
    · rintro (q | q)
      · exact q
      · subst q; exact h
  · simp
section PQS
variable {c w : Nat} {b : Int32} {hs : List Ent}
theorem c_148 {h : MHeap} {lc lw : Int32} {ps : List Nat} (H : CB h c w b hs lc lw ps) (d : Nat) {u : List Int32} {D : List Nat} {v : Nat} (hu : h[22]? = some (100, u.map .int)) (hl : u.length = 299) (hp : pfx u D) (hD : ∀ x ∈ D, x < 2 ^ 28) (hn : D.length ≤ 298) (hv : v < 2 ^ 28) : ∃ u' : List Int32, call (d + 2) 148 [.ref 3, .int (nI D.length), .int (nI v)] h = some (some (.int (nI (ntD v D).length)), h.set 22 (100, u'.map .int)) ∧ u'.length = 299 ∧ pfx u' (ntD v D) := by
  rw [e_148]
  by_cases hm : v ∈ D
  · refine ⟨u, ?_, hl, ?_⟩
    · rw [set_self hu]
      have e1 : ntD v D = D := if_pos hm
      rw [e1]
      obtain ⟨k, hk⟩ := List.getElem?_of_mem hm
      have hk1 : k < D.length := (List.getElem?_eq_some_iff.1 hk).1
      refine up_ind (n := k) (i := 0) (P := fun i => ex (d + 1) 148 2 [sv (.ref 3), sv (.int (nI D.length)), sv (.int (nI v)), sv (.int (nI i))] [] h = some (some (.int (nI D.length)), h)) ?_ ?_ (by omega)
      · rw [e_148_2, if_pos (nI_lt hk1 (by omega)), H.o7, dR_ref, ar_ln hu, if_pos (nI_lt (by omega) (by omega)), H.o7, dR_ref, ar_al hu (by omega) (by omega), hp k hk1, List.getD_eq_getElem?_getD, hk]
        simp
      · intro i hi ih
        rw [e_148_2, if_pos (nI_lt (by omega) (by omega)), H.o7, dR_ref, ar_ln hu, if_pos (nI_lt (by omega) (by omega)), H.o7, dR_ref, ar_al hu (by omega) (by omega), nI_1]
        split
        · rfl
        · exact ih
    · rw [show ntD v D = D from if_pos hm]; exact hp
  · have e1 : ntD v D = D ++ [v] := if_neg hm
    refine ⟨u.set D.length (nI v), ?_, by rw [List.length_set]; exact hl, ?_⟩
    · rw [e1, List.length_append]
      refine up_ind (n := D.length) (i := 0) (P := fun i => ex (d + 1) 148 2 [sv (.ref 3), sv (.int (nI D.length)), sv (.int (nI v)), sv (.int (nI i))] [] h = some (some (.int (nI (D.length + [v].length))), h.set 22 (100, (u.set D.length (nI v)).map .int))) ?_ ?_ (by omega)
      · rw [e_148_2, if_neg (nI_nlt (Nat.le_refl _) (by omega)), H.o7, dR_ref, ar_ln hu, hl, show nI 299 - 1 = nI 298 from by decide, c_133, cI_s, inR_nI (by omega) (by decide), decide_eq_true hn, if_neg (by decide), H.o7, dR_ref, ar_as hu (by omega) (by omega), nI_1]
        rfl
      · intro i hi ih
        have hx : D.getD i 0 ∈ D := by
          rw [List.getD_eq_getElem?_getD, List.getElem?_eq_getElem hi]; exact List.getElem_mem hi
        have hx2 := hD _ hx
        rw [e_148_2, if_pos (nI_lt (by omega) (by omega)), H.o7, dR_ref, ar_ln hu, if_pos (nI_lt (by omega) (by omega)), H.o7, dR_ref, ar_al hu (by omega) (by omega), hp i hi, nI_1, if_neg]
        · exact ih
        · intro z
          have := (nI_eq (by omega) (by omega)).1 z
          rw [this] at hx
          exact hm hx
    · rw [e1]
      intro i hi
      rw [List.length_append] at hi
      rw [getD_set (by omega)]
      by_cases z : i = D.length
      · subst z
        rw [if_pos rfl]; simp
      · have hi2 : i < D.length := by have : [v].length = 1 := rfl; omega
        rw [if_neg z, hp i hi2]
        congr 1
        rw [List.getD_eq_getElem?_getD, List.getD_eq_getElem?_getD, List.getElem?_append_left hi2]
def CQ2 (c w : Nat) (b : Int32) (hs : List Ent) (m : Nat) (as : List Value) (v : Value) : Prop := ∀ (d : Nat) (h : MHeap) (lc lw : Int32) (ps : List Nat), CB h c w b hs lc lw ps → CS h → ∃ h', call (d + 20) m (.ref 3 :: as) h = some (some v, h') ∧ FC h h'
def PQ2 (c w : Nat) (b : Int32) (hs : List Ent) (mc mr : Nat) (as : List Value) : Prop := ∃ v : Int32, CQ2 c w b hs mc as (.int v) ∧ RQ c w b hs mr as (.int v)
theorem PQ.to2 {mc mr : Nat} {as : List Value} (H : PQ c w b hs mc mr as) : PQ2 c w b hs mc mr as := by
  obtain ⟨v, h1, h2⟩ := H
  exact ⟨v, fun d h lc lw ps H C => ⟨h, h1 d h lc lw ps H, FC.rf C⟩, h2⟩
/-- signs by one card -/
def vs1 (c w : Nat) (b : Int32) (hs : List Ent) (i : Nat) : Nat := sgs c w hs (b ^^^ nI (2 ^ i))
def dsf (V : Nat → Nat) (q : Nat → Bool) (i : Nat) (D : List Nat) : List Nat := if q i then ntD (V i) D else D
theorem ds_len {V : Nat → Nat} {q : Nat → Bool} : ∀ m k D, (lq (dsf V q) m k D).length ≤ D.length + m := by
  intro m
  induction m with
  | zero => intro k D; exact Nat.le_refl _
  | succ m ih =>
    intro k D
    have h1 := ih (k + 1) (dsf V q k D)
    have h2 : (dsf V q k D).length ≤ D.length + 1 := by
      unfold dsf
      split
      · exact (ntD_len _ _).2
      · omega
    show (lq (dsf V q) m (k + 1) (dsf V q k D)).length ≤ _
    omega
theorem ds_mem {V : Nat → Nat} {q : Nat → Bool} (x : Nat) : ∀ m k D, x ∈ lq (dsf V q) m k D ↔ x ∈ D ∨ ∃ i, k ≤ i ∧ i < k + m ∧ q i = true ∧ V i = x := by
  intro m
  induction m with
  | zero => intro k D; exact ⟨Or.inl, fun h => h.elim id (fun ⟨i, h1, h2, _⟩ => by omega)⟩
  | succ m ih =>
    intro k D
    show x ∈ lq (dsf V q) m (k + 1) (dsf V q k D) ↔ _
    rw [ih]
    have e : x ∈ dsf V q k D ↔ x ∈ D ∨ (q k = true ∧ V k = x) := by
      unfold dsf
      cases hq : q k with
      | false => simp
      | true =>
        rw [if_pos rfl, ntD_mem]
        constructor
        · rintro (z | z)
          · exact Or.inl z
          · exact Or.inr ⟨rfl, z.symm⟩
        · rintro (z | ⟨_, z⟩)
          · exact Or.inl z
          · exact Or.inr z.symm
    rw [e]
    constructor
    · rintro ((z | ⟨z1, z2⟩) | ⟨i, z1, z2, z3, z4⟩)
      · exact Or.inl z
      · exact Or.inr ⟨k, by omega, by omega, z1, z2⟩
      · exact Or.inr ⟨i, by omega, by omega, z3, z4⟩
    · rintro (z | ⟨i, z1, z2, z3, z4⟩)
      · exact Or.inl (Or.inl z)
      · by_cases y : i = k
        · subst y; exact Or.inl (Or.inr ⟨z3, z4⟩)
        · exact Or.inr ⟨i, by omega, by omega, z3, z4⟩
def dsI (D : List Nat) (h h1 : MHeap) : Prop := FC h h1 ∧ (∀ x ∈ D, x < 2 ^ 28) ∧ ∃ u : List Int32, h1[22]? = some (100, u.map .int) ∧ u.length = 299 ∧ pfx u D
theorem dsI_nt {h h1 : MHeap} {lc lw : Int32} {ps : List Nat} {D : List Nat} {v : Nat} (H : CB h c w b hs lc lw ps) (C : CS h) (I : dsI D h h1) (hn : D.length ≤ 298) (hv : v < 2 ^ 28) (d : Nat) : ∃ h2, call (d + 2) 148 [.ref 3, .int (nI D.length), .int (nI v)] h1 = some (some (.int (nI (ntD v D).length)), h2) ∧ dsI (ntD v D) h h2 := by
  obtain ⟨G, hD, u, hu, hl, hp⟩ := I
  have H1 := H.fc C G
  obtain ⟨u', e1, l1, p1⟩ := c_148 H1 d hu hl hp hD hn hv
  refine ⟨_, e1, G.tr (FC.s22 G.2.2 l1), ?_, u', gset hu _, l1, p1⟩
  intro x hx
  rcases (ntD_mem _ _ _).1 hx with z | z
  · exact hD x z
  · subst z; exact hv
theorem dsI_0 {h : MHeap} (C : CS h) : dsI [] h h := by
  have C' := C
  obtain ⟨u, v, n, s, ⟨c1, d1⟩, _⟩ := C'
  exact ⟨FC.rf C, fun x hx => (by cases hx), u, c1, d1, fun i hi => by simp at hi⟩
theorem c_146 {h : MHeap} {lc lw : Int32} {ps : List Nat} (H : CB h c w b hs lc lw ps) (C : CS h) (d : Nat) : ∃ h', call (d + 6) 146 [.ref 3] h = some (some (.int (nI (lq (dsf (vs1 c w b hs) (fun _ => true)) c 0 []).length)), h') ∧ FC h h' := by
  have hb := H.bd
  rw [e_146]
  have key : ∀ i, i ≤ c → ∀ D h1, dsI D h h1 → D.length ≤ i → ∃ h', ex (d + 5) 146 4 [sv (.ref 3), sv (.int (nI D.length)), sv (.int (nI i))] [] h1 = some (some (.int (nI (lq (dsf (vs1 c w b hs) (fun _ => true)) (c - i) i D).length)), h') ∧ FC h h' := by
    intro i hi
    refine up_ind (n := c) (P := fun i => ∀ D h1, dsI D h h1 → D.length ≤ i → ∃ h', ex (d + 5) 146 4 [sv (.ref 3), sv (.int (nI D.length)), sv (.int (nI i))] [] h1 = some (some (.int (nI (lq (dsf (vs1 c w b hs) (fun _ => true)) (c - i) i D).length)), h') ∧ FC h h') ?_ ?_ hi
    · intro D h1 I _
      have H1 := H.fc C I.1
      refine ⟨h1, ?_, I.1⟩
      rw [e_146_4, H1.o0, dR_ref, H1.b0, if_neg (nI_nlt (Nat.le_refl _) (by omega)), Nat.sub_self]
      rfl
    · intro i hi ih D h1 I hl
      have H1 := H.fc C I.1
      obtain ⟨h2, e2, I2⟩ := dsI_nt H C I (by omega) (sgs_lt (c := c) (w := w) hb.2.2.2.2 H.ok (b ^^^ nI (2 ^ i))) (d + 3)
      have hl2 := ntD_len (sgs c w hs (b ^^^ nI (2 ^ i))) D
      obtain ⟨h', e3, G3⟩ := ih (ntD (sgs c w hs (b ^^^ nI (2 ^ i))) D) h2 I2 (by omega)
      refine ⟨h', ?_, G3⟩
      rw [e_146_4, H1.o0, dR_ref, H1.b0, if_pos (nI_lt hi (by omega))]
      simp only [H1.o0, H1.b2, H1.v3, H1.v4, dR_ref, dA_ref, dA_null, dN_ref, dN_null, dD_ref, dD_int, cI_s, cV_s, cR_r, cR_n, cJ_s, bI_0, bI_1, zr_bI, zr_0, zr_1, eq_self, if_true, if_false, i10, i20, i01, i21, i02, i12, ior0, iad0, Bool.true_eq_false, Bool.false_eq_true, e_135, bit_nI (show i < 31 by omega), c_16 H1, e2, nI_1]
      rw [e3, show c - i = (c - (i + 1)) + 1 by omega]
      rfl
  exact key 0 (by omega) [] h (dsI_0 C) (by simp)
/-! the first two alike -/
def alS (V : Nat → Nat) (c : Nat) (u : Nat) : Prop := ∃ a k, a < k ∧ k < c ∧ V a = V k ∧ u = 100 * a + k
def mnS (S : Nat → Prop) : Option Nat → Prop
  | none => ∀ u, ¬ S u
  | some v => S v ∧ ∀ u, S u → v ≤ u
theorem mnS_un {S : Nat → Prop} : ∀ {o p : Option Nat}, mnS S o → mnS S p → o = p
  | none, none, _, _ => rfl
  | none, some v, h1, h2 => absurd h2.1 (h1 v)
  | some v, none, h1, h2 => absurd h1.1 (h2 v)
  | some v, some u, h1, h2 => by rw [Nat.le_antisymm (h1.2 u h2.1) (h2.2 v h1.1)]
theorem c_147 {h : MHeap} {lc lw : Int32} {ps : List Nat} (H : CB h c w b hs lc lw ps) (d : Nat) {o : Option Nat} (ho : mnS (alS (vs1 c w b hs) c) o) : call (d + 6) 147 [.ref 3] h = some (some (.int (oI o)), h) := by
  have hb := H.bd
  rw [e_147]
  refine up_ind (n := c) (i := 0) (P := fun a => (∀ a' k, a' < a → a' < k → k < c → vs1 c w b hs a' ≠ vs1 c w b hs k) → ∀ j : MSl × MSl, ex (d + 5) 147 2 [sv (.ref 3), sv (.int (nI a)), j.1, j.2] [] h = some (some (.int (oI o)), h)) ?_ ?_ (by omega) (fun a' k h1 => by omega) (none, none)
  · intro hno j
    rw [e_147_2, H.o0, dR_ref, H.b0, if_neg (nI_nlt (Nat.le_refl _) (by omega))]
    have : o = none := by
      cases o with
      | none => rfl
      | some v =>
        obtain ⟨⟨a, k, h1, h2, h3, _⟩, _⟩ := ho
        exact absurd h3 (hno a k (by omega) h1 h2)
    subst this
    rfl
  · intro a ha ih hno j
    rw [e_147_2]
    simp only [H.o0, H.o1, H.o2, H.o3, H.o4, H.o5, H.o6, H.o7, H.o8, H.o9, H.o10, H.b0, H.b1, H.b2, H.b3, H.b4, H.v3, H.v4, dR_ref, dA_ref, dA_null, dN_ref, dN_null, dD_ref, dD_int, cI_s, cV_s, cR_r, cR_n, cJ_s, bI_0, bI_1, zr_bI, zr_0, zr_1, eq_self, if_true, if_false, i10, i20, i01, i21, i02, i12, ior0, iad0, Bool.true_eq_false, Bool.false_eq_true, if_pos (nI_lt ha (show c < 2 ^ 31 by omega)), e_135, bit_nI (show a < 31 by omega), c_16 H, nI_1]
    refine up_ind (n := c) (i := a + 1) (P := fun k => a < k → (∀ k', a < k' → k' < k → vs1 c w b hs a ≠ vs1 c w b hs k') → ex (d + 5) 147 37 [sv (.ref 3), sv (.int (nI a)), sv (.int (nI (sgs c w hs (b ^^^ nI (2 ^ a))))), sv (.int (nI k))] [] h = some (some (.int (oI o)), h)) ?_ ?_ (by omega) (by omega) (fun k' h1 h2 => by omega)
    · intro _ hk
      rw [e_147_37, H.o0, dR_ref, H.b0, if_neg (nI_nlt (Nat.le_refl _) (by omega)), nI_1]
      refine ih ?_ (_, _)
      intro a' k h1 h2 h3
      by_cases z : a' = a
      · subst z; exact hk k h2 h3
      · exact hno a' k (by omega) h2 h3
    · intro k hk ih2 hak hkk
      rw [e_147_37]
      simp only [H.o0, H.o1, H.o2, H.o3, H.o4, H.o5, H.o6, H.o7, H.o8, H.o9, H.o10, H.b0, H.b1, H.b2, H.b3, H.b4, H.v3, H.v4, dR_ref, dA_ref, dA_null, dN_ref, dN_null, dD_ref, dD_int, cI_s, cV_s, cR_r, cR_n, cJ_s, bI_0, bI_1, zr_bI, zr_0, zr_1, eq_self, if_true, if_false, i10, i20, i01, i21, i02, i12, ior0, iad0, Bool.true_eq_false, Bool.false_eq_true, if_pos (nI_lt hk (show c < 2 ^ 31 by omega)), e_135, bit_nI (show k < 31 by omega), c_20s H, nI_1, e_141]
      by_cases q : sgs c w hs (b ^^^ nI (2 ^ k)) = sgs c w hs (b ^^^ nI (2 ^ a))
      · rw [decide_eq_true q, if_neg (by decide)]
        have hv : o = some (100 * a + k) := by
          apply mnS_un ho
          refine ⟨⟨a, k, hak, hk, q.symm, rfl⟩, ?_⟩
          rintro u ⟨a', k', h1, h2, h3, rfl⟩
          rcases Nat.lt_trichotomy a' a with z | z | z
          · exact absurd h3 (hno a' k' z h1 h2)
          · subst z
            rcases Nat.lt_or_ge k' k with y | y
            · exact absurd h3 (hkk k' h1 y)
            · omega
          · omega
        rw [hv, show (100 : Int32) = nI 100 from rfl, pk_mul, nI_add]
        rfl
      · rw [decide_eq_false q, if_pos rfl]
        refine ih2 (by omega) ?_
        intro k' h1 h2
        by_cases z : k' = k
        · subst z; exact fun y => q y.symm
        · exact hkk k' h1 (by omega)
/-- the reference's way: by the greater one -/
def apf (V : Nat → Nat) (k a : Nat) (s : Bool × Option Nat) : Bool × Option Nat := if V a = V k then (false, match s.2 with
  | none => some (100 * a + k)
  | some v => if 100 * a + k < v then some (100 * a + k) else some v) else s
def apg (V : Nat → Nat) (k : Nat) (s : Nat × Option Nat) : Nat × Option Nat :=
  let t := lq (apf V k) k 0 (true, s.2)
  (if t.1 then s.1 + 1 else s.1, t.2)
def alT (V : Nat → Nat) (k0 a0 : Nat) (u : Nat) : Prop := ∃ a k, a < k ∧ (k < k0 ∨ (k = k0 ∧ a < a0)) ∧ V a = V k ∧ u = 100 * a + k
theorem ap_in {V : Nat → Nat} {k a : Nat} {s : Bool × Option Nat} (hak : a < k) (h1 : s.1 = true ↔ ∀ x, x < a → V x ≠ V k) (h2 : mnS (alT V k a) s.2) : ((apf V k a s).1 = true ↔ ∀ x, x < a + 1 → V x ≠ V k) ∧ mnS (alT V k (a + 1)) (apf V k a s).2 := by
  unfold apf
  by_cases q : V a = V k
  · rw [if_pos q]
    refine ⟨⟨fun z => (by cases z), fun z => absurd q (z a (by omega))⟩, ?_⟩
    have mono : ∀ u, alT V k (a + 1) u → alT V k a u ∨ u = 100 * a + k := by
      rintro u ⟨x, y, h3, h4, h5, h6⟩
      rcases h4 with z | ⟨z1, z2⟩
      · exact Or.inl ⟨x, y, h3, Or.inl z, h5, h6⟩
      · by_cases e : x = a
        · subst e; subst z1; exact Or.inr h6
        · exact Or.inl ⟨x, y, h3, Or.inr ⟨z1, by omega⟩, h5, h6⟩
    have self : alT V k (a + 1) (100 * a + k) := ⟨a, k, hak, Or.inr ⟨rfl, by omega⟩, q, rfl⟩
    cases x : s.2 with
    | none =>
      rw [x] at h2
      refine ⟨self, ?_⟩
      intro u hu
      rcases mono u hu with z | z
      · exact absurd z (h2 u)
      · omega
    | some v =>
      rw [x] at h2
      obtain ⟨⟨x1, y1, h3, h4, h5, h6⟩, h7⟩ := h2
      show mnS _ (if 100 * a + k < v then some (100 * a + k) else some v)
      by_cases e : 100 * a + k < v
      · rw [if_pos e]
        refine ⟨self, ?_⟩
        intro u hu
        rcases mono u hu with z | z
        · have := h7 u z; omega
        · omega
      · rw [if_neg e]
        refine ⟨⟨x1, y1, h3, h4.imp id (fun z => ⟨z.1, by omega⟩), h5, h6⟩, ?_⟩
        intro u hu
        rcases mono u hu with z | z
        · exact h7 u z
        · omega
  · rw [if_neg q]
    have mono : ∀ u, alT V k (a + 1) u ↔ alT V k a u := by
      intro u
      constructor
      · rintro ⟨x, y, h3, h4, h5, h6⟩
        rcases h4 with z | ⟨z1, z2⟩
        · exact ⟨x, y, h3, Or.inl z, h5, h6⟩
        · by_cases e : x = a
          · subst e; subst z1; exact absurd h5 q
          · exact ⟨x, y, h3, Or.inr ⟨z1, by omega⟩, h5, h6⟩
      · rintro ⟨x, y, h3, h4, h5, h6⟩
        exact ⟨x, y, h3, h4.imp id (fun z => ⟨z.1, by omega⟩), h5, h6⟩
    refine ⟨?_, ?_⟩
    · rw [h1]
      constructor
      · intro z x hx
        by_cases e : x = a
        · subst e; exact q
        · exact z x (by omega)
      · intro z x hx; exact z x (by omega)
    · cases x : s.2 with
      | none => rw [x] at h2; exact fun u hu => h2 u ((mono u).1 hu)
      | some v => rw [x] at h2; exact ⟨(mono v).2 h2.1, fun u hu => h2.2 u ((mono u).1 hu)⟩
theorem ap_out {V : Nat → Nat} {k : Nat} {s : Nat × Option Nat} {D : List Nat} (hD : ∀ x, x ∈ D ↔ ∃ a, a < k ∧ V a = x) (h1 : s.1 = D.length) (h2 : mnS (alT V k 0) s.2) : (apg V k s).1 = (ntD (V k) D).length ∧ mnS (alT V (k + 1) 0) (apg V k s).2 := by
  have key := lq_inv (f := apf V k) (fun a t => a ≤ k → (t.1 = true ↔ ∀ x, x < a → V x ≠ V k) ∧ mnS (alT V k a) t.2) k 0 (true, s.2) (fun a t _ h4 h5 _ => ap_in (by omega) (h5 (by omega)).1 (h5 (by omega)).2) (fun _ => ⟨⟨fun _ x hx => by omega, fun _ => rfl⟩, h2⟩) (by omega)
  rw [Nat.zero_add] at key
  obtain ⟨k1, k2⟩ := key
  constructor
  · show (if (lq (apf V k) k 0 (true, s.2)).1 then s.1 + 1 else s.1) = _
    unfold ntD
    by_cases q : V k ∈ D
    · obtain ⟨a, ha, e⟩ := (hD _).1 q
      rw [if_pos q, if_neg (fun z => k1.1 z a ha e), h1]
    · rw [if_neg q, if_pos (k1.2 (fun x hx e => q ((hD _).2 ⟨x, hx, e⟩))), h1]; simp
  · show mnS _ (lq (apf V k) k 0 (true, s.2)).2
    have mono : ∀ u, alT V (k + 1) 0 u ↔ alT V k k u := by
      intro u
      constructor
      · rintro ⟨x, y, h3, h4, h5, h6⟩
        refine ⟨x, y, h3, ?_, h5, h6⟩
        rcases h4 with z | ⟨_, z⟩
        · by_cases e : y = k
          · exact Or.inr ⟨e, by omega⟩
          · exact Or.inl (by omega)
        · omega
      · rintro ⟨x, y, h3, h4, h5, h6⟩
        exact ⟨x, y, h3, Or.inl (by rcases h4 with z | ⟨z, _⟩ <;> omega), h5, h6⟩
    revert k2
    cases (lq (apf V k) k 0 (true, s.2)).2 with
    | none => exact fun k2 u hu => k2 u ((mono u).1 hu)
    | some v => exact fun k2 => ⟨(mono v).2 k2.1, fun u hu => k2.2 u ((mono u).1 hu)⟩
def apv (V : Nat → Nat) (c : Nat) : Nat × Option Nat := lq (apg V) c 0 (0, none)
theorem apv_ok (V : Nat → Nat) (c : Nat) : (apv V c).1 = (lq (dsf V (fun _ => true)) c 0 []).length ∧ mnS (alS V c) (apv V c).2 := by
  have key := lq_sim (f := apg V) (g := dsf V (fun _ => true)) (fun k s D => (∀ x, x ∈ D ↔ ∃ a, a < k ∧ V a = x) ∧ s.1 = D.length ∧ mnS (alT V k 0) s.2) c 0 (0, none) [] (fun k s D _ _ h => by
    obtain ⟨h1, h2, h3⟩ := h
    obtain ⟨h4, h5⟩ := ap_out h1 h2 h3
    refine ⟨?_, h4, h5⟩
    intro x
    show x ∈ ntD (V k) D ↔ _
    rw [ntD_mem, h1]
    constructor
    · rintro (⟨a, z1, z2⟩ | z)
      · exact ⟨a, by omega, z2⟩
      · exact ⟨k, by omega, z.symm⟩
    · rintro ⟨a, z1, z2⟩
      by_cases e : a = k
      · subst e; exact Or.inr z2.symm
      · exact Or.inl ⟨a, by omega, z2⟩) ⟨fun x => ⟨fun z => (by cases z), fun ⟨a, z, _⟩ => by omega⟩, rfl, fun u ⟨x, y, h1, h2, _⟩ => by omega⟩
  rw [Nat.zero_add] at key
  obtain ⟨_, k1, k2⟩ := key
  refine ⟨k1, ?_⟩
  have mono : ∀ u, alS V c u ↔ alT V c 0 u := by
    intro u
    constructor
    · rintro ⟨x, y, h1, h2, h3, h4⟩; exact ⟨x, y, h1, Or.inl h2, h3, h4⟩
    · rintro ⟨x, y, h1, h2, h3, h4⟩; exact ⟨x, y, h1, by omega, h3, h4⟩
  revert k2
  show mnS _ (apv V c).2 → _
  cases (apv V c).2 with
  | none => exact fun k2 u hu => k2 u ((mono u).1 hu)
  | some v => exact fun k2 => ⟨(mono v).2 k2.1, fun u hu => k2.2 u ((mono u).1 hu)⟩
end PQS
