/-! what a text says of a card: the class and the reference -/
abbrev Txt : Type := List Nat × Nat × Nat
def tst (T : Txt) (p : Nat) : Nat := match p with
  | 0 => 0
  | 1 => T.2.1
  | 2 => T.2.2
  | _ => T.1.length
def hgs (P : List Nat) (i : Nat) (o : Option Nat) : Option Nat := o.bind (hgt (P.getD i 0))
def evs (nm : List Int32) (P : List Nat) (i : Nat) (st : List Int32) : List Int32 := ev1 nm (P.getD i 0) st
def wfT (T : Txt) : Prop := T.1.length ≤ 160 ∧ T.2.1 ≤ T.2.2 ∧ T.2.2 ≤ T.1.length ∧ (∀ x ∈ T.1, okC x) ∧ ∀ p, p < 3 → lq (hgs T.1) (tst T (p + 1) - tst T p) (tst T p) (some 0) = some 1
def tvl (nm : List Int32) (T : Txt) (p : Nat) : Int32 := (lq (evs nm T.1) (tst T (p + 1) - tst T p) (tst T p) []).headD 0
theorem hgs_no (P : List Nat) : ∀ m k, lq (hgs P) m k none = none := fun m k => lq_fix (fun _ => rfl) m k
theorem hgs_st {P : List Nat} {m k n r : Nat} (h : lq (hgs P) (m + 1) k (some n) = some r) : ∃ n', hgt (P.getD k 0) n = some n' ∧ lq (hgs P) m (k + 1) (some n') = some r := by
  have h : lq (hgs P) m (k + 1) (hgt (P.getD k 0) n) = some r := h
  cases x : hgt (P.getD k 0) n with
  | none => rw [x, hgs_no] at h; cases h
  | some n' => rw [x] at h; exact ⟨n', rfl, h⟩
theorem hgt_le {x n m : Nat} (h : hgt x n = some m) : m ≤ n + 1 := by
  unfold hgt at h
  split at h
  · cases h; omega
  · split at h
    · cases h; omega
    · split at h
      · split at h
        · cases h; omega
        · cases h
      · split at h
        · split at h
          · cases h; omega
          · cases h
        · split at h
          · cases h; omega
          · cases h
theorem tst_le {T : Txt} (W : wfT T) {p : Nat} (hp : p < 3) : tst T p ≤ tst T (p + 1) ∧ tst T (p + 1) ≤ T.1.length := by
  obtain ⟨_, h1, h2, _⟩ := W
  rcases (show p = 0 ∨ p = 1 ∨ p = 2 by omega) with z | z | z <;> subst z
  · exact ⟨Nat.zero_le _, by show T.2.1 ≤ _; omega⟩
  · exact ⟨h1, h2⟩
  · exact ⟨h2, Nat.le_refl _⟩
theorem c_max (d : Nat) (x y : Int32) (h : MHeap) : call (d + 1) 1000 [.int x, .int y] h = some (some (.int (if x < y then y else x)), h) := by
  cases d <;> rfl
theorem c_min (d : Nat) (x y : Int32) (h : MHeap) : call (d + 1) 1001 [.int x, .int y] h = some (some (.int (if y < x then y else x)), h) := by
  cases d <;> rfl
theorem c_max0 (d : Nat) {n : Nat} (hn : n < 2 ^ 31) (h : MHeap) : call (d + 1) 1000 [.int 0, .int (nI n)] h = some (some (.int (nI n)), h) := by
  rw [c_max]
  rcases Nat.eq_zero_or_pos n with z | z
  · subst z; rfl
  · rw [if_pos (show (0 : Int32) < nI n from nI_lt (a := 0) z hn)]
/-- only names and stack have changed -/
def FD (h h' : MHeap) : Prop := h'.length = h.length ∧ (∀ a : Nat, (a ≠ 24 ∧ a ≠ 25) → h'[a]? = h[a]?) ∧ CS h'
theorem FD.fc {h h' : MHeap} (a : FD h h') : FC h h' := ⟨a.1, fun p hp => a.2.1 p (by omega), a.2.2⟩
theorem FD.rf {h : MHeap} (C : CS h) : FD h h := ⟨rfl, fun _ _ => rfl, C⟩
theorem FD.tr {h1 h2 h3 : MHeap} (a : FD h1 h2) (b : FD h2 h3) : FD h1 h3 := ⟨b.1.trans a.1, fun p hp => (b.2.1 p hp).trans (a.2.1 p hp), b.2.2⟩
theorem FD.s25 {h : MHeap} (C : CS h) {u : List Int32} (hu : u.length = 160) : FD h (h.set 25 (100, u.map .int)) := by
  obtain ⟨u0, v, n, s, ⟨c1, d1⟩, ⟨c2, d2⟩, ⟨c3, d3⟩, ⟨c4, d4⟩⟩ := C
  refine ⟨List.length_set, fun a ha => gset_ne _ (by omega), u0, v, n, u, ⟨?_, d1⟩, ⟨?_, d2⟩, ⟨?_, d3⟩, ⟨gset c4 _, hu⟩⟩
  · rw [gset_ne _ (by decide)]; exact c1
  · rw [gset_ne _ (by decide)]; exact c2
  · rw [gset_ne _ (by decide)]; exact c3
theorem FD.s24 {h : MHeap} (C : CS h) {u : List Int32} (hu : u.length = 6) : FD h (h.set 24 (100, u.map .int)) := by
  obtain ⟨u0, v, n, s, ⟨c1, d1⟩, ⟨c2, d2⟩, ⟨c3, d3⟩, ⟨c4, d4⟩⟩ := C
  refine ⟨List.length_set, fun a ha => gset_ne _ (by omega), u0, v, u, s, ⟨?_, d1⟩, ⟨?_, d2⟩, ⟨gset c3 _, hu⟩, ⟨?_, d4⟩⟩
  · rw [gset_ne _ (by decide)]; exact c1
  · rw [gset_ne _ (by decide)]; exact c2
  · rw [gset_ne _ (by decide)]; exact c4
/-- the class's law at p with its items at q -/
def LwC (h : MHeap) (p q : Nat) (T : Txt) : Prop := h[p]? = some (5, [.ref q, .int (nI T.2.1), .int (nI T.2.2)]) ∧ h[q]? = some (100, (T.1.map nI).map .int) ∧ (p = 26 ∨ 44 < p) ∧ (q = 27 ∨ 44 < q)
theorem getD_map_nI (P : List Nat) {i : Nat} (hi : i < P.length) : (P.map nI).getD i 0 = nI (P.getD i 0) := by
  rw [List.getD_eq_getElem?_getD, List.getD_eq_getElem?_getD, List.getElem?_map, List.getElem?_eq_getElem hi]; rfl
theorem getD_mem {P : List Nat} {i : Nat} (hi : i < P.length) : P.getD i 0 ∈ P := by
  rw [List.getD_eq_getElem?_getD, List.getElem?_eq_getElem hi]; exact List.getElem_mem _
theorem c_36 {h : MHeap} {p q : Nat} {T : Txt} (K : LwC h p q T) (W : wfT T) (C : CS h) {nm : List Int32} (hn : h[24]? = some (100, nm.map .int)) (hnl : nm.length = 6) (d : Nat) {g : Nat} (hg : g < 3) : ∃ h', call (d + 4) 36 [.ref p, .int (nI g), .ref 24, .ref 25] h = some (some (.int (tvl nm T g)), h') ∧ FD h h' := by
  obtain ⟨k1, k2, k3, k4⟩ := K
  have W' := W
  obtain ⟨w1, w2, w3, w4, w5⟩ := W'
  have wg := tst_le W hg
  have hlen : ((T.1.map nI)).length = T.1.length := by simp
  have e0 : call (d + 4) 36 [.ref p, .int (nI g), .ref 24, .ref 25] h = ex (d + 3) 36 67 [sv (.ref p), sv (.int (nI g)), sv (.ref 24), sv (.ref 25), sv (.int (nI (tst T g))), sv (.int (nI (tst T (g + 1)))), sv (.int 0), sv (.int (nI (tst T g)))] [] h := by
    rw [e_36]
    have m0 : call (d + 3) 1000 [.int 0, .int 0] h = some (some (.int 0), h) := c_max0 (d + 2) (n := 0) (by decide) h
    have m1 : call (d + 3) 1000 [.int 0, .int (nI T.2.1)] h = some (some (.int (nI T.2.1)), h) := c_max0 (d + 2) (by omega) h
    have m2 : call (d + 3) 1000 [.int 0, .int (nI T.2.2)] h = some (some (.int (nI T.2.2)), h) := c_max0 (d + 2) (by omega) h
    have g1 : ∀ k : Int32 → MRes, gfI none h p [5] 1 k = k (nI T.2.1) := fun k => gfI_at k1 rfl rfl k
    have g2 : ∀ k : Int32 → MRes, gfI none h p [5] 2 k = k (nI T.2.2) := fun k => gfI_at k1 rfl rfl k
    have g0 : ∀ k : Value → MRes, gfV none h p [5] 0 k = k (.ref q) := fun k => gfV_at k1 rfl rfl k
    have l0 : ∀ k : Int32 → MRes, aln none h q k = k (nI T.1.length) := fun k => by rw [ar_ln k2, hlen]
    rcases (show g = 0 ∨ g = 1 ∨ g = 2 by omega) with z | z | z <;> subst z
    · simp only [show nI 0 = 0 from rfl, dR_ref, dA_ref, dA_null, dN_ref, dN_null, dD_ref, dD_int, cI_s, cV_s, cR_r, cR_n, cJ_s, bI_0, bI_1, zr_bI, zr_0, zr_1, eq_self, if_true, if_false, i10, i20, i01, i21, i02, i12, ior0, iad0, Bool.true_eq_false, Bool.false_eq_true, g1, m0]
      rfl
    · simp only [show nI 1 = 1 from rfl, dR_ref, dA_ref, dA_null, dN_ref, dN_null, dD_ref, dD_int, cI_s, cV_s, cR_r, cR_n, cJ_s, bI_0, bI_1, zr_bI, zr_0, zr_1, eq_self, if_true, if_false, i10, i20, i01, i21, i02, i12, ior0, iad0, Bool.true_eq_false, Bool.false_eq_true, g1, g2, m1]
      rfl
    · simp only [show nI 2 = 2 from rfl, dR_ref, dA_ref, dA_null, dN_ref, dN_null, dD_ref, dD_int, cI_s, cV_s, cR_r, cR_n, cJ_s, bI_0, bI_1, zr_bI, zr_0, zr_1, eq_self, if_true, if_false, i10, i20, i01, i21, i02, i12, ior0, iad0, Bool.true_eq_false, Bool.false_eq_true, g2, g0, l0, m2]
      rfl
  rw [e0]
  have key : ∀ i, i ≤ tst T (g + 1) → tst T g ≤ i → ∀ h1 st u, FD h h1 → h1[24]? = some (100, nm.map .int) → h1[25]? = some (100, u.map .int) → u.length = 160 → stk u st → st.length ≤ i → lq (hgs T.1) (tst T (g + 1) - i) i (some st.length) = some 1 → ∃ h', ex (d + 3) 36 67 [sv (.ref p), sv (.int (nI g)), sv (.ref 24), sv (.ref 25), sv (.int (nI (tst T g))), sv (.int (nI (tst T (g + 1)))), sv (.int (nI st.length)), sv (.int (nI i))] [] h1 = some (some (.int ((lq (evs nm T.1) (tst T (g + 1) - i) i st).headD 0)), h') ∧ FD h h' := by
    intro i hi
    refine up_ind (n := tst T (g + 1)) (P := fun i => tst T g ≤ i → ∀ h1 st u, FD h h1 → h1[24]? = some (100, nm.map .int) → h1[25]? = some (100, u.map .int) → u.length = 160 → stk u st → st.length ≤ i → lq (hgs T.1) (tst T (g + 1) - i) i (some st.length) = some 1 → ∃ h', ex (d + 3) 36 67 [sv (.ref p), sv (.int (nI g)), sv (.ref 24), sv (.ref 25), sv (.int (nI (tst T g))), sv (.int (nI (tst T (g + 1)))), sv (.int (nI st.length)), sv (.int (nI i))] [] h1 = some (some (.int ((lq (evs nm T.1) (tst T (g + 1) - i) i st).headD 0)), h') ∧ FD h h') ?_ ?_ hi
    · intro _ h1 st u G hn1 hu hl hs _ hh
      rw [Nat.sub_self] at hh ⊢
      have hh : st.length = 1 := by
        have : some st.length = some 1 := hh
        exact Option.some.inj this
      refine ⟨h1, ?_, G⟩
      match st, hs, hh with
      | [t], hs, _ =>
        rw [e_36_67, if_neg (nI_nlt (Nat.le_refl _) (by omega)), show ([t] : List Int32).length = 1 from rfl, if_pos (by decide), ar_ln hu, hl, if_neg (by decide), show nI 1 - 1 = nI 0 from by decide, ar_al hu (by omega) (by omega), show u.getD 0 0 = t from hs.1]
        rfl
    · intro i hi ih hgi h1 st u G hn1 hu hl hs hsl hh
      rw [show tst T (g + 1) - i = (tst T (g + 1) - (i + 1)) + 1 by omega] at hh
      obtain ⟨n', x1, x2⟩ := hgs_st hh
      have hiP : i < T.1.length := by omega
      have hle := hgt_le x1
      obtain ⟨u', e1, l1, s1⟩ := c_37 d hn1 hnl hu hl (w4 _ (getD_mem hiP)) hs x1 (by omega) (by omega)
      have hel := ev1_len (nm := nm) x1
      have G2 := G.tr (FD.s25 G.2.2 l1)
      rw [← hel] at x2
      obtain ⟨h', e2, G3⟩ := ih (by omega) (h1.set 25 (100, u'.map .int)) (ev1 nm (T.1.getD i 0) st) u' G2 (by rw [gset_ne _ (by decide)]; exact hn1) (gset hu _) l1 s1 (by rw [hel]; omega) x2
      refine ⟨h', ?_, G3⟩
      have kp : h1[p]? = some (5, [.ref q, .int (nI T.2.1), .int (nI T.2.2)]) := by rw [G.2.1 p (by omega)]; exact k1
      have kq : h1[q]? = some (100, (T.1.map nI).map .int) := by rw [G.2.1 q (by omega)]; exact k2
      have g0 : ∀ k : Value → MRes, gfV none h1 p [5] 0 k = k (.ref q) := fun k => gfV_at kp rfl rfl k
      rw [e_36_67, if_pos (nI_lt hi (by omega)), g0, dR_ref, ar_ln kq, hlen, if_pos (nI_lt hiP (by omega)), g0, dR_ref, ar_al kq (by rw [hlen]; exact hiP) (by rw [hlen]; omega), getD_map_nI _ hiP, e1, cI_s, nI_1, ← hel, e2, show tst T (g + 1) - i = (tst T (g + 1) - (i + 1)) + 1 by omega]
      rfl
  have C' := C
  obtain ⟨u0, v, n, s, ⟨c1, d1⟩, ⟨c2, d2⟩, ⟨c3, d3⟩, ⟨c4, d4⟩⟩ := C'
  exact key (tst T g) wg.1 (Nat.le_refl _) h [] s (FD.rf C) hn c4 d4 trivial (Nat.zero_le _) (w5 g hg)
/-- the names' worths of a card -/
def nms (c w : Nat) (b : Int32) (hs : List Ent) (i : Nat) : List Int32 := [nI i, nI (i / w), nI (i % w), bI (bt b i), nI c, nI (fln c w hs b)]
def clp (v : Int32) : Int32 := if v < 0 then 0 else if 99 < v then 99 else v
theorem clp_nI (v : Int32) : ∃ k, k ≤ 99 ∧ clp v = nI k := by
  unfold clp
  by_cases h : v < 0
  · rw [if_pos h]; exact ⟨0, by decide, rfl⟩
  · rw [if_neg h]
    by_cases h2 : 99 < v
    · rw [if_pos h2]; exact ⟨99, by decide, rfl⟩
    · rw [if_neg h2]
      obtain ⟨j, hj, rfl⟩ := nI_of h
      refine ⟨j, ?_, rfl⟩
      rcases Nat.lt_or_ge 99 j with z | z
      · exact absurd (show (99 : Int32) < nI j from nI_lt (a := 99) z hj) h2
      · exact z
theorem clp_mm (v : Int32) : (if (0 : Int32) < (if v < 99 then v else 99) then (if v < 99 then v else 99) else 0) = clp v := by
  unfold clp
  by_cases h : v < 0
  · have h1 : v < 99 := Int32.lt_trans h (by decide)
    rw [if_pos h1, if_pos h, if_neg]
    intro z
    exact absurd (Int32.lt_trans h z) (fun y => Int32.lt_irrefl y)
  · rw [if_neg h]
    obtain ⟨j, hj, rfl⟩ := nI_of h
    by_cases h2 : (99 : Int32) < nI j
    · rw [if_pos h2, if_neg (show ¬ nI j < (99 : Int32) from fun z => absurd (Int32.lt_trans h2 z) (by decide))]
      rfl
    · rw [if_neg h2]
      by_cases h3 : nI j < (99 : Int32)
      · rw [if_pos h3]
        rcases Nat.eq_zero_or_pos j with z | z
        · subst z; rfl
        · rw [if_pos (show (0 : Int32) < nI j from nI_lt (a := 0) z hj)]
      · rw [if_neg h3]
        have : j = 99 := by
          rcases Nat.lt_trichotomy j 99 with z | z | z
          · exact absurd (show nI j < (99 : Int32) from nI_lt (b := 99) z (by decide)) h3
          · exact z
          · exact absurd (show (99 : Int32) < nI j from nI_lt (a := 99) z hj) h2
        subst this
        rfl
