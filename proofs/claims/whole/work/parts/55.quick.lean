/-! the reference's looks; first pairs of questions -/
def SS (F : Nat → Int32) (A : Nat → List Int32) (F' : Nat → Int32) (A' : Nat → List Int32) : Prop := (∀ j, j < 23 → F' j = F j) ∧ ∀ o, o < 40 → A' o = A o
theorem SS.rf (F : Nat → Int32) (A : Nat → List Int32) : SS F A F A := ⟨fun _ _ => rfl, fun _ _ => rfl⟩
theorem SS.tr {F F1 F2 : Nat → Int32} {A A1 A2 : Nat → List Int32} (a : SS F A F1 A1) (b : SS F1 A1 F2 A2) : SS F A F2 A2 := ⟨fun j h => (b.1 j h).trans (a.1 j h), fun j h => (b.2 j h).trans (a.2 j h)⟩
theorem SS.a (F : Nat → Int32) (A : Nat → List Int32) {o : Nat} (ho : 40 ≤ o) (xs : List Int32) : SS F A F (fu A o xs) := ⟨fun _ _ => rfl, fun p hp => fu_ne _ _ (by omega)⟩
theorem SS.f (F : Nat → Int32) (A : Nat → List Int32) {j : Nat} (hj : 23 ≤ j) (x : Int32) : SS F A (fu F j x) A := ⟨fun k hk => fu_ne _ _ (by omega), fun _ _ => rfl⟩
section RBS
variable {h : MHeap} {F : Nat → Int32} {A : Nat → List Int32} {c w : Nat} {b : Int32} {hs : List Ent}
/-- what is in each heap has been looked at -/
def Lk (A : Nat → List Int32) (c w : Nat) (hs : List Ent) : Prop := ∀ (i : Nat) (e : Ent), hs[i]? = some e → (A 43).getD i 0 = nI (inN c w e)
theorem RB.sc (H : RB h F A c w b hs) {h' : MHeap} {F' : Nat → Int32} {A' : Nat → List Int32} (H1 : RH h' F' A') (S : SS F A F' A') : RB h' F' A' c w b hs := by
  obtain ⟨_, h2, h3, h4⟩ := H
  refine ⟨H1, h2, ?_, ?_⟩
  · rw [S.1 0 (by decide), S.1 1 (by decide), S.1 2 (by decide), S.1 3 (by decide)]; exact h3
  · rw [S.2 29 (by decide), S.2 30 (by decide), S.2 31 (by decide)]; exact h4
theorem getD_set {xs : List Int32} {i j : Nat} {x : Int32} (hi : i < xs.length) : (xs.set i x).getD j 0 = if j = i then x else xs.getD j 0 := by
  rw [List.getD_eq_getElem?_getD, List.getD_eq_getElem?_getD]
  by_cases h : j = i
  · subst h; rw [if_pos rfl, List.getElem?_set_self hi]; rfl
  · rw [if_neg h, List.getElem?_set_ne (fun z => h z.symm)]
theorem r_203 (H : RB h F A c w b hs) (d : Nat) : ∃ h' A', call (d + 4) 203 [.ref 28] h = some (none, h') ∧ RB h' F A' c w b hs ∧ Lk A' c w hs ∧ Fr h h' ∧ SS F A F A' := by
  have hb := H.bd
  rw [e_203]
  have key : ∀ i, i ≤ hs.length → ∀ (h1 : MHeap) (A1 : Nat → List Int32), RB h1 F A1 c w b hs → Fr h h1 → SS F A F A1 → (∀ (j : Nat) (e : Ent), j < i → hs[j]? = some e → (A1 43).getD j 0 = nI (inN c w e)) → ∃ h' A', ex (d + 3) 203 2 [sv (.ref 28), sv (.int (nI i))] [] h1 = some (none, h') ∧ RB h' F A' c w b hs ∧ Lk A' c w hs ∧ Fr h h' ∧ SS F A F A' := by
    intro i hi
    refine up_ind (n := hs.length) (P := fun i => ∀ (h1 : MHeap) (A1 : Nat → List Int32), RB h1 F A1 c w b hs → Fr h h1 → SS F A F A1 → (∀ (j : Nat) (e : Ent), j < i → hs[j]? = some e → (A1 43).getD j 0 = nI (inN c w e)) → ∃ h' A', ex (d + 3) 203 2 [sv (.ref 28), sv (.int (nI i))] [] h1 = some (none, h') ∧ RB h' F A' c w b hs ∧ Lk A' c w hs ∧ Fr h h' ∧ SS F A F A') ?_ ?_ hi
    · intro h1 A1 H1 H2 H3 H4
      refine ⟨h1, A1, ?_, H1, ?_, H2, H3⟩
      · rw [e_203_2, H1.f3, if_neg (nI_nlt (Nat.le_refl _) (by omega))]
      · intro j e he
        exact H4 j e (List.getElem?_eq_some_iff.1 he).1 he
    · intro i hi ih h1 A1 H1 H2 H3 H4
      obtain ⟨e, he⟩ : ∃ e, hs[i]? = some e := ⟨_, List.getElem?_eq_getElem hi⟩
      have h7 : i < asz 43 := by show i < 7; omega
      have hl : (A1 43).length = 7 := (H1.1.2 43 (by decide) (by decide)).2
      rw [e_203_2, H1.f3, if_pos (nI_lt hi (by omega)), H1.f34, H1.v, r_200 H1 _ he, cI_s, dR_ref, H1.1.as (by decide) (by decide) h7, nI_1]
      have S1 : SS F A1 F (fu A1 43 ((A1 43).set i (nI (inN c w e)))) := SS.a F A1 (by decide) _
      refine ih _ (fu A1 43 ((A1 43).set i (nI (inN c w e)))) (H1.sc (H1.1.setA (by decide) (by decide) (by rw [List.length_set]; exact hl)) S1) (H2.tr (Fr.st _ (by decide) (by decide) _)) (H3.tr S1) ?_
      intro j e2 hj he2
      rw [fu_eq, getD_set (by omega)]
      by_cases q : j = i
      · subst q
        rw [if_pos rfl]
        rw [he] at he2
        cases he2
        rfl
      · rw [if_neg q]
        exact H4 j e2 (by omega) he2
  exact key 0 (by omega) h A H (Fr.rf h) (SS.rf F A) (fun j e hj => by omega)
theorem r_204 (H : RB h F A c w b hs) (L : Lk A c w hs) (d : Nat) (l : Int32) : call (d + 2) 204 [.ref 28, .int l] h = some (some (.int (nI (sgs c w hs l))), h) := by
  have hb := H.bd
  rw [e_204]
  refine r_sum (d := d) H l (fun i s => ex (d + 1) 204 4 [sv (.ref 28), sv (.int l), sv (.int (nI s)), sv (.int (nI i))] [] h) ?_ ?_
  · show ex _ _ _ _ _ _ = _
    rw [e_204_4, H.f3, if_neg (nI_nlt (Nat.le_refl _) (by omega))]
  · intro i e he s hs1
    have hi : i < hs.length := (List.getElem?_eq_some_iff.1 he).1
    have h6 : sgN c w e l ≤ 10 := sgX_lt (e := e) (x := l.toBitVec.toNat &&& inN c w e) (H.2.2.2 i e he).1.2.2
    show ex _ _ _ _ _ _ = ex _ _ _ _ _ _
    rw [e_204_4, H.f3, if_pos (nI_lt hi (by omega)), H.f34, dR_ref, H.1.al (by decide) (by decide) (show i < 7 by omega), L i e he, H.v, r_201 H _ he, cI_s, nI_1, pk_step (by omega) hs1 (by omega)]
theorem r_209 (H : RB h F A c w b hs) (L : Lk A c w hs) (d : Nat) (l : Int32) : call (d + 3) 209 [.ref 28, .int l] h = some (some (.int (bI (decide (sgs c w hs l = 0)))), h) := by
  have hb := H.bd
  have h3 := sgs_lt (c := c) (w := w) (by omega) H.ok l
  rw [e_209, H.v, r_204 H L, cI_s, zr_0, zr_1, bI_d]
  by_cases q : sgs c w hs l = 0
  · rw [if_pos (show nI (sgs c w hs l) = 0 by rw [q]; rfl), if_pos q]
  · rw [if_neg (nI_ne0 (by omega) (by omega)), if_neg q]
theorem r_210 (H : RB h F A c w b hs) (L : Lk A c w hs) (d : Nat) (l : Int32) : call (d + 4) 210 [.ref 28, .int l] h = some (some (.int (nI (otq (mdq c w hs l) c))), h) := by
  have hb := H.bd
  rw [e_210]
  refine up_ind (n := c) (i := 0) (P := fun i => ex (d + 3) 210 4 [sv (.ref 28), sv (.int l), sv (.int (nI (otq (mdq c w hs l) i))), sv (.int (nI i))] [] h = some (some (.int (nI (otq (mdq c w hs l) c))), h)) ?_ ?_ (by omega)
  · rw [e_210_4, H.f0, if_neg (nI_nlt (Nat.le_refl _) (by omega))]
  · intro i hi ih
    rw [otq_succ] at ih
    rw [e_210_4, H.f0, if_pos (nI_lt hi (by omega)), bit_nI (by omega), H.v, r_209 H L, cI_s, show (0 : Int32) = nI 0 from rfl, fa_or, fa_or, nI_1]
    show (if bI _ = 0 then _ else _) = _
    simp only [bI_0]
    by_cases q : mdq c w hs l i = true
    · rw [if_neg (by simpa [mdq] using q)]
      rw [if_pos q] at ih
      exact ih
    · rw [if_pos (by simpa [mdq] using q)]
      rw [if_neg q] at ih
      exact ih
theorem sg_at (H : RB h F A c w b hs) (l : Int32) {i : Nat} (hi : i < hs.length) : (nI (sgs c w hs l) >>> ((4 * nI i) &&& 31)) &&& 15 = nI ((sl c w hs l).getD i 0) := by
  have hb := H.bd
  have h3 := sgs_lt (c := c) (w := w) (by omega) H.ok l
  rw [sg_in (by omega) (by omega), sgs_sl, pkN_get (sl_lt H.ok l) i (by rw [sl_len]; exact hi)]
theorem sl_getD_le (H : RB h F A c w b hs) (l : Int32) {i : Nat} (hi : i < hs.length) : (sl c w hs l).getD i 0 ≤ 10 := by
  obtain ⟨e, he⟩ : ∃ e, hs[i]? = some e := ⟨_, List.getElem?_eq_getElem hi⟩
  rw [sl_at he]
  exact sgX_lt (e := e) (H.2.2.2 i e he).1.2.2
theorem nI_z {n : Nat} (h : n < 2 ^ 31) : (nI n = 0) ↔ n = 0 := nI_eq (b := 0) h (by decide)
theorem r_205 (H : RB h F A c w b hs) (d : Nat) (l : Int32) : call (d + 1) 205 [.ref 28, .int (nI (sgs c w hs l))] h = some (some (.int (nI (fln c w hs l))), h) := by
  have hb := H.bd
  rw [e_205]
  refine up_ind (n := hs.length) (i := 0) (P := fun i => ex d 205 4 [sv (.ref 28), sv (.int (nI (sgs c w hs l))), sv (.int (nI (cnt (fun i => !decide ((sl c w hs l).getD i 0 = 0)) i))), sv (.int (nI i))] [] h = some (some (.int (nI (fln c w hs l))), h)) ?_ ?_ (by omega)
  · rw [e_205_4, H.f3, if_neg (nI_nlt (Nat.le_refl _) (by omega))]; rfl
  · intro i hi ih
    have h5 := sl_getD_le H l hi
    rw [cnt_succ] at ih
    rw [e_205_4, H.f3, if_pos (nI_lt hi (by omega)), sg_at H l hi, show (0 : Int32) = nI 0 from rfl, nI_add, nI_1, nI_1]
    by_cases q : (sl c w hs l).getD i 0 = 0
    · rw [if_pos (show nI _ = nI 0 by rw [q])]
      rw [if_neg (by rw [decide_eq_true q]; decide)] at ih
      exact ih
    · rw [if_neg (fun z => q ((nI_eq (by omega) (by decide)).1 z))]
      rw [if_pos (by rw [decide_eq_false q]; rfl)] at ih
      exact ih
end RBS
/-! questions of both -/
def CQ (c w : Nat) (b : Int32) (hs : List Ent) (m : Nat) (as : List Value) (v : Value) : Prop := ∀ (d : Nat) (h : MHeap) (lc lw : Int32) (ps : List Nat), CB h c w b hs lc lw ps → call (d + 20) m (.ref 3 :: as) h = some (some v, h)
def RQ (c w : Nat) (b : Int32) (hs : List Ent) (m : Nat) (as : List Value) (v : Value) : Prop := ∀ (d : Nat) (h : MHeap) (F : Nat → Int32) (A : Nat → List Int32), RB h F A c w b hs → ∃ h' F' A', call (d + 20) m (.ref 28 :: as) h = some (some v, h') ∧ RB h' F' A' c w b hs ∧ Fr h h' ∧ SS F A F' A'
def PQ (c w : Nat) (b : Int32) (hs : List Ent) (mc mr : Nat) (as : List Value) : Prop := ∃ v : Int32, CQ c w b hs mc as (.int v) ∧ RQ c w b hs mr as (.int v)
def PQJ (c w : Nat) (b : Int32) (hs : List Ent) (mc mr : Nat) (as : List Value) : Prop := ∃ v : Int64, CQ c w b hs mc as (.long v) ∧ RQ c w b hs mr as (.long v)
section PQS
variable {c w : Nat} {b : Int32} {hs : List Ent}
theorem q_look (a : Int32) : PQ c w b hs 96 208 [.int a] := by
  refine ⟨(if inR a 0 (nI (2 ^ c - 1)) then nI (sgs c w hs (b ^^^ a)) else -2), ?_, ?_⟩
  · intro d h lc lw ps H
    rw [e_96]
    simp only [H.o0, H.o1, H.o2, H.o3, H.o4, H.o5, H.o6, H.o7, H.o8, H.o9, H.o10, H.b0, H.b1, H.b2, H.b3, H.b4, H.v3, H.v4, dR_ref, dA_ref, dA_null, dN_ref, dN_null, dD_ref, dD_int, cI_s, cV_s, cR_r, cR_n, cJ_s, bI_0, zr_bI, zr_0, zr_1, c_6 H, c_16 H]
    cases inR a 0 (nI (2 ^ c - 1)) <;> rfl
  · intro d h F A H
    refine ⟨h, F, A, ?_, H, Fr.rf h, SS.rf F A⟩
    rw [e_208]
    simp only [H.v, H.f2, dR_ref, dA_ref, dA_null, dN_ref, dN_null, dD_ref, dD_int, cI_s, cV_s, cR_r, cR_n, cJ_s, bI_0, zr_bI, zr_0, zr_1, r_172 H, r_202 H]
    cases inR a 0 (nI (2 ^ c - 1)) <;> rfl
theorem q_one : PQ c w b hs 97 211 [] := by
  refine ⟨(nI (otq (mdq c w hs b) c)), ?_, ?_⟩
  · intro d h lc lw ps H
    rw [e_97]
    simp only [H.o0, H.o1, H.o2, H.o3, H.o4, H.o5, H.o6, H.o7, H.o8, H.o9, H.o10, H.b0, H.b1, H.b2, H.b3, H.b4, H.v3, H.v4, dR_ref, dA_ref, dA_null, dN_ref, dN_null, dD_ref, dD_int, cI_s, cV_s, cR_r, cR_n, cJ_s, bI_0, zr_bI, zr_0, zr_1, c_144 H]
  · intro d h F A H
    obtain ⟨h', A', e1, H1, L1, F1, S1⟩ := r_203 H (d + 15)
    refine ⟨h', F, A', ?_, H1, F1, S1⟩
    rw [e_211, H.v, e1, cV_s, H1.f2, H1.v, r_210 H1 L1, cI_s]
theorem q_signs (a : Int32) : PQ c w b hs 95 207 [.int a] := by
  refine ⟨(if a = 0 then nI (sgs c w hs b) else if a = 1 then nI (fl c w hs b) else if a = 2 then nI (fln c w hs b) else -2), ?_, ?_⟩
  · intro d h lc lw ps H
    rw [e_95]
    simp only [H.o0, H.o1, H.o2, H.o3, H.o4, H.o5, H.o6, H.o7, H.o8, H.o9, H.o10, H.b0, H.b1, H.b2, H.b3, H.b4, H.v3, H.v4, dR_ref, dA_ref, dA_null, dN_ref, dN_null, dD_ref, dD_int, cI_s, cV_s, cR_r, cR_n, cJ_s, bI_0, zr_bI, zr_0, zr_1, c_16 H, c_18 H, c_19 H]
    by_cases h0 : a = 0
    · rw [if_pos h0, if_pos h0]
    · by_cases h1 : a = 1
      · rw [if_neg h0, if_neg h0, if_pos h1, if_pos h1]
      · by_cases h2 : a = 2
        · rw [if_neg h0, if_neg h0, if_neg h1, if_neg h1, if_pos h2, if_pos h2]
        · rw [if_neg h0, if_neg h0, if_neg h1, if_neg h1, if_neg h2, if_neg h2]
  · intro d h F A H
    refine ⟨h, F, A, ?_, H, Fr.rf h, SS.rf F A⟩
    have hb := H.bd
    rw [e_207, r_166, cI_s]
    simp only [bI_0]
    have hin : (inR a 0 2 = false) ↔ ¬ (a = 0 ∨ a = 1 ∨ a = 2) := by
      constructor
      · intro q z
        rcases z with z | z | z <;> subst z <;> exact absurd q (by decide)
      · intro q
        by_cases h1 : a < 0
        · simp [inR, h1]
        · obtain ⟨j, hj, rfl⟩ := nI_of h1
          by_cases h2 : j ≤ 2
          · exfalso; apply q
            rcases (show j = 0 ∨ j = 1 ∨ j = 2 by omega) with z | z | z <;> subst z
            · exact Or.inl rfl
            · exact Or.inr (Or.inl rfl)
            · exact Or.inr (Or.inr rfl)
          · have : (2 : Int32) < nI j := nI_lt (a := 2) (by omega) hj
            simp [inR, this]
    by_cases q : a = 0 ∨ a = 1 ∨ a = 2
    · rw [if_neg (fun z => hin.1 z q), H.f2, H.v, r_202 H, cI_s]
      refine up_ind (n := hs.length) (i := 0) (P := fun i => ex (d + 19) 207 26 [sv (.ref 28), sv (.int a), sv (.int (nI (sgs c w hs b))), sv (.int (nI (otq (fun i => !decide ((sl c w hs b).getD i 0 = 0)) i))), sv (.int (nI i))] [] h = some (some (.int _), h)) ?_ ?_ (by omega)
      · rw [e_207_26, H.f3, if_neg (nI_nlt (Nat.le_refl _) (by omega)), H.v, r_205 H, cI_s]
        rcases q with z | z | z <;> subst z
        · rfl
        · rfl
        · rfl
      · intro i hi ih
        have h5 := sl_getD_le H b hi
        rw [otq_succ] at ih
        rw [e_207_26, H.f3, if_pos (nI_lt hi (by omega)), sg_at H b hi, bit_nI (by omega), show (0 : Int32) = nI 0 from rfl, fa_or, fa_or, nI_1]
        by_cases q : (sl c w hs b).getD i 0 = 0
        · rw [if_pos (show nI _ = nI 0 by rw [q])]
          rw [if_neg (by rw [decide_eq_true q]; decide)] at ih
          exact ih
        · rw [if_neg (fun z => q ((nI_eq (by omega) (by decide)).1 z))]
          rw [if_pos (by rw [decide_eq_false q]; rfl)] at ih
          exact ih
    · rw [if_pos (hin.2 q)]
      have q0 : ¬ a = 0 := fun z => q (Or.inl z)
      have q1 : ¬ a = 1 := fun z => q (Or.inr (Or.inl z))
      have q2 : ¬ a = 2 := fun z => q (Or.inr (Or.inr z))
      rw [if_neg q0, if_neg q1, if_neg q2]
end PQS
