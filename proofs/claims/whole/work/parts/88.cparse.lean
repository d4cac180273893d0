/-! the class's parse -/
def B0 (h0 : MHeap) (tk : Nat → Nat) (N n : Nat) (x : Int32) : Prop := (∃ y z, h0[7]? = some (c7 n x y z)) ∧ (∃ w, h0[11]? = some w) ∧ (∃ ta, arr h0 9 ta 161 ∧ ∀ j, j ≤ N → ta.getD j 0 = tC (tk j)) ∧ N ≤ 160 ∧ (∀ j, tk j ≤ 20001) ∧ 20000 ≤ tk N
abbrev hpx (h0 : MHeap) (n : Nat) (x : Int32) (i : Nat) (l : Nat) (it : List Int32) : MHeap := (h0.set 7 (c7 n x (nI i) (nI l))).set 11 (100, it.map .int)
def CPS (h0 : MHeap) (n : Nat) (x : Int32) (h : MHeap) (i : Nat) (out : List Nat) : Prop := ∃ it : List Int32, h = hpx h0 n x i out.length it ∧ it.length = 160 ∧ ∀ k, k < out.length → it.getD k 0 = nI (out.getD k 0)
theorem hpx_7 (h0 : MHeap) (n : Nat) (x : Int32) (i l : Nat) (it : List Int32) (c : MCell) : (hpx h0 n x i l it).set 7 c = (h0.set 7 c).set 11 (100, it.map .int) := by
  unfold hpx
  rw [List.set_comm _ _ (show 11 ≠ 7 by decide), List.set_set]
theorem hpx_b (h0 : MHeap) (n : Nat) (x : Int32) (i l : Nat) (it : List Int32) (c e : MCell) : ((hpx h0 n x i l it).set 11 e).set 7 c = (h0.set 7 c).set 11 e := by
  unfold hpx
  rw [List.set_set, List.set_comm _ _ (show 11 ≠ 7 by decide), List.set_set]
section CPAR
variable {h0 h : MHeap} {tk : Nat → Nat} {N n i : Nat} {x : Int32} {out : List Nat}
theorem CPS.h7 (B : B0 h0 tk N n x) (S : CPS h0 n x h i out) : h[7]? = some (c7 n x (nI i) (nI out.length)) := by
  obtain ⟨it, rfl, _⟩ := S
  obtain ⟨⟨y, z, b⟩, _⟩ := B
  rw [gset_ne _ (by decide)]
  exact gset b _
theorem CPS.g6 (B : B0 h0 tk N n x) (S : CPS h0 n x h i out) (k : Int32 → MRes) : gfI none h 7 [9] 6 k = k (nI i) := gfI_at (S.h7 B) rfl rfl k
theorem CPS.g7 (B : B0 h0 tk N n x) (S : CPS h0 n x h i out) (k : Int32 → MRes) : gfI none h 7 [9] 7 k = k (nI out.length) := gfI_at (S.h7 B) rfl rfl k
theorem CPS.v (B : B0 h0 tk N n x) (S : CPS h0 n x h i out) (m : Nat) (k : Nat → MRes) : vd none h 7 [9, m] k = k m := vd_at (S.h7 B) rfl k
theorem CPS.p6 (B : B0 h0 tk N n x) (S : CPS h0 n x h i out) (i' : Nat) : ∃ h', (∀ k : MHeap → MRes, pfI none h 7 [9] 6 (nI i') k = k h') ∧ CPS h0 n x h' i' out := by
  have h7 := S.h7 B
  obtain ⟨it, rfl, a, b⟩ := S
  refine ⟨hpx h0 n x i' out.length it, fun k => ?_, it, rfl, a, b⟩
  rw [pfI_at h7 rfl (by show 6 < 8; decide), hpx_7]
  rfl
theorem c_58 (B : B0 h0 tk N n x) (S : CPS h0 n x h i out) (hi : i ≤ N) (d : Nat) : call (d + 2) 58 [.ref 7] h = some (some (.int (tC (tk i))), h) := by
  have h7 := S.h7 B
  have g6 := S.g6 B
  obtain ⟨_, _, ⟨ta, a9, tj⟩, hN, _⟩ := B
  have h9 : h[9]? = some (100, ta.map .int) := by
    obtain ⟨it, rfl, _⟩ := S
    rw [gset_ne _ (by decide), gset_ne _ (by decide)]; exact a9.1
  have g2 : ∀ k : Value → MRes, gfV none h 7 [9] 2 k = k (.ref 9) := fun k => gfV_at h7 rfl rfl k
  rw [e_58, g6, g2, dR_ref, ar_ln h9, a9.2, c_133, cI_s, show nI 161 - 1 = nI 160 from by decide, inR_nI (by omega) (by decide), decide_eq_true (show i ≤ 160 by omega), if_neg (by decide), g2, g6, dR_ref, ar_al h9 (by rw [a9.2]; omega) (by rw [a9.2]; decide), tj i hi]
theorem c_68 (B : B0 h0 tk N n x) (S : CPS h0 n x h i out) (ho : out.length < 160) (t : Nat) (d : Nat) : ∃ h', call (d + 2) 68 [.ref 7, .int (nI t)] h = some (none, h') ∧ CPS h0 n x h' i (out ++ [t]) := by
  have h7 := S.h7 B
  have g7 := S.g7 B
  have g4 : ∀ k : Value → MRes, gfV none h 7 [9] 4 k = k (.ref 11) := fun k => gfV_at h7 rfl rfl k
  obtain ⟨_, ⟨w, b11⟩, _⟩ := B
  obtain ⟨it, rfl, a, b⟩ := S
  have h11 : (hpx h0 n x i out.length it)[11]? = some (100, it.map .int) := by
    have q : (h0.set 7 (c7 n x (nI i) (nI out.length)))[11]? = some w := by rw [gset_ne _ (by decide)]; exact b11
    exact gset q _
  have l1 : (out ++ [t]).length = out.length + 1 := by rw [List.length_append]; rfl
  have h7' : ((hpx h0 n x i out.length it).set 11 (100, (it.set out.length (nI t)).map .int))[7]? = some (c7 n x (nI i) (nI out.length)) := by rw [gset_ne _ (by decide)]; exact h7
  have g7' : ∀ k : Int32 → MRes, gfI none ((hpx h0 n x i out.length it).set 11 (100, (it.set out.length (nI t)).map .int)) 7 [9] 7 k = k (nI out.length) := fun k => gfI_at h7' rfl rfl k
  refine ⟨hpx h0 n x i (out ++ [t]).length (it.set out.length (nI t)), ?_, it.set out.length (nI t), rfl, by rw [List.length_set]; exact a, ?_⟩
  · rw [e_68, g7, g4, dR_ref, ar_ln h11, a, c_133, cI_s, show nI 160 - 1 = nI 159 from by decide, inR_nI (by omega) (by decide), decide_eq_true (show out.length ≤ 159 by omega), if_neg (by decide), g4, g7, dR_ref, ar_as h11 (by rw [a]; exact ho) (by rw [a]; decide), g7', nI_1, pfI_at h7' rfl (by show 7 < 8; decide), hpx_b, l1]
    rfl
  · intro k hk
    rw [getD_set (by rw [a]; exact ho)]
    by_cases q : k = out.length
    · subst q; rw [if_pos rfl]; simp
    · rw [if_neg q, b k (by omega), List.getD_eq_getElem?_getD, List.getD_eq_getElem?_getD, List.getElem?_append_left (by omega)]
theorem c_62 (B : B0 h0 tk N n x) (S : CPS h0 n x h i out) (hi : i ≤ N) {lv : Nat} (hl : lv < 4) (d : Nat) : call (d + 3) 62 [.ref 7, .int (nI lv)] h = some (some (.int (bI (jnt lv (tk i)))), h) := by
  have tl := B.2.2.2.2.1 i
  rw [e_62, S.v B, c_58 B S hi, cI_s]
  simp only [zr_0, zr_1]
  have eq : ∀ a, a < 20000 → ∀ (p q : MRes), (if tC (tk i) = nI a then p else q) = if (tk i == a) = true then p else q := by
    intro a ha p q
    by_cases z : tk i = a
    · rw [if_pos ((tC_eq tl ha).2 z), if_pos (by simp [z])]
    · rw [if_neg (fun e => z ((tC_eq tl ha).1 e)), if_neg (by simp [z])]
  have e3 := eq 3 (by decide)
  have e4 := eq 4 (by decide)
  have e43 := eq 43 (by decide)
  have e45 := eq 45 (by decide)
  have e42 := eq 42 (by decide)
  rcases (show lv = 0 ∨ lv = 1 ∨ lv = 2 ∨ lv = 3 by omega) with z | z | z | z <;> subst z
  · rw [if_pos (by decide)]
    refine (e3 _ _).trans ?_
    unfold jnt
    cases tk i == 3 <;> rfl
  · rw [if_neg (by decide), if_pos (by decide)]
    refine (e4 _ _).trans ?_
    unfold jnt
    cases tk i == 4 <;> rfl
  · rw [if_neg (by decide), if_neg (by decide), if_pos (by decide)]
    refine (e43 _ _).trans ?_
    unfold jnt
    cases tk i == 43
    · refine (e45 _ _).trans ?_
      cases tk i == 45 <;> rfl
    · rfl
  · rw [if_neg (by decide), if_neg (by decide), if_neg (by decide)]
    refine (e42 _ _).trans ?_
    unfold jnt
    cases tk i == 42 <;> rfl
theorem c_60 (B : B0 h0 tk N n x) (S : CPS h0 n x h i out) (hi : i ≤ N) {a : Nat} (ha : a < 20000) (d : Nat) : ∃ h', call (d + 3) 60 [.ref 7, .int (nI a)] h = some (some (.int (bI (decide (tk i = a)))), h') ∧ CPS h0 n x h' (if tk i = a then i + 1 else i) out := by
  have tl := B.2.2.2.2.1 i
  rw [e_60, S.v B, c_58 B S hi, cI_s]
  by_cases z : tk i = a
  · obtain ⟨h1, p, S1⟩ := S.p6 B (i + 1)
    rw [if_pos ((tC_eq tl ha).2 z), S.g6 B, nI_1, p, zr_1, decide_eq_true z, if_pos z]
    exact ⟨h1, rfl, S1⟩
  · rw [if_neg (fun e => z ((tC_eq tl ha).1 e)), zr_0, decide_eq_false z, if_neg z]
    exact ⟨h, rfl, S⟩
end CPAR
theorem inR6 : ∀ t, t < 1000 → inR (nI t) 6 11 = (Nat.ble 6 t && Nat.ble t 11) := by decide +kernel
theorem ble_f (a b : Nat) : Nat.ble a b = false ↔ b < a := by
  rw [← Bool.not_eq_true, Nat.ble_eq]
  omega
theorem tC_no {t : Nat} (h : itm t = false) (ht : t ≤ 20001) : tC t < 1000 ∧ inR (tC t) 6 11 = false := by
  unfold itm at h
  simp only [Bool.or_eq_false_iff, Bool.and_eq_false_iff, ble_f] at h
  unfold tC
  by_cases x : t = 20000
  · rw [if_pos x]; exact ⟨by decide, by decide⟩
  · rw [if_neg x]
    by_cases y : t = 20001
    · rw [if_pos y]; exact ⟨by decide, by decide⟩
    · rw [if_neg y]
      refine ⟨nI_lt (b := 1000) (by omega) (by decide), ?_⟩
      rw [inR6 t (by omega)]
      simp only [Bool.and_eq_false_iff, ble_f]
      omega
/-- the call that a mode is -/
def CAL (m op i D : Nat) (h : MHeap) (r : MRes) : Prop := if m < 4 then call D 61 [.ref 7, .int (nI m), .int (nI op)] h = r else if m < 8 then (∀ (n : Nat) (a : MSl), n ≤ i → ex D 61 13 [sv (.ref 7), sv (.int (nI (m - 4))), sv (.int (nI op)), sv (.int (nI n)), a] [] h = r) else if m < 12 then call D 63 [.ref 7, .int (nI (m - 8)), .int (nI op)] h = r else if m = 12 then call D 64 [.ref 7, .int (nI op)] h = r else if m = 13 then call D 65 [.ref 7, .int (nI op)] h = r else call D 66 [.ref 7, .int (nI op)] h = r
def dpt (m op : Nat) : Nat := 10 * (5 - op) + if m = 0 then 14 else if m = 1 then 12 else if m = 2 then 9 else if m = 3 then 7 else if m = 4 ∨ m = 8 then 13 else if m = 5 ∨ m = 9 then 11 else if m = 6 ∨ m = 10 then 8 else if m = 7 ∨ m = 11 then 6 else if m = 12 ∨ m = 13 then 10 else 5
section CPAR
variable {h0 h : MHeap} {tk : Nat → Nat} {N n i : Nat} {x : Int32} {out : List Nat}
theorem cJ_ {m op i D : Nat} {h : MHeap} {r : MRes} (hm : m < 4) : CAL m op i D h r = (call D 61 [.ref 7, .int (nI m), .int (nI op)] h = r) := if_pos hm
theorem cL_ {lv op i D : Nat} {h : MHeap} {r : MRes} (hl : lv < 4) : CAL (4 + lv) op i D h r = (∀ (n : Nat) (a : MSl), n ≤ i → ex D 61 13 [sv (.ref 7), sv (.int (nI lv)), sv (.int (nI op)), sv (.int (nI n)), a] [] h = r) := by
  unfold CAL
  rw [if_neg (by omega), if_pos (by omega), Nat.add_sub_cancel_left]
theorem cO_ {lv op i D : Nat} {h : MHeap} {r : MRes} (hl : lv < 4) : CAL (8 + lv) op i D h r = (call D 63 [.ref 7, .int (nI lv), .int (nI op)] h = r) := by
  unfold CAL
  rw [if_neg (by omega), if_neg (by omega), if_pos (by omega), Nat.add_sub_cancel_left]
theorem cp_all (B : B0 h0 tk N n x) {m op i : Nat} {out : List Nat} {b : Bool} {i' : Nat} {o' : List Nat} (hm : m ≤ 14) (hd : Pd tk m op i out b i' o') (h5 : op ≤ 5) (h12 : m = 12 → tk i = 5) (hi : i ≤ N) (ho : out.length < i) (D : Nat) (h : MHeap) (hD : dpt m op ≤ D) (S : CPS h0 n x h i out) : ∃ h', CAL m op i D h (some (some (.int (bI b)), h')) ∧ CPS h0 n x h' i' o' := by
  obtain ⟨f, hd⟩ := hd
  have tN := B.2.2.2.2.2
  have tl := B.2.2.2.2.1
  have nN := B.2.2.2.1
  have st : ∀ i, i ≤ N → tk i < 20000 → i + 1 ≤ N := fun i h1 h2 => by
    rcases Nat.lt_or_ge i N with q | q
    · exact q
    · have : i = N := by omega
      subst this; omega
  refine ps_ind (tk := tk) (P := fun m op i out b i' o' => op ≤ 5 → (m = 12 → tk i = 5) → i ≤ N → out.length < i → ∀ (D : Nat) (h : MHeap), dpt m op ≤ D → CPS h0 n x h i out → ∃ h', CAL m op i D h (some (some (.int (bI b)), h')) ∧ CPS h0 n x h' i' o') ?_ ?_ ?_ ?_ ?_ ?_ ?_ ?_ ?_ ?_ ?_ ?_ ?_ ?_ ?_ ?_ ?_ ?_ ?_ ?_ ?_ ?_ ?_ ?_ ?_ f m op i out b i' o' hm hd h5 h12 hi ho D h hD S
  · intro lv op i out i' o' hl _ ih h5 _ hi ho D h hD S
    have r1 : dpt (8 + lv) op < dpt lv op := by
      unfold dpt
      rcases (show lv = 0 ∨ lv = 1 ∨ lv = 2 ∨ lv = 3 by omega) with z | z | z | z <;> subst z <;> simp
    obtain ⟨d, rfl⟩ : ∃ d, D = d + 1 := ⟨D - 1, by omega⟩
    obtain ⟨h1, c1, S1⟩ := ih h5 (by omega) hi ho d h (by omega) S
    rw [cO_ hl] at c1
    refine ⟨h1, ?_, S1⟩
    rw [cJ_ hl]
    rw [e_61, S.v B, c1, cI_s]
    rfl
  · intro lv op i out i1 o1 b i2 o2 hl pd ih _ ih2 h5 _ hi ho D h hD S
    have r1 : dpt (8 + lv) op < dpt lv op ∧ dpt (4 + lv) op < dpt lv op := by
      unfold dpt
      rcases (show lv = 0 ∨ lv = 1 ∨ lv = 2 ∨ lv = 3 by omega) with z | z | z | z <;> subst z <;> simp
    have q := pd_le tN (by omega) pd (by omega) hi
    obtain ⟨d, rfl⟩ : ∃ d, D = d + 1 := ⟨D - 1, by omega⟩
    obtain ⟨h1, c1, S1⟩ := ih h5 (by omega) hi ho d h (by omega) S
    obtain ⟨h2, c2, S2⟩ := ih2 h5 (by omega) q.2.1 (by omega) d h1 (by omega) S1
    rw [cO_ hl] at c1
    rw [cL_ hl] at c2
    refine ⟨h2, ?_, S2⟩
    rw [cJ_ hl]
    rw [e_61, S.v B, c1, cI_s, if_neg (by decide)]
    exact c2 0 none (Nat.zero_le _)
  · intro lv op i out hl j h5 _ hi ho D h hD S
    have r1 : 3 ≤ dpt (4 + lv) op := by
      unfold dpt
      rcases (show lv = 0 ∨ lv = 1 ∨ lv = 2 ∨ lv = 3 by omega) with z | z | z | z <;> subst z <;> simp <;> omega
    obtain ⟨d, rfl⟩ : ∃ d, D = d + 3 := ⟨D - 3, by omega⟩
    refine ⟨h, ?_, S⟩
    rw [cL_ hl]
    intro n a hn
    rw [e_61_13]
    by_cases z : n < 160
    · rw [if_pos (show nI n < (160 : Int32) from nI_lt (b := 160) z (by decide)), S.v B, c_62 B S hi hl, cI_s, j]
      rfl
    · rw [if_neg (show ¬ nI n < (160 : Int32) from nI_nlt (b := 160) (by omega) (by omega))]
      rfl
  · intro lv op i out i' o' hl j _ ih h5 _ hi ho D h hD S
    have r1 : 3 ≤ dpt (4 + lv) op ∧ dpt (8 + lv) op ≤ dpt (4 + lv) op := by
      unfold dpt
      rcases (show lv = 0 ∨ lv = 1 ∨ lv = 2 ∨ lv = 3 by omega) with z | z | z | z <;> subst z <;> simp <;> omega
    have s := st i hi (jnt_lt j).1
    obtain ⟨d, rfl⟩ : ∃ d, D = d + 3 := ⟨D - 3, by omega⟩
    obtain ⟨h1, p1, S1⟩ := S.p6 B (i + 1)
    obtain ⟨h2, c2, S2⟩ := ih h5 (by omega) s (by omega) (d + 3) h1 (by omega) S1
    rw [cO_ hl] at c2
    refine ⟨h2, ?_, S2⟩
    rw [cL_ hl]
    intro n a hn
    rw [e_61_13, if_pos (show nI n < (160 : Int32) from nI_lt (b := 160) (by omega) (by decide)), S.v B, c_62 B S hi hl, cI_s, j, if_neg (by decide), S.v B, c_58 B S hi, cI_s, S.g6 B, nI_1, p1, S1.v B, c2, cI_s]
    rfl
  · intro lv op i out i1 o1 b i2 o2 hl j pd ih pd2 ih2 h5 _ hi ho D h hD S
    have r1 : 3 ≤ dpt (4 + lv) op ∧ dpt (8 + lv) op ≤ dpt (4 + lv) op := by
      unfold dpt
      rcases (show lv = 0 ∨ lv = 1 ∨ lv = 2 ∨ lv = 3 by omega) with z | z | z | z <;> subst z <;> simp <;> omega
    have s := st i hi (jnt_lt j).1
    have q := pd_le tN (by omega) pd (by omega) s
    obtain ⟨d, rfl⟩ : ∃ d, D = d + 3 := ⟨D - 3, by omega⟩
    obtain ⟨h1, p1, S1⟩ := S.p6 B (i + 1)
    obtain ⟨h2, c2, S2⟩ := ih h5 (by omega) s (by omega) (d + 3) h1 (by omega) S1
    rw [cO_ hl] at c2
    obtain ⟨h3, c3, S3⟩ := c_68 B S2 (by omega) (tk i) (d + 1)
    obtain ⟨h4, c4, S4⟩ := ih2 h5 (by omega) q.2.1 (by rw [List.length_append]; have : [tk i].length = 1 := rfl; omega) (d + 3) h3 (by omega) S3
    rw [cL_ hl] at c4
    refine ⟨h4, ?_, S4⟩
    rw [cL_ hl]
    intro n a hn
    have tt : tC (tk i) = nI (tk i) := (tC_eq (tl i) (jnt_lt j).1).2 rfl
    have q3 := q.2.2.2 rfl (by omega)
    rw [e_61_13, if_pos (show nI n < (160 : Int32) from nI_lt (b := 160) (by omega) (by decide)), S.v B, c_62 B S hi hl, cI_s, j, if_neg (by decide), S.v B, c_58 B S hi, cI_s, S.g6 B, nI_1, p1, S1.v B, c2, cI_s, if_neg (by decide), S2.v B, tt, c3, cV_s, nI_1]
    exact c4 (n + 1) _ (by omega)
  · intro op i out b i' o' _ ih h5 _ hi ho D h hD S
    have a1 : dpt 8 op = 10 * (5 - op) + 13 := rfl
    have a2 : dpt 1 op = 10 * (5 - op) + 12 := rfl
    obtain ⟨d, rfl⟩ : ∃ d, D = d + 1 := ⟨D - 1, by omega⟩
    obtain ⟨h1, c1, S1⟩ := ih h5 (by omega) hi ho d h (by omega) S
    refine ⟨h1, ?_, S1⟩
    have c1 : call d 61 [.ref 7, .int 1, .int (nI op)] h = _ := c1
    show call (d + 1) 63 [.ref 7, .int (nI 0), .int (nI op)] h = _
    rw [e_63, if_pos (by decide), S.v B, c1, cI_s, zr_bI]
  · intro op i out b i' o' t5 _ ih h5 _ hi ho D h hD S
    have a1 : dpt 9 op = 10 * (5 - op) + 11 := rfl
    have a2 : dpt 12 op = 10 * (5 - op) + 10 := rfl
    obtain ⟨d, rfl⟩ : ∃ d, D = d + 3 := ⟨D - 3, by omega⟩
    obtain ⟨h1, c1, S1⟩ := ih h5 (fun _ => t5) hi ho (d + 2) h (by omega) S
    refine ⟨h1, ?_, S1⟩
    have c1 : call (d + 2) 64 [.ref 7, .int (nI op)] h = _ := c1
    show call (d + 3) 63 [.ref 7, .int (nI 1), .int (nI op)] h = _
    rw [e_63, if_neg (by decide), if_pos (by decide), S.v B, c_58 B S hi, cI_s, if_pos (show tC (tk i) = (5 : Int32) from (tC_eq (a := 5) (tl i) (by decide)).2 t5), S.v B, c1, cI_s, zr_bI]
  · intro op i out b i' o' t5 _ ih h5 _ hi ho D h hD S
    have a1 : dpt 9 op = 10 * (5 - op) + 11 := rfl
    have a2 : dpt 13 op = 10 * (5 - op) + 10 := rfl
    obtain ⟨d, rfl⟩ : ∃ d, D = d + 3 := ⟨D - 3, by omega⟩
    obtain ⟨h1, c1, S1⟩ := ih h5 (by omega) hi ho (d + 2) h (by omega) S
    refine ⟨h1, ?_, S1⟩
    have c1 : call (d + 2) 65 [.ref 7, .int (nI op)] h = _ := c1
    show call (d + 3) 63 [.ref 7, .int (nI 1), .int (nI op)] h = _
    rw [e_63, if_neg (by decide), if_pos (by decide), S.v B, c_58 B S hi, cI_s, if_neg (show ¬ tC (tk i) = (5 : Int32) from fun e => t5 ((tC_eq (a := 5) (tl i) (by decide)).1 e)), S.v B, c1, cI_s, zr_bI]
  · intro op i out b i' o' _ ih h5 _ hi ho D h hD S
    have a1 : dpt 10 op = 10 * (5 - op) + 8 := rfl
    have a2 : dpt 3 op = 10 * (5 - op) + 7 := rfl
    obtain ⟨d, rfl⟩ : ∃ d, D = d + 1 := ⟨D - 1, by omega⟩
    obtain ⟨h1, c1, S1⟩ := ih h5 (by omega) hi ho d h (by omega) S
    refine ⟨h1, ?_, S1⟩
    have c1 : call d 61 [.ref 7, .int 3, .int (nI op)] h = _ := c1
    show call (d + 1) 63 [.ref 7, .int (nI 2), .int (nI op)] h = _
    rw [e_63, if_neg (by decide), if_neg (by decide), if_pos (by decide), S.v B, c1, cI_s, zr_bI]
  · intro op i out b i' o' _ ih h5 _ hi ho D h hD S
    have a1 : dpt 11 op = 10 * (5 - op) + 6 := rfl
    have a2 : dpt 14 op = 10 * (5 - op) + 5 := rfl
    obtain ⟨d, rfl⟩ : ∃ d, D = d + 1 := ⟨D - 1, by omega⟩
    obtain ⟨h1, c1, S1⟩ := ih h5 (by omega) hi ho d h (by omega) S
    refine ⟨h1, ?_, S1⟩
    have c1 : call d 66 [.ref 7, .int (nI op)] h = _ := c1
    show call (d + 1) 63 [.ref 7, .int (nI 3), .int (nI op)] h = _
    rw [e_63, if_neg (by decide), if_neg (by decide), if_neg (by decide), S.v B, c1, cI_s, zr_bI]
  · intro op i out o5 h5 _ hi ho D h hD S
    have a1 : dpt 12 op = 10 * (5 - op) + 10 := rfl
    obtain ⟨d, rfl⟩ : ∃ d, D = d + 1 := ⟨D - 1, by omega⟩
    refine ⟨h, ?_, S⟩
    show call (d + 1) 64 [.ref 7, .int (nI op)] h = _
    rw [e_64, if_neg (show ¬ nI op < (5 : Int32) from nI_nlt (b := 5) (by omega) (by omega))]
    rfl
  · intro op i out i' o' o5 _ ih h5 t5 hi ho D h hD S
    have a1 : dpt 12 op = 10 * (5 - op) + 10 := rfl
    have a2 : dpt 9 (op + 1) = 10 * (5 - (op + 1)) + 11 := rfl
    have s := st i hi (by rw [t5 rfl]; decide)
    obtain ⟨d, rfl⟩ : ∃ d, D = d + 1 := ⟨D - 1, by omega⟩
    obtain ⟨h1, p1, S1⟩ := S.p6 B (i + 1)
    obtain ⟨h2, c2, S2⟩ := ih (by omega) (by omega) s (by omega) d h1 (by omega) S1
    have c2 : call d 63 [.ref 7, .int 1, .int (nI (op + 1))] h1 = _ := c2
    refine ⟨h2, ?_, S2⟩
    show call (d + 1) 64 [.ref 7, .int (nI op)] h = _
    rw [e_64, if_pos (show nI op < (5 : Int32) from nI_lt (b := 5) o5 (by decide)), S.g6 B, nI_1, p1, S1.v B, nI_1, c2, cI_s]
    rfl
  · intro op i out i' o' o5 pd ih h5 t5 hi ho D h hD S
    have a1 : dpt 12 op = 10 * (5 - op) + 10 := rfl
    have a2 : dpt 9 (op + 1) = 10 * (5 - (op + 1)) + 11 := rfl
    have s := st i hi (by rw [t5 rfl]; decide)
    have q := pd_le tN (by omega) pd (by omega) s
    obtain ⟨d, rfl⟩ : ∃ d, D = d + 3 := ⟨D - 3, by omega⟩
    obtain ⟨h1, p1, S1⟩ := S.p6 B (i + 1)
    obtain ⟨h2, c2, S2⟩ := ih (by omega) (by omega) s (by omega) (d + 2) h1 (by omega) S1
    have c2 : call (d + 2) 63 [.ref 7, .int 1, .int (nI (op + 1))] h1 = _ := c2
    obtain ⟨h3, c3, S3⟩ := c_68 B S2 (by omega) 5 d
    refine ⟨h3, ?_, S3⟩
    show call (d + 3) 64 [.ref 7, .int (nI op)] h = _
    rw [e_64, if_pos (show nI op < (5 : Int32) from nI_lt (b := 5) o5 (by decide)), S.g6 B, nI_1, p1, S1.v B, nI_1, c2, cI_s, if_neg (by decide), S2.v B, show (5 : Int32) = nI 5 from rfl, c3, cV_s]
    rfl
  · intro op i out i' o' _ ih h5 _ hi ho D h hD S
    have a1 : dpt 13 op = 10 * (5 - op) + 10 := rfl
    have a2 : dpt 2 op = 10 * (5 - op) + 9 := rfl
    obtain ⟨d, rfl⟩ : ∃ d, D = d + 1 := ⟨D - 1, by omega⟩
    obtain ⟨h1, c1, S1⟩ := ih h5 (by omega) hi ho d h (by omega) S
    have c1 : call d 61 [.ref 7, .int 2, .int (nI op)] h = _ := c1
    refine ⟨h1, ?_, S1⟩
    show call (d + 1) 65 [.ref 7, .int (nI op)] h = _
    rw [e_65, S.v B, c1, cI_s]
    rfl
  · intro op i out i' o' ne pd ih h5 _ hi ho D h hD S
    have a1 : dpt 13 op = 10 * (5 - op) + 10 := rfl
    have a2 : dpt 2 op = 10 * (5 - op) + 9 := rfl
    have q := pd_le tN (by omega) pd (by omega) hi
    obtain ⟨d, rfl⟩ : ∃ d, D = d + 3 := ⟨D - 3, by omega⟩
    obtain ⟨h1, c1, S1⟩ := ih h5 (by omega) hi ho (d + 2) h (by omega) S
    have c1 : call (d + 2) 61 [.ref 7, .int 2, .int (nI op)] h = _ := c1
    refine ⟨h1, ?_, S1⟩
    show call (d + 3) 65 [.ref 7, .int (nI op)] h = _
    rw [e_65, S.v B, c1, cI_s, if_neg (by decide), S1.v B, c_58 B S1 q.2.1, cI_s, if_neg (show ¬ tC (tk i') = (60 : Int32) from fun e => ne (Or.inl ((tC_eq (a := 60) (tl i') (by decide)).1 e))), if_neg (show ¬ tC (tk i') = (61 : Int32) from fun e => ne (Or.inr ((tC_eq (a := 61) (tl i') (by decide)).1 e)))]
    rfl
  · intro op i out i1 o1 i' o' c pd ih _ ih2 h5 _ hi ho D h hD S
    have a1 : dpt 13 op = 10 * (5 - op) + 10 := rfl
    have a2 : dpt 2 op = 10 * (5 - op) + 9 := rfl
    have q := pd_le tN (by omega) pd (by omega) hi
    have s := st i1 q.2.1 (by omega)
    obtain ⟨d, rfl⟩ : ∃ d, D = d + 3 := ⟨D - 3, by omega⟩
    obtain ⟨h1, c1, S1⟩ := ih h5 (by omega) hi ho (d + 2) h (by omega) S
    have c1 : call (d + 2) 61 [.ref 7, .int 2, .int (nI op)] h = _ := c1
    obtain ⟨h2, p2, S2⟩ := S1.p6 B (i1 + 1)
    obtain ⟨h3, c3, S3⟩ := ih2 h5 (by omega) s (by omega) (d + 2) h2 (by omega) S2
    have c3 : call (d + 2) 61 [.ref 7, .int 2, .int (nI op)] h2 = _ := c3
    refine ⟨h3, ?_, S3⟩
    show call (d + 3) 65 [.ref 7, .int (nI op)] h = _
    rw [e_65, S.v B, c1, cI_s, if_neg (by decide), S1.v B, c_58 B S1 q.2.1, cI_s]
    by_cases z : tk i1 = 60
    · rw [if_pos (show tC (tk i1) = (60 : Int32) from (tC_eq (a := 60) (tl i1) (by decide)).2 z), S1.g6 B, nI_1, p2, S2.v B, c3, cI_s]
      rfl
    · rw [if_neg (show ¬ tC (tk i1) = (60 : Int32) from fun e => z ((tC_eq (a := 60) (tl i1) (by decide)).1 e)), if_pos (show tC (tk i1) = (61 : Int32) from (tC_eq (a := 61) (tl i1) (by decide)).2 (by omega)), S1.g6 B, nI_1, p2, S2.v B, c3, cI_s]
      rfl
  · intro op i out i1 o1 i' o' c pd ih pd2 ih2 h5 _ hi ho D h hD S
    have a1 : dpt 13 op = 10 * (5 - op) + 10 := rfl
    have a2 : dpt 2 op = 10 * (5 - op) + 9 := rfl
    have q := pd_le tN (by omega) pd (by omega) hi
    have s := st i1 q.2.1 (by omega)
    have q2 := pd_le tN (by omega) pd2 (by omega) s
    obtain ⟨d, rfl⟩ : ∃ d, D = d + 3 := ⟨D - 3, by omega⟩
    obtain ⟨h1, c1, S1⟩ := ih h5 (by omega) hi ho (d + 2) h (by omega) S
    have c1 : call (d + 2) 61 [.ref 7, .int 2, .int (nI op)] h = _ := c1
    obtain ⟨h2, p2, S2⟩ := S1.p6 B (i1 + 1)
    obtain ⟨h3, c3, S3⟩ := ih2 h5 (by omega) s (by omega) (d + 2) h2 (by omega) S2
    have c3 : call (d + 2) 61 [.ref 7, .int 2, .int (nI op)] h2 = _ := c3
    obtain ⟨h4, c4, S4⟩ := c_68 B S3 (by omega) (tk i1) d
    refine ⟨h4, ?_, S4⟩
    have tt : tC (tk i1) = nI (tk i1) := (tC_eq (tl i1) (by omega)).2 rfl
    show call (d + 3) 65 [.ref 7, .int (nI op)] h = _
    rw [e_65, S.v B, c1, cI_s, if_neg (by decide), S1.v B, c_58 B S1 q.2.1, cI_s]
    by_cases z : tk i1 = 60
    · rw [if_pos (show tC (tk i1) = (60 : Int32) from (tC_eq (a := 60) (tl i1) (by decide)).2 z), S1.g6 B, nI_1, p2, S2.v B, c3, cI_s, if_neg (by decide), S3.v B, tt, c4, cV_s]
      rfl
    · rw [if_neg (show ¬ tC (tk i1) = (60 : Int32) from fun e => z ((tC_eq (a := 60) (tl i1) (by decide)).1 e)), if_pos (show tC (tk i1) = (61 : Int32) from (tC_eq (a := 61) (tl i1) (by decide)).2 (by omega)), S1.g6 B, nI_1, p2, S2.v B, c3, cI_s, if_neg (by decide), S3.v B, tt, c4, cV_s]
      rfl
  · intro op i out j h5 _ hi ho D h hD S
    have a1 : dpt 14 op = 10 * (5 - op) + 5 := rfl
    have tt : tC (tk i) = nI (tk i) := (tC_eq (tl i) (itm_lt j).1).2 rfl
    obtain ⟨d, rfl⟩ : ∃ d, D = d + 3 := ⟨D - 3, by omega⟩
    obtain ⟨h1, c1, S1⟩ := c_68 B S (by omega) (tk i) d
    obtain ⟨h2, p2, S2⟩ := S1.p6 B (i + 1)
    refine ⟨h2, ?_, S2⟩
    show call (d + 3) 66 [.ref 7, .int (nI op)] h = _
    rw [e_66, S.v B, c_58 B S hi, cI_s, tt]
    rcases (itm_lt j).2 with z | z
    · rw [if_neg (show ¬ nI (tk i) < (1000 : Int32) from nI_nlt (b := 1000) (by omega) (by omega)), S.v B, c1, cV_s, S1.g6 B, nI_1, p2]
      rfl
    · rw [if_pos (show nI (tk i) < (1000 : Int32) from nI_lt (b := 1000) (by omega) (by decide)), c_133, cI_s, inR6 _ (by omega), show (Nat.ble 6 (tk i) && Nat.ble (tk i) 11) = true by simp [z], if_neg (by decide), S.v B, c1, cV_s, S1.g6 B, nI_1, p2]
      rfl
  · intro op i out j c o5 h5 _ hi ho D h hD S
    have a1 : dpt 14 op = 10 * (5 - op) + 5 := rfl
    have tn := tC_no j (tl i)
    obtain ⟨d, rfl⟩ : ∃ d, D = d + 3 := ⟨D - 3, by omega⟩
    refine ⟨h, ?_, S⟩
    show call (d + 3) 66 [.ref 7, .int (nI op)] h = _
    rw [e_66, S.v B, c_58 B S hi, cI_s, if_pos tn.1, c_133, cI_s, tn.2, if_pos (by decide)]
    by_cases z : tk i = 45
    · rw [if_pos (show tC (tk i) = (45 : Int32) from (tC_eq (a := 45) (tl i) (by decide)).2 z), if_neg (show ¬ nI op < (5 : Int32) from nI_nlt (b := 5) (by omega) (by omega))]
      rfl
    · rw [if_neg (show ¬ tC (tk i) = (45 : Int32) from fun e => z ((tC_eq (a := 45) (tl i) (by decide)).1 e)), if_pos (show tC (tk i) = (40 : Int32) from (tC_eq (a := 40) (tl i) (by decide)).2 (by omega)), if_neg (show ¬ nI op < (5 : Int32) from nI_nlt (b := 5) (by omega) (by omega))]
      rfl
  · intro op i out i' o' t o5 pd ih h5 _ hi ho D h hD S
    have a1 : dpt 14 op = 10 * (5 - op) + 5 := rfl
    have a2 : dpt 14 (op + 1) = 10 * (5 - (op + 1)) + 5 := rfl
    have tn := tC_no (t := tk i) (by rw [t]; rfl) (tl i)
    have s := st i hi (by omega)
    obtain ⟨d, rfl⟩ : ∃ d, D = d + 3 := ⟨D - 3, by omega⟩
    obtain ⟨h1, p1, S1⟩ := S.p6 B (i + 1)
    obtain ⟨h2, c2, S2⟩ := ih (by omega) (by omega) s (by omega) (d + 1) h1 (by omega) S1
    have c2 : call (d + 1) 66 [.ref 7, .int (nI (op + 1))] h1 = _ := c2
    have t45 := show tC (tk i) = (45 : Int32) from (tC_eq (a := 45) (tl i) (by decide)).2 t
    refine ⟨h2, ?_, S2⟩
    show call (d + 3) 66 [.ref 7, .int (nI op)] h = _
    rw [e_66, S.v B, c_58 B S hi, cI_s, if_pos tn.1, c_133, cI_s, tn.2, if_pos (by decide), if_pos t45, if_pos (show nI op < (5 : Int32) from nI_lt (b := 5) o5 (by decide)), S.g6 B, nI_1, p1, if_pos t45, S1.v B, nI_1, e_67, S1.v B, c2, cI_s]
    rfl
  · intro op i out i' o' t o5 pd ih h5 _ hi ho D h hD S
    have a1 : dpt 14 op = 10 * (5 - op) + 5 := rfl
    have a2 : dpt 14 (op + 1) = 10 * (5 - (op + 1)) + 5 := rfl
    have tn := tC_no (t := tk i) (by rw [t]; rfl) (tl i)
    have s := st i hi (by omega)
    have q := pd_le tN (by omega) pd (by omega) s
    obtain ⟨d, rfl⟩ : ∃ d, D = d + 4 := ⟨D - 4, by omega⟩
    obtain ⟨h1, p1, S1⟩ := S.p6 B (i + 1)
    obtain ⟨h2, c2, S2⟩ := ih (by omega) (by omega) s (by omega) (d + 2) h1 (by omega) S1
    have c2 : call (d + 2) 66 [.ref 7, .int (nI (op + 1))] h1 = _ := c2
    obtain ⟨h3, c3, S3⟩ := c_68 B S2 (by omega) 12 d
    have t45 := show tC (tk i) = (45 : Int32) from (tC_eq (a := 45) (tl i) (by decide)).2 t
    refine ⟨h3, ?_, S3⟩
    show call (d + 4) 66 [.ref 7, .int (nI op)] h = _
    rw [e_66, S.v B, c_58 B S hi, cI_s, if_pos tn.1, c_133, cI_s, tn.2, if_pos (by decide), if_pos t45, if_pos (show nI op < (5 : Int32) from nI_lt (b := 5) o5 (by decide)), S.g6 B, nI_1, p1, if_pos t45, S1.v B, nI_1, e_67, S1.v B, c2, cI_s, if_neg (by decide), S2.v B, show (12 : Int32) = nI 12 from rfl, c3, cV_s]
    rfl
  · intro op i out i' o' t o5 pd ih h5 _ hi ho D h hD S
    have a1 : dpt 14 op = 10 * (5 - op) + 5 := rfl
    have a2 : dpt 0 (op + 1) = 10 * (5 - (op + 1)) + 14 := rfl
    have tn := tC_no (t := tk i) (by rw [t]; rfl) (tl i)
    have s := st i hi (by omega)
    obtain ⟨d, rfl⟩ : ∃ d, D = d + 3 := ⟨D - 3, by omega⟩
    obtain ⟨h1, p1, S1⟩ := S.p6 B (i + 1)
    obtain ⟨h2, c2, S2⟩ := ih (by omega) (by omega) s (by omega) (d + 2) h1 (by omega) S1
    have c2 : call (d + 2) 61 [.ref 7, .int 0, .int (nI (op + 1))] h1 = _ := c2
    have t45 : ¬ tC (tk i) = (45 : Int32) := fun e => by have := (tC_eq (a := 45) (tl i) (by decide)).1 e; omega
    have t40 := show tC (tk i) = (40 : Int32) from (tC_eq (a := 40) (tl i) (by decide)).2 t
    refine ⟨h2, ?_, S2⟩
    show call (d + 3) 66 [.ref 7, .int (nI op)] h = _
    rw [e_66, S.v B, c_58 B S hi, cI_s, if_pos tn.1, c_133, cI_s, tn.2, if_pos (by decide), if_neg t45, if_pos t40, if_pos (show nI op < (5 : Int32) from nI_lt (b := 5) o5 (by decide)), S.g6 B, nI_1, p1, if_neg t45, S1.v B, nI_1, c2, cI_s]
    rfl
  · intro op i out i' o' t o5 t41 pd ih h5 _ hi ho D h hD S
    have a1 : dpt 14 op = 10 * (5 - op) + 5 := rfl
    have a2 : dpt 0 (op + 1) = 10 * (5 - (op + 1)) + 14 := rfl
    have tn := tC_no (t := tk i) (by rw [t]; rfl) (tl i)
    have s := st i hi (by omega)
    have q := pd_le tN (by omega) pd (by omega) s
    obtain ⟨d, rfl⟩ : ∃ d, D = d + 4 := ⟨D - 4, by omega⟩
    obtain ⟨h1, p1, S1⟩ := S.p6 B (i + 1)
    obtain ⟨h2, c2, S2⟩ := ih (by omega) (by omega) s (by omega) (d + 3) h1 (by omega) S1
    have c2 : call (d + 3) 61 [.ref 7, .int 0, .int (nI (op + 1))] h1 = _ := c2
    have t45 : ¬ tC (tk i) = (45 : Int32) := fun e => by have := (tC_eq (a := 45) (tl i) (by decide)).1 e; omega
    have t40 := show tC (tk i) = (40 : Int32) from (tC_eq (a := 40) (tl i) (by decide)).2 t
    obtain ⟨h3, c3, S3⟩ := c_60 B S2 q.2.1 (a := 41) (by decide) d
    rw [decide_eq_false t41] at c3
    rw [if_neg t41] at S3
    refine ⟨h3, ?_, S3⟩
    show call (d + 4) 66 [.ref 7, .int (nI op)] h = _
    rw [e_66, S.v B, c_58 B S hi, cI_s, if_pos tn.1, c_133, cI_s, tn.2, if_pos (by decide), if_neg t45, if_pos t40, if_pos (show nI op < (5 : Int32) from nI_lt (b := 5) o5 (by decide)), S.g6 B, nI_1, p1, if_neg t45, S1.v B, nI_1, c2, cI_s, if_neg (by decide), S2.v B, show (41 : Int32) = nI 41 from rfl, c3, cI_s]
    rfl
  · intro op i out i' o' t o5 t41 pd ih h5 _ hi ho D h hD S
    have a1 : dpt 14 op = 10 * (5 - op) + 5 := rfl
    have a2 : dpt 0 (op + 1) = 10 * (5 - (op + 1)) + 14 := rfl
    have tn := tC_no (t := tk i) (by rw [t]; rfl) (tl i)
    have s := st i hi (by omega)
    have q := pd_le tN (by omega) pd (by omega) s
    obtain ⟨d, rfl⟩ : ∃ d, D = d + 4 := ⟨D - 4, by omega⟩
    obtain ⟨h1, p1, S1⟩ := S.p6 B (i + 1)
    obtain ⟨h2, c2, S2⟩ := ih (by omega) (by omega) s (by omega) (d + 3) h1 (by omega) S1
    have c2 : call (d + 3) 61 [.ref 7, .int 0, .int (nI (op + 1))] h1 = _ := c2
    have t45 : ¬ tC (tk i) = (45 : Int32) := fun e => by have := (tC_eq (a := 45) (tl i) (by decide)).1 e; omega
    have t40 := show tC (tk i) = (40 : Int32) from (tC_eq (a := 40) (tl i) (by decide)).2 t
    obtain ⟨h3, c3, S3⟩ := c_60 B S2 q.2.1 (a := 41) (by decide) d
    rw [decide_eq_true t41] at c3
    rw [if_pos t41] at S3
    refine ⟨h3, ?_, S3⟩
    show call (d + 4) 66 [.ref 7, .int (nI op)] h = _
    rw [e_66, S.v B, c_58 B S hi, cI_s, if_pos tn.1, c_133, cI_s, tn.2, if_pos (by decide), if_neg t45, if_pos t40, if_pos (show nI op < (5 : Int32) from nI_lt (b := 5) o5 (by decide)), S.g6 B, nI_1, p1, if_neg t45, S1.v B, nI_1, c2, cI_s, if_neg (by decide), S2.v B, show (41 : Int32) = nI 41 from rfl, c3, cI_s]
    rfl
  · intro op i out j n45 n40 h5 _ hi ho D h hD S
    have a1 : dpt 14 op = 10 * (5 - op) + 5 := rfl
    have tn := tC_no j (tl i)
    obtain ⟨d, rfl⟩ : ∃ d, D = d + 3 := ⟨D - 3, by omega⟩
    refine ⟨h, ?_, S⟩
    show call (d + 3) 66 [.ref 7, .int (nI op)] h = _
    rw [e_66, S.v B, c_58 B S hi, cI_s, if_pos tn.1, c_133, cI_s, tn.2, if_pos (by decide), if_neg (show ¬ tC (tk i) = (45 : Int32) from fun e => n45 ((tC_eq (a := 45) (tl i) (by decide)).1 e)), if_neg (show ¬ tC (tk i) = (40 : Int32) from fun e => n40 ((tC_eq (a := 40) (tl i) (by decide)).1 e))]
    rfl
end CPAR
