/-! the reference's object and its board -/
abbrev rC (F : Nat → Int32) : MCell := (12, [.int (F 0), .int (F 1), .int (F 2), .int (F 3), .ref 29, .ref 30, .ref 31, .ref 32, .int (F 8), .ref 33, .ref 34, .int (F 11), .int (F 12), .int (F 13), .int (F 14), .int (F 15), .int (F 16), .int (F 17), .int (F 18), .ref 35, .ref 36, .ref 37, .ref 38, .int (F 23), .int (F 24), .int (F 25), .int (F 26), .ref 39, .ref 40, .int (F 29), .int (F 30), .int (F 31), .ref 41, .ref 42, .ref 43, .ref 44, .int (F 36), .int (F 37), .int (F 38)])
def fu {α : Type} (f : Nat → α) (j : Nat) (x : α) : Nat → α := fun k => if k = j then x else f k
theorem fu_eq {α : Type} (f : Nat → α) (j : Nat) (x : α) : fu f j x j = x := if_pos rfl
theorem fu_ne {α : Type} (f : Nat → α) {j k : Nat} (x : α) (h : k ≠ j) : fu f j x k = f k := if_neg h
/-- the sizes of its arrays -/
def asz (o : Nat) : Nat := match o with
  | 29 => 7
  | 30 => 7
  | 31 => 7
  | 32 => 160
  | 33 => 1200
  | 34 => 24
  | 35 => 4
  | 36 => 4
  | 37 => 160
  | 38 => 37
  | 39 => 96
  | 40 => 200
  | 41 => 200
  | 42 => 6
  | 43 => 7
  | _ => 300
def RH (h : MHeap) (F : Nat → Int32) (A : Nat → List Int32) : Prop := h[28]? = some (rC F) ∧ ∀ o : Nat, 29 ≤ o → o ≤ 44 → h[o]? = some (100, (A o).map .int) ∧ (A o).length = asz o
section RHS
variable {h : MHeap} {F : Nat → Int32} {A : Nat → List Int32}
theorem RH.f0 (H : RH h F A) (k : Int32 → MRes) : gfI none h 28 [12] 0 k = k (F 0) := gfI_at H.1 rfl rfl k
theorem RH.p0 (H : RH h F A) (x : Int32) (k : MHeap → MRes) : pfI none h 28 [12] 0 x k = k (h.set 28 (rC (fu F 0 x))) := pfI_at H.1 rfl (by show 0 < 39; decide) x k
theorem RH.f1 (H : RH h F A) (k : Int32 → MRes) : gfI none h 28 [12] 1 k = k (F 1) := gfI_at H.1 rfl rfl k
theorem RH.p1 (H : RH h F A) (x : Int32) (k : MHeap → MRes) : pfI none h 28 [12] 1 x k = k (h.set 28 (rC (fu F 1 x))) := pfI_at H.1 rfl (by show 1 < 39; decide) x k
theorem RH.f2 (H : RH h F A) (k : Int32 → MRes) : gfI none h 28 [12] 2 k = k (F 2) := gfI_at H.1 rfl rfl k
theorem RH.p2 (H : RH h F A) (x : Int32) (k : MHeap → MRes) : pfI none h 28 [12] 2 x k = k (h.set 28 (rC (fu F 2 x))) := pfI_at H.1 rfl (by show 2 < 39; decide) x k
theorem RH.f3 (H : RH h F A) (k : Int32 → MRes) : gfI none h 28 [12] 3 k = k (F 3) := gfI_at H.1 rfl rfl k
theorem RH.p3 (H : RH h F A) (x : Int32) (k : MHeap → MRes) : pfI none h 28 [12] 3 x k = k (h.set 28 (rC (fu F 3 x))) := pfI_at H.1 rfl (by show 3 < 39; decide) x k
theorem RH.f4 (H : RH h F A) (k : Value → MRes) : gfV none h 28 [12] 4 k = k (.ref 29) := gfV_at H.1 rfl rfl k
theorem RH.f5 (H : RH h F A) (k : Value → MRes) : gfV none h 28 [12] 5 k = k (.ref 30) := gfV_at H.1 rfl rfl k
theorem RH.f6 (H : RH h F A) (k : Value → MRes) : gfV none h 28 [12] 6 k = k (.ref 31) := gfV_at H.1 rfl rfl k
theorem RH.f7 (H : RH h F A) (k : Value → MRes) : gfV none h 28 [12] 7 k = k (.ref 32) := gfV_at H.1 rfl rfl k
theorem RH.f8 (H : RH h F A) (k : Int32 → MRes) : gfI none h 28 [12] 8 k = k (F 8) := gfI_at H.1 rfl rfl k
theorem RH.p8 (H : RH h F A) (x : Int32) (k : MHeap → MRes) : pfI none h 28 [12] 8 x k = k (h.set 28 (rC (fu F 8 x))) := pfI_at H.1 rfl (by show 8 < 39; decide) x k
theorem RH.f9 (H : RH h F A) (k : Value → MRes) : gfV none h 28 [12] 9 k = k (.ref 33) := gfV_at H.1 rfl rfl k
theorem RH.f10 (H : RH h F A) (k : Value → MRes) : gfV none h 28 [12] 10 k = k (.ref 34) := gfV_at H.1 rfl rfl k
theorem RH.f11 (H : RH h F A) (k : Int32 → MRes) : gfI none h 28 [12] 11 k = k (F 11) := gfI_at H.1 rfl rfl k
theorem RH.p11 (H : RH h F A) (x : Int32) (k : MHeap → MRes) : pfI none h 28 [12] 11 x k = k (h.set 28 (rC (fu F 11 x))) := pfI_at H.1 rfl (by show 11 < 39; decide) x k
theorem RH.f12 (H : RH h F A) (k : Int32 → MRes) : gfI none h 28 [12] 12 k = k (F 12) := gfI_at H.1 rfl rfl k
theorem RH.p12 (H : RH h F A) (x : Int32) (k : MHeap → MRes) : pfI none h 28 [12] 12 x k = k (h.set 28 (rC (fu F 12 x))) := pfI_at H.1 rfl (by show 12 < 39; decide) x k
theorem RH.f13 (H : RH h F A) (k : Int32 → MRes) : gfI none h 28 [12] 13 k = k (F 13) := gfI_at H.1 rfl rfl k
theorem RH.p13 (H : RH h F A) (x : Int32) (k : MHeap → MRes) : pfI none h 28 [12] 13 x k = k (h.set 28 (rC (fu F 13 x))) := pfI_at H.1 rfl (by show 13 < 39; decide) x k
theorem RH.f14 (H : RH h F A) (k : Int32 → MRes) : gfI none h 28 [12] 14 k = k (F 14) := gfI_at H.1 rfl rfl k
theorem RH.p14 (H : RH h F A) (x : Int32) (k : MHeap → MRes) : pfI none h 28 [12] 14 x k = k (h.set 28 (rC (fu F 14 x))) := pfI_at H.1 rfl (by show 14 < 39; decide) x k
theorem RH.f15 (H : RH h F A) (k : Int32 → MRes) : gfI none h 28 [12] 15 k = k (F 15) := gfI_at H.1 rfl rfl k
theorem RH.p15 (H : RH h F A) (x : Int32) (k : MHeap → MRes) : pfI none h 28 [12] 15 x k = k (h.set 28 (rC (fu F 15 x))) := pfI_at H.1 rfl (by show 15 < 39; decide) x k
theorem RH.f16 (H : RH h F A) (k : Int32 → MRes) : gfI none h 28 [12] 16 k = k (F 16) := gfI_at H.1 rfl rfl k
theorem RH.p16 (H : RH h F A) (x : Int32) (k : MHeap → MRes) : pfI none h 28 [12] 16 x k = k (h.set 28 (rC (fu F 16 x))) := pfI_at H.1 rfl (by show 16 < 39; decide) x k
theorem RH.f17 (H : RH h F A) (k : Int32 → MRes) : gfI none h 28 [12] 17 k = k (F 17) := gfI_at H.1 rfl rfl k
theorem RH.p17 (H : RH h F A) (x : Int32) (k : MHeap → MRes) : pfI none h 28 [12] 17 x k = k (h.set 28 (rC (fu F 17 x))) := pfI_at H.1 rfl (by show 17 < 39; decide) x k
theorem RH.f18 (H : RH h F A) (k : Int32 → MRes) : gfI none h 28 [12] 18 k = k (F 18) := gfI_at H.1 rfl rfl k
theorem RH.p18 (H : RH h F A) (x : Int32) (k : MHeap → MRes) : pfI none h 28 [12] 18 x k = k (h.set 28 (rC (fu F 18 x))) := pfI_at H.1 rfl (by show 18 < 39; decide) x k
theorem RH.f19 (H : RH h F A) (k : Value → MRes) : gfV none h 28 [12] 19 k = k (.ref 35) := gfV_at H.1 rfl rfl k
theorem RH.f20 (H : RH h F A) (k : Value → MRes) : gfV none h 28 [12] 20 k = k (.ref 36) := gfV_at H.1 rfl rfl k
theorem RH.f21 (H : RH h F A) (k : Value → MRes) : gfV none h 28 [12] 21 k = k (.ref 37) := gfV_at H.1 rfl rfl k
theorem RH.f22 (H : RH h F A) (k : Value → MRes) : gfV none h 28 [12] 22 k = k (.ref 38) := gfV_at H.1 rfl rfl k
theorem RH.f23 (H : RH h F A) (k : Int32 → MRes) : gfI none h 28 [12] 23 k = k (F 23) := gfI_at H.1 rfl rfl k
theorem RH.p23 (H : RH h F A) (x : Int32) (k : MHeap → MRes) : pfI none h 28 [12] 23 x k = k (h.set 28 (rC (fu F 23 x))) := pfI_at H.1 rfl (by show 23 < 39; decide) x k
theorem RH.f24 (H : RH h F A) (k : Int32 → MRes) : gfI none h 28 [12] 24 k = k (F 24) := gfI_at H.1 rfl rfl k
theorem RH.p24 (H : RH h F A) (x : Int32) (k : MHeap → MRes) : pfI none h 28 [12] 24 x k = k (h.set 28 (rC (fu F 24 x))) := pfI_at H.1 rfl (by show 24 < 39; decide) x k
theorem RH.f25 (H : RH h F A) (k : Int32 → MRes) : gfI none h 28 [12] 25 k = k (F 25) := gfI_at H.1 rfl rfl k
theorem RH.p25 (H : RH h F A) (x : Int32) (k : MHeap → MRes) : pfI none h 28 [12] 25 x k = k (h.set 28 (rC (fu F 25 x))) := pfI_at H.1 rfl (by show 25 < 39; decide) x k
theorem RH.f26 (H : RH h F A) (k : Int32 → MRes) : gfI none h 28 [12] 26 k = k (F 26) := gfI_at H.1 rfl rfl k
theorem RH.p26 (H : RH h F A) (x : Int32) (k : MHeap → MRes) : pfI none h 28 [12] 26 x k = k (h.set 28 (rC (fu F 26 x))) := pfI_at H.1 rfl (by show 26 < 39; decide) x k
theorem RH.f27 (H : RH h F A) (k : Value → MRes) : gfV none h 28 [12] 27 k = k (.ref 39) := gfV_at H.1 rfl rfl k
theorem RH.f28 (H : RH h F A) (k : Value → MRes) : gfV none h 28 [12] 28 k = k (.ref 40) := gfV_at H.1 rfl rfl k
theorem RH.f29 (H : RH h F A) (k : Int32 → MRes) : gfI none h 28 [12] 29 k = k (F 29) := gfI_at H.1 rfl rfl k
theorem RH.p29 (H : RH h F A) (x : Int32) (k : MHeap → MRes) : pfI none h 28 [12] 29 x k = k (h.set 28 (rC (fu F 29 x))) := pfI_at H.1 rfl (by show 29 < 39; decide) x k
theorem RH.f30 (H : RH h F A) (k : Int32 → MRes) : gfI none h 28 [12] 30 k = k (F 30) := gfI_at H.1 rfl rfl k
theorem RH.p30 (H : RH h F A) (x : Int32) (k : MHeap → MRes) : pfI none h 28 [12] 30 x k = k (h.set 28 (rC (fu F 30 x))) := pfI_at H.1 rfl (by show 30 < 39; decide) x k
theorem RH.f31 (H : RH h F A) (k : Int32 → MRes) : gfI none h 28 [12] 31 k = k (F 31) := gfI_at H.1 rfl rfl k
theorem RH.p31 (H : RH h F A) (x : Int32) (k : MHeap → MRes) : pfI none h 28 [12] 31 x k = k (h.set 28 (rC (fu F 31 x))) := pfI_at H.1 rfl (by show 31 < 39; decide) x k
theorem RH.f32 (H : RH h F A) (k : Value → MRes) : gfV none h 28 [12] 32 k = k (.ref 41) := gfV_at H.1 rfl rfl k
theorem RH.f33 (H : RH h F A) (k : Value → MRes) : gfV none h 28 [12] 33 k = k (.ref 42) := gfV_at H.1 rfl rfl k
theorem RH.f34 (H : RH h F A) (k : Value → MRes) : gfV none h 28 [12] 34 k = k (.ref 43) := gfV_at H.1 rfl rfl k
theorem RH.f35 (H : RH h F A) (k : Value → MRes) : gfV none h 28 [12] 35 k = k (.ref 44) := gfV_at H.1 rfl rfl k
theorem RH.f36 (H : RH h F A) (k : Int32 → MRes) : gfI none h 28 [12] 36 k = k (F 36) := gfI_at H.1 rfl rfl k
theorem RH.p36 (H : RH h F A) (x : Int32) (k : MHeap → MRes) : pfI none h 28 [12] 36 x k = k (h.set 28 (rC (fu F 36 x))) := pfI_at H.1 rfl (by show 36 < 39; decide) x k
theorem RH.f37 (H : RH h F A) (k : Int32 → MRes) : gfI none h 28 [12] 37 k = k (F 37) := gfI_at H.1 rfl rfl k
theorem RH.p37 (H : RH h F A) (x : Int32) (k : MHeap → MRes) : pfI none h 28 [12] 37 x k = k (h.set 28 (rC (fu F 37 x))) := pfI_at H.1 rfl (by show 37 < 39; decide) x k
theorem RH.f38 (H : RH h F A) (k : Int32 → MRes) : gfI none h 28 [12] 38 k = k (F 38) := gfI_at H.1 rfl rfl k
theorem RH.p38 (H : RH h F A) (x : Int32) (k : MHeap → MRes) : pfI none h 28 [12] 38 x k = k (h.set 28 (rC (fu F 38 x))) := pfI_at H.1 rfl (by show 38 < 39; decide) x k
theorem RH.v (H : RH h F A) (m : Nat) (k : Nat → MRes) : vd none h 28 [12, m] k = k m := vd_at H.1 rfl k
theorem RH.al (H : RH h F A) {o i : Nat} (h1 : 29 ≤ o) (h2 : o ≤ 44) (hi : i < asz o) (k : Int32 → MRes) : alI none h o (nI i) k = k ((A o).getD i 0) := by
  obtain ⟨h3, h4⟩ := H.2 o h1 h2
  have h5 : i < 2 ^ 31 := by
    have : asz o ≤ 1200 := by unfold asz; split <;> decide
    omega
  have h6 : ((A o).map Value.int)[i]? = some (.int ((A o).getD i 0)) := by
    rw [List.getElem?_map, List.getElem?_eq_getElem (by omega), List.getD_eq_getElem?_getD, List.getElem?_eq_getElem (by omega)]; rfl
  simp only [alI, h3, nI_clamp h5, nI_pos h5, h6]
  simp
theorem RH.as (H : RH h F A) {o i : Nat} (h1 : 29 ≤ o) (h2 : o ≤ 44) (hi : i < asz o) (x : Int32) (k : MHeap → MRes) : asI none h o (nI i) x k = k (h.set o (100, ((A o).set i x).map .int)) := by
  obtain ⟨h3, h4⟩ := H.2 o h1 h2
  have h5 : i < 2 ^ 31 := by
    have : asz o ≤ 1200 := by unfold asz; split <;> decide
    omega
  simp only [asI, h3, nI_clamp h5, nI_pos h5]
  simp [h4, hi, List.map_set]
theorem RH.setF (H : RH h F A) (G : Nat → Int32) : RH (h.set 28 (rC G)) G A := by
  refine ⟨gset H.1 _, ?_⟩
  intro o h1 h2
  rw [gset_ne _ (by omega)]
  exact H.2 o h1 h2
theorem RH.setA (H : RH h F A) {o : Nat} (h1 : 29 ≤ o) (h2 : o ≤ 44) {xs : List Int32} (hx : xs.length = asz o) : RH (h.set o (100, xs.map .int)) F (fu A o xs) := by
  refine ⟨?_, ?_⟩
  · rw [gset_ne _ (by omega)]; exact H.1
  · intro p h3 h4
    by_cases q : p = o
    · subst q
      rw [gset (H.2 p h3 h4).1, fu_eq]
      exact ⟨rfl, hx⟩
    · rw [gset_ne _ (fun z => q z.symm), fu_ne _ _ q]
      exact H.2 p h3 h4
/-- what the reference's calls leave as it was -/
def Fr (h h' : MHeap) : Prop := h'.length = h.length ∧ ∀ a : Nat, (a < 28 ∨ 44 < a) → h'[a]? = h[a]?
theorem Fr.rf (h : MHeap) : Fr h h := ⟨rfl, fun _ _ => rfl⟩
theorem Fr.tr {h1 h2 h3 : MHeap} (a : Fr h1 h2) (b : Fr h2 h3) : Fr h1 h3 := ⟨b.1.trans a.1, fun p hp => (b.2 p hp).trans (a.2 p hp)⟩
theorem Fr.st (h : MHeap) {o : Nat} (h1 : 28 ≤ o) (h2 : o ≤ 44) (x : MCell) : Fr h (h.set o x) := ⟨List.length_set, fun a ha => gset_ne x (by omega)⟩
end RHS
/-- cards, wide, backs, heaps as the reference has them -/
def RB (h : MHeap) (F : Nat → Int32) (A : Nat → List Int32) (c w : Nat) (b : Int32) (hs : List Ent) : Prop :=
  RH h F A ∧ (0 < c ∧ c ≤ 12 ∧ 0 < w ∧ w ≤ 12 ∧ hs.length ≤ 7) ∧ (F 0 = nI c ∧ F 1 = nI w ∧ F 2 = b ∧ F 3 = nI hs.length) ∧ ∀ (i : Nat) (e : Ent), hs[i]? = some e → okE e ∧ (A 29).getD i 0 = nI e.1 ∧ (A 30).getD i 0 = nI e.2.1 ∧ (A 31).getD i 0 = nI e.2.2
section RBS
variable {h : MHeap} {F : Nat → Int32} {A : Nat → List Int32} {c w : Nat} {b : Int32} {hs : List Ent}
theorem RB.bd (H : RB h F A c w b hs) : 0 < c ∧ c ≤ 12 ∧ 0 < w ∧ w ≤ 12 ∧ hs.length ≤ 7 := H.2.1
theorem RB.f0 (H : RB h F A c w b hs) (k : Int32 → MRes) : gfI none h 28 [12] 0 k = k (nI c) := by rw [H.1.f0, H.2.2.1.1]
theorem RB.f1 (H : RB h F A c w b hs) (k : Int32 → MRes) : gfI none h 28 [12] 1 k = k (nI w) := by rw [H.1.f1, H.2.2.1.2.1]
theorem RB.f2 (H : RB h F A c w b hs) (k : Int32 → MRes) : gfI none h 28 [12] 2 k = k b := by rw [H.1.f2, H.2.2.1.2.2.1]
theorem RB.f3 (H : RB h F A c w b hs) (k : Int32 → MRes) : gfI none h 28 [12] 3 k = k (nI hs.length) := by rw [H.1.f3, H.2.2.1.2.2.2]
theorem RB.f4 (H : RB h F A c w b hs) (k : Value → MRes) : gfV none h 28 [12] 4 k = k (.ref 29) := H.1.f4 k
theorem RB.f5 (H : RB h F A c w b hs) (k : Value → MRes) : gfV none h 28 [12] 5 k = k (.ref 30) := H.1.f5 k
theorem RB.f6 (H : RB h F A c w b hs) (k : Value → MRes) : gfV none h 28 [12] 6 k = k (.ref 31) := H.1.f6 k
theorem RB.f34 (H : RB h F A c w b hs) (k : Value → MRes) : gfV none h 28 [12] 34 k = k (.ref 43) := H.1.f34 k
theorem RB.v (H : RB h F A c w b hs) (m : Nat) (k : Nat → MRes) : vd none h 28 [12, m] k = k m := H.1.v m k
theorem RB.a29 (H : RB h F A c w b hs) {i : Nat} {e : Ent} (hi : hs[i]? = some e) (k : Int32 → MRes) : alI none h 29 (nI i) k = k (nI e.1) := by
  have := H.bd
  have h8 : i < hs.length := (List.getElem?_eq_some_iff.1 hi).1
  rw [H.1.al (by decide) (by decide) (show i < 7 by omega), (H.2.2.2 i e hi).2.1]
theorem RB.a30 (H : RB h F A c w b hs) {i : Nat} {e : Ent} (hi : hs[i]? = some e) (k : Int32 → MRes) : alI none h 30 (nI i) k = k (nI e.2.1) := by
  have := H.bd
  have h8 : i < hs.length := (List.getElem?_eq_some_iff.1 hi).1
  rw [H.1.al (by decide) (by decide) (show i < 7 by omega), (H.2.2.2 i e hi).2.2.1]
theorem RB.a31 (H : RB h F A c w b hs) {i : Nat} {e : Ent} (hi : hs[i]? = some e) (k : Int32 → MRes) : alI none h 31 (nI i) k = k (nI e.2.2) := by
  have := H.bd
  have h8 : i < hs.length := (List.getElem?_eq_some_iff.1 hi).1
  rw [H.1.al (by decide) (by decide) (show i < 7 by omega), (H.2.2.2 i e hi).2.2.2]
theorem RB.ok (H : RB h F A c w b hs) : ∀ e ∈ hs, okE e := by
  intro e he
  obtain ⟨i, hi⟩ := List.getElem?_of_mem he
  exact (H.2.2.2 i e hi).1
theorem r_166 (d : Nat) (a l m : Int32) (h : MHeap) : call (d + 1) 166 [.int a, .int l, .int m] h = some (some (.int (bI (inR a l m))), h) := by
  rw [e_166]
  by_cases h1 : a < l <;> by_cases h2 : m < a <;> simp [h1, h2, inR, zr, bI]
theorem r_168 (d : Nat) {x : Nat} (hx : x < 2 ^ 31) (h : MHeap) : call (d + 1) 168 [.int (nI x)] h = some (some (.int (nI (onN x))), h) := by
  rw [e_168]
  refine up_ind (n := 12) (i := 0) (P := fun i => ex d 168 4 [sv (.int (nI x)), sv (.int (nI (lp (fun i s => s + x / 2 ^ i % 2) i 0))), sv (.int (nI i))] [] h = some (some (.int (nI (onN x))), h)) ?_ ?_ (by decide)
  · rw [e_168_4, if_neg (by decide)]; rfl
  · intro i hi ih
    rw [e_168_4, if_pos (show nI i < (12 : Int32) from nI_lt (b := 12) hi (by decide)), hb_nI (by omega) hx, nI_1, nI_add]
    exact ih
theorem r_171 (H : RB h F A c w b hs) (d : Nat) : call (d + 1) 171 [.ref 28] h = some (some (.int (nI (2 ^ c - 1))), h) := by
  have := H.bd
  have h3 : 0 < (2 : Nat) ^ c := Nat.two_pow_pos _
  rw [e_171, H.f0, bit_nI (by omega), show (1 : Int32) = nI 1 from rfl, pk_sub (by omega)]
theorem r_169 (H : RB h F A c w b hs) (d : Nat) (a : Int32) : call (d + 2) 169 [.ref 28, .int a] h = some (some (.int (bI (inR a 0 (nI (c - 1))))), h) := by
  have := H.bd
  rw [e_169, H.f0, r_166, cI_s, zr_bI, show (1 : Int32) = nI 1 from rfl, pk_sub (by omega)]
theorem r_170 (H : RB h F A c w b hs) (d : Nat) (a : Int32) : call (d + 2) 170 [.ref 28, .int a] h = some (some (.int (bI (inR a 0 (nI hs.length - 1)))), h) := by
  rw [e_170, H.f3, r_166, cI_s, zr_bI]
theorem r_172 (H : RB h F A c w b hs) (d : Nat) (a : Int32) : call (d + 2) 172 [.ref 28, .int a] h = some (some (.int (bI (inR a 0 (nI (2 ^ c - 1))))), h) := by
  rw [e_172, H.v, r_171 H, cI_s, r_166, cI_s, zr_bI]
theorem mb1_nI {m i : Nat} (hm : m < 2 ^ 31) (hi : i < 31) : ((nI m >>> (nI i &&& 31)) &&& 1 = 1) ↔ mem1 m i = true := by
  rw [hb_nI hi hm]
  unfold mem1
  rcases m2_cases (m / 2 ^ i) with q | q <;> rw [q] <;> decide
theorem fg1_nI {r i : Nat} (hr : r ≤ 9) (hi : i < 12) : ((nI i >>> ((nI r - nI r / 4 * 4) &&& 31)) &&& 1 = 1) ↔ fig r i = true := by
  have : ∀ r, r < 10 → ∀ i, i < 12 → (((nI i >>> ((nI r - nI r / 4 * 4) &&& 31)) &&& 1 = 1) ↔ fig r i = true) := by decide +kernel
  exact this r (by omega) i hi
theorem bI_T : bI true = 1 := rfl
theorem bI_F : bI false = 0 := rfl
theorem r_199 (H : RB h F A c w b hs) (d : Nat) {i j : Nat} {e : Ent} (hi : hs[i]? = some e) (hj : j < 12) : call (d + 1) 199 [.ref 28, .int (nI i), .int (nI j)] h = some (some (.int (bI (isin w e j))), h) := by
  have hb := H.bd
  obtain ⟨h1, h2, h3⟩ := (H.2.2.2 i e hi).1
  have step : call (d + 1) 199 [.ref 28, .int (nI i), .int (nI j)] h = ex d 199 41 [sv (.ref 28), sv (.int (nI i)), sv (.int (nI j)), sv (.int (bI (mem1 e.2.1 j))), none] [.int (bI (fig e.2.2 j))] h := by
    rw [e_199]
    simp only [H.f5, H.f6, dR_ref, H.a30 hi, H.a31 hi, dv, show ¬ (4 : Int32) = 0 from by decide, if_false]
    have q1 := mb1_nI (show e.2.1 < 2 ^ 31 by omega) (show j < 31 by omega)
    have q2 := fg1_nI h3 hj
    cases x1 : mem1 e.2.1 j <;> cases x2 : fig e.2.2 j <;> rw [x1] at q1 <;> rw [x2] at q2 <;> simp only [q1, q2, if_true, if_false, Bool.false_eq_true, bI_T, bI_F]
  have hrem := pk_rem (show j < 2 ^ 31 by omega) (show 0 < w by omega) (show w < 2 ^ 31 by omega)
  rw [pk_div (show j < 2 ^ 31 by omega) (show 0 < w by omega) (show w < 2 ^ 31 by omega)] at hrem
  rw [step, e_199_41]
  simp only [H.f4, H.f6, H.f1, dR_ref, H.a29 hi, H.a31 hi, e_199_104, e_199_128, e_199_140, zr_bI, zr_0, zr_1, dv, nI_ne0 (show 0 < w by omega) (show w < 2 ^ 31 by omega), if_false, pk_div (show j < 2 ^ 31 by omega) (show 0 < w by omega) (show w < 2 ^ 31 by omega), hrem]
  obtain ⟨k, m, r⟩ := e
  simp only at h2 h3
  have hd1 : j / w ≤ j := Nat.div_le_self j w
  have hd2 : j % w ≤ j := Nat.mod_le j w
  rcases kcases h1 with h1 | h1 | h1 | h1 | h1 | h1 <;> simp only at h1 <;> subst h1
  · rfl
  · show (if nI (j / w) = nI r then _ else _) = (some (some (.int (bI (decide (j / w = r)))), h) : MRes)
    rw [bI_d]
    by_cases q : j / w = r
    · rw [if_pos (congrArg nI q), if_pos q]
    · rw [if_neg (fun z => q ((nI_eq (by omega) (by omega)).1 z)), if_neg q]
  · rfl
  · show (if nI (j % w) = nI r then _ else _) = (some (some (.int (bI (decide (j % w = r)))), h) : MRes)
    rw [bI_d]
    by_cases q : j % w = r
    · rw [if_pos (congrArg nI q), if_pos q]
    · rw [if_neg (fun z => q ((nI_eq (by omega) (by omega)).1 z)), if_neg q]
  · rfl
  · show (if bI (fig r j) = bI (mem1 m j) then _ else _) = (some (some (.int (bI (fig r j != mem1 m j))), h) : MRes)
    cases fig r j <;> cases mem1 m j <;> rfl
theorem r_200 (H : RB h F A c w b hs) (d : Nat) {i : Nat} {e : Ent} (hi : hs[i]? = some e) : call (d + 2) 200 [.ref 28, .int (nI i)] h = some (some (.int (nI (inN c w e))), h) := by
  have hb := H.bd
  rw [e_200]
  refine up_ind (n := c) (i := 0) (P := fun j => ex (d + 1) 200 4 [sv (.ref 28), sv (.int (nI i)), sv (.int (nI (inN j w e))), sv (.int (nI j))] [] h = some (some (.int (nI (inN c w e))), h)) ?_ ?_ (by omega)
  · rw [e_200_4, H.f0, if_neg (nI_nlt (Nat.le_refl _) (by omega))]
  · intro j hj ih
    rw [inN_succ] at ih
    rw [e_200_4, H.f0, if_pos (nI_lt hj (by omega)), H.v, r_199 H d hi (by omega), cI_s, bit_nI (by omega), nI_1, show (0 : Int32) = nI 0 from rfl, fa_or, fa_or]
    show (if bI (isin w e j) = 0 then _ else _) = _
    simp only [bI_0]
    by_cases q : isin w e j = true
    · rw [if_neg (by simp [q])]
      rw [if_pos q] at ih
      exact ih
    · rw [if_pos (by simpa using q)]
      rw [if_neg q] at ih
      exact ih
theorem sum_ext {f : Nat → Nat} {n m : Nat} (hn : n ≤ m) (h : ∀ i, n ≤ i → f i = 0) : lp (fun i s => s + f i) m 0 = lp (fun i s => s + f i) n 0 := by
  induction m with
  | zero => have : n = 0 := by omega
            subst this; rfl
  | succ m ih =>
    rcases Nat.lt_or_ge m n with q | q
    · have : n = m + 1 := by omega
      subst this; rfl
    · show lp _ m 0 + f m = _
      rw [ih q, h m q, Nat.add_zero]
theorem r_201 (H : RB h F A c w b hs) (d : Nat) {i : Nat} {e : Ent} (hi : hs[i]? = some e) (l : Int32) : call (d + 1) 201 [.ref 28, .int (nI i), .int (nI (inN c w e)), .int l] h = some (some (.int (nI (sgN c w e l))), h) := by
  have hb := H.bd
  obtain ⟨h1, h2, h3⟩ := (H.2.2.2 i e hi).1
  obtain ⟨z, hz, ez, e1⟩ := and_nI l (inN c w e)
  have e2 : nI (inN c w e) &&& l = nI z := by
    rw [← e1]
    apply Int32.toBitVec_inj.1
    show _ &&& _ = _ &&& _
    exact BitVec.and_comm _ _
  have hzl : z < 2 ^ c := Nat.lt_of_le_of_lt hz (inN_lt c w e)
  have hz4 : z < 4096 := Nat.lt_of_le_of_lt hz (inN12 (by omega) w e)
  have hzo : ∀ j, c ≤ j → z / 2 ^ j = 0 := fun j hj => Nat.div_eq_of_lt (Nat.lt_of_lt_of_le hzl (Nat.pow_le_pow_right (by decide) hj))
  have hsg : sgN c w e l = sgX e z := by unfold sgN; rw [ez]
  rw [e_201, hsg]
  by_cases hk : e.1 = 4
  · have hw : wtN z = lp (fun j s => s + z / 2 ^ j % 2 * (j + 1)) c 0 := sum_ext (f := fun j => z / 2 ^ j % 2 * (j + 1)) (by omega) (fun j hj => by rw [hzo j hj]; simp)
    have hwl := wtN_lt z
    refine up_ind (n := c) (i := 0) (P := fun j => ex d 201 6 [sv (.ref 28), sv (.int (nI i)), sv (.int (nI (inN c w e))), sv (.int l), sv (.int (nI (lp (fun j s => s + z / 2 ^ j % 2 * (j + 1)) j 0))), sv (.int (nI j))] [] h = some (some (.int (nI (sgX e z))), h)) ?_ ?_ (by omega)
    · rw [e_201_6, H.f0, if_neg (nI_nlt (Nat.le_refl _) (by omega)), ← hw]
      simp only [H.f4, H.f6, dR_ref, H.a29 hi, H.a31 hi, hk, show nI 4 = (4 : Int32) from rfl, if_true, show ¬ (4 : Int32) = 5 from by decide, if_false]
      rw [show nI e.2.2 + (2 : Int32) = nI (e.2.2 + 2) from nI_add _ 2, pk_rem (by omega) (by omega) (by omega)]
      simp only [dv, nI_ne0 (show 0 < e.2.2 + 2 by omega) (by omega), if_false]
      unfold sgX
      rw [hk]
      rfl
    · intro j hj ih
      rw [e_201_6, H.f0, if_pos (nI_lt hj (by omega)), H.f4, dR_ref, H.a29 hi, if_pos (show nI e.1 = 4 by rw [hk]; rfl), e2, hb_nI (by omega) (by omega), nI_1]
      have ih : ex d 201 6 [sv (.ref 28), sv (.int (nI i)), sv (.int (nI (inN c w e))), sv (.int l), sv (.int (nI (lp (fun j s => s + z / 2 ^ j % 2 * (j + 1)) j 0 + z / 2 ^ j % 2 * (j + 1)))), sv (.int (nI (j + 1)))] [] h = some (some (.int (nI (sgX e z))), h) := ih
      rcases m2_cases (z / 2 ^ j) with q | q
      · rw [q] at ih ⊢
        rw [if_neg (by decide), show (0 : Int32) = nI 0 from rfl, nI_add, nI_add]
        rw [Nat.zero_mul] at ih
        exact ih
      · rw [q] at ih ⊢
        rw [if_pos (by decide), nI_add, nI_add]
        rw [Nat.one_mul] at ih
        rw [show ∀ x : Nat, x + 1 + j = x + (j + 1) from fun x => by omega]
        exact ih
  · have hw : onN z = lp (fun j s => s + z / 2 ^ j % 2) c 0 := sum_ext (f := fun j => z / 2 ^ j % 2) (by omega) (fun j hj => by rw [hzo j hj])
    have hwl := onN_lt z
    have hk2 : ¬ nI e.1 = 4 := fun q => hk ((nI_eq (b := 4) (by omega) (by decide)).1 q)
    refine up_ind (n := c) (i := 0) (P := fun j => ex d 201 6 [sv (.ref 28), sv (.int (nI i)), sv (.int (nI (inN c w e))), sv (.int l), sv (.int (nI (lp (fun j s => s + z / 2 ^ j % 2) j 0))), sv (.int (nI j))] [] h = some (some (.int (nI (sgX e z))), h)) ?_ ?_ (by omega)
    · rw [e_201_6, H.f0, if_neg (nI_nlt (Nat.le_refl _) (by omega)), ← hw]
      simp only [H.f4, H.f6, dR_ref, H.a29 hi, H.a31 hi, if_neg hk2, dv, show ¬ (2 : Int32) = 0 from by decide, if_false]
      rw [show (2 : Int32) = nI 2 from rfl, pk_rem (by omega) (by decide) (by decide)]
      by_cases h5 : e.1 = 5
      · rw [if_pos (show nI e.1 = 5 by rw [h5]; rfl), show (1 : Int32) = nI 1 from rfl, pk_sub (by omega)]
        unfold sgX
        rw [h5]
        rfl
      · rw [if_neg (show ¬ nI e.1 = (5 : Int32) from fun q => h5 ((nI_eq (b := 5) (by omega) (by decide)).1 q))]
        unfold sgX
        split
        · rename_i q; exact absurd q hk
        · rename_i q; exact absurd q h5
        · rfl
    · intro j hj ih
      rw [e_201_6, H.f0, if_pos (nI_lt hj (by omega)), H.f4, dR_ref, H.a29 hi, if_neg hk2, e2, hb_nI (by omega) (by omega), nI_1, show (0 : Int32) = nI 0 from rfl, nI_add, nI_add]
      exact ih
theorem r_sum {d : Nat} (H : RB h F A c w b hs) (l : Int32) (X : Nat → Nat → MRes) (hfin : X hs.length (sgs c w hs l) = some (some (.int (nI (sgs c w hs l))), h)) (hstep : ∀ i e, hs[i]? = some e → ∀ s, s < 16 ^ i → X i s = X (i + 1) (s + 16 ^ i * sgN c w e l)) : X 0 0 = some (some (.int (nI (sgs c w hs l))), h) := by
  refine up_ind (n := hs.length) (i := 0) (P := fun i => X i (sgs c w (hs.take i) l) = some (some (.int (nI (sgs c w hs l))), h)) ?_ ?_ (by omega)
  · rw [List.take_length]; exact hfin
  · intro i hi ih
    obtain ⟨e, he⟩ : ∃ e, hs[i]? = some e := ⟨_, List.getElem?_eq_getElem hi⟩
    have h5 : sgs c w (hs.take i) l < 16 ^ i := by
      have := pkN_lt (sl_lt (c := c) (w := w) (fun e he => H.ok e (List.mem_of_mem_take he)) l (hs := hs.take i))
      rw [sl_len, List.length_take, Nat.min_eq_left (Nat.le_of_lt hi)] at this
      exact this
    rw [hstep i e he _ h5, ← sgs_take_succ c w he]
    exact ih
theorem r_202 (H : RB h F A c w b hs) (d : Nat) (l : Int32) : call (d + 4) 202 [.ref 28, .int l] h = some (some (.int (nI (sgs c w hs l))), h) := by
  have hb := H.bd
  rw [e_202]
  refine r_sum (d := d) H l (fun i s => ex (d + 3) 202 4 [sv (.ref 28), sv (.int l), sv (.int (nI s)), sv (.int (nI i))] [] h) ?_ ?_
  · show ex _ _ _ _ _ _ = _
    rw [e_202_4, H.f3, if_neg (nI_nlt (Nat.le_refl _) (by omega))]
  · intro i e he s hs1
    have hi : i < hs.length := (List.getElem?_eq_some_iff.1 he).1
    have h6 : sgN c w e l ≤ 10 := sgX_lt (e := e) (x := l.toBitVec.toNat &&& inN c w e) (H.2.2.2 i e he).1.2.2
    show ex _ _ _ _ _ _ = ex _ _ _ _ _ _
    rw [e_202_4, H.f3, if_pos (nI_lt hi (by omega)), H.v, r_200 H _ he, cI_s, H.v, r_201 H _ he, cI_s, nI_1, pk_step (by omega) hs1 (by omega)]
end RBS
