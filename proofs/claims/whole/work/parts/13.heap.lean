/-! the heap: cells by their numbers, cells by their addresses -/
def toI (v : Value) : Int32 := match v with
  | .int x => x
  | _ => 0
def toR (ad : Nat → Nat) (v : Value) : Option Nat := match v with
  | .ref k => some (ad k)
  | _ => none
def enc (ad : Nat → Nat) (cA : Nat → ClassId) (q : MCell) : va_E :=
  if q.1 < 13 then .inr (q.1, q.2.map (shv ad)) else
  if q.1 = 100 then .inl (cA 0, q.2.length, .inl fun j => toI (q.2.getD j .null)) else
  .inl (cA (q.1 - 100), q.2.length, .inr (.inr (.inr (.inr fun j => toR ad (q.2.getD j .null)))))
def toW (ad : Nat → Nat) (cA : Nat → ClassId) (h : MHeap) : va_W := (h.drop 3).mapIdx fun k q => (ad (k + 3), enc ad cA q)
def hsl (h : MHeap) : Nat := ((h.drop 3).map fun q => q.2.length).sum
theorem toW_get {ad : Nat → Nat} {cA : Nat → ClassId} {h : MHeap} {o : Nat} {q : MCell} (ho : 3 ≤ o) (hq : h[o]? = some q) : (toW ad cA h)[o - 3]? = some (ad o, enc ad cA q) := by
  unfold toW
  rw [List.getElem?_mapIdx, List.getElem?_drop, show 3 + (o - 3) = o by omega, hq]
  simp [show o - 3 + 3 = o by omega]
theorem toW_set {ad : Nat → Nat} {cA : Nat → ClassId} {h : MHeap} {o : Nat} {q : MCell} (ho : 3 ≤ o) : toW ad cA (h.set o q) = (toW ad cA h).set (o - 3) (ad o, enc ad cA q) := by
  apply List.ext_getElem?
  intro k
  unfold toW
  rw [List.getElem?_set, List.getElem?_mapIdx, List.getElem?_mapIdx, List.getElem?_drop, List.getElem?_drop, List.getElem?_set]
  by_cases hk : o - 3 = k
  · rw [if_pos (by omega), if_pos hk]
    simp only [List.length_mapIdx, List.length_drop]
    by_cases hl : o < h.length
    · rw [if_pos hl, if_pos (by omega)]
      simp [show k + 3 = o by omega]
    · rw [if_neg hl, if_neg (by omega)]
      rfl
  · rw [if_neg (by omega), if_neg hk]
theorem toW_push {ad : Nat → Nat} {cA : Nat → ClassId} {h : MHeap} {q : MCell} (hh : 3 ≤ h.length) : toW ad cA (h ++ [q]) = toW ad cA h ++ [(ad h.length, enc ad cA q)] := by
  unfold toW
  rw [List.drop_append_of_le_length hh, List.mapIdx_append]
  congr 1
  simp [show h.length - 3 + 3 = h.length by omega]
theorem toW_D {ad : Nat → Nat} {cA : Nat → ClassId} {B : Nat} (had : ∀ k, ad (k + 3) = B + k) (h : MHeap) : va_D (fun q => B ≤ q) (toW ad cA h) := by
  have key : ∀ (i : Nat) (p : Nat × va_E), (toW ad cA h)[i]? = some p → p.1 = B + i := by
    intro i p hp
    unfold toW at hp
    rw [List.getElem?_mapIdx] at hp
    cases hx : (List.drop 3 h)[i]? with
    | none => rw [hx] at hp; cases hp
    | some x =>
      rw [hx] at hp
      cases hp
      exact had i
  refine ⟨fun i j p q hi hj e => ?_, fun k q hk => ?_⟩
  · rw [key i p hi, key j q hj] at e
    omega
  · show B ≤ q.1
    rw [key k q hk]
    omega
theorem hsl_set {h : MHeap} {o : Nat} {q q' : MCell} (hq : h[o]? = some q) (hl : q'.2.length = q.2.length) : hsl (h.set o q') = hsl h := by
  unfold hsl
  congr 1
  apply List.ext_getElem?
  intro k
  rw [List.getElem?_map, List.getElem?_map, List.getElem?_drop, List.getElem?_drop, List.getElem?_set]
  by_cases hk : o = 3 + k
  · subst hk
    rw [if_pos rfl, hq]
    have : 3 + k < h.length := (List.getElem?_eq_some_iff.mp hq).1
    rw [if_pos this]
    simp [hl]
  · rw [if_neg hk]
theorem hsl_push {h : MHeap} {q : MCell} (hh : 3 ≤ h.length) : hsl (h ++ [q]) = hsl h + q.2.length := by
  unfold hsl
  rw [List.drop_append_of_le_length hh]
  simp
/-- the machine's own facts: kinds of objects and arrays, links of nest mates, casts, texts -/
def KV (D : va_G) (cA : Nat → ClassId) (ad : Nat → Nat) (U : State) : Prop :=
  va_K D clsL [(cA 0, .int), (cA 1, .object (cnm 3)), (cA 2, .object (cnm 5)), (cA 3, .object (cnm 7))] U ∧
  (∀ (a : String) (i : Nat) (x : MethodName) (b : String), Cond.methodLinkNest a i x b ∈ lw_tbl → va_Nw (.methodLinkNest a i x b) U) ∧
  (∀ a b : String, Cond.castable a b ∈ lw_tbl → va_Nw (.castable a b) U) ∧
  (∀ q ∈ ncP, va_Nc (cnm q.1) (cnm q.2) U) ∧
  (va_AO (cnm 3) U ∧ va_AO (cnm 5) U ∧ va_AO (cnm 7) U) ∧
  vk_R "OneTurned" 56 "turns 10 ; swaps 5 ; looks 1 + many ;" (ad 1) U ∧ vk_R "OneTurned$Tape" 117 "turns swaps looks or and not card row column back many fails " (ad 2) U
theorem KV.warm {D : va_G} {cA : Nat → ClassId} {ad : Nat → Nat} {s U : State} (hW : s.WarmedH U.vm) (h : KV D cA ad s) : KV D cA ad U := by
  obtain ⟨h1, h2, h3, h4, ⟨h5, h6, h7⟩, h8, h9⟩ := h
  exact ⟨va_K.moved hW.alike h1, fun a i x b hm => va_Nw.warmM hW (h2 a i x b hm), fun a b hm => va_Nw.warmC hW (h3 a b hm), fun q hq => va_Nc.moved hW.alike (h4 q hq),
    ⟨va_AO.moved hW.alike h5, va_AO.moved hW.alike h6, va_AO.moved hW.alike h7⟩, vk_R.warm hW h8, vk_R.warm hW h9⟩
theorem KV.same {D : va_G} {cA : Nat → ClassId} {ad : Nat → Nat} {u U : State} (hv : u.vm = U.vm) (h : KV D cA ad u) : KV D cA ad U := by
  obtain ⟨h1, h2, h3, h4, ⟨h5, h6, h7⟩, h8, h9⟩ := h
  have hA : u.vm.Alike U.vm := by rw [hv]; exact Vm.Alike.refl _
  exact ⟨va_K.moved hA h1, fun a i x b hm => va_Nw.same rfl hv (h2 a i x b hm), fun a b hm => va_Nw.same rfl hv (h3 a b hm), fun q hq => va_Nc.moved hA (h4 q hq),
    ⟨va_AO.moved hA h5, va_AO.moved hA h6, va_AO.moved hA h7⟩, vk_R.same hv.symm h8, vk_R.same hv.symm h9⟩
