/-! calls -/
theorem pops_spec : ∀ (n : Nat) (acc S as S1 : List Value), pops n acc S = some (as, S1) → ∃ l : List Value, l.length = n ∧ S = l ++ S1 ∧ as = l.reverse ++ acc := by
  intro n
  induction n with
  | zero =>
    intro acc S as S1 h
    cases h
    exact ⟨[], rfl, rfl, rfl⟩
  | succ n ih =>
    intro acc S as S1 h
    cases S with
    | nil => cases h
    | cons v S =>
      obtain ⟨l, h1, h2, h3⟩ := ih (v :: acc) S as S1 h
      exact ⟨v :: l, by simp [h1], by rw [h2]; rfl, by rw [h3]; simp⟩
theorem pops_at {n : Nat} {S as S1 : List Value} {ad : Nat → Nat} (h : pops n [] S = some (as, S1)) : as.length = n ∧ S = as.reverse ++ S1 ∧ S.map (shv ad) = (as.map (shv ad)).reverse ++ S1.map (shv ad) := by
  obtain ⟨l, h1, h2, h3⟩ := pops_spec n [] S as S1 h
  rw [List.append_nil] at h3
  subst h3
  refine ⟨by simp [h1], by rw [h2]; simp, by rw [h2]; simp⟩
theorem cat_sum {ad : Nat → Nat} : ∀ (S : List Value), ((S.map (shv ad)).map fun v => v.category).sum ≤ 2 * S.length := by
  intro S
  induction S with
  | nil => simp
  | cons v S ih =>
    simp only [List.map_cons, List.sum_cons, List.length_cons]
    have : (shv ad v).category ≤ 2 := by rcases lv_cat (shv ad v) with q | q <;> omega
    omega
section CALLS
variable {p : Program} {l : Launch} {e : Env} {R : Room} {s : State} {m : MethodId} {args : Array Value} {below : List Frame} {meth : Method} {c : Code} {Q : State → Prop}
variable {SX : State → Heap → Prop} {D : va_G} {cA : Nat → ClassId} {ad : Nat → Nat} {B : Nat} {xs : List Int32} {t1 t2 : List Value} {n0 s0 mi mc ms nL : Nat} {h' : MHeap}
/-- what is asked of the predicate on texts -/
def SXok (SX : State → Heap → Prop) (B : Nat) : Prop := (∀ (s U : State) (H H' : Heap), SX s H → s.WarmedH U.vm → B ≤ H.size → (∀ q : Nat, q < B → H'[q]? = H[q]?) → SX U H') ∧ ∀ (u U : State) (H : Heap), u.vm = U.vm → SX u H → SX U H
theorem KS.next {H : Heap} {locs : List Loc} (hX : SXok SX B) (h : KS SX D cA ad B xs s s.heap) (hS : va_S (fun q => B ≤ q) s.heap H locs) {U : State} (hU : U.heap = H) (hW : s.WarmedH U.vm) : KS SX D cA ad B xs U U.heap := by
  obtain ⟨h1, h2, h3, h4, h5⟩ := h
  have hk : ∀ q : Nat, q < B → U.heap[q]? = s.heap[q]? := fun q hq => by rw [hU]; exact hS.2.1 q (Nat.lt_of_lt_of_le hq h3) (Nat.not_le.mpr hq)
  exact ⟨KV.warm hW h1, h2, by rw [hU]; exact Nat.le_trans h3 hS.1, va_X.moved hW.alike (h4.kept (hk _ h2)), hX.1 s U s.heap U.heap h5 hW h3 hk⟩
theorem PcS.blind {as : List Value} {h : MHeap} (hX : SXok SX B) : FrameBlind (PcS SX D cA ad B xs t1 t2 as h) := by
  intro a U g mk ⟨h0, ⟨h1, h2, h3, h4, h5⟩, h6⟩
  exact ⟨h0, ⟨KV.same (u := U) rfl h1, h2, h3, va_X.moved (u := U) (Vm.Alike.refl U.vm) h4, hX.2 U (U.calling g mk a) _ rfl h5⟩, h6⟩
theorem PcS.call {as S : List Value} {h : MHeap} {L : MLoc} {ls : Array Slot} {H : Heap} {locs : List Loc} {cells slots : Nat} (hX : SXok SX B) (hKS : KS SX D cA ad B xs s s.heap) (hR : Rl D cA ad B xs t1 t2 s.heap n0 s0 nL L S h ls H locs cells slots) : ∀ U : State, U.heap = H → s.WarmedH U.vm → PcS SX D cA ad B xs t1 t2 as h (as.map (shv ad)).toArray U := by
  intro U hU hW
  obtain ⟨a1, a2, a3, a4, a5, a6, a7, a8, a9⟩ := hR
  exact ⟨rfl, KS.next hX hKS a7 hU hW, by rw [hU]; exact a3, by rw [hU]; exact a4, a5, a6⟩
/-- behind a call -/
theorem call_W {pc : Nat} {ls : Array Slot} {H : Heap} {locs : List Loc} {cells slots m1 m2 : Nat} {st0 rest : List Value} {a : Array Value} {v : Option Value} {h h2 : MHeap} {L : MLoc} {S S1 vs : List Value}
    (hr : va_Run p l e R s m args below meth c H locs cells slots m1 m2 (F0 m pc ls st0) rest (QcS D cA ad B xs t1 t2 v h2 a) (fun q => B ≤ q)) (hR : Rl D cA ad B xs t1 t2 s.heap n0 s0 nL L S h ls H locs cells slots)
    (hm1 : h.length + m1 = h2.length) (hm2 : hsl h + m2 = hsl h2) (hrest : rest = S1.map (shv ad)) (hvs : vs = v.toList) (hok : okS (vs ++ S1)) (hB : B ≤ s.heap.size)
    (kk : KN (fun H locs cells slots g => W p l e R s m args below meth c H locs cells slots Q g) (Rl D cA ad B xs t1 t2 s.heap n0 s0 nL) h' m ad (pc + 3) L (vs ++ S1) h2) : W p l e R s m args below meth c H locs cells slots Q (F0 m pc ls st0) := by
  obtain ⟨a1, a2, a3, a4, a5, a6, a7, a8, a9⟩ := hR
  intro T hT X
  obtain ⟨v', st₀, t, T', L', h0, X', hL, e1, e2, ⟨hv, hP1, hz1, hp1, hF1⟩, st⟩ := hr T hT X
  cases hv
  rw [← e1] at hP1 hz1
  have hF2 := hF1.2
  rw [h0, ← e1] at hF2
  have hF3 := hF1.1
  rw [h0, ← e1] at hF3
  have hS' : va_S (fun q => B ≤ q) s.heap T'.heap (locs ++ L') := by
    refine ⟨Nat.le_trans a7.1 hF3, fun q g1 g2 => ?_, fun q hq => ?_⟩
    · rw [hF2 q (Nat.lt_of_lt_of_le g1 a7.1) g2]
      exact a7.2.1 q g1 g2
    · rcases List.mem_append.mp hq with z | z
      · exact a7.2.2 q z
      · exact hL q z
  obtain ⟨t2, b1, b2⟩ := kk.2 ls T'.heap (locs ++ L') (cells + m1) (slots + m2) ⟨a1, hok, hP1, hz1, hp1, by omega, hS', by omega, by omega⟩ T' rfl X'
  refine ⟨t2, st t2 ?_, b2⟩
  have e9 : (vs ++ S1).map (shv ad) = (v.map (shv ad)).toList ++ rest := by
    rw [hvs, hrest, List.map_append]
    cases v <;> rfl
  rw [e9] at b1
  exact b1
end CALLS
