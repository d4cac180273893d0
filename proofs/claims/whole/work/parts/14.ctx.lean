/-! what a step says, when nothing is stuck; contracts; the state between two instructions -/
theorem dI_F {v : Value} {k : Int32 → Prop} (h : dI False v k) : ∃ x, v = .int x ∧ k x := by
  cases v with
  | int x => exact ⟨x, rfl, h⟩
  | _ => exact absurd h id
theorem dL_F {v : Value} {k : Int64 → Prop} (h : dL False v k) : ∃ x, v = .long x ∧ k x := by
  cases v with
  | long x => exact ⟨x, rfl, h⟩
  | _ => exact absurd h id
theorem dR_F {v : Value} {k : Nat → Prop} (h : dR False v k) : ∃ x, v = .ref x ∧ k x := by
  cases v with
  | ref x => exact ⟨x, rfl, h⟩
  | _ => exact absurd h id
theorem dA_F {v : Value} {k : Prop} (h : dA False v k) : (v = .null ∨ ∃ x, v = .ref x) ∧ k := by
  cases v with
  | null => exact ⟨Or.inl rfl, h⟩
  | ref x => exact ⟨Or.inr ⟨x, rfl⟩, h⟩
  | _ => exact absurd h id
theorem dN_F {v : Value} {k1 k2 : Prop} (h : dN False v k1 k2) : (v = .null ∧ k1) ∨ ∃ x, v = .ref x ∧ k2 := by
  cases v with
  | null => exact Or.inl ⟨rfl, h⟩
  | ref x => exact Or.inr ⟨x, rfl, h⟩
  | _ => exact absurd h id
theorem dD_F {v : Value} {k : Prop} (h : dD False v k) : v.category = 1 ∧ k := by
  cases v with
  | long x => exact absurd h id
  | double x => exact absurd h id
  | _ => exact ⟨rfl, h⟩
theorem dv_F {y : Int32} {k : Prop} (h : dv False y k) : ¬ y = 0 ∧ k := by
  unfold dv at h
  split at h
  · exact absurd h id
  · rename_i hy; exact ⟨hy, h⟩
theorem dvL_F {y : Int64} {k : Prop} (h : dvL False y k) : ¬ y = 0 ∧ k := by
  unfold dvL at h
  split at h
  · exact absurd h id
  · rename_i hy; exact ⟨hy, h⟩
theorem zr_F {y : Int32} {k : Prop} (h : zr False y k) : (y = 0 ∨ y = 1) ∧ k := by
  unfold zr at h
  split at h
  · rename_i hy; exact ⟨hy, h⟩
  · exact absurd h id
theorem gS_F {q : MSl} {k : Value → Prop} (h : gS False q k) : ∃ v, q = some (.inl v) ∧ k v := by
  rcases q with _ | (v | y)
  · exact absurd h id
  · exact ⟨v, rfl, h⟩
  · exact absurd h id
theorem gSL_F {q : MSl} {k : Int64 → Prop} (h : gSL False q k) : ∃ y, q = some (.inr y) ∧ k y := by
  rcases q with _ | (v | y)
  · exact absurd h id
  · exact absurd h id
  · exact ⟨y, rfl, h⟩
theorem gfI_F {h : MHeap} {o : Nat} {ts : List Nat} {j : Nat} {k : Int32 → Prop} (e : gfI False h o ts j k) : ∃ t fs x, h[o]? = some (t, fs) ∧ t ∈ ts ∧ fs[j]? = some (.int x) ∧ k x := by
  unfold gfI at e
  split at e
  · rename_i t fs hq
    split at e
    · rename_i ht
      split at e
      · rename_i x hx
        exact ⟨t, fs, x, hq, by simpa using ht, hx, e⟩
      · exact absurd e id
    · exact absurd e id
  · exact absurd e id
theorem gfV_F {h : MHeap} {o : Nat} {ts : List Nat} {j : Nat} {k : Value → Prop} (e : gfV False h o ts j k) : ∃ t fs v, h[o]? = some (t, fs) ∧ t ∈ ts ∧ fs[j]? = some v ∧ (v = .null ∨ ∃ x, v = .ref x) ∧ k v := by
  unfold gfV at e
  split at e
  · rename_i t fs hq
    split at e
    · rename_i ht
      split at e
      · rename_i v hx
        obtain ⟨h1, h2⟩ := dA_F e
        exact ⟨t, fs, v, hq, by simpa using ht, hx, h1, h2⟩
      · exact absurd e id
    · exact absurd e id
  · exact absurd e id
theorem pfI_F {h : MHeap} {o : Nat} {ts : List Nat} {j : Nat} {x : Int32} {k : MHeap → Prop} (e : pfI False h o ts j x k) : ∃ t fs, h[o]? = some (t, fs) ∧ t ∈ ts ∧ j < fs.length ∧ k (h.set o (t, fs.set j (.int x))) := by
  unfold pfI at e
  split at e
  · rename_i t fs hq
    split at e
    · rename_i ht
      exact ⟨t, fs, hq, by simpa using ht.1, ht.2, e⟩
    · exact absurd e id
  · exact absurd e id
theorem pfV_F {h : MHeap} {o : Nat} {ts : List Nat} {j : Nat} {v : Value} {k : MHeap → Prop} (e : pfV False h o ts j v k) : ∃ t fs, h[o]? = some (t, fs) ∧ t ∈ ts ∧ j < fs.length ∧ (v = .null ∨ ∃ x, v = .ref x) ∧ k (h.set o (t, fs.set j v)) := by
  unfold pfV at e
  split at e
  · rename_i t fs hq
    split at e
    · rename_i ht
      obtain ⟨h1, h2⟩ := dA_F e
      exact ⟨t, fs, hq, by simpa using ht.1, ht.2, h1, h2⟩
    · exact absurd e id
  · exact absurd e id
theorem aln_F {h : MHeap} {o : Nat} {k : Int32 → Prop} (e : aln False h o k) : ∃ t vs, h[o]? = some (t, vs) ∧ ((t = 99 ∧ o = 0) ∨ (100 ≤ t ∧ t ≤ 103)) ∧ k (nI vs.length) := by
  unfold aln at e
  split at e
  · rename_i t vs hq
    split at e
    · rename_i ht
      exact ⟨t, vs, hq, ht, e⟩
    · exact absurd e id
  · exact absurd e id
theorem alI_F {h : MHeap} {o : Nat} {i : Int32} {k : Int32 → Prop} (e : alI False h o i k) : ∃ t vs x, h[o]? = some (t, vs) ∧ ((t = 99 ∧ o = 0) ∨ t = 100) ∧ ¬ i < 0 ∧ vs[i.toNatClampNeg]? = some (.int x) ∧ k x := by
  unfold alI at e
  split at e
  · rename_i t vs hq
    split at e
    · rename_i ht
      split at e
      · rename_i x hx
        exact ⟨t, vs, x, hq, ht.1, ht.2, hx, e⟩
      · exact absurd e id
    · exact absurd e id
  · exact absurd e id
theorem asI_F {h : MHeap} {o : Nat} {i x : Int32} {k : MHeap → Prop} (e : asI False h o i x k) : ∃ vs, h[o]? = some (100, vs) ∧ ¬ i < 0 ∧ i.toNatClampNeg < vs.length ∧ k (h.set o (100, vs.set i.toNatClampNeg (.int x))) := by
  unfold asI at e
  split at e
  · rename_i t vs hq
    split at e
    · rename_i ht
      obtain ⟨rfl, h1, h2⟩ := ht
      exact ⟨vs, hq, h1, h2, e⟩
    · exact absurd e id
  · exact absurd e id
theorem alV_F {h : MHeap} {o : Nat} {i : Int32} {k : Value → Prop} (e : alV False h o i k) : ∃ t vs v, h[o]? = some (t, vs) ∧ 101 ≤ t ∧ t ≤ 103 ∧ ¬ i < 0 ∧ vs[i.toNatClampNeg]? = some v ∧ (v = .null ∨ ∃ x, v = .ref x) ∧ k v := by
  unfold alV at e
  split at e
  · rename_i t vs hq
    split at e
    · rename_i ht
      split at e
      · rename_i v hx
        obtain ⟨h1, h2⟩ := dA_F e
        exact ⟨t, vs, v, hq, ht.1.1, ht.1.2, ht.2, hx, h1, h2⟩
      · exact absurd e id
    · exact absurd e id
  · exact absurd e id
theorem asV_F {h : MHeap} {o : Nat} {i : Int32} {v : Value} {k : MHeap → Prop} (e : asV False h o i v k) : ∃ t vs, h[o]? = some (t, vs) ∧ 101 ≤ t ∧ t ≤ 103 ∧ ¬ i < 0 ∧ i.toNatClampNeg < vs.length ∧ (v = .null ∨ ∃ o2 t2 fs2, v = .ref o2 ∧ h[o2]? = some (t2, fs2) ∧ mok t t2 = true) ∧ k (h.set o (t, vs.set i.toNatClampNeg v)) := by
  unfold asV at e
  split at e
  · rename_i t vs hq
    split at e
    · rename_i ht
      split at e
      · exact ⟨t, vs, hq, ht.1.1, ht.1.2, ht.2.1, ht.2.2, Or.inl rfl, e⟩
      · rename_i o2
        split at e
        · rename_i t2 fs2 h2
          split at e
          · rename_i hm
            exact ⟨t, vs, hq, ht.1.1, ht.1.2, ht.2.1, ht.2.2, Or.inr ⟨o2, t2, fs2, rfl, h2, hm⟩, e⟩
          · exact absurd e id
        · exact absurd e id
      · exact absurd e id
    · exact absurd e id
  · exact absurd e id
theorem nwA_F {h : MHeap} {t : Nat} {n : Int32} {v : Value} {k : Nat → MHeap → Prop} (e : nwA False h t n v k) : ¬ n < 0 ∧ n.toNatClampNeg ≤ 100000 ∧ k h.length (h ++ [(t, List.replicate n.toNatClampNeg v)]) := by
  unfold nwA at e
  split at e
  · exact absurd e id
  · rename_i hn
    exact ⟨fun z => hn (Or.inl z), Nat.not_lt.mp fun z => hn (Or.inr z), e⟩
theorem inO_F {h : MHeap} {o : Nat} {ts us : List Nat} {k : Int32 → Prop} (e : inO False h o ts us k) : ∃ t fs, h[o]? = some (t, fs) ∧ ((t ∈ ts ∧ k 1) ∨ (t ∈ us ∧ k 0)) := by
  unfold inO at e
  split at e
  · rename_i t fs hq
    split at e
    · rename_i ht
      exact ⟨t, fs, hq, Or.inl ⟨by simpa using ht, e⟩⟩
    · split at e
      · rename_i ht
        exact ⟨t, fs, hq, Or.inr ⟨by simpa using ht, e⟩⟩
      · exact absurd e id
  · exact absurd e id
theorem vd_F {h : MHeap} {o : Nat} {ps : List Nat} {k : Nat → Prop} (e : vd False h o ps k) : ∃ t fs m, h[o]? = some (t, fs) ∧ vdP ps t = some m ∧ k m := by
  unfold vd at e
  split at e
  · rename_i t fs hq
    split at e
    · rename_i m hm
      exact ⟨t, fs, m, hq, hm, e⟩
    · exact absurd e id
  · exact absurd e id
theorem cond_F {c : Bool} {k : Prop} (e : bif c then k else False) : c = true ∧ k := by
  cases c with
  | true => exact ⟨rfl, e⟩
  | false => exact absurd e id
section CTX
variable (l : Launch) (SX : State → Heap → Prop) (D : va_G) (cA : Nat → ClassId) (ad : Nat → Nat) (B : Nat) (xs : List Int32) (t1 t2 : List Value)
/-- the words of a method: its own code, and all that the tables keep -/
def wsm (m : Nat) : List Cond := .code (mtd m).1 (mtd m).2.1 (prg m).2 (mtd m).2.2 :: gtbl
def KS (U : State) (H : Heap) : Prop := KV D cA ad U ∧ ad 0 < B ∧ B ≤ H.size ∧ va_X (ad 0) xs.length (fun j => xs.getD j 0) U H ∧ SX U H
def prF : List MCell := [(99, xs.map .int), (98, t1), (98, t2)]
/-- a call's start and end -/
def PcS (as : List Value) (h : MHeap) : Array Value → State → Prop := va_Pc (as.map (shv ad)) fun U => KS SX D cA ad B xs U U.heap ∧ va_P D clsL (toW ad cA h) U.heap ∧ U.heap.size = B + (h.length - 3) ∧ h.take 3 = prF xs t1 t2 ∧ 3 ≤ h.length
def QcS (r : Option Value) (h : MHeap) : Array Value → State → Outcome → State → Prop := fun _ st o t => o = .returned (r.map (shv ad)) ∧ va_P D clsL (toW ad cA h) t.heap ∧ t.heap.size = B + (h.length - 3) ∧ h.take 3 = prF xs t1 t2 ∧ va_F (fun q => B ≤ q) st t
def MetS (d m : Nat) (as : List Value) (h : MHeap) (r : Option Value) (h' : MHeap) : Prop :=
  Met l (mtd m).1 (wsm m) ({ frames := d, cells := h'.length - h.length, slots := hsl h' - hsl h, locals := 64 * d } : Room) (PcS SX D cA ad B xs t1 t2 as h) (QcS D cA ad B xs t1 t2 r h') (h'.length - h.length) (hsl h' - hsl h) (fun q => B ≤ q)
end CTX
