/-! runs with a bound, their limit, unrolling -/
def seek : List MIns → Nat → List MIns
  | [], _ => []
  | i :: r, p => bif Nat.beq i.1 p then i :: r else seek r p
def nxt : List MIns → Nat
  | [] => 0
  | i :: _ => i.1
def entL : List Value → MLoc
  | [] => []
  | .long y :: r => sy y :: none :: entL r
  | v :: r => sv v :: entL r
def padL : Nat → MLoc → MLoc
  | 0, L => L
  | n + 1, [] => none :: padL n []
  | n + 1, x :: r => x :: padL n r
def cV (r : MRes) (k : MHeap → MRes) : MRes := match r with
  | some (none, h) => k h
  | _ => none
def cI (r : MRes) (k : Int32 → MHeap → MRes) : MRes := match r with
  | some (some (.int x), h) => k x h
  | _ => none
def cR (r : MRes) (k : Value → MHeap → MRes) : MRes := match r with
  | some (some v, h) => dA none v (k v h)
  | _ => none
def cJ (r : MRes) (k : Int64 → MHeap → MRes) : MRes := match r with
  | some (some (.long x), h) => k x h
  | _ => none
def cK (q : Nat) (r : MRes) (k : List Value → MHeap → MRes) : MRes := match q with
  | 0 => cV r fun h => k [] h
  | 1 => cI r fun x h => k [.int x] h
  | 2 => cR r fun v h => k [v] h
  | _ => cJ r fun y h => k [.long y] h
/-- within n steps; d calls may stand open below this one -/
def run : Nat → Nat → Nat → Nat → MLoc → List Value → MHeap → MRes
  | 0, _, _, _, _, _, _ => none
  | n + 1, d, m, pc, L, S, h => match seek (prg m).1 pc with
    | [] => none
    | i :: r => stK none (fun v h => some (v, h)) (fun L S h => run n d m (nxt r) L S h) (fun j L S h => run n d m j L S h)
        (fun m' as q S h => cK q (match d with
          | 0 => none
          | d + 1 => bif Nat.ble 1000 m' then prx d (m' - 1000) as h else bif Nat.ble (entL as).length (prg m').2 then run n d m' 0 (padL (prg m').2 (entL as)) [] h else none) fun vs h => run n d m (nxt r) L (vs ++ S) h) i.2.1 i.2.2.1 i.2.2.2 L S h
def rcall (n d m' : Nat) (as : List Value) (h : MHeap) : MRes := match d with
  | 0 => none
  | d + 1 => bif Nat.ble 1000 m' then prx d (m' - 1000) as h else bif Nat.ble (entL as).length (prg m').2 then run n d m' 0 (padL (prg m').2 (entL as)) [] h else none
theorem run_itp (n d m pc : Nat) (L : MLoc) (S : List Value) (h : MHeap) : run (n + 1) d m pc L S h = match seek (prg m).1 pc with
    | [] => none
    | i :: r => itp none (fun v h => some (v, h)) (fun L S h => run n d m (nxt r) L S h) (fun j L S h => run n d m j L S h)
        (fun m' as q S h => cK q (rcall n d m' as h) fun vs h => run n d m (nxt r) L (vs ++ S) h) (st1 i.2.1 i.2.2.1 i.2.2.2 L S h) := by
  rw [run]
  split
  · rfl
  · rw [stK_itp]; rfl
theorem cK_some {q : Nat} {r : MRes} {k : List Value → MHeap → MRes} {x : Option Value × MHeap} (h : cK q r k = some x) : ∃ vs h1, (∀ k2, cK q r k2 = k2 vs h1) ∧ k vs h1 = some x ∧ ∃ v, r = some (v, h1) := by
  unfold cK at h ⊢
  split at h
  · unfold cV at h ⊢
    split at h
    · exact ⟨_, _, fun _ => rfl, h, _, rfl⟩
    · cases h
  · unfold cI at h ⊢
    split at h
    · exact ⟨_, _, fun _ => rfl, h, _, rfl⟩
    · cases h
  · unfold cR at h ⊢
    split at h
    · rename_i v h1
      unfold dA at h ⊢
      split at h
      · exact ⟨_, _, fun _ => rfl, h, _, rfl⟩
      · exact ⟨_, _, fun _ => rfl, h, _, rfl⟩
      · cases h
    · cases h
  · unfold cJ at h ⊢
    split at h
    · exact ⟨_, _, fun _ => rfl, h, _, rfl⟩
    · cases h
theorem run_mono1 : ∀ (n d m pc : Nat) (L : MLoc) (S : List Value) (h : MHeap) (x : Option Value × MHeap), run n d m pc L S h = some x → run (n + 1) d m pc L S h = some x := by
  intro n
  induction n with
  | zero => intro d m pc L S h x e; simp [run] at e
  | succ n ih =>
    intro d m pc L S h x e
    rw [run_itp] at e ⊢
    split at e
    · cases e
    · rename_i i r hs
      cases ho : st1 i.2.1 i.2.2.1 i.2.2.2 L S h with
      | none => rw [ho] at e; cases e
      | some o =>
        rw [ho] at e
        rcases o with ⟨v, h1⟩ | ⟨L1, S1, h1⟩ | ⟨j, L1, S1, h1⟩ | ⟨m', as, q, S1, h1⟩
        · exact e
        · exact ih _ _ _ _ _ _ _ e
        · exact ih _ _ _ _ _ _ _ e
        · have e : cK q (rcall n d m' as h1) (fun vs h => run n d m (nxt r) L (vs ++ S1) h) = some x := e
          obtain ⟨vs, h2, hk, e2, v, hr⟩ := cK_some e
          have hr2 : rcall (n + 1) d m' as h1 = rcall n d m' as h1 := by
            unfold rcall at hr ⊢
            cases d with
            | zero => rfl
            | succ d =>
              cases hb : Nat.ble 1000 m' with
              | true => rfl
              | false =>
                cases hb2 : Nat.ble (entL as).length (prg m').2 with
                | false => rfl
                | true =>
                  simp only [hb, hb2, cond_false, cond_true] at hr ⊢
                  exact (ih _ _ _ _ _ _ _ hr).trans hr.symm
          show cK q (rcall (n + 1) d m' as h1) (fun vs h => run (n + 1) d m (nxt r) L (vs ++ S1) h) = some x
          rw [hr2, hk]
          exact ih _ _ _ _ _ _ _ e2
theorem run_mono {n k d m pc : Nat} {L : MLoc} {S : List Value} {h : MHeap} {x : Option Value × MHeap} (e : run n d m pc L S h = some x) : run (n + k) d m pc L S h = some x := by
  induction k with
  | zero => exact e
  | succ k ih => exact run_mono1 _ _ _ _ _ _ _ _ ih
theorem run_det {n k d m pc : Nat} {L : MLoc} {S : List Value} {h : MHeap} {x y : Option Value × MHeap} (e : run n d m pc L S h = some x) (f : run k d m pc L S h = some y) : x = y := by
  have e1 := run_mono (k := k) e
  have f1 := run_mono (k := n) f
  rw [Nat.add_comm] at f1
  exact Option.some.inj (e1.symm.trans f1)
noncomputable def ex (d m pc : Nat) (L : MLoc) (S : List Value) (h : MHeap) : MRes :=
  match Classical.propDecidable (∃ q : Nat × (Option Value × MHeap), run q.1 d m pc L S h = some q.2) with
  | .isTrue H => some (Classical.choose H).2
  | .isFalse _ => none
theorem ex_of {n d m pc : Nat} {L : MLoc} {S : List Value} {h : MHeap} {x : Option Value × MHeap} (e : run n d m pc L S h = some x) : ex d m pc L S h = some x := by
  have H : ∃ q : Nat × (Option Value × MHeap), run q.1 d m pc L S h = some q.2 := ⟨(n, x), e⟩
  unfold ex
  split
  · rename_i H' _
    exact congrArg some (run_det (Classical.choose_spec H') e)
  · rename_i H' _
    exact absurd H H'
theorem ex_run {d m pc : Nat} {L : MLoc} {S : List Value} {h : MHeap} {x : Option Value × MHeap} (e : ex d m pc L S h = some x) : ∃ n, run n d m pc L S h = some x := by
  unfold ex at e
  split at e
  · rename_i H _
    exact ⟨_, (Classical.choose_spec H).trans (by rw [← Option.some.inj e])⟩
  · cases e
theorem ex_iff {d m pc : Nat} {L : MLoc} {S : List Value} {h : MHeap} {x : Option Value × MHeap} : ex d m pc L S h = some x ↔ ∃ n, run n d m pc L S h = some x := ⟨ex_run, fun ⟨_, e⟩ => ex_of e⟩
noncomputable def call (d m' : Nat) (as : List Value) (h : MHeap) : MRes := match d with
  | 0 => none
  | d + 1 => bif Nat.ble 1000 m' then prx d (m' - 1000) as h else bif Nat.ble (entL as).length (prg m').2 then ex d m' 0 (padL (prg m').2 (entL as)) [] h else none
theorem call_run {d m' : Nat} {as : List Value} {h : MHeap} {x : Option Value × MHeap} (e : call d m' as h = some x) : ∃ n, rcall n d m' as h = some x := by
  cases d with
  | zero => cases e
  | succ d =>
    unfold call at e
    unfold rcall
    cases hb : Nat.ble 1000 m' with
    | true =>
      simp only [hb, cond_true] at e ⊢
      exact ⟨0, e⟩
    | false =>
      cases hb2 : Nat.ble (entL as).length (prg m').2 with
      | false => simp only [hb, hb2, cond_false] at e; cases e
      | true =>
        simp only [hb, hb2, cond_false, cond_true] at e ⊢
        exact ex_run e
theorem call_of {n d m' : Nat} {as : List Value} {h : MHeap} {x : Option Value × MHeap} (e : rcall n d m' as h = some x) : call d m' as h = some x := by
  cases d with
  | zero => cases e
  | succ d =>
    unfold rcall at e
    unfold call
    cases hb : Nat.ble 1000 m' with
    | true =>
      simp only [hb, cond_true] at e ⊢
      exact e
    | false =>
      cases hb2 : Nat.ble (entL as).length (prg m').2 with
      | false => simp only [hb, hb2, cond_false] at e; cases e
      | true =>
        simp only [hb, hb2, cond_false, cond_true] at e ⊢
        exact ex_of e
theorem rcall_mono {n k d m' : Nat} {as : List Value} {h : MHeap} {x : Option Value × MHeap} (e : rcall n d m' as h = some x) : rcall (n + k) d m' as h = some x := by
  cases d with
  | zero => cases e
  | succ d =>
    unfold rcall at e ⊢
    cases hb : Nat.ble 1000 m' with
    | true =>
      simp only [hb, cond_true] at e ⊢
      exact e
    | false =>
      cases hb2 : Nat.ble (entL as).length (prg m').2 with
      | false => simp only [hb, hb2, cond_false] at e; cases e
      | true =>
        simp only [hb, hb2, cond_false, cond_true] at e ⊢
        exact run_mono e
/-- two answers that are 'some' of the same are equal -/
theorem res_ext {a b : MRes} (h : ∀ x, a = some x ↔ b = some x) : a = b := by
  cases a with
  | none =>
    cases b with
    | none => rfl
    | some y => exact absurd ((h y).mpr rfl) (by simp)
  | some x => exact ((h x).mp rfl).symm
theorem ex_fix (d m pc : Nat) (L : MLoc) (S : List Value) (h : MHeap) : ex d m pc L S h = match seek (prg m).1 pc with
    | [] => none
    | i :: r => stK none (fun v h => some (v, h)) (fun L S h => ex d m (nxt r) L S h) (fun j L S h => ex d m j L S h)
        (fun m' as q S h => cK q (call d m' as h) fun vs h => ex d m (nxt r) L (vs ++ S) h) i.2.1 i.2.2.1 i.2.2.2 L S h := by
  apply res_ext
  intro x
  rw [ex_iff]
  have A : (∃ n, run n d m pc L S h = some x) ↔ ∃ n, run (n + 1) d m pc L S h = some x := ⟨fun ⟨n, e⟩ => ⟨n, run_mono1 _ _ _ _ _ _ _ _ e⟩, fun ⟨n, e⟩ => ⟨n + 1, e⟩⟩
  rw [A]
  cases hs : seek (prg m).1 pc with
  | nil =>
    constructor
    · rintro ⟨n, e⟩
      rw [run_itp, hs] at e
      cases e
    · intro e
      cases e
  | cons i r =>
    simp only [run_itp, hs, stK_itp]
    cases ho : st1 i.2.1 i.2.2.1 i.2.2.2 L S h with
    | none => exact ⟨fun ⟨_, e⟩ => (by cases e), fun e => (by cases e)⟩
    | some o =>
      rcases o with ⟨v, h1⟩ | ⟨L1, S1, h1⟩ | ⟨j, L1, S1, h1⟩ | ⟨m', as, q, S1, h1⟩
      · exact ⟨fun ⟨_, e⟩ => e, fun e => ⟨0, e⟩⟩
      · exact ex_iff.symm
      · exact ex_iff.symm
      · show (∃ n, cK q (rcall n d m' as h1) (fun vs h => run n d m (nxt r) L (vs ++ S1) h) = some x) ↔ cK q (call d m' as h1) (fun vs h => ex d m (nxt r) L (vs ++ S1) h) = some x
        constructor
        · rintro ⟨n, e⟩
          obtain ⟨vs, h2, hk, e2, v, hr⟩ := cK_some e
          rw [call_of hr, ← hr, hk]
          exact ex_of e2
        · intro e
          obtain ⟨vs, h2, hk, e2, v, hr⟩ := cK_some e
          obtain ⟨n1, r1⟩ := call_run hr
          obtain ⟨n2, r2⟩ := ex_run e2
          refine ⟨n1 + n2, ?_⟩
          rw [rcall_mono r1, ← hr, hk]
          have r3 := run_mono (k := n1) r2
          rw [Nat.add_comm] at r3
          exact r3
def memN : List Nat → Nat → Bool
  | [], _ => false
  | a :: r, x => bif Nat.beq a x then true else memN r x
/-- k steps unrolled, up to the places 'cuts' -/
def unr (EX : Nat → MLoc → List Value → MHeap → MRes) (CL : Nat → List Value → MHeap → MRes) (cuts : List Nat) (c : List MIns) : Nat → List MIns → MLoc → List Value → MHeap → MRes
  | 0, r, L, S, h => EX (nxt r) L S h
  | _ + 1, [], L, S, h => EX 0 L S h
  | k + 1, i :: r, L, S, h => stK none (fun v h => some (v, h)) (fun L S h => bif memN cuts (nxt r) then EX (nxt r) L S h else unr EX CL cuts c k r L S h)
      (fun j L S h => bif memN cuts j then EX j L S h else match seek c j with
        | [] => none
        | i2 :: r2 => unr EX CL cuts c k (i2 :: r2) L S h)
      (fun m' as q S h => cK q (CL m' as h) fun vs h => bif memN cuts (nxt r) then EX (nxt r) L (vs ++ S) h else unr EX CL cuts c k r L (vs ++ S) h) i.2.1 i.2.2.1 i.2.2.2 L S h
def okc : List MIns → Bool
  | [] => true
  | i :: r => (match r with
    | [] => true
    | j :: _ => Nat.blt i.1 j.1) && okc r
theorem okc_lt : ∀ (c : List MIns) (i : MIns), okc (i :: c) = true → ∀ j ∈ c, i.1 < j.1 := by
  intro c
  induction c with
  | nil => intro i _ j hj; cases hj
  | cons a c ih =>
    intro i h j hj
    have h1 : Nat.blt i.1 a.1 = true ∧ okc (a :: c) = true := by simpa [okc] using h
    have h2 : i.1 < a.1 := by simpa [Nat.blt_eq] using h1.1
    rcases List.mem_cons.mp hj with rfl | hj
    · exact h2
    · exact Nat.lt_trans h2 (ih a h1.2 j hj)
theorem seek_suffix : ∀ (a : List MIns) (i : MIns) (r : List MIns), okc (a ++ i :: r) = true → seek (a ++ i :: r) i.1 = i :: r := by
  intro a
  induction a with
  | nil => intro i r _; simp [seek]
  | cons b a ih =>
    intro i r h
    have h1 := okc_lt _ _ h i (by simp)
    have h2 : okc (a ++ i :: r) = true := by
      have : okc (b :: (a ++ i :: r)) = true := h
      unfold okc at this
      simp only [Bool.and_eq_true] at this
      exact this.2
    have h3 : Nat.beq b.1 i.1 = false := by
      cases hb : Nat.beq b.1 i.1 with
      | false => rfl
      | true => have := Nat.eq_of_beq_eq_true hb; omega
    show (bif Nat.beq b.1 i.1 then _ else _) = _
    rw [h3]
    exact ih i r h2
theorem seek_split : ∀ (c : List MIns) (p : Nat) (i : MIns) (r : List MIns), seek c p = i :: r → (∃ a, c = a ++ i :: r) ∧ i.1 = p := by
  intro c
  induction c with
  | nil => intro p i r h; cases h
  | cons b c ih =>
    intro p i r h
    cases hb : Nat.beq b.1 p with
    | true =>
      have : b :: c = i :: r := by simpa [seek, hb] using h
      exact ⟨⟨[], this⟩, by rw [← (List.cons.inj this).1]; exact Nat.eq_of_beq_eq_true hb⟩
    | false =>
      have h2 : seek c p = i :: r := by simpa [seek, hb] using h
      obtain ⟨⟨a, e⟩, e2⟩ := ih p i r h2
      exact ⟨⟨b :: a, by rw [e]; rfl⟩, e2⟩
theorem unr_ok {d m : Nat} {c : List MIns} (hc : (prg m).1 = c) (ho : okc c = true) (cuts : List Nat) : ∀ (k : Nat) (a r : List MIns) (L : MLoc) (S : List Value) (h : MHeap), c = a ++ r → unr (ex d m) (call d) cuts c k r L S h = ex d m (nxt r) L S h := by
  intro k
  induction k with
  | zero => intro a r L S h _; rfl
  | succ k ih =>
    intro a r L S h hr
    cases r with
    | nil => rfl
    | cons i r =>
      have hs : seek (prg m).1 i.1 = i :: r := by rw [hc, hr]; exact seek_suffix a i r (by rw [← hr]; exact ho)
      have hr' : c = (a ++ [i]) ++ r := by rw [hr]; simp
      have kn : ∀ L S h, (bif memN cuts (nxt r) then ex d m (nxt r) L S h else unr (ex d m) (call d) cuts c k r L S h) = ex d m (nxt r) L S h := by
        intro L S h
        rw [ih _ r L S h hr']
        cases memN cuts (nxt r) <;> rfl
      have kj : ∀ j L S h, (bif memN cuts j then ex d m j L S h else match seek c j with
        | [] => none
        | i2 :: r2 => unr (ex d m) (call d) cuts c k (i2 :: r2) L S h) = ex d m j L S h := by
        intro j L S h
        cases memN cuts j with
        | true => rfl
        | false =>
          show (match seek c j with
            | [] => none
            | i2 :: r2 => unr (ex d m) (call d) cuts c k (i2 :: r2) L S h) = _
          cases hj : seek c j with
          | nil => rw [ex_fix, hc, hj]
          | cons i2 r2 =>
            obtain ⟨⟨a2, e2⟩, e3⟩ := seek_split c j i2 r2 hj
            show unr (ex d m) (call d) cuts c k (i2 :: r2) L S h = _
            rw [ih a2 (i2 :: r2) L S h e2]
            show ex d m i2.1 L S h = _
            rw [e3]
      show _ = ex d m i.1 L S h
      rw [ex_fix, hs]
      show stK _ _ _ _ _ _ _ _ _ _ _ = stK _ _ _ _ _ _ _ _ _ _ _
      simp only [kn, kj]
/-- from a method's first instruction on -/
theorem call_unr {d m nl : Nat} {c : List MIns} (hc : prg m = (c, nl)) (hm : Nat.ble 1000 m = false) (ho : okc c = true) (h0 : nxt c = 0) (cuts : List Nat) (k : Nat) (as : List Value) (hl : Nat.ble (entL as).length nl = true) (h : MHeap) : call (d + 1) m as h = unr (ex d m) (call d) cuts c k c (padL nl (entL as)) [] h := by
  rw [unr_ok (a := []) (by rw [hc]) ho cuts k c _ _ _ rfl, h0]
  show (bif Nat.ble 1000 m then prx d (m - 1000) as h else bif Nat.ble (entL as).length (prg m).2 then ex d m 0 (padL (prg m).2 (entL as)) [] h else none) = _
  rw [hm, hc]
  show (bif Nat.ble (entL as).length nl then ex d m 0 (padL nl (entL as)) [] h else none) = _
  rw [hl]
  rfl
theorem ex_unr {d m nl : Nat} {c : List MIns} (hc : prg m = (c, nl)) (ho : okc c = true) (cuts : List Nat) (k : Nat) {pc : Nat} {i : MIns} {r : List MIns} (hs : seek c pc = i :: r) (L : MLoc) (S : List Value) (h : MHeap) : ex d m pc L S h = unr (ex d m) (call d) cuts c k (i :: r) L S h := by
  obtain ⟨⟨a, e⟩, e3⟩ := seek_split c pc i r hs
  rw [unr_ok (a := a) (by rw [hc]) ho cuts k (i :: r) _ _ _ e]
  show _ = ex d m i.1 L S h
  rw [e3]
