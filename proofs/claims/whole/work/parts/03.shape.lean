/-! the step's shape, the machine's runs, the fixed point -/
abbrev MOut : Type := Option ((Option Value × MHeap) ⊕ (MLoc × List Value × MHeap) ⊕ (Nat × MLoc × List Value × MHeap) ⊕ (Nat × List Value × Nat × List Value × MHeap))
def st1 (i : Instr) (rs : List Nat) (cs : List Value) (L : MLoc) (S : List Value) (h : MHeap) : MOut :=
  stK none (fun v h => some (.inl (v, h))) (fun L S h => some (.inr (.inl (L, S, h)))) (fun j L S h => some (.inr (.inr (.inl (j, L, S, h))))) (fun m as k S h => some (.inr (.inr (.inr (m, as, k, S, h))))) i rs cs L S h
section ITP
variable {α : Type} (no : α) (rt : Option Value → MHeap → α) (kn : MLoc → List Value → MHeap → α) (kj : Nat → MLoc → List Value → MHeap → α) (cl : Nat → List Value → Nat → List Value → MHeap → α)
def itp : MOut → α
  | none => no
  | some (.inl (v, h)) => rt v h
  | some (.inr (.inl (L, S, h))) => kn L S h
  | some (.inr (.inr (.inl (j, L, S, h)))) => kj j L S h
  | some (.inr (.inr (.inr (m, as, k, S, h)))) => cl m as k S h
theorem itp_dI (n : MOut) (v : Value) (k : Int32 → MOut) : itp no rt kn kj cl (dI n v k) = dI (itp no rt kn kj cl n) v (fun x => itp no rt kn kj cl (k x)) := by
  cases v <;> rfl
theorem itp_dL (n : MOut) (v : Value) (k : Int64 → MOut) : itp no rt kn kj cl (dL n v k) = dL (itp no rt kn kj cl n) v (fun x => itp no rt kn kj cl (k x)) := by
  cases v <;> rfl
theorem itp_dR (n : MOut) (v : Value) (k : Nat → MOut) : itp no rt kn kj cl (dR n v k) = dR (itp no rt kn kj cl n) v (fun x => itp no rt kn kj cl (k x)) := by
  cases v <;> rfl
theorem itp_dA (n : MOut) (v : Value) (k : MOut) : itp no rt kn kj cl (dA n v k) = dA (itp no rt kn kj cl n) v (itp no rt kn kj cl k) := by
  cases v <;> rfl
theorem itp_dN (n : MOut) (v : Value) (k1 k2 : MOut) : itp no rt kn kj cl (dN n v k1 k2) = dN (itp no rt kn kj cl n) v (itp no rt kn kj cl k1) (itp no rt kn kj cl k2) := by
  cases v <;> rfl
theorem itp_dD (n : MOut) (v : Value) (k : MOut) : itp no rt kn kj cl (dD n v k) = dD (itp no rt kn kj cl n) v (itp no rt kn kj cl k) := by
  cases v <;> rfl
theorem itp_dv (n : MOut) (y : Int32) (k : MOut) : itp no rt kn kj cl (dv n y k) = dv (itp no rt kn kj cl n) y (itp no rt kn kj cl k) := by
  unfold dv; split <;> rfl
theorem itp_dvL (n : MOut) (y : Int64) (k : MOut) : itp no rt kn kj cl (dvL n y k) = dvL (itp no rt kn kj cl n) y (itp no rt kn kj cl k) := by
  unfold dvL; split <;> rfl
theorem itp_zr (n : MOut) (y : Int32) (k : MOut) : itp no rt kn kj cl (zr n y k) = zr (itp no rt kn kj cl n) y (itp no rt kn kj cl k) := by
  unfold zr; split <;> rfl
theorem itp_gS (n : MOut) (s : MSl) (k : Value → MOut) : itp no rt kn kj cl (gS n s k) = gS (itp no rt kn kj cl n) s (fun x => itp no rt kn kj cl (k x)) := by
  rcases s with _ | (v | y) <;> rfl
theorem itp_gSL (n : MOut) (s : MSl) (k : Int64 → MOut) : itp no rt kn kj cl (gSL n s k) = gSL (itp no rt kn kj cl n) s (fun x => itp no rt kn kj cl (k x)) := by
  rcases s with _ | (v | y) <;> rfl
theorem itp_gfI (n : MOut) (h : MHeap) (o : Nat) (ts : List Nat) (j : Nat) (k : Int32 → MOut) : itp no rt kn kj cl (gfI n h o ts j k) = gfI (itp no rt kn kj cl n) h o ts j (fun x => itp no rt kn kj cl (k x)) := by
  unfold gfI; repeat' split <;> try rfl
theorem itp_gfV (n : MOut) (h : MHeap) (o : Nat) (ts : List Nat) (j : Nat) (k : Value → MOut) : itp no rt kn kj cl (gfV n h o ts j k) = gfV (itp no rt kn kj cl n) h o ts j (fun x => itp no rt kn kj cl (k x)) := by
  unfold gfV; (repeat' split) <;> first | rfl | exact itp_dA no rt kn kj cl _ _ _
theorem itp_pfI (n : MOut) (h : MHeap) (o : Nat) (ts : List Nat) (j : Nat) (x : Int32) (k : MHeap → MOut) : itp no rt kn kj cl (pfI n h o ts j x k) = pfI (itp no rt kn kj cl n) h o ts j x (fun x => itp no rt kn kj cl (k x)) := by
  unfold pfI; repeat' split <;> try rfl
theorem itp_pfV (n : MOut) (h : MHeap) (o : Nat) (ts : List Nat) (j : Nat) (x : Value) (k : MHeap → MOut) : itp no rt kn kj cl (pfV n h o ts j x k) = pfV (itp no rt kn kj cl n) h o ts j x (fun x => itp no rt kn kj cl (k x)) := by
  unfold pfV; (repeat' split) <;> first | rfl | exact itp_dA no rt kn kj cl _ _ _
theorem itp_aln (n : MOut) (h : MHeap) (o : Nat) (k : Int32 → MOut) : itp no rt kn kj cl (aln n h o k) = aln (itp no rt kn kj cl n) h o (fun x => itp no rt kn kj cl (k x)) := by
  unfold aln; repeat' split <;> try rfl
theorem itp_alI (n : MOut) (h : MHeap) (o : Nat) (i : Int32) (k : Int32 → MOut) : itp no rt kn kj cl (alI n h o i k) = alI (itp no rt kn kj cl n) h o i (fun x => itp no rt kn kj cl (k x)) := by
  unfold alI; repeat' split <;> try rfl
theorem itp_asI (n : MOut) (h : MHeap) (o : Nat) (i x : Int32) (k : MHeap → MOut) : itp no rt kn kj cl (asI n h o i x k) = asI (itp no rt kn kj cl n) h o i x (fun x => itp no rt kn kj cl (k x)) := by
  unfold asI; repeat' split <;> try rfl
theorem itp_alV (n : MOut) (h : MHeap) (o : Nat) (i : Int32) (k : Value → MOut) : itp no rt kn kj cl (alV n h o i k) = alV (itp no rt kn kj cl n) h o i (fun x => itp no rt kn kj cl (k x)) := by
  unfold alV; (repeat' split) <;> first | rfl | exact itp_dA no rt kn kj cl _ _ _
theorem itp_asV (n : MOut) (h : MHeap) (o : Nat) (i : Int32) (v : Value) (k : MHeap → MOut) : itp no rt kn kj cl (asV n h o i v k) = asV (itp no rt kn kj cl n) h o i v (fun x => itp no rt kn kj cl (k x)) := by
  unfold asV; repeat' split <;> try rfl
theorem itp_nwA (n : MOut) (h : MHeap) (t : Nat) (i : Int32) (v : Value) (k : Nat → MHeap → MOut) : itp no rt kn kj cl (nwA n h t i v k) = nwA (itp no rt kn kj cl n) h t i v (fun x y => itp no rt kn kj cl (k x y)) := by
  unfold nwA; repeat' split <;> try rfl
theorem itp_inO (n : MOut) (h : MHeap) (o : Nat) (ts us : List Nat) (k : Int32 → MOut) : itp no rt kn kj cl (inO n h o ts us k) = inO (itp no rt kn kj cl n) h o ts us (fun x => itp no rt kn kj cl (k x)) := by
  unfold inO; repeat' split <;> try rfl
theorem itp_vd (n : MOut) (h : MHeap) (o : Nat) (ps : List Nat) (k : Nat → MOut) : itp no rt kn kj cl (vd n h o ps k) = vd (itp no rt kn kj cl n) h o ps (fun x => itp no rt kn kj cl (k x)) := by
  unfold vd; repeat' split <;> try rfl
theorem itp_slen (n : MOut) (h : MHeap) (o : Nat) (k : Int32 → MOut) : itp no rt kn kj cl (slen n h o k) = slen (itp no rt kn kj cl n) h o (fun x => itp no rt kn kj cl (k x)) := by
  unfold slen; repeat' split <;> try rfl
theorem itp_sch (n : MOut) (h : MHeap) (o : Nat) (i : Int32) (k : Int32 → MOut) : itp no rt kn kj cl (sch n h o i k) = sch (itp no rt kn kj cl n) h o i (fun x => itp no rt kn kj cl (k x)) := by
  unfold sch; repeat' split <;> try rfl
theorem itp_acp (n : MOut) (h : MHeap) (o1 : Nat) (sp : Int32) (o2 : Nat) (dp l : Int32) (k : MHeap → MOut) : itp no rt kn kj cl (acp n h o1 sp o2 dp l k) = acp (itp no rt kn kj cl n) h o1 sp o2 dp l (fun x => itp no rt kn kj cl (k x)) := by
  unfold acp; repeat' split <;> try rfl
theorem itp_ite (c : Prop) [Decidable c] (a b : MOut) : itp no rt kn kj cl (if c then a else b) = if c then itp no rt kn kj cl a else itp no rt kn kj cl b := by
  split <;> rfl
theorem itp_cond (c : Bool) (a b : MOut) : itp no rt kn kj cl (bif c then a else b) = bif c then itp no rt kn kj cl a else itp no rt kn kj cl b := by
  cases c <;> rfl
theorem itp_swc (x : Int32) (kd : MOut) (k : Nat → MOut) : ∀ (cs : List Value) (ts : List Nat), itp no rt kn kj cl (swc x kd k cs ts) = swc x (itp no rt kn kj cl kd) (fun t => itp no rt kn kj cl (k t)) cs ts
  | [], _ => by unfold swc; rfl
  | .int y :: cs, [] => by unfold swc; rfl
  | .int y :: cs, t :: ts => by
    unfold swc
    split
    · rfl
    · exact itp_swc x kd k cs ts
  | .long _ :: _, _ => by unfold swc; rfl
  | .float _ :: _, _ => by unfold swc; rfl
  | .double _ :: _, _ => by unfold swc; rfl
  | .null :: _, _ => by unfold swc; rfl
  | .ref _ :: _, _ => by unfold swc; rfl
  | .retAddr _ :: _, _ => by unfold swc; rfl
theorem itp_nwO (h : MHeap) (t : Nat) (cs : List Value) (k : Nat → MHeap → MOut) : itp no rt kn kj cl (nwO h t cs k) = nwO h t cs (fun x y => itp no rt kn kj cl (k x y)) := rfl
theorem stK_itp (i : Instr) (rs : List Nat) (cs : List Value) (L : MLoc) (S : List Value) (h : MHeap) : stK no rt kn kj cl i rs cs L S h = itp no rt kn kj cl (st1 i rs cs L S h) := by
  unfold st1
  cases i <;> simp only [stK] <;> first
    | rfl
    | (simp only [itp_nwO, itp_dI, itp_dL, itp_dR, itp_dA, itp_dN, itp_dD, itp_dv, itp_dvL, itp_zr, itp_gS, itp_gSL, itp_gfI, itp_gfV, itp_pfI, itp_pfV, itp_aln, itp_alI, itp_asI, itp_alV, itp_asV, itp_nwA, itp_inO, itp_vd, itp_slen, itp_sch, itp_acp, itp_swc, itp_ite, itp_cond]; done)
    | (simp only [itp_nwO, itp_dI, itp_dL, itp_dR, itp_dA, itp_dN, itp_dD, itp_dv, itp_dvL, itp_zr, itp_gS, itp_gSL, itp_gfI, itp_gfV, itp_pfI, itp_pfV, itp_aln, itp_alI, itp_asI, itp_alV, itp_asV, itp_nwA, itp_inO, itp_vd, itp_slen, itp_sch, itp_acp, itp_swc, itp_ite, itp_cond]; rfl)
    | (repeat' split) <;> first
      | rfl
      | (simp only [itp_nwO, itp_dI, itp_dL, itp_dR, itp_dA, itp_dN, itp_dD, itp_dv, itp_dvL, itp_zr, itp_gS, itp_gSL, itp_gfI, itp_gfV, itp_pfI, itp_pfV, itp_aln, itp_alI, itp_asI, itp_alV, itp_asV, itp_nwA, itp_inO, itp_vd, itp_slen, itp_sch, itp_acp, itp_swc, itp_ite, itp_cond]; done)
      | (simp only [itp_nwO, itp_dI, itp_dL, itp_dR, itp_dA, itp_dN, itp_dD, itp_dv, itp_dvL, itp_zr, itp_gS, itp_gSL, itp_gfI, itp_gfV, itp_pfI, itp_pfV, itp_aln, itp_alI, itp_asI, itp_alV, itp_asV, itp_nwA, itp_inO, itp_vd, itp_slen, itp_sch, itp_acp, itp_swc, itp_ite, itp_cond]; rfl)
      | (simp only [itp_nwO, itp_dI, itp_dL, itp_dR, itp_dA, itp_dN, itp_dD, itp_dv, itp_dvL, itp_zr, itp_gS, itp_gSL, itp_gfI, itp_gfV, itp_pfI, itp_pfV, itp_aln, itp_alI, itp_asI, itp_alV, itp_asV, itp_nwA, itp_inO, itp_vd, itp_slen, itp_sch, itp_acp, itp_swc, itp_ite, itp_cond]; (repeat' split) <;> rfl)
end ITP

