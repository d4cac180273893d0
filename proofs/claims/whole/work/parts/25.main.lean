/-! the induction -/
theorem nft_no {i : Instr} (hi : nft i = true) (rs : List Nat) (cs : List Value) (L : MLoc) (S : List Value) (h : MHeap) : stK True (fun _ _ => True) (fun _ _ _ => False) (fun _ _ _ _ => True) (fun _ _ _ _ _ => False) i rs cs L S h := by
  cases i <;> first
    | (cases hi; done)
    | (simp only [stK]; repeat' first
        | exact trivial
        | (apply dI_T; intro _)
        | (apply dL_T; intro _)
        | apply dA_T
        | apply zr_T
        | (apply swc_T; exact trivial; intro _; exact trivial)
        | split)
theorem sq_at : ∀ (a : List MIns) (i : MIns) (r : List MIns) (hn : List (Nat × List Nat)), sqo (a ++ i :: r) hn = true → ∃ len ax, (i, len, ax) ∈ (a ++ i :: r).zip hn ∧ (∀ j r', r = j :: r' → j.1 = i.1 + len) ∧ (r = [] → nft i.2.1 = true) := by
  intro a
  induction a with
  | nil =>
    intro i r hn h
    rcases hn with _ | ⟨⟨len, ax⟩, hn⟩
    · simp [sqo] at h
    · have h : sqo (i :: r) ((len, ax) :: hn) = true := h
      unfold sqo at h
      rw [Bool.and_eq_true] at h
      refine ⟨len, ax, by simp, fun j r' e => ?_, fun e => ?_⟩
      · subst e
        exact Nat.eq_of_beq_eq_true h.1
      · subst e
        exact h.1
  | cons b a ih =>
    intro i r hn h
    rcases hn with _ | ⟨⟨len, ax⟩, hn⟩
    · simp [sqo] at h
    · have h : sqo (b :: (a ++ i :: r)) ((len, ax) :: hn) = true := h
      unfold sqo at h
      rw [Bool.and_eq_true] at h
      obtain ⟨len2, ax2, e1, e2, e3⟩ := ih i r hn h.2
      exact ⟨len2, ax2, List.mem_cons_of_mem _ e1, e2, e3⟩
theorem no_instr {i : Instr} (h1 : grA i = false) (h2 : grB i = false) (h3 : grC i = false) {rt : Option Value → MHeap → Prop} {kn : MLoc → List Value → MHeap → Prop} {kj : Nat → MLoc → List Value → MHeap → Prop} {cl : Nat → List Value → Nat → List Value → MHeap → Prop} {rs : List Nat} {cs : List Value} {L : MLoc} {S : List Value} {h : MHeap} (e : stK False rt kn kj cl i rs cs L S h) : False := by
  cases i <;> first
    | exact e
    | (cases h1; done)
    | (cases h2; done)
    | (cases h3; done)
section SOUND
variable {l : Launch} {SX : State → Heap → Prop} {D : va_G} {cA : Nat → ClassId} {ad : Nat → Nat} {B : Nat} {xs : List Int32} {t1 t2 : List Value}
/-- all that is asked: every method's check, its words, the texts -/
def AllOK (l : Launch) (SX : State → Heap → Prop) (D : va_G) (cA : Nat → ClassId) (ad : Nat → Nat) (B : Nat) (xs : List Int32) (t1 t2 : List Value) : Prop :=
  (∀ k, k < 264 → ∃ hn, ckM k hn) ∧ (∀ k, k < 263 → Cond.code (mtd k).1 (mtd k).2.1 (prg k).2 (mtd k).2.2 ∈ gtbl) ∧ SXok SX B ∧ (∀ k, ad (k + 3) = B + k) ∧
  ∀ (p : Program) (e : Env) (R : Room) (s : State) (m : MethodId) (args : Array Value) (below : List Frame) (meth : Method) (c : Code) (Q : State → Prop) (n0 s0 mi : Nat) (h' : MHeap), Cx p s m args meth c SX D cA ad B xs mi → StrW p l e R s m args below meth c Q D cA ad B xs t1 t2 n0 s0 mi h'
set_option maxHeartbeats 4000000 in
theorem inner (hA : AllOK l SX D cA ad B xs t1 t2) {n d mi : Nat} (hmi : mi < 264) (P : ∀ k, k < n → ∀ (d m : Nat) (as : List Value) (h : MHeap) (r : Option Value) (h' : MHeap), run k d m 0 (padL (prg m).2 (entL as)) [] h = some (r, h') → (entL as).length ≤ (prg m).2 → okS as → MetS l SX D cA ad B xs t1 t2 d m as h r h')
    {p : Program} {e : Env} {R : Room} {s : State} {m : MethodId} {args : Array Value} {below : List Frame} {meth : Method} {c : Code} {n0 s0 mc ms : Nat} {r : Option Value} {h' : MHeap} (C : Cx p s m args meth c SX D cA ad B xs mi) (hfr : d ≤ R.frames) (hlo : 64 * d ≤ R.locals) (hmc : mc + n0 = h'.length) (hms : ms + s0 = hsl h') (hRc : mc ≤ R.cells) (hRs : ms ≤ R.slots) :
    ∀ k, k ≤ n → ∀ (pc : Nat) (L : MLoc) (S : List Value) (h : MHeap), run k d mi pc L S h = some (r, h') → ∀ (ls : Array Slot) (H : Heap) (locs : List Loc) (cells slots : Nat), Rl D cA ad B xs t1 t2 s.heap n0 s0 (prg mi).2 L S h ls H locs cells slots → W p l e R s m args below meth c H locs cells slots (QQ below args s D cA ad B xs t1 t2 r h' mc ms) (F0 m pc ls (S.map (shv ad))) := by
  intro k
  induction k with
  | zero => intro _ pc L S h he; simp [run] at he
  | succ k ih =>
    intro hk pc L S h he ls H locs cells slots hR
    have ih := ih (Nat.le_of_succ_le hk)
    have h3 : 3 ≤ h.length := hR.2.2.2.2.2.1
    have hokS : okS S := hR.2.1
    rw [run_itp] at he
    split at he
    · cases he
    · rename_i i rest hs
      obtain ⟨⟨a, ha⟩, hpc⟩ := seek_split _ _ _ _ hs
      obtain ⟨hn, hck, hsq, -, -⟩ := hA.1 mi hmi
      rw [ha] at hsq
      obtain ⟨len, ax, hz, hnx, hnf⟩ := sq_at a i rest hn hsq
      rw [← ha] at hz
      have hck1 := List.all_eq_true.mp hck _ hz
      have hck2 : chk1 (mtd mi).1 (mtd mi).2.2 (mtd mi).2.1 (prg mi).2 ((pc, i.2.1, i.2.2.1, i.2.2.2), len, ax) = true := by
        rw [← hpc]
        exact hck1
      have hst : stK False (fun v h1 => v = r ∧ h1 = h') (KN (fun H locs cells slots g => W p l e R s m args below meth c H locs cells slots (QQ below args s D cA ad B xs t1 t2 r h' mc ms) g) (Rl D cA ad B xs t1 t2 s.heap n0 s0 (prg mi).2) h' m ad (pc + len)) (KN (fun H locs cells slots g => W p l e R s m args below meth c H locs cells slots (QQ below args s D cA ad B xs t1 t2 r h' mc ms) g) (Rl D cA ad B xs t1 t2 s.heap n0 s0 (prg mi).2) h' m ad) (CLp l R SX D cA ad B xs t1 t2 (KN (fun H locs cells slots g => W p l e R s m args below meth c H locs cells slots (QQ below args s D cA ad B xs t1 t2 r h' mc ms) g) (Rl D cA ad B xs t1 t2 s.heap n0 s0 (prg mi).2) h' m ad (pc + len) L)) i.2.1 i.2.2.1 i.2.2.2 L S h := by
        rw [stK_itp]
        cases ho : st1 i.2.1 i.2.2.1 i.2.2.2 L S h with
        | none => rw [ho] at he; cases he
        | some o =>
          have hg := st1_gr h3 ho
          have hoa := st1_ok hokS ho
          have hnn : rest = [] → itp True (fun _ _ => True) (fun _ _ _ => False) (fun _ _ _ _ => True) (fun _ _ _ _ _ => False) (some o) := by
            intro hr
            have := nft_no (hnf hr) i.2.2.1 i.2.2.2 L S h
            rw [stK_itp, ho] at this
            exact this
          rw [ho] at he
          rcases o with ⟨v, h1⟩ | ⟨L1, S1, h1⟩ | ⟨j, L1, S1, h1⟩ | ⟨m', as, q, S1, h1⟩
          · cases he; exact ⟨rfl, rfl⟩
          · have he : run k d mi (nxt rest) L1 S1 h1 = some (r, h') := he
            have hg : gr h h1 := hg
            have hg1 := run_gr _ _ _ _ _ _ _ _ he (Nat.le_trans h3 hg.1)
            cases rest with
            | nil => exact absurd (hnn rfl) id
            | cons j2 r2 =>
              have hj : nxt (j2 :: r2) = pc + len := by rw [← hpc]; exact hnx j2 r2 rfl
              rw [hj] at he
              exact ⟨hg1, fun ls H locs cells slots hR => ih _ _ _ _ he ls H locs cells slots hR⟩
          · have he : run k d mi j L1 S1 h1 = some (r, h') := he
            have hg : gr h h1 := hg
            have hg1 := run_gr _ _ _ _ _ _ _ _ he (Nat.le_trans h3 hg.1)
            exact ⟨hg1, fun ls H locs cells slots hR => ih _ _ _ _ he ls H locs cells slots hR⟩
          · have he : cK q (rcall k d m' as h1) (fun vs h => run k d mi (nxt rest) L (vs ++ S1) h) = some (r, h') := he
            have hoa : okS as ∧ h1 = h := hoa
            have hg : gr h h1 := hg
            obtain ⟨v, h2, hrc, hokv, e2⟩ := cK_some2 he
            obtain ⟨d1, hd1, hcs⟩ := rcall_cases hrc
            have hg2 : gr h1 h2 := by
              rcases hcs with ⟨-, q⟩ | ⟨-, -, q⟩
              · exact prm_gr (prx_prm q).1
              · exact run_gr _ _ _ _ _ _ _ _ q (Nat.le_trans h3 hg.1)
            have hg3 := run_gr _ _ _ _ _ _ _ _ e2 (Nat.le_trans h3 (Nat.le_trans hg.1 hg2.1))
            cases rest with
            | nil => exact absurd (hnn rfl) id
            | cons j2 r2 =>
              have hj : nxt (j2 :: r2) = pc + len := by rw [← hpc]; exact hnx j2 r2 rfl
              rw [hj] at e2
              refine ⟨d1, v, h2, by omega, by omega, hokv, hg2, fun hm => ?_, fun hm => ?_, hg3, fun ls H locs cells slots hR => ih _ _ _ _ e2 ls H locs cells slots hR⟩
              · rcases hcs with ⟨-, q⟩ | ⟨q1, -, -⟩
                · exact q
                · omega
              · rcases hcs with ⟨q1, -⟩ | ⟨-, q2, q3⟩
                · omega
                · exact P k (Nat.lt_of_succ_le hk) d1 m' as h1 v h2 q3 q2 hoa.1
      cases hgA : grA i.2.1 with
      | true => exact sim_a C hck2 hgA hst hR
      | false =>
        cases hgB : grB i.2.1 with
        | true => exact sim_b C hmc hms hRc hRs hck2 hgB hst hR
        | false =>
          cases hgC : grC i.2.1 with
          | true => exact sim_c C hA.2.2.1 hA.2.1 hmc hms hRc hRs (hA.2.2.2.2 p e R s m args below meth c _ n0 s0 mi h' C) hck2 hgC hst hR
          | false => exact absurd (no_instr hgA hgB hgC hst) id
theorem prg_big {m : Nat} (h : 264 ≤ m) : prg m = ([], 0) := by
  unfold prg
  rcases Nat.lt_or_ge (m / 32) 9 with q | q
  · have hq : m / 32 = 8 := by omega
    rw [hq]
    have hr : 8 ≤ m % 32 := by omega
    show prg_8.getD (m % 32) ([], 0) = _
    rw [List.getD_eq_getElem?_getD, List.getElem?_eq_none (by show 8 ≤ m % 32; exact hr)]
    rfl
  · have : prgs.getD (m / 32) [] = [] := by
      rw [List.getD_eq_getElem?_getD, List.getElem?_eq_none (by show 9 ≤ m / 32; exact q)]
      rfl
    rw [this]
    rfl
/-- SOUNDNESS -/
theorem sound (hA : AllOK l SX D cA ad B xs t1 t2) : ∀ (n d m : Nat) (as : List Value) (h : MHeap) (r : Option Value) (h' : MHeap), run n d m 0 (padL (prg m).2 (entL as)) [] h = some (r, h') → (entL as).length ≤ (prg m).2 → okS as → MetS l SX D cA ad B xs t1 t2 d m as h r h' := by
  intro n
  induction n using Nat.strongRecOn with
  | _ n P =>
    intro d mi as h r h' he hl hok
    have hmi : mi < 264 := by
      rcases Nat.lt_or_ge mi 264 with q | q
      · exact q
      · cases n with
        | zero => simp [run] at he
        | succ n => rw [run_itp, prg_big q] at he; cases he
    obtain ⟨hn, -, -, -, hpl⟩ := hA.1 mi hmi
    unfold MetS
    refine Met.ofW (cc := (mtd mi).2.1) (maxL := (prg mi).2) (ret := (mtd mi).2.2) hpl rfl ?_
    intro p e s m args below meth c s₁ BB hml hPc
    obtain ⟨rfl, hKS, hP, hsz, hpr, h3⟩ := hPc
    have hg := run_gr _ _ _ _ _ _ _ _ he h3
    have hg1 := hg.1
    have hg2 := hg.2
    have hts : ∀ w ∈ gtbl, w.before (as.map (shv ad)).toArray s = true := fun w hw => atoms_spec (ws := wsm mi) BB.pre w (List.mem_cons_of_mem _ hw)
    have C : Cx p s m (as.map (shv ad)).toArray meth c SX D cA ad B xs mi := ⟨BB.exec, BB.bytes, hml, findClass_of_methodNamed BB.named, hts, hKS, BB.returns, BB.notSynchronized, (name_of_methodNamed BB.named BB.method).1, hA.2.2.2.1⟩
    rw [lg_entry_eq]
    exact inner hA hmi P C (R := { frames := d, cells := h'.length - h.length, slots := hsl h' - hsl h, locals := 64 * d }) (Nat.le_refl _) (Nat.le_refl _) (n0 := h.length) (s0 := hsl h) (mc := h'.length - h.length) (ms := hsl h' - hsl h) (by simp only at hg1; omega) (by simp only at hg2; omega) (Nat.le_refl _) (Nat.le_refl _) n (Nat.le_refl _) 0 _ [] h he _ _ [] 0 0 ⟨LR.entry hok hl, fun _ z => (by cases z), hP, hsz, hpr, h3, va_S.rf, by omega, by omega⟩
end SOUND
