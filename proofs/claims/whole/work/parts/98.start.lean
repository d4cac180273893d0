/-! the text that both begin with -/
def tpi : List Nat := [116, 117, 114, 110, 115, 32, 49, 48, 32, 59, 32, 115, 119, 97, 112, 115, 32, 53, 32, 59, 32, 108, 111, 111, 107, 115, 32, 49, 32, 43, 32, 109, 97, 110, 121, 32, 59]
abbrev T0 : Txt := ([1010, 1005, 1001, 10, 43], 1, 2)
theorem tpi_ok : ∀ i, i < 37 → tx1.getD i 0 = nI (by1 tpi i) := by decide
theorem tx_T0 : TX (tkt tpi) (some T0) 11 := by
  have p0 : Pp (tkt tpi) 0 0 [] true 3 [1010] := Or.inr ⟨by decide +kernel, Or.inr ⟨2, ⟨20, by decide +kernel⟩, Or.inl ⟨by decide +kernel, rfl, rfl⟩⟩⟩
  have p1 : Pp (tkt tpi) 1 3 [1010] true 6 [1010, 1005] := Or.inr ⟨by decide +kernel, Or.inr ⟨5, ⟨20, by decide +kernel⟩, Or.inl ⟨by decide +kernel, rfl, rfl⟩⟩⟩
  have p2 : Pp (tkt tpi) 2 6 [1010, 1005] true 11 [1010, 1005, 1001, 10, 43] := Or.inr ⟨by decide +kernel, Or.inr ⟨10, ⟨20, by decide +kernel⟩, Or.inl ⟨by decide +kernel, rfl, rfl⟩⟩⟩
  exact Or.inr ⟨3, [1010], p0, Or.inr ⟨6, [1010, 1005], p1, Or.inr ⟨_, p2, Or.inl ⟨by decide +kernel, rfl⟩⟩⟩⟩
/-- the state of both as they begin -/
abbrev s0 : Sta := (9, 3, 0, [], 0, [T0], [], (false, 0, 0, 0, 0, 0), fun _ => (-1, 0, List.replicate 40 0))
theorem gD0 (n k : Nat) : (List.replicate n (0 : Int32)).getD k 0 = 0 := by
  rw [List.getD_eq_getElem?_getD, List.getElem?_replicate]
  split <;> rfl
theorem s0_ok : OKS s0 := by
  obtain ⟨N, hN1, hN2, hN3⟩ := tk_end tpi
  have W := tx_wf hN2 (by have : tpi.length = 37 := rfl; omega) (itm_okC tpi) tx_T0
  refine ⟨by decide, by decide, by decide, fun T hT => ?_, by decide, fun x hx => (by cases hx), by decide, fun e => (by cases e), fun s hs => ⟨by show 0 ≤ 40; decide, List.length_replicate⟩, by decide⟩
  cases List.mem_singleton.1 hT
  exact (W.2 _ rfl).1
theorem r165_end (d : Nat) : ∀ (m i : Nat) (h : MHeap) (A : Nat → List Int32), i + m = 37 → RH h F0i A → (∀ o, o ≠ 32 → A o = A0i o) → (∀ k, k < i → (A 32).getD k 0 = tx1.getD k 0) → ∃ h', ex (d + 11) 165 951 [sv (.ref 28), sv (.int (nI i))] [] h = some (none, h') ∧ RV h' s0 ∧ Fr h h' := by
  intro m
  induction m with
  | zero =>
    intro i h A hi H hA hp
    have i37 : i = 37 := hi
    subst i37
    have H8 := H.setF (fu F0i 8 37)
    have G8 : Fr h (h.set 28 (rC (fu F0i 8 37))) := Fr.st _ (by decide) (by decide) _
    obtain ⟨h', F', A', c1, H', G', g1, g2, g3, g4, g5, g6, g7⟩ := r_190 (tp := tpi) (L := 0) H8 rfl (by decide) rfl (fun i hi => (hp i hi).trans (tpi_ok i hi)) ((hA 39 (by decide)).trans rfl) (by decide) (by decide) tx_T0 (d + 1)
    have c1 : call (d + 11) 190 [.ref 28] _ = _ := c1
    refine ⟨h', ?_, ?_, G8.tr G'⟩
    · rw [e_165_951, if_neg (show ¬ nI 37 < (37 : Int32) by decide), H.p8, H8.v, c1]
      rfl
    · have a36 : A' 36 = List.replicate 4 0 := (g4 36 (by decide) (by decide) (by decide)).trans (hA 36 (by decide))
      have a35 : A' 35 = [-1, -1, -1, -1] := (g4 35 (by decide) (by decide) (by decide)).trans (hA 35 (by decide))
      have a37 : A' 37 = List.replicate 160 0 := (g4 37 (by decide) (by decide) (by decide)).trans (hA 37 (by decide))
      refine ⟨F', A', ⟨H', by decide, ⟨g1 0 (by decide) (by decide) (by decide), g1 1 (by decide) (by decide) (by decide), g1 2 (by decide) (by decide) (by decide), g1 3 (by decide) (by decide) (by decide)⟩, fun i e he => (by cases he)⟩, ⟨g1 13 (by decide) (by decide) (by decide), g1 14 (by decide) (by decide) (by decide), g1 15 (by decide) (by decide) (by decide), g1 16 (by decide) (by decide) (by decide), g1 17 (by decide) (by decide) (by decide), g1 18 (by decide) (by decide) (by decide)⟩, ⟨g2, fun i hi => (by cases hi)⟩, ⟨g3, g1 12 (by decide) (by decide) (by decide), fun i T hT => ?_⟩, fun s hs => ⟨?_, ?_, fun k hk => ?_⟩, (g4 39 (by decide) (by decide) (by decide)).trans ((hA 39 (by decide)).trans rfl)⟩
      · have i0 : i < 1 := (List.getElem?_eq_some_iff.1 hT).1
        have i0 : i = 0 := by omega
        subst i0
        cases hT
        exact g7 _ rfl
      · rw [a35]
        have : ∀ s, s < 4 → ([-1, -1, -1, -1] : List Int32).getD s 0 = -1 := by decide
        exact this s hs
      · rw [a36]; exact gD0 _ _
      · rw [a37, gD0]; exact (gD0 _ _).symm
  | succ m ih =>
    intro i h A hi H hA hp
    have lA : (A 32).length = 160 := (H.2 32 (by decide) (by decide)).2
    have H2 := H.setA (o := 32) (by decide) (by decide) (xs := (A 32).set i (tx1.getD i 0)) (by rw [List.length_set]; exact lA)
    have G2 : Fr h (h.set 32 (100, ((A 32).set i (tx1.getD i 0)).map .int)) := Fr.st _ (by decide) (by decide) _
    obtain ⟨h', e, R, G⟩ := ih (i + 1) _ _ (by omega) H2 (fun o ho => by rw [fu_ne _ _ ho]; exact hA o ho) (fun k hk => by
      rw [fu_eq, List.getD_eq_getElem?_getD, List.getElem?_set]
      by_cases z : i = k
      · subst z
        rw [if_pos rfl, if_pos (by omega)]
        rfl
      · rw [if_neg z, ← List.getD_eq_getElem?_getD]
        exact hp k (by omega))
    refine ⟨h', ?_, R, G2.tr G⟩
    rw [e_165_951, if_pos (show nI i < (37 : Int32) from nI_lt (b := 37) (by omega) (by decide)), H.f7, H.f22, dR_ref, H.al (o := 38) (by decide) (by decide) (by show i < 37; omega), dR_ref, H.as (o := 32) (by decide) (by decide) (by show i < 160; omega), e_165_969, nI_1, show A 38 = tx1 from hA 38 (by decide)]
    exact e
/-- the reference as it begins -/
theorem r_start {h : MHeap} (hl : h.length = 28) (d : Nat) : ∃ h', call (d + 12) 165 [.ref 28] (h ++ [(12, o12)]) = some (none, h') ∧ RV h' s0 ∧ h'.length = 45 ∧ ∀ a : Nat, a < 28 → h'[a]? = h[a]? := by
  match h, hl with
  | [x0, x1, x2, x3, x4, x5, x6, x7, x8, x9, x10, x11, x12, x13, x14, x15, x16, x17, x18, x19, x20, x21, x22, x23, x24, x25, x26, x27], _ =>
    obtain ⟨h', e, R, G⟩ := r165_end d 37 0 (rH1 (fun i => [x0, x1, x2, x3, x4, x5, x6, x7, x8, x9, x10, x11, x12, x13, x14, x15, x16, x17, x18, x19, x20, x21, x22, x23, x24, x25, x26, x27].getD i (0, []))) A0i rfl (rH1_ok _) (fun _ _ => rfl) (fun k hk => absurd hk (Nat.not_lt_zero k))
    refine ⟨h', (r165_go (d + 10) (fun i => [x0, x1, x2, x3, x4, x5, x6, x7, x8, x9, x10, x11, x12, x13, x14, x15, x16, x17, x18, x19, x20, x21, x22, x23, x24, x25, x26, x27].getD i (0, []))).trans e, R, G.1, fun a ha => ?_⟩
    rw [G.2 a (Or.inl ha)]
    match a, ha with
    | 0, _ => rfl
    | 1, _ => rfl
    | 2, _ => rfl
    | 3, _ => rfl
    | 4, _ => rfl
    | 5, _ => rfl
    | 6, _ => rfl
    | 7, _ => rfl
    | 8, _ => rfl
    | 9, _ => rfl
    | 10, _ => rfl
    | 11, _ => rfl
    | 12, _ => rfl
    | 13, _ => rfl
    | 14, _ => rfl
    | 15, _ => rfl
    | 16, _ => rfl
    | 17, _ => rfl
    | 18, _ => rfl
    | 19, _ => rfl
    | 20, _ => rfl
    | 21, _ => rfl
    | 22, _ => rfl
    | 23, _ => rfl
    | 24, _ => rfl
    | 25, _ => rfl
    | 26, _ => rfl
    | 27, _ => rfl
    | n + 28, ha => omega
