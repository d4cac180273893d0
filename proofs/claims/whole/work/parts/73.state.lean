/-! the whole state of both, and what a call does to it -/
abbrev Img : Type := Bool × Nat × Nat × Nat × Nat × Nat
abbrev Sht : Type := Int32 × Nat × List Int32
abbrev Sta : Type := Nat × Nat × Nat × List Ent × Nat × List Txt × List Nat × Img × (Nat → Sht)
def CIm (h : MHeap) (im : Img) : Prop := h[6]? = some (4, [.int (bI im.1), .int (nI im.2.1), .int (nI im.2.2.1), .int (nI im.2.2.2.1), .int (nI im.2.2.2.2.1), .int (nI im.2.2.2.2.2)])
abbrev c7 (n : Nat) (x y z : Int32) : MCell := (9, [.int (nI n), .ref 8, .ref 9, .ref 10, .ref 11, .int x, .int y, .int z])
def arr (h : MHeap) (o : Nat) (xs : List Int32) (n : Nat) : Prop := h[o]? = some (100, xs.map .int) ∧ xs.length = n
def CTp (h : MHeap) (tp : List Nat) : Prop := ∃ (x y z : Int32) (bs tk pl it : List Int32), h[7]? = some (c7 tp.length x y z) ∧ arr h 8 bs 160 ∧ (∀ i, i < tp.length → bs.getD i 0 = nI (tp.getD i 0)) ∧ arr h 9 tk 161 ∧ arr h 10 pl 161 ∧ arr h 11 it 160
def CTx (h : MHeap) (Ts : List Txt) : Prop := ∃ lp : List Nat, h[12]? = some (c12 lp) ∧ lp.length = Ts.length ∧ ∀ (i : Nat) (T : Txt), Ts[i]? = some T → ∃ p q, lp[i]? = some p ∧ LwC h p q T
def CSh (h : MHeap) (sh : Nat → Sht) : Prop := h[13]? = some (103, [.ref 14, .ref 16, .ref 18, .ref 20]) ∧ ∀ s, s < 4 → h[14 + 2 * s]? = some (7, [.int (sh s).1, .int (nI (sh s).2.1), .ref (15 + 2 * s)]) ∧ arr h (15 + 2 * s) (sh s).2.2 40
def CCn (h : MHeap) : Prop := h[1]? = some (98, tx1.map .int) ∧ h[2]? = some (98, tx2.map .int)
def BG (h : MHeap) : Prop := ∀ (a t : Nat) (xs : List Value), (a = 26 ∨ a = 27 ∨ 44 < a) → h[a]? = some (t, xs) → xs.length ≤ 160
def CV (h : MHeap) : Sta → Prop
  | (c, w, B, hs, L, Ts, tp, im, sh) => ∃ ps : List Nat, CB h c w (nI B) hs (nI Ts.length) (nI L) ps ∧ (∀ p ∈ ps, 44 < p) ∧ ps.Nodup ∧ CS h ∧ CIm h im ∧ CTp h tp ∧ CTx h Ts ∧ CSh h sh ∧ CCn h ∧ BG h ∧ 45 ≤ h.length
def wds : List Int32 := [116, 117, 114, 110, 115, 32, 32, 32, 115, 119, 97, 112, 115, 32, 32, 32, 108, 111, 111, 107, 115, 32, 32, 32, 99, 97, 114, 100, 32, 32, 32, 32, 114, 111, 119, 32, 32, 32, 32, 32, 99, 111, 108, 117, 109, 110, 32, 32, 98, 97, 99, 107, 32, 32, 32, 32, 109, 97, 110, 121, 32, 32, 32, 32, 102, 97, 105, 108, 115, 32, 32, 32, 111, 114, 32, 32, 32, 32, 32, 32, 97, 110, 100, 32, 32, 32, 32, 32, 110, 111, 116, 32, 32, 32, 32, 32]
def RIm (F : Nat → Int32) (im : Img) : Prop := F 13 = bI im.1 ∧ F 14 = nI im.2.1 ∧ F 15 = nI im.2.2.1 ∧ F 16 = nI im.2.2.2.1 ∧ F 17 = nI im.2.2.2.2.1 ∧ F 18 = nI im.2.2.2.2.2
def RTp (F : Nat → Int32) (A : Nat → List Int32) (tp : List Nat) : Prop := F 8 = nI tp.length ∧ ∀ i, i < tp.length → (A 32).getD i 0 = nI (tp.getD i 0)
def RTs (F : Nat → Int32) (A : Nat → List Int32) (L : Nat) (Ts : List Txt) : Prop := F 11 = nI Ts.length ∧ F 12 = nI L ∧ ∀ (i : Nat) (T : Txt), Ts[i]? = some T → RTx A i T
def RSh (A : Nat → List Int32) (sh : Nat → Sht) : Prop := ∀ s, s < 4 → (A 35).getD s 0 = (sh s).1 ∧ (A 36).getD s 0 = nI (sh s).2.1 ∧ ∀ k, k < 40 → (A 37).getD (40 * s + k) 0 = (sh s).2.2.getD k 0
def RV (h : MHeap) : Sta → Prop
  | (c, w, B, hs, L, Ts, tp, im, sh) => ∃ (F : Nat → Int32) (A : Nat → List Int32), RB h F A c w (nI B) hs ∧ RIm F im ∧ RTp F A tp ∧ RTs F A L Ts ∧ RSh A sh ∧ A 39 = wds
def OKS : Sta → Prop
  | (c, w, B, hs, L, Ts, tp, im, sh) => B < 2 ^ c ∧ L < Ts.length ∧ Ts.length ≤ 6 ∧ (∀ T ∈ Ts, wfT T) ∧ tp.length ≤ 160 ∧ (∀ x ∈ tp, x < 256) ∧ im.2.2.2.2.1 ≤ 7 ∧ (im.1 = true → (0 < im.2.1 ∧ im.2.1 ≤ 12 ∧ 0 < im.2.2.1 ∧ im.2.2.1 ≤ 12 ∧ im.2.2.2.1 < 2 ^ im.2.1 ∧ im.2.2.2.2.1 ≤ hs.length ∧ im.2.2.2.2.2 < Ts.length)) ∧ (∀ s, s < 4 → (sh s).2.1 ≤ 40 ∧ (sh s).2.2.length = 40) ∧ (0 < c ∧ c ≤ 12 ∧ 0 < w ∧ w ≤ 12 ∧ hs.length ≤ 7)
/-! what each part rests on -/
theorem CB.tr {h h' : MHeap} {c w : Nat} {b : Int32} {hs : List Ent} {lc lw : Int32} {ps : List Nat} (H : CB h c w b hs lc lw ps) (hp : ∀ p ∈ ps, 44 < p) (e : ∀ a : Nat, (3 ≤ a ∧ a ≤ 5) ∨ 44 < a → a < h.length → h'[a]? = h[a]?) : CB h' c w b hs lc lw ps := by
  have e : ∀ (a : Nat) (x : MCell), (3 ≤ a ∧ a ≤ 5) ∨ 44 < a → h[a]? = some x → h'[a]? = some x := fun a x h1 h2 => by rw [e a h1 (List.getElem?_eq_some_iff.1 h2).1]; exact h2
  obtain ⟨h1, h2, h3, h4, h5, h6⟩ := H
  refine ⟨h1, e 3 _ (by decide) h2, e 4 _ (by decide) h3, e 5 _ (by decide) h4, h5, ?_⟩
  intro i x hx
  obtain ⟨q1, p, q2, q3⟩ := h6 i x hx
  exact ⟨q1, p, q2, e p _ (Or.inr (hp p (List.mem_of_getElem? q2))) q3⟩
theorem CS.tr {h h' : MHeap} (H : CS h) (e : ∀ a : Nat, 22 ≤ a ∧ a ≤ 25 → h'[a]? = h[a]?) : CS h' := by
  unfold CS
  rw [e 22 (by decide), e 23 (by decide), e 24 (by decide), e 25 (by decide)]
  exact H
theorem CTp.tr {h h' : MHeap} {tp : List Nat} (H : CTp h tp) (e : ∀ a : Nat, 7 ≤ a ∧ a ≤ 11 → h'[a]? = h[a]?) : CTp h' tp := by
  unfold CTp arr
  rw [e 7 (by decide), e 8 (by decide), e 9 (by decide), e 10 (by decide), e 11 (by decide)]
  exact H
theorem LwC.tr {h h' : MHeap} {p q : Nat} {T : Txt} (H : LwC h p q T) (e : ∀ a : Nat, a = 26 ∨ a = 27 ∨ 44 < a → a < h.length → h'[a]? = h[a]?) : LwC h' p q T := by
  obtain ⟨k1, k2, k3, k4⟩ := H
  exact ⟨by rw [e p (by omega) (List.getElem?_eq_some_iff.1 k1).1]; exact k1, by rw [e q (by omega) (List.getElem?_eq_some_iff.1 k2).1]; exact k2, k3, k4⟩
theorem CTx.tr {h h' : MHeap} {Ts : List Txt} (H : CTx h Ts) (e1 : h'[12]? = h[12]?) (e : ∀ a : Nat, a = 26 ∨ a = 27 ∨ 44 < a → a < h.length → h'[a]? = h[a]?) : CTx h' Ts := by
  obtain ⟨lp, k1, k2, k3⟩ := H
  refine ⟨lp, by rw [e1]; exact k1, k2, ?_⟩
  intro i T hT
  obtain ⟨p, q, k4, k5⟩ := k3 i T hT
  exact ⟨p, q, k4, k5.tr e⟩
theorem CSh.tr {h h' : MHeap} {sh : Nat → Sht} (H : CSh h sh) (e : ∀ a : Nat, 13 ≤ a ∧ a ≤ 21 → h'[a]? = h[a]?) : CSh h' sh := by
  refine ⟨by rw [e 13 (by decide)]; exact H.1, ?_⟩
  intro s hs
  unfold arr
  rw [e (14 + 2 * s) (by omega), e (15 + 2 * s) (by omega)]
  exact H.2 s hs
theorem CCn.tr {h h' : MHeap} (H : CCn h) (e : ∀ a : Nat, 1 ≤ a ∧ a ≤ 2 → h'[a]? = h[a]?) : CCn h' := by
  unfold CCn
  rw [e 1 (by decide), e 2 (by decide)]
  exact H
theorem BG.tr {h h' : MHeap} (H : BG h) (e : ∀ a : Nat, a = 26 ∨ a = 27 ∨ 44 < a → h'[a]? = h[a]?) : BG h' := by
  intro a t xs ha hx
  rw [e a ha] at hx
  exact H a t xs ha hx
def FrC (h h1 : MHeap) : Prop := (∀ a : Nat, (a = 0 ∨ (28 ≤ a ∧ a ≤ 44)) → h1[a]? = h[a]?) ∧ h.length ≤ h1.length ∧ h1.length ≤ h.length + 8
theorem CV.fr {h h' : MHeap} : ∀ {s : Sta}, CV h s → (∀ a : Nat, (0 < a ∧ a < 28) ∨ 44 < a → h'[a]? = h[a]?) → h'.length = h.length → CV h' s
  | (c, w, B, hs, L, Ts, tp, im, sh), H, e, el => by
    obtain ⟨ps, h1, h2, h3, h4, h5, h6, h7, h8, h9, h10, h11⟩ := H
    exact ⟨ps, h1.tr h2 (fun a ha _ => e a (by omega)), h2, h3, h4.tr (fun a ha => e a (by omega)), by unfold CIm; rw [e 6 (by decide)]; exact h5, h6.tr (fun a ha => e a (by omega)), h7.tr (e 12 (by decide)) (fun a ha _ => e a (by omega)), h8.tr (fun a ha => e a (by omega)), h9.tr (fun a ha => e a (by omega)), h10.tr (fun a ha => e a (by omega)), by omega⟩
theorem RH.tr {h h' : MHeap} {F : Nat → Int32} {A : Nat → List Int32} (H : RH h F A) (e : ∀ a : Nat, 28 ≤ a ∧ a ≤ 44 → h'[a]? = h[a]?) : RH h' F A := by
  refine ⟨by rw [e 28 (by decide)]; exact H.1, ?_⟩
  intro o h1 h2
  rw [e o (by omega)]
  exact H.2 o h1 h2
theorem RV.fr {h h' : MHeap} : ∀ {s : Sta}, RV h s → (∀ a : Nat, 28 ≤ a ∧ a ≤ 44 → h'[a]? = h[a]?) → RV h' s
  | (c, w, B, hs, L, Ts, tp, im, sh), H, e => by
    obtain ⟨F, A, h1, h2⟩ := H
    exact ⟨F, A, ⟨h1.1.tr e, h1.2⟩, h2⟩
theorem RV.ss {h' : MHeap} {F F' : Nat → Int32} {A A' : Nat → List Int32} {c w B : Nat} {hs : List Ent} {L : Nat} {Ts : List Txt} {tp : List Nat} {im : Img} {sh : Nat → Sht} (h1 : RB h' F' A' c w (nI B) hs) (S : SS F A F' A') (h2 : RIm F im ∧ RTp F A tp ∧ RTs F A L Ts ∧ RSh A sh ∧ A 39 = wds) : RV h' (c, w, B, hs, L, Ts, tp, im, sh) := by
  refine ⟨F', A', h1, ?_⟩
  unfold RIm RTp RTs RSh RTx
  rw [S.1 13 (by decide), S.1 14 (by decide), S.1 15 (by decide), S.1 16 (by decide), S.1 17 (by decide), S.1 18 (by decide), S.1 8 (by decide), S.1 11 (by decide), S.1 12 (by decide), S.2 32 (by decide), S.2 33 (by decide), S.2 34 (by decide), S.2 35 (by decide), S.2 36 (by decide), S.2 37 (by decide), S.2 39 (by decide)]
  exact h2
/-- a call of both -/
def OP (mc mr : Nat) (as : List Value) : Prop := ∀ s : Sta, OKS s → ∃ (v : Int32) (s' : Sta), OKS s' ∧ (∀ (d : Nat) (h : MHeap), CV h s → ∃ h1, call (d + 200) mc (.ref 3 :: as) h = some (some (.int v), h1) ∧ CV h1 s' ∧ FrC h h1) ∧ (∀ (d : Nat) (h : MHeap), RV h s → ∃ h2, call (d + 200) mr (.ref 28 :: as) h = some (some (.int v), h2) ∧ RV h2 s' ∧ Fr h h2)
def OPJ (mc mr : Nat) (as : List Value) : Prop := ∀ s : Sta, OKS s → ∃ (v : Int64) (s' : Sta), OKS s' ∧ (∀ (d : Nat) (h : MHeap), CV h s → ∃ h1, call (d + 200) mc (.ref 3 :: as) h = some (some (.long v), h1) ∧ CV h1 s' ∧ FrC h h1) ∧ (∀ (d : Nat) (h : MHeap), RV h s → ∃ h2, call (d + 200) mr (.ref 28 :: as) h = some (some (.long v), h2) ∧ RV h2 s' ∧ Fr h h2)
theorem OP.qJ {mc mr : Nat} {as : List Value} (H : ∀ (c w B : Nat) (hs : List Ent), B < 2 ^ c → PQJ c w (nI B) hs mc mr as) : OPJ mc mr as
  | (c, w, B, hs, L, Ts, tp, im, sh), ok => by
    obtain ⟨v, q1, q2⟩ := H c w B hs ok.1
    refine ⟨v, (c, w, B, hs, L, Ts, tp, im, sh), ok, ?_, ?_⟩
    · intro d h K
      have K' := K
      obtain ⟨ps, h1, _⟩ := K'
      exact ⟨h, q1 (d + 180) h _ _ ps h1, K, fun _ _ => rfl, Nat.le_refl _, Nat.le_add_right _ _⟩
    · intro d h K
      obtain ⟨F, A, h1, h2⟩ := K
      obtain ⟨h', F', A', e, H', F1, S1⟩ := q2 (d + 180) h F A h1
      exact ⟨h', e, RV.ss H' S1 h2, F1⟩
theorem OP.q2 {mc mr : Nat} {as : List Value} (H : ∀ (c w B : Nat) (hs : List Ent), B < 2 ^ c → PQ2 c w (nI B) hs mc mr as) : OP mc mr as
  | (c, w, B, hs, L, Ts, tp, im, sh), ok => by
    obtain ⟨v, q1, q2⟩ := H c w B hs ok.1
    refine ⟨v, (c, w, B, hs, L, Ts, tp, im, sh), ok, ?_, ?_⟩
    · intro d h K
      have K' := K
      obtain ⟨ps, h1, h2, h3, h4, _⟩ := K'
      obtain ⟨h', e, G⟩ := q1 (d + 180) h _ _ ps h1 h4
      refine ⟨h', e, ?_, fun a ha => G.2.1 a (by omega), by rw [G.1]; exact Nat.le_refl _, by rw [G.1]; omega⟩
      obtain ⟨ps, h1, h2, h3, h4, h5, h6, h7, h8, h9, h10, h11⟩ := K
      exact ⟨ps, h1.tr h2 (fun a ha _ => G.2.1 a (by omega)), h2, h3, G.2.2, by unfold CIm; rw [G.2.1 6 (by decide)]; exact h5, h6.tr (fun a ha => G.2.1 a (by omega)), h7.tr (G.2.1 12 (by decide)) (fun a ha _ => G.2.1 a (by omega)), h8.tr (fun a ha => G.2.1 a (by omega)), h9.tr (fun a ha => G.2.1 a (by omega)), h10.tr (fun a ha => G.2.1 a (by omega)), by rw [G.1]; exact h11⟩
    · intro d h K
      obtain ⟨F, A, h1, h2⟩ := K
      obtain ⟨h', F', A', e, H', F1, S1⟩ := q2 (d + 180) h F A h1
      exact ⟨h', e, RV.ss H' S1 h2, F1⟩
theorem OP.q {mc mr : Nat} {as : List Value} (H : ∀ (c w B : Nat) (hs : List Ent), B < 2 ^ c → PQ c w (nI B) hs mc mr as) : OP mc mr as := OP.q2 fun c w B hs hB => (H c w B hs hB).to2
theorem OP.q3 {mc mr : Nat} {as : List Value} (H : ∀ (c w B : Nat) (hs : List Ent) (T : Txt), B < 2 ^ c → wfT T → PQ3 c w (nI B) hs T mc mr as) : OP mc mr as
  | (c, w, B, hs, L, Ts, tp, im, sh), ok => by
    have ok' := ok
    obtain ⟨o1, o2, o3, o4, _⟩ := ok'
    obtain ⟨T, hT⟩ : ∃ T, Ts[L]? = some T := ⟨_, List.getElem?_eq_getElem o2⟩
    have W : wfT T := o4 T (List.mem_of_getElem? hT)
    obtain ⟨v, q1, q2⟩ := H c w B hs T o1 W
    refine ⟨v, (c, w, B, hs, L, Ts, tp, im, sh), ok, ?_, ?_⟩
    · intro d h K
      have K' := K
      obtain ⟨ps, h1, h2, h3, h4, _, _, ⟨lp, k1, k2, k3⟩, _⟩ := K'
      obtain ⟨p, q, k4, k5⟩ := k3 L T hT
      obtain ⟨h', e, G⟩ := q1 (d + 180) h _ _ ps h1 h4 (CA.of h1 h4 k1 (by omega) k4 k5 W)
      refine ⟨h', e, ?_, fun a ha => G.2.1 a (by omega), by rw [G.1]; exact Nat.le_refl _, by rw [G.1]; omega⟩
      obtain ⟨ps, h1, h2, h3, h4, h5, h6, h7, h8, h9, h10, h11⟩ := K
      exact ⟨ps, h1.tr h2 (fun a ha _ => G.2.1 a (by omega)), h2, h3, G.2.2, by unfold CIm; rw [G.2.1 6 (by decide)]; exact h5, h6.tr (fun a ha => G.2.1 a (by omega)), h7.tr (G.2.1 12 (by decide)) (fun a ha _ => G.2.1 a (by omega)), h8.tr (fun a ha => G.2.1 a (by omega)), h9.tr (fun a ha => G.2.1 a (by omega)), h10.tr (fun a ha => G.2.1 a (by omega)), by rw [G.1]; exact h11⟩
    · intro d h K
      obtain ⟨F, A, h1, h2⟩ := K
      obtain ⟨h', F', A', e, H', F1, S1⟩ := q2 (d + 180) h F A L h1 (by omega) h2.2.2.1.2.1 (h2.2.2.1.2.2 L T hT)
      exact ⟨h', e, RV.ss H' S1 h2, F1⟩
theorem OP.q3J {mc mr : Nat} {as : List Value} (H : ∀ (c w B : Nat) (hs : List Ent) (T : Txt), B < 2 ^ c → wfT T → PQ3J c w (nI B) hs T mc mr as) : OPJ mc mr as
  | (c, w, B, hs, L, Ts, tp, im, sh), ok => by
    have ok' := ok
    obtain ⟨o1, o2, o3, o4, _⟩ := ok'
    obtain ⟨T, hT⟩ : ∃ T, Ts[L]? = some T := ⟨_, List.getElem?_eq_getElem o2⟩
    have W : wfT T := o4 T (List.mem_of_getElem? hT)
    obtain ⟨v, q1, q2⟩ := H c w B hs T o1 W
    refine ⟨v, (c, w, B, hs, L, Ts, tp, im, sh), ok, ?_, ?_⟩
    · intro d h K
      have K' := K
      obtain ⟨ps, h1, h2, h3, h4, _, _, ⟨lp, k1, k2, k3⟩, _⟩ := K'
      obtain ⟨p, q, k4, k5⟩ := k3 L T hT
      obtain ⟨h', e, G⟩ := q1 (d + 180) h _ _ ps h1 h4 (CA.of h1 h4 k1 (by omega) k4 k5 W)
      refine ⟨h', e, ?_, fun a ha => G.2.1 a (by omega), by rw [G.1]; exact Nat.le_refl _, by rw [G.1]; omega⟩
      obtain ⟨ps, h1, h2, h3, h4, h5, h6, h7, h8, h9, h10, h11⟩ := K
      exact ⟨ps, h1.tr h2 (fun a ha _ => G.2.1 a (by omega)), h2, h3, G.2.2, by unfold CIm; rw [G.2.1 6 (by decide)]; exact h5, h6.tr (fun a ha => G.2.1 a (by omega)), h7.tr (G.2.1 12 (by decide)) (fun a ha _ => G.2.1 a (by omega)), h8.tr (fun a ha => G.2.1 a (by omega)), h9.tr (fun a ha => G.2.1 a (by omega)), h10.tr (fun a ha => G.2.1 a (by omega)), by rw [G.1]; exact h11⟩
    · intro d h K
      obtain ⟨F, A, h1, h2⟩ := K
      obtain ⟨h', F', A', e, H', F1, S1⟩ := q2 (d + 180) h F A L h1 (by omega) h2.2.2.1.2.1 (h2.2.2.1.2.2 L T hT)
      exact ⟨h', e, RV.ss H' S1 h2, F1⟩
theorem op_asks (g a : Int32) : OP 91 195 [.int g, .int a] := OP.q3 fun _ _ _ _ _ _ W => q_asks W g a
theorem op_told (a g : Int32) : OP 94 206 [.int a, .int g] := OP.q fun _ _ _ _ _ => q_told a g
theorem op_signs (a : Int32) : OP 95 207 [.int a] := OP.q fun _ _ _ _ _ => q_signs a
theorem op_look (a : Int32) : OP 96 208 [.int a] := OP.q fun _ _ _ _ _ => q_look a
theorem op_one : OP 97 211 [] := OP.q fun _ _ _ _ _ => q_one
theorem op_two (a : Int32) : OP 98 212 [.int a] := OP.q fun _ _ _ _ _ => q_two a
theorem op_counts (a : Int32) : OP 99 213 [.int a] := OP.q fun _ _ _ _ _ => q_counts a
theorem op_unseen (a : Int32) : OP 100 214 [.int a] := OP.q fun _ _ _ _ _ => q_unseen a
theorem op_apart (a : Int32) : OP 101 215 [.int a] := OP.q2 fun _ _ _ _ _ => q_apart a
theorem op_reach (a : Int32) : OP 102 216 [.int a] := OP.q2 fun _ _ _ _ _ => q_reach a
theorem op_lay (a g : Int32) : OP 103 218 [.int a, .int g] := OP.q fun _ _ _ _ _ => q_lay a g
theorem op_needs (a : Int32) : OP 105 220 [.int a] := OP.q fun _ _ _ _ _ => q_needs a
theorem op_can (a : Int32) : OP 106 222 [.int a] := OP.q fun _ _ _ _ _ => q_can a
theorem op_reads : OP 107 224 [] := OP.q fun _ _ _ _ _ => q_reads
theorem op_coin (a : Int32) : OP 108 225 [.int a] := OP.q fun _ _ _ _ _ => q_coin a
theorem op_swaps (a : Int32) : OP 109 226 [.int a] := OP.q fun _ _ _ _ _ => q_swaps a
theorem op_swept (a g : Int32) : OP 110 227 [.int a, .int g] := OP.q fun _ _ _ _ _ => q_swept a g
theorem op_cuts (a : Int32) : OP 112 230 [.int a] := OP.q fun _ _ _ _ hB => q_cuts hB a
theorem op_moves (a : Int32) : OP 114 233 [.int a] := OP.q fun _ _ _ _ _ => q_moves a
theorem op_likely (a : Int32) : OP 115 236 [.int a] := OP.q3 fun _ _ _ _ _ _ W => q_likely W a
theorem op_right (a : Int32) : OPJ 116 238 [.int a] := OP.q3J fun _ _ _ _ _ _ W => q_right W a
theorem op_cheapest (a : Int32) : OP 117 239 [.int a] := OP.q3 fun _ _ _ _ _ _ W => q_cheapest W a
theorem op_lies : OP 118 240 [] := OP.q fun _ _ _ _ _ => q_lies
theorem op_idle : OP 119 241 [] := OP.q fun _ _ _ _ hB => q_idle hB
theorem op_evening (a g : Int32) : OP 124 250 [.int a, .int g] := OP.q fun _ _ _ _ _ => q_evening a g
theorem op_odds (a n g : Int32) : OPJ 125 251 [.int a, .int n, .int g] := OP.qJ fun _ _ _ _ _ => q_odds a n g
theorem op_taken (a g : Int32) : OP 132 259 [.int a, .int g] := OP.q fun _ _ _ _ _ => q_taken a g
