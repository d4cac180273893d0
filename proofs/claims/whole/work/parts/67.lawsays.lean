/-! lawSays and asksOf -/
abbrev nc (h : MHeap) (o : Nat) (a b c d e f : Int32) : MHeap := h.set o (100, [.int a, .int b, .int c, .int d, .int e, .int f])
theorem ar_as2 {h : MHeap} {o i : Nat} {y : MCell} {xs : List Int32} (H : h[o]? = some y) (hi : i < xs.length) (hx : xs.length < 2 ^ 31) (x : Int32) (k : MHeap → MRes) : asI none (h.set o (100, xs.map .int)) o (nI i) x k = k (h.set o (100, (xs.set i x).map .int)) := by
  rw [ar_as (gset H _) hi hx, List.set_set]
theorem nc_0 {h : MHeap} {o : Nat} {y : MCell} (H : h[o]? = some y) (a b c d e f x : Int32) (k : MHeap → MRes) : asI none (nc h o a b c d e f) o 0 x k = k (nc h o x b c d e f) := ar_as2 (xs := [a, b, c, d, e, f]) (i := 0) H (show 0 < 6 by decide) (show 6 < 2 ^ 31 by decide) x k
theorem nc_1 {h : MHeap} {o : Nat} {y : MCell} (H : h[o]? = some y) (a b c d e f x : Int32) (k : MHeap → MRes) : asI none (nc h o a b c d e f) o 1 x k = k (nc h o a x c d e f) := ar_as2 (xs := [a, b, c, d, e, f]) (i := 1) H (show 1 < 6 by decide) (show 6 < 2 ^ 31 by decide) x k
theorem nc_2 {h : MHeap} {o : Nat} {y : MCell} (H : h[o]? = some y) (a b c d e f x : Int32) (k : MHeap → MRes) : asI none (nc h o a b c d e f) o 2 x k = k (nc h o a b x d e f) := ar_as2 (xs := [a, b, c, d, e, f]) (i := 2) H (show 2 < 6 by decide) (show 6 < 2 ^ 31 by decide) x k
theorem nc_3 {h : MHeap} {o : Nat} {y : MCell} (H : h[o]? = some y) (a b c d e f x : Int32) (k : MHeap → MRes) : asI none (nc h o a b c d e f) o 3 x k = k (nc h o a b c x e f) := ar_as2 (xs := [a, b, c, d, e, f]) (i := 3) H (show 3 < 6 by decide) (show 6 < 2 ^ 31 by decide) x k
theorem nc_4 {h : MHeap} {o : Nat} {y : MCell} (H : h[o]? = some y) (a b c d e f x : Int32) (k : MHeap → MRes) : asI none (nc h o a b c d e f) o 4 x k = k (nc h o a b c d x f) := ar_as2 (xs := [a, b, c, d, e, f]) (i := 4) H (show 4 < 6 by decide) (show 6 < 2 ^ 31 by decide) x k
theorem nc_5 {h : MHeap} {o : Nat} {y : MCell} (H : h[o]? = some y) (a b c d e f x : Int32) (k : MHeap → MRes) : asI none (nc h o a b c d e f) o 5 x k = k (nc h o a b c d e x) := ar_as2 (xs := [a, b, c, d, e, f]) (i := 5) H (show 5 < 6 by decide) (show 6 < 2 ^ 31 by decide) x k
theorem len6 {n : List Int32} (h : n.length = 6) : ∃ a b c d e f, n = [a, b, c, d, e, f] := by
  match n, h with
  | [a, b, c, d, e, f], _ => exact ⟨a, b, c, d, e, f, rfl⟩
abbrev c12 (lp : List Nat) : MCell := (102, lp.map .ref ++ List.replicate (6 - lp.length) .null)
theorem c_143 {h : MHeap} {c w : Nat} {b : Int32} {hs : List Ent} {lc : Int32} {ps lp : List Nat} {L p q : Nat} {T : Txt} (H : CB h c w b hs lc (nI L) ps) (C : CS h) (h12 : h[12]? = some (c12 lp)) (hl6 : lp.length ≤ 6) (hp : lp[L]? = some p) (K : LwC h p q T) (W : wfT T) (d : Nat) {g i : Nat} (hg : g < 3) (hi : i < 12) : ∃ h', call (d + 6) 143 [.ref 3, .int (nI g), .int (nI i), .int (nI (fln c w hs b))] h = some (some (.int (clp (tvl (nms c w b hs i) T g))), h') ∧ FD h h' := by
  have hb := H.bd
  have hL : L < lp.length := (List.getElem?_eq_some_iff.1 hp).1
  have C' := C
  obtain ⟨u0, v, n, s, ⟨c1, d1⟩, ⟨c2, d2⟩, ⟨c3, d3⟩, ⟨c4, d4⟩⟩ := C'
  obtain ⟨a0, a1, a2, a3, a4, a5, rfl⟩ := len6 d3
  have h12l : (lp.map Value.ref ++ List.replicate (6 - lp.length) Value.null).length = 6 := by simp; omega
  have l12 : ∀ k : Int32 → MRes, aln none h 12 k = k 6 := by
    intro k
    simp only [aln, h12, c12, h12l]
    rfl
  have v12 : ∀ k : Value → MRes, alV none h 12 (nI L) k = k (.ref p) := by
    intro k
    have h2 : (lp.map Value.ref ++ List.replicate (6 - lp.length) Value.null)[L]? = some (.ref p) := by
      rw [List.getElem?_append_left (by simpa using hL), List.getElem?_map, hp]; rfl
    simp only [alV, h12, c12, nI_clamp (show L < 2 ^ 31 by omega), h2, nI_pos (show L < 2 ^ 31 by omega), dA_ref]
    rfl
  have HH : ∀ a b' c' d' e f : Int32, CB (nc h 24 a b' c' d' e f) c w b hs lc (nI L) ps := fun a b' c' d' e f => H.fc C (FD.s24 C (u := [a, b', c', d', e, f]) rfl).fc
  have h0 : nc h 24 a0 a1 a2 a3 a4 a5 = h := set_self c3
  have b1 : (if bt b i then (1 : Int32) else 0) = bI (bt b i) := by cases bt b i <;> rfl
  have G1 : FD h (h.set 24 (100, (nms c w b hs i).map .int)) := FD.s24 C rfl
  have K2 : LwC (h.set 24 (100, (nms c w b hs i).map .int)) p q T := by
    obtain ⟨k1, k2, k3, k4⟩ := K
    exact ⟨by rw [gset_ne _ (by omega)]; exact k1, by rw [gset_ne _ (by omega)]; exact k2, k3, k4⟩
  obtain ⟨h', e2, G2⟩ := c_36 K2 W G1.2.2 (nm := nms c w b hs i) (gset c3 _) rfl (d + 1) hg
  have e2 : call (d + 5) 36 [.ref p, .int (nI g), .ref 24, .ref 25] (nc h 24 (nI i) (nI (i / w)) (nI (i % w)) (bI (bt b i)) (nI c) (nI (fln c w hs b))) = _ := e2
  have vp : ∀ k : Nat → MRes, vd none (nc h 24 (nI i) (nI (i / w)) (nI (i % w)) (bI (bt b i)) (nI c) (nI (fln c w hs b))) p [5, 36] k = k 36 := fun k => vd_at K2.1 rfl k
  refine ⟨h', ?_, G1.tr G2⟩
  have s0 : ∀ (x : Int32) (k : MHeap → MRes), asI none h 24 0 x k = k (nc h 24 x a1 a2 a3 a4 a5) := by
    intro x k
    have := nc_0 c3 a0 a1 a2 a3 a4 a5 x k
    rw [h0] at this
    exact this
  rw [e_143]
  simp only [H.o0, H.o1, H.o2, H.o3, H.o4, H.o5, H.o6, H.o7, H.o8, H.o9, H.o10, H.b0, H.b1, H.b2, H.b3, H.b4, H.v3, H.v4, dR_ref, dA_ref, dA_null, dN_ref, dN_null, dD_ref, dD_int, cI_s, cV_s, cR_r, cR_n, cJ_s, bI_0, bI_1, zr_bI, zr_0, zr_1, eq_self, if_true, if_false, i10, i20, i01, i21, i02, i12, ior0, iad0, Bool.true_eq_false, Bool.false_eq_true, l12, v12, c_133, show (6 : Int32) - 1 = nI 5 from by decide, inR_nI (show L < 2 ^ 31 by omega) (show 5 < 2 ^ 31 by decide), decide_eq_true (show L ≤ 5 by omega), s0, (HH _ _ _ _ _ _).o0, (HH _ _ _ _ _ _).o9, (HH _ _ _ _ _ _).o10, (HH _ _ _ _ _ _).b0, (HH _ _ _ _ _ _).b1, (HH _ _ _ _ _ _).b2, c_1 _ (show i < 2 ^ 31 by omega) hb.2.2.1 (show w < 2 ^ 31 by omega), c_2 _ (show i < 2 ^ 31 by omega) hb.2.2.1 (show w < 2 ^ 31 by omega), nc_1 c3, nc_2 c3, nc_3 c3, nc_4 c3, nc_5 c3, c_137b]
  cases x : bt b i with
  | false =>
    rw [x] at e2 vp
    rw [if_pos rfl]
    show vd none _ p [5, 36] _ = _
    rw [show (0 : Int32) = bI false from rfl, vp, e2, cI_s, c_min, cI_s, c_max, cI_s]
    show (some (some (Value.int (if (0 : Int32) < _ then _ else (0 : Int32))), h') : MRes) = _
    rw [clp_mm]
  | true =>
    rw [x] at e2 vp
    rw [if_neg (by decide)]
    show vd none _ p [5, 36] _ = _
    rw [show (1 : Int32) = bI true from rfl, vp, e2, cI_s, c_min, cI_s, c_max, cI_s]
    show (some (some (Value.int (if (0 : Int32) < _ then _ else (0 : Int32))), h') : MRes) = _
    rw [clp_mm]
