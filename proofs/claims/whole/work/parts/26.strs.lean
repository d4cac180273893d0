/-! the two texts, and the library's methods over them -/
def tx1 : List Int32 := [116, 117, 114, 110, 115, 32, 49, 48, 32, 59, 32, 115, 119, 97, 112, 115, 32, 53, 32, 59, 32, 108, 111, 111, 107, 115, 32, 49, 32, 43, 32, 109, 97, 110, 121, 32, 59]
def tx2 : List Int32 := [116, 117, 114, 110, 115, 32, 115, 119, 97, 112, 115, 32, 108, 111, 111, 107, 115, 32, 111, 114, 32, 97, 110, 100, 32, 110, 111, 116, 32, 99, 97, 114, 100, 32, 114, 111, 119, 32, 99, 111, 108, 117, 109, 110, 32, 98, 97, 99, 107, 32, 109, 97, 110, 121, 32, 102, 97, 105, 108, 115, 32]
def lenS : List Nat := [37, 61]
def bytS : List (List Int32) := [tx1, tx2]
def yS_coder : MethodName := ⟨"java/lang/String", "coder", "()B"⟩
abbrev bS_coder : ByteArray := prog_18_method_152_code
def wS_coder : List Cond := .code yS_coder bS_coder 1 (some .byte) :: gtbl
theorem gS_coder : GoodIn gtbl wS_coder := fun w hw => (List.mem_cons.mp hw).elim (fun q => by subst q; exact ⟨(tc_ok 1156 rfl rfl), good_g (tc_ok 1156 rfl rfl)⟩) (fun q => ⟨q, good_g q⟩)
def yS_len : MethodName := ⟨"java/lang/String", "length", "()I"⟩
abbrev bS_len : ByteArray := prog_18_method_54_code
def wS_len : List Cond := .code yS_len bS_len 1 (some .int) :: gtbl
theorem gS_len : GoodIn gtbl wS_len := fun w hw => (List.mem_cons.mp hw).elim (fun q => by subst q; exact ⟨(tc_ok 1152 rfl rfl), good_g (tc_ok 1152 rfl rfl)⟩) (fun q => ⟨q, good_g q⟩)
def yS_lat : MethodName := ⟨"java/lang/String", "isLatin1", "()Z"⟩
abbrev bS_lat : ByteArray := prog_18_method_154_code
def wS_lat : List Cond := .code yS_lat bS_lat 1 (some .boolean) :: gtbl
theorem gS_lat : GoodIn gtbl wS_lat := fun w hw => (List.mem_cons.mp hw).elim (fun q => by subst q; exact ⟨(tc_ok 1166 rfl rfl), good_g (tc_ok 1166 rfl rfl)⟩) (fun q => ⟨q, good_g q⟩)
def yS_chS : MethodName := ⟨"java/lang/String", "checkIndex", "(II)V"⟩
abbrev bS_chS : ByteArray := prog_18_method_155_code
def wS_chS : List Cond := .code yS_chS bS_chS 2 (none) :: gtbl
theorem gS_chS : GoodIn gtbl wS_chS := fun w hw => (List.mem_cons.mp hw).elim (fun q => by subst q; exact ⟨(tc_ok 1172 rfl rfl), good_g (tc_ok 1172 rfl rfl)⟩) (fun q => ⟨q, good_g q⟩)
def yS_chP : MethodName := ⟨"jdk/internal/util/Preconditions", "checkIndex", "(IILjava/util/function/BiFunction;)I"⟩
abbrev bS_chP : ByteArray := prog_23_method_11_code
def wS_chP : List Cond := .code yS_chP bS_chP 3 (some .int) :: gtbl
theorem gS_chP : GoodIn gtbl wS_chP := fun w hw => (List.mem_cons.mp hw).elim (fun q => by subst q; exact ⟨(tc_ok 1177 rfl rfl), good_g (tc_ok 1177 rfl rfl)⟩) (fun q => ⟨q, good_g q⟩)
def yS_chL : MethodName := ⟨"java/lang/StringLatin1", "charAt", "([BI)C"⟩
abbrev bS_chL : ByteArray := prog_19_method_2_code
def wS_chL : List Cond := .code yS_chL bS_chL 2 (some .char) :: gtbl
theorem gS_chL : GoodIn gtbl wS_chL := fun w hw => (List.mem_cons.mp hw).elim (fun q => by subst q; exact ⟨(tc_ok 1169 rfl rfl), good_g (tc_ok 1169 rfl rfl)⟩) (fun q => ⟨q, good_g q⟩)
def yS_chA : MethodName := ⟨"java/lang/String", "charAt", "(I)C"⟩
abbrev bS_chA : ByteArray := prog_18_method_56_code
def wS_chA : List Cond := .code yS_chA bS_chA 2 (some .char) :: gtbl
theorem gS_chA : GoodIn gtbl wS_chA := fun w hw => (List.mem_cons.mp hw).elim (fun q => by subst q; exact ⟨(tc_ok 1162 rfl rfl), good_g (tc_ok 1162 rfl rfl)⟩) (fun q => ⟨q, good_g q⟩)
theorem dS_len : decode bS_len 6 = .ok (.invokevirtual 335, 3) := by decide +kernel
theorem dS_chS : decode bS_chS 5 = .ok (.invokestatic 1059, 3) := by decide +kernel
theorem dS_chL : decode bS_chL 3 = .ok (.invokestatic 9, 3) := by decide +kernel
theorem dS_chA : decode bS_chA 1 = .ok (.invokevirtual 492, 3) := by decide +kernel
theorem dS_chB : decode bS_chA 12 = .ok (.invokestatic 495, 3) := by decide +kernel
def SXs (ad : Nat → Nat) (B : Nat) (U : State) (H : Heap) : Prop := (∃ adV : Nat → Nat, vk_S 2 lenS bytS (fun i => ad (i + 1)) adV (fun q => B ≤ q) U H) ∧ va_Z "java/lang/String" "COMPACT_STRINGS" "Z" (.int 1) (fun q => B ≤ q) U H ∧ va_Zq "jdk/internal/util/Preconditions" "SIOOBE_FORMATTER" "Ljava/util/function/BiFunction;" (fun q => B ≤ q) U H
theorem SXs_moved {ad : Nat → Nat} {B : Nat} {u U : State} {H : Heap} (hvm : u.vm.Alike U.vm) (h : SXs ad B u H) : SXs ad B U H := by
  obtain ⟨⟨adV, h1⟩, h2, h3⟩ := h
  exact ⟨⟨adV, vk_S.moved hvm h1⟩, va_Z.moved hvm h2, va_Zq.moved hvm h3⟩
theorem SXs_ok (ad : Nat → Nat) (B : Nat) : SXok (SXs ad B) B := by
  refine ⟨fun s U H H' h hW hB hk => ?_, fun u U H hv h => SXs_moved (by rw [hv]; exact Vm.Alike.refl _) h⟩
  obtain ⟨⟨adV, h1⟩, h2, h3⟩ := SXs_moved hW.alike h
  have hq : ∀ a : Nat, a < H.size → ¬ B ≤ a → H'[a]? = H[a]? := fun a _ ha => hk a (Nat.not_le.mp ha)
  exact ⟨⟨adV, h1.kept hq⟩, h2.kept hq, h3.kept hq⟩
def PcX (ad : Nat → Nat) (B : Nat) (av : List Value) : Array Value → State → Prop := va_Pc av fun U => SXs ad B U U.heap
theorem PcX_blind {ad : Nat → Nat} {B : Nat} {av : List Value} : FrameBlind (PcX ad B av) := by
  intro a U g mk ⟨h0, h1⟩
  exact ⟨h0, SXs_moved (u := U) (Vm.Alike.refl U.vm) h1⟩
section STR
variable (l : Launch) (ad : Nat → Nat) (B : Nat)

theorem mS_coder (i : Nat) (hi : i < 2) : Met l yS_coder wS_coder ({ frames := 0, cells := 0, slots := 0, locals := 0 } : Room) (PcX ad B [.ref (ad (i + 1))]) (vp_Si fun r => r = 0) 0 0 (fun _ => False) := by
  refine Met.ofW (cc := bS_coder) (maxL := 1) (ret := some .byte) (by decide) rfl ?_
  intro p e s m args below meth c s₁ BB hml hv
  obtain ⟨rfl, hSX⟩ := hv
  have hx := BB.exec
  have hb := BB.bytes
  have hr := BB.returns
  have hlocks := BB.notSynchronized
  have hts : ∀ w ∈ gtbl, w.before _ s = true := fun w hw => atoms_spec (ws := wS_coder) BB.pre w (List.mem_cons_of_mem _ hw)
  have hown : s.vm.findClass "java/lang/String" = some m.cls := findClass_of_methodNamed BB.named
  have hS : va_S (fun q => B ≤ q) s.heap s.heap [] := va_S.rf
  have hl := lv_entry ([.ref (ad (i + 1))]) (n := 1) (Nat.le_of_ble_eq_true rfl)
  rw [lg_entry_eq]
  generalize (lg_sl ([.ref (ad (i + 1))]) ++ List.replicate (1 - (lg_sl ([.ref (ad (i + 1))])).length) Slot.unset).toArray = ls at hl ⊢
  have hl : lv_has ls 1 [(0, .ref (ad (i + 1)))] := hl
  obtain ⟨⟨adV, hvk⟩, hZ, -⟩ := hSX
  refine va_gets (index := 38) (ref := "java/lang/String") hx hb hZ hS hown (hts _ (tc_ok 1157 rfl rfl)) (fun _ h => h) (by decide +kernel) ?_
  refine lv_if_eq (tgt := 13) hx hb (off := 10) (by decide +kernel) (by decide) (fun q => absurd q (by decide)) (fun _ => ?_)
  refine lv_aload_n (k := 0) hx hb (by decide +kernel) rfl (lv_at hl 0 rfl) ?_
  refine vk_getf (index := 15) (ref := "java/lang/String") hx hb (hvk.1 i hi).2.1 hS hown (hts _ (tc_ok 7056 rfl rfl)) (fun _ h => h) (by decide +kernel) ?_
  refine lv_goto (tgt := 14) (off := 4) hx hb (by decide +kernel) (by decide) ?_
  exact W.zret hx hb hr (by decide) (fun t ht _ => ⟨0, rfl, rfl, ht⟩) (fun _ h => by cases h) (by decide +kernel) hlocks
theorem mS_lat (i : Nat) (hi : i < 2) : Met l yS_lat wS_lat ({ frames := 0, cells := 0, slots := 0, locals := 0 } : Room) (PcX ad B [.ref (ad (i + 1))]) (vp_Si fun r => r = 1) 0 0 (fun _ => False) := by
  refine Met.ofW (cc := bS_lat) (maxL := 1) (ret := some .boolean) (by decide) rfl ?_
  intro p e s m args below meth c s₁ BB hml hv
  obtain ⟨rfl, hSX⟩ := hv
  have hx := BB.exec
  have hb := BB.bytes
  have hr := BB.returns
  have hlocks := BB.notSynchronized
  have hts : ∀ w ∈ gtbl, w.before _ s = true := fun w hw => atoms_spec (ws := wS_lat) BB.pre w (List.mem_cons_of_mem _ hw)
  have hown : s.vm.findClass "java/lang/String" = some m.cls := findClass_of_methodNamed BB.named
  have hS : va_S (fun q => B ≤ q) s.heap s.heap [] := va_S.rf
  have hl := lv_entry ([.ref (ad (i + 1))]) (n := 1) (Nat.le_of_ble_eq_true rfl)
  rw [lg_entry_eq]
  generalize (lg_sl ([.ref (ad (i + 1))]) ++ List.replicate (1 - (lg_sl ([.ref (ad (i + 1))])).length) Slot.unset).toArray = ls at hl ⊢
  have hl : lv_has ls 1 [(0, .ref (ad (i + 1)))] := hl
  obtain ⟨⟨adV, hvk⟩, hZ, -⟩ := hSX
  refine va_gets (index := 38) (ref := "java/lang/String") hx hb hZ hS hown (hts _ (tc_ok 1157 rfl rfl)) (fun _ h => h) (by decide +kernel) ?_
  refine lv_if_eq (tgt := 17) hx hb (off := 14) (by decide +kernel) (by decide) (fun q => absurd q (by decide)) (fun _ => ?_)
  refine lv_aload_n (k := 0) hx hb (by decide +kernel) rfl (lv_at hl 0 rfl) ?_
  refine vk_getf (index := 15) (ref := "java/lang/String") hx hb (hvk.1 i hi).2.1 hS hown (hts _ (tc_ok 7056 rfl rfl)) (fun _ h => h) (by decide +kernel) ?_
  refine lv_if_ne (tgt := 17) (off := 7) hx hb (by decide +kernel) (by decide) (fun q => absurd rfl q) (fun _ => ?_)
  refine lv_iconst (n := 1) (v := 1) hx hb (by decide +kernel) (by decide) ?_
  refine lv_goto (tgt := 18) (off := 4) hx hb (by decide +kernel) (by decide) ?_
  exact W.zret hx hb hr (by decide) (fun t ht _ => ⟨1, rfl, rfl, ht⟩) (fun _ h => by cases h) (by decide +kernel) hlocks
theorem mS_len (i : Nat) (hi : i < 2) : Met l yS_len wS_len ({ frames := 1, cells := 0, slots := 0, locals := 64 } : Room) (PcX ad B [.ref (ad (i + 1))]) (vp_Si fun r => r = nI (lenS.getD i 0)) 0 0 (fun _ => False) := by
  refine Met.ofW (cc := bS_len) (maxL := 1) (ret := some .int) (by decide) rfl ?_
  intro p e s m args below meth c s₁ BB hml hv
  obtain ⟨rfl, hSX⟩ := hv
  have hx := BB.exec
  have hb := BB.bytes
  have hr := BB.returns
  have hlocks := BB.notSynchronized
  have hts : ∀ w ∈ gtbl, w.before _ s = true := fun w hw => atoms_spec (ws := wS_len) BB.pre w (List.mem_cons_of_mem _ hw)
  have hown : s.vm.findClass "java/lang/String" = some m.cls := findClass_of_methodNamed BB.named
  have hS : va_S (fun q => B ≤ q) s.heap s.heap [] := va_S.rf
  have hl := lv_entry ([.ref (ad (i + 1))]) (n := 1) (Nat.le_of_ble_eq_true rfl)
  rw [lg_entry_eq]
  generalize (lg_sl ([.ref (ad (i + 1))]) ++ List.replicate (1 - (lg_sl ([.ref (ad (i + 1))])).length) Slot.unset).toArray = ls at hl ⊢
  have hl : lv_has ls 1 [(0, .ref (ad (i + 1)))] := hl
  obtain ⟨⟨adV, hvk⟩, hZ, -⟩ := id hSX
  refine lv_aload_n (k := 0) hx hb (by decide +kernel) rfl (lv_at hl 0 rfl) ?_
  refine vk_getf (index := 9) (ref := "java/lang/String") hx hb (hvk.1 i hi).2.2.1 hS hown (hts _ (tc_ok 7055 rfl rfl)) (fun _ h => h) (by decide +kernel) ?_
  refine va_tlen hx hb (hvk.1 i hi).2.2.2 hS rfl (by decide +kernel) ?_
  refine lv_aload_n (k := 0) hx hb (by decide +kernel) rfl (lv_at hl 0 rfl) ?_
  refine vp_callSi (va_Run.run (va_runV (Ts := gtbl) (C := "java/lang/String") (As := []) (rest := [.int (Int32.ofNat (lenS.getD i 0))]) ⟨hx, hb, hml, hown, hts⟩ (mS_coder l ad B i hi) ⟨callB_of 0 hts gS_coder rfl rfl rfl (hts _ (tc_ok 1006 rfl rfl)) (hts _ (tc_ok 1153 rfl rfl)) ⟨by decide +kernel, by decide +kernel, by decide +kernel⟩ ⟨Nat.le_of_ble_eq_true rfl, Nat.le_of_ble_eq_true rfl⟩, (hts _ (tc_ok 1154 rfl rfl)), (hts _ (tc_ok 1155 rfl rfl))⟩ ⟨PcX_blind, vk_recv hvk hi hS, fun U hU hW => ⟨rfl, by show SXs ad B U U.heap; rw [hU]; exact SXs_moved hW.alike hSX⟩⟩ rfl rfl hl.1 rfl (lv_room (Nat.le_of_ble_eq_true rfl)) dS_len ⟨Nat.le_refl _, Nat.le_refl _⟩)) (fun r hr0 => ?_)
  subst hr0
  refine lv_ishr hx hb (by decide +kernel) ?_
  have e9 : nI (lenS.getD i 0) >>> ((0 : Int32) &&& 31) = nI (lenS.getD i 0) := by
    rcases (show i = 0 ∨ i = 1 by omega) with rfl | rfl <;> decide
  refine W.iret hx hb hr (fun t ht _ => ⟨_, rfl, e9, ht⟩) (fun _ h => by cases h) (by decide +kernel) hlocks
theorem mS_chP (x n : Int32) (w : Option Nat) (h0 : ¬ x < 0) (h1 : x < n) : Met l yS_chP wS_chP ({ frames := 0, cells := 0, slots := 0, locals := 0 } : Room) (PcX ad B [.int x, .int n, va_rf w]) (vp_Si fun r => r = x) 0 0 (fun _ => False) := by
  refine Met.ofW (cc := bS_chP) (maxL := 3) (ret := some .int) (by decide) rfl ?_
  intro p e s m args below meth c s₁ BB hml hv
  obtain ⟨rfl, hSX⟩ := hv
  have hx := BB.exec
  have hb := BB.bytes
  have hr := BB.returns
  have hlocks := BB.notSynchronized
  have hts : ∀ w ∈ gtbl, w.before _ s = true := fun w hw => atoms_spec (ws := wS_chP) BB.pre w (List.mem_cons_of_mem _ hw)
  have hown : s.vm.findClass "jdk/internal/util/Preconditions" = some m.cls := findClass_of_methodNamed BB.named
  have hS : va_S (fun q => B ≤ q) s.heap s.heap [] := va_S.rf
  have hl := lv_entry ([.int x, .int n, va_rf w]) (n := 3) (by cases w <;> exact Nat.le_of_ble_eq_true rfl)
  rw [lg_entry_eq]
  generalize (lg_sl ([.int x, .int n, va_rf w]) ++ List.replicate (3 - (lg_sl ([.int x, .int n, va_rf w])).length) Slot.unset).toArray = ls at hl ⊢
  have hl : lv_has ls 3 [(0, .int x), (1, .int n)] := lv_sub hl [0, 1] rfl
  refine lv_iload_n (k := 0) hx hb (by decide +kernel) rfl (lv_at hl 0 rfl) ?_
  refine lv_if_lt (tgt := 9) (off := 8) hx hb (by decide +kernel) (by decide) (fun q => absurd q h0) (fun _ => ?_)
  refine lv_iload_n (k := 0) hx hb (by decide +kernel) rfl (lv_at hl 0 rfl) ?_
  refine lv_iload_n (k := 1) hx hb (by decide +kernel) rfl (lv_at hl 1 rfl) ?_
  refine lv_icmp_lt (tgt := 16) (off := 10) hx hb (by decide +kernel) (by decide) (fun _ => ?_) (fun q => absurd h1 q)
  refine lv_iload_n (k := 0) hx hb (by decide +kernel) rfl (lv_at hl 0 rfl) ?_
  exact W.iret hx hb hr (fun t ht _ => ⟨_, rfl, rfl, ht⟩) (fun _ h => by cases h) (by decide +kernel) hlocks
theorem mS_chS (x n : Int32) (h0 : ¬ x < 0) (h1 : x < n) : Met l yS_chS wS_chS ({ frames := 1, cells := 0, slots := 0, locals := 64 } : Room) (PcX ad B [.int x, .int n]) (va_Sv fun _ => True) 0 0 (fun _ => False) := by
  refine Met.ofW (cc := bS_chS) (maxL := 2) (ret := none) (by decide) rfl ?_
  intro p e s m args below meth c s₁ BB hml hv
  obtain ⟨rfl, hSX⟩ := hv
  have hx := BB.exec
  have hb := BB.bytes
  have hr := BB.returns
  have hlocks := BB.notSynchronized
  have hts : ∀ w ∈ gtbl, w.before _ s = true := fun w hw => atoms_spec (ws := wS_chS) BB.pre w (List.mem_cons_of_mem _ hw)
  have hown : s.vm.findClass "java/lang/String" = some m.cls := findClass_of_methodNamed BB.named
  have hS : va_S (fun q => B ≤ q) s.heap s.heap [] := va_S.rf
  have hl := lv_entry ([.int x, .int n]) (n := 2) (Nat.le_of_ble_eq_true rfl)
  rw [lg_entry_eq]
  generalize (lg_sl ([.int x, .int n]) ++ List.replicate (2 - (lg_sl ([.int x, .int n])).length) Slot.unset).toArray = ls at hl ⊢
  have hl : lv_has ls 2 [(0, .int x), (1, .int n)] := hl
  obtain ⟨-, -, hZq⟩ := id hSX
  refine lv_iload_n (k := 0) hx hb (by decide +kernel) rfl (lv_at hl 0 rfl) ?_
  refine lv_iload_n (k := 1) hx hb (by decide +kernel) rfl (lv_at hl 1 rfl) ?_
  obtain ⟨w, hZw⟩ : ∃ w : Option Nat, va_Z "jdk/internal/util/Preconditions" "SIOOBE_FORMATTER" "Ljava/util/function/BiFunction;" (va_rf w) (fun q => B ≤ q) s s.heap := by
    rcases hZq with z | ⟨t, z⟩
    · exact ⟨none, z⟩
    · exact ⟨some t, z⟩
  refine va_gets (index := 1053) (ref := "jdk/internal/util/Preconditions") hx hb hZw hS hown (hts _ (tc_ok 1173 rfl rfl)) (fun _ h => h) (by decide +kernel) ?_
  refine vp_callSi (va_Run.run (va_runS (Ts := gtbl) (As := [.int x, .int n, va_rf w]) (rest := []) ⟨hx, hb, hml, hown, hts⟩ (mS_chP l ad B x n w h0 h1) ⟨callB_of 3 hts gS_chP rfl rfl rfl (hts _ (tc_ok 1008 rfl rfl)) (hts _ (tc_ok 1175 rfl rfl)) ⟨by decide +kernel, by decide +kernel, by decide +kernel⟩ ⟨Nat.le_of_ble_eq_true rfl, Nat.le_of_ble_eq_true rfl⟩, (hts _ (tc_ok 1176 rfl rfl))⟩ ⟨PcX_blind, fun U hU hW => ⟨rfl, by show SXs ad B U U.heap; rw [hU]; exact SXs_moved hW.alike hSX⟩⟩ rfl rfl hl.1 rfl (lv_room (Nat.le_of_ble_eq_true rfl)) dS_chS ⟨Nat.le_refl _, Nat.le_refl _⟩)) (fun r _ => ?_)
  refine lv_pop hx hb (by decide +kernel) rfl ?_
  exact W.vret hx hb hr (fun t ht _ => ⟨rfl, trivial, ht⟩) (fun _ h => by cases h) (by decide +kernel) hlocks
/-- with an array of bytes beside the texts -/
def PcT (ad : Nat → Nat) (B : Nat) (t N : Nat) (f : Nat → Int32) (av : List Value) : Array Value → State → Prop := va_Pc av fun U => SXs ad B U U.heap ∧ va_T .byte t N (fun j => .int (f j)) (fun q => B ≤ q) U U.heap
theorem PcT_blind {t N : Nat} {f : Nat → Int32} {av : List Value} : FrameBlind (PcT ad B t N f av) := by
  intro a U g mk ⟨h0, h1, h2⟩
  exact ⟨h0, SXs_moved (u := U) (Vm.Alike.refl U.vm) h1, va_T.moved (u := U) (Vm.Alike.refl U.vm) h2⟩
theorem mS_chL (t N : Nat) (f : Nat → Int32) (x ch : Int32) (h0 : ¬ x < 0) (h1 : x < nI N) (hin : vp_in x N) (he : ((f x.toNatClampNeg &&& 255).toUInt32 % 65536).toInt32 = ch) (hc : narrow .char (.int ch) = .int ch) : Met l yS_chL wS_chL ({ frames := 2, cells := 0, slots := 0, locals := 128 } : Room) (PcT ad B t N f [.ref t, .int x]) (vp_Si fun r => r = ch) 0 0 (fun _ => False) := by
  refine Met.ofW (cc := bS_chL) (maxL := 2) (ret := some .char) (by decide) rfl ?_
  intro p e s m args below meth c s₁ BB hml hv
  obtain ⟨rfl, hSX, hT⟩ := hv
  have hx := BB.exec
  have hb := BB.bytes
  have hr := BB.returns
  have hlocks := BB.notSynchronized
  have hts : ∀ w ∈ gtbl, w.before _ s = true := fun w hw => atoms_spec (ws := wS_chL) BB.pre w (List.mem_cons_of_mem _ hw)
  have hown : s.vm.findClass "java/lang/StringLatin1" = some m.cls := findClass_of_methodNamed BB.named
  have hS : va_S (fun q => B ≤ q) s.heap s.heap [] := va_S.rf
  have hl := lv_entry ([.ref t, .int x]) (n := 2) (Nat.le_of_ble_eq_true rfl)
  rw [lg_entry_eq]
  generalize (lg_sl ([.ref t, .int x]) ++ List.replicate (2 - (lg_sl ([.ref t, .int x])).length) Slot.unset).toArray = ls at hl ⊢
  have hl : lv_has ls 2 [(0, .ref t), (1, .int x)] := hl
  refine lv_iload_n (k := 1) hx hb (by decide +kernel) rfl (lv_at hl 1 rfl) ?_
  refine lv_aload_n (k := 0) hx hb (by decide +kernel) rfl (lv_at hl 0 rfl) ?_
  refine va_tlen hx hb hT hS rfl (by decide +kernel) ?_
  refine va_csv (va_Run.run (va_runS (Ts := gtbl) (As := [.int x, .int (nI N)]) (rest := []) ⟨hx, hb, hml, hown, hts⟩ (mS_chS l ad B x (nI N) h0 h1) ⟨callB_of 2 hts gS_chS rfl rfl rfl (hts _ (tc_ok 1006 rfl rfl)) (hts _ (tc_ok 1170 rfl rfl)) ⟨by decide +kernel, by decide +kernel, by decide +kernel⟩ ⟨Nat.le_of_ble_eq_true rfl, Nat.le_of_ble_eq_true rfl⟩, (hts _ (tc_ok 1171 rfl rfl))⟩ ⟨PcX_blind, fun U hU hW => ⟨rfl, by show SXs ad B U U.heap; rw [hU]; exact SXs_moved hW.alike hSX⟩⟩ rfl rfl hl.1 rfl (lv_room (Nat.le_of_ble_eq_true rfl)) dS_chL ⟨Nat.le_refl _, Nat.le_refl _⟩)) (fun _ => ?_)
  refine lv_aload_n (k := 0) hx hb (by decide +kernel) rfl (lv_at hl 0 rfl) ?_
  refine lv_iload_n (k := 1) hx hb (by decide +kernel) rfl (lv_at hl 1 rfl) ?_
  refine va_tb hx hb hT hS hin rfl (by decide +kernel) ?_
  refine lv_sipush (n := 255) (v := 255) hx hb (by decide +kernel) (by decide) ?_
  refine lv_iand hx hb (by decide +kernel) ?_
  refine lv_i2c hx hb (by decide +kernel) he ?_
  exact W.zret hx hb hr hc (fun t ht _ => ⟨_, rfl, rfl, ht⟩) (fun _ h => by cases h) (by decide +kernel) hlocks
theorem mS_chA (i : Nat) (hi : i < 2) (x ch : Int32) (h0 : ¬ x < 0) (h1 : x < nI (lenS.getD i 0)) (hin : vp_in x (lenS.getD i 0)) (he : (((bytS.getD i []).getD x.toNatClampNeg 0 &&& 255).toUInt32 % 65536).toInt32 = ch) (hc : narrow .char (.int ch) = .int ch) : Met l yS_chA wS_chA ({ frames := 3, cells := 0, slots := 0, locals := 192 } : Room) (PcX ad B [.ref (ad (i + 1)), .int x]) (vp_Si fun r => r = ch) 0 0 (fun _ => False) := by
  refine Met.ofW (cc := bS_chA) (maxL := 2) (ret := some .char) (by decide) rfl ?_
  intro p e s m args below meth c s₁ BB hml hv
  obtain ⟨rfl, hSX⟩ := hv
  have hx := BB.exec
  have hb := BB.bytes
  have hr := BB.returns
  have hlocks := BB.notSynchronized
  have hts : ∀ w ∈ gtbl, w.before _ s = true := fun w hw => atoms_spec (ws := wS_chA) BB.pre w (List.mem_cons_of_mem _ hw)
  have hown : s.vm.findClass "java/lang/String" = some m.cls := findClass_of_methodNamed BB.named
  have hS : va_S (fun q => B ≤ q) s.heap s.heap [] := va_S.rf
  have hl := lv_entry ([.ref (ad (i + 1)), .int x]) (n := 2) (Nat.le_of_ble_eq_true rfl)
  rw [lg_entry_eq]
  generalize (lg_sl ([.ref (ad (i + 1)), .int x]) ++ List.replicate (2 - (lg_sl ([.ref (ad (i + 1)), .int x])).length) Slot.unset).toArray = ls at hl ⊢
  have hl : lv_has ls 2 [(0, .ref (ad (i + 1))), (1, .int x)] := hl
  obtain ⟨⟨adV, hvk⟩, hZ, -⟩ := id hSX
  refine lv_aload_n (k := 0) hx hb (by decide +kernel) rfl (lv_at hl 0 rfl) ?_
  refine vp_callSi (va_Run.run (va_runV (Ts := gtbl) (C := "java/lang/String") (As := []) (rest := []) ⟨hx, hb, hml, hown, hts⟩ (mS_lat l ad B i hi) ⟨callB_of 0 hts gS_lat rfl rfl rfl (hts _ (tc_ok 1006 rfl rfl)) (hts _ (tc_ok 1163 rfl rfl)) ⟨by decide +kernel, by decide +kernel, by decide +kernel⟩ ⟨Nat.le_of_ble_eq_true rfl, Nat.le_of_ble_eq_true rfl⟩, (hts _ (tc_ok 1164 rfl rfl)), (hts _ (tc_ok 1165 rfl rfl))⟩ ⟨PcX_blind, vk_recv hvk hi hS, fun U hU hW => ⟨rfl, by show SXs ad B U U.heap; rw [hU]; exact SXs_moved hW.alike hSX⟩⟩ rfl rfl hl.1 rfl (lv_room (Nat.le_of_ble_eq_true rfl)) dS_chA ⟨Nat.le_refl _, Nat.le_refl _⟩)) (fun r hr0 => ?_)
  subst hr0
  refine lv_if_eq (tgt := 16) (off := 12) hx hb (by decide +kernel) (by decide) (fun q => absurd q (by decide)) (fun _ => ?_)
  refine lv_aload_n (k := 0) hx hb (by decide +kernel) rfl (lv_at hl 0 rfl) ?_
  refine vk_getf (index := 9) (ref := "java/lang/String") hx hb (hvk.1 i hi).2.2.1 hS hown (hts _ (tc_ok 7055 rfl rfl)) (fun _ h => h) (by decide +kernel) ?_
  refine lv_iload_n (k := 1) hx hb (by decide +kernel) rfl (lv_at hl 1 rfl) ?_
  refine vp_callSi (va_Run.run (va_runS (Ts := gtbl) (As := [.ref (adV i), .int x]) (rest := []) ⟨hx, hb, hml, hown, hts⟩ (mS_chL l ad B (adV i) (lenS.getD i 0) (fun j => (bytS.getD i []).getD j 0) x ch h0 h1 hin he hc) ⟨callB_of 2 hts gS_chL rfl rfl rfl (hts _ (tc_ok 1007 rfl rfl)) (hts _ (tc_ok 1167 rfl rfl)) ⟨by decide +kernel, by decide +kernel, by decide +kernel⟩ ⟨Nat.le_of_ble_eq_true rfl, Nat.le_of_ble_eq_true rfl⟩, (hts _ (tc_ok 1168 rfl rfl))⟩ ⟨PcT_blind ad B, fun U hU hW => ⟨rfl, by show SXs ad B U U.heap; rw [hU]; exact SXs_moved hW.alike hSX, by show va_T _ _ _ _ _ U U.heap; rw [hU]; exact va_T.moved hW.alike (hvk.1 i hi).2.2.2⟩⟩ rfl rfl hl.1 rfl (lv_room (Nat.le_of_ble_eq_true rfl)) dS_chB ⟨Nat.le_refl _, Nat.le_refl _⟩)) (fun r hr0 => ?_)
  subst hr0
  exact W.zret hx hb hr hc (fun t ht _ => ⟨_, rfl, rfl, ht⟩) (fun _ h => by cases h) (by decide +kernel) hlocks
end STR
theorem tx_ok : ∀ b ∈ tx1 ++ tx2, ((b &&& 255).toUInt32 % 65536).toInt32 = b ∧ narrow .char (.int b) = .int b := by decide +kernel
theorem len_ok : ∀ i, i < 2 → lenS.getD i 0 = (bytS.getD i []).length ∧ lenS.getD i 0 < 2 ^ 31 := by decide +kernel
theorem prm4_spec {as : List Value} {h h2 : MHeap} {v : Option Value} (e : prm 4 as h = some (v, h2)) : ∃ o vs, as = [.ref o] ∧ h[o]? = some (98, vs) ∧ (o = 1 ∨ o = 2) ∧ v = some (.int (nI vs.length)) ∧ h2 = h := by
  unfold prm at e
  simp only at e
  split at e
  · unfold slen at e
    split at e
    · rename_i t vs e1
      split at e
      · rename_i hc
        obtain ⟨rfl, hc⟩ := hc
        cases e
        exact ⟨_, vs, rfl, e1, hc, rfl, rfl⟩
      · cases e
    · cases e
  · cases e
theorem prm5_spec {as : List Value} {h h2 : MHeap} {v : Option Value} (e : prm 5 as h = some (v, h2)) : ∃ o x vs ch, as = [.ref o, .int x] ∧ h[o]? = some (98, vs) ∧ (o = 1 ∨ o = 2) ∧ ¬ x < 0 ∧ vs[x.toNatClampNeg]? = some (.int ch) ∧ v = some (.int ch) ∧ h2 = h := by
  unfold prm at e
  simp only at e
  split at e
  · unfold sch at e
    split at e
    · rename_i t vs e1
      split at e
      · rename_i hc
        obtain ⟨⟨rfl, hc⟩, hc2⟩ := hc
        split at e
        · rename_i ch e2
          cases e
          exact ⟨_, _, vs, ch, rfl, e1, hc, hc2, e2, rfl, rfl⟩
        · cases e
      · cases e
    · cases e
  · cases e
section STRW
variable {p : Program} {l : Launch} {e : Env} {R : Room} {s : State} {m : MethodId} {args : Array Value} {below : List Frame} {meth : Method} {c : Code} {Q : State → Prop}
variable {D : va_G} {cA : Nat → ClassId} {ad : Nat → Nat} {B : Nat} {xs : List Int32} {n0 s0 mi : Nat} {h' : MHeap}
/-- a cell of a text -/
theorem pre_tx {h : MHeap} (hp : h.take 3 = prF xs (tx1.map .int) (tx2.map .int)) {o t : Nat} {vs : List Value} (ho : h[o]? = some (t, vs)) (h12 : o = 1 ∨ o = 2) : ∃ i, i < 2 ∧ o = i + 1 ∧ vs = (bytS.getD i []).map .int := by
  have h1 : (h.take 3)[o]? = some (t, vs) := by rw [List.getElem?_take, if_pos (by omega)]; exact ho
  rw [hp] at h1
  unfold prF at h1
  rcases h12 with rfl | rfl
  · simp at h1; exact ⟨0, by omega, rfl, h1.2.symm⟩
  · simp at h1; exact ⟨1, by omega, rfl, h1.2.symm⟩
set_option maxHeartbeats 4000000 in
theorem str_ok (C : Cx p s m args meth c (SXs ad B) D cA ad B xs mi) : StrW p l e R s m args below meth c Q D cA ad B xs (tx1.map .int) (tx2.map .int) n0 s0 mi h' := by
  intro pc k o m' d1 as S1 h h2 v L ls H locs cells slots hm hdec hlk hpx hf1 hf2 h4 hcR hsR hR kk
  obtain ⟨hx, hb, hml, hown, hts, hKS, hret, hlocks, hnm, had⟩ := C
  obtain ⟨hLR, hok, hP, hsz, hpr, h3, hS, hcl, hsl1⟩ := id hR
  have hSX := hKS.2.2.2.2
  have hlsz : ls.size = (prg mi).2 := hLR.1.1
  have hcs := cat_sum (ad := ad) S1
  obtain ⟨hpx2, hpd⟩ := prx_prm hpx
  rcases hm with rfl | rfl
  · rw [if_pos rfl] at hlk
    have hpd : 3 ≤ d1 := hpd
    obtain ⟨o', vs, ha, e1, hc, rfl, rfl⟩ := prm4_spec hpx2
    cases ha
    obtain ⟨i, hi, rfl, rfl⟩ := pre_tx hpr e1 hc
    obtain ⟨⟨adV, hvk⟩, -, -⟩ := id hSX
    rw [List.length_map, ← (len_ok i hi).1] at kk
    refine vp_callSi (va_Run.run (va_runV (Ts := gtbl) (C := "java/lang/String") (As := []) (rest := S1.map (shv ad)) ⟨hx, hb, hml, hown, hts⟩ (mS_len l ad B i hi) ⟨callB_of 0 hts gS_len rfl rfl rfl (hts _ (tc_ok 1006 rfl rfl)) (hts _ hlk) ⟨by decide +kernel, by decide +kernel, by decide +kernel⟩ ⟨by show 1 + 1 ≤ _; omega, by show 8 + (1 + 11) + 64 ≤ _; omega⟩, (hts _ (tc_ok 1150 rfl rfl)), (hts _ (tc_ok 1151 rfl rfl))⟩ ⟨PcX_blind, vk_recv hvk hi hS, fun U hU hW => ⟨rfl, (SXs_ok ad B).1 s U s.heap U.heap hSX hW hKS.2.2.1 (fun q hq => by rw [hU]; exact hS.2.1 q (Nat.lt_of_lt_of_le hq hKS.2.2.1) (Nat.not_le.mpr hq))⟩⟩ rfl rfl hlsz rfl (lv_room (by omega)) hdec ⟨by omega, by omega⟩)) (fun r hr0 => ?_)
    subst hr0
    exact kk.2 ls H locs cells slots (hR.re hLR (okS.cons rfl hok.tl))
  · rw [if_neg (by decide)] at hlk
    have hpd : 6 ≤ d1 := hpd
    obtain ⟨o', x, vs, ch, ha, e1, hc, hc2, e2, rfl, rfl⟩ := prm5_spec hpx2
    cases ha
    obtain ⟨i, hi, rfl, rfl⟩ := pre_tx hpr e1 hc
    obtain ⟨⟨adV, hvk⟩, -, -⟩ := id hSX
    have hlt : x.toNatClampNeg < lenS.getD i 0 := by
      have := (List.getElem?_eq_some_iff.mp e2).1
      rw [List.length_map, ← (len_ok i hi).1] at this
      exact this
    have hin : vp_in x (lenS.getD i 0) := vp_in_mk hc2 hlt
    obtain ⟨j, hj, hxj⟩ := vp_in_of hin (len_ok i hi).2
    have h1 : x < nI (lenS.getD i 0) := by rw [hxj]; exact nI_lt hj (len_ok i hi).2
    have hch : (bytS.getD i [])[x.toNatClampNeg]? = some ch := by
      rw [List.getElem?_map] at e2
      cases hq : (bytS.getD i [])[x.toNatClampNeg]? with
      | none => rw [hq] at e2; cases e2
      | some y => rw [hq] at e2; cases e2; rfl
    have hmem : ch ∈ tx1 ++ tx2 := by
      have hm := List.mem_of_getElem? hch
      rcases (show i = 0 ∨ i = 1 by omega) with rfl | rfl
      · exact List.mem_append_left _ hm
      · exact List.mem_append_right _ hm
    have hgd : (bytS.getD i []).getD x.toNatClampNeg 0 = ch := by rw [List.getD_eq_getElem?_getD, hch]; rfl
    obtain ⟨k1, k2⟩ := tx_ok ch hmem
    refine vp_callSi (va_Run.run (va_runV (Ts := gtbl) (C := "java/lang/String") (As := [.int x]) (rest := S1.map (shv ad)) ⟨hx, hb, hml, hown, hts⟩ (mS_chA l ad B i hi x ch hc2 h1 hin (by rw [hgd]; exact k1) k2) ⟨callB_of 1 hts gS_chA rfl rfl rfl (hts _ (tc_ok 1006 rfl rfl)) (hts _ hlk) ⟨by decide +kernel, by decide +kernel, by decide +kernel⟩ ⟨by show 3 + 1 ≤ _; omega, by show 8 + (2 + 11) + 192 ≤ _; omega⟩, (hts _ (tc_ok 1160 rfl rfl)), (hts _ (tc_ok 1161 rfl rfl))⟩ ⟨PcX_blind, vk_recv hvk hi hS, fun U hU hW => ⟨rfl, (SXs_ok ad B).1 s U s.heap U.heap hSX hW hKS.2.2.1 (fun q hq => by rw [hU]; exact hS.2.1 q (Nat.lt_of_lt_of_le hq hKS.2.2.1) (Nat.not_le.mpr hq))⟩⟩ rfl rfl hlsz rfl (lv_room (by omega)) hdec ⟨by omega, by omega⟩)) (fun r hr0 => ?_)
    subst hr0
    exact kk.2 ls H locs cells slots (hR.re hLR (okS.cons rfl hok.tl.tl))
end STRW
