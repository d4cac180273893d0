/-! objects' fields, the words that the tables give, the methods' names and bytes -/
def gtbl : List Cond := lw_tbl.filter goodWord
def RX0 : String := "OneTurned$Board"
def TX0 : u_T := fun k => match k with
  | 0 => ("OneTurned$Board", "cards", "I", false)
  | 1 => ("OneTurned$Board", "wide", "I", false)
  | 2 => ("OneTurned$Board", "backs", "I", false)
  | 3 => ("OneTurned$Board", "heapCount", "I", false)
  | _ => ("OneTurned$Board", "heaps", "[LOneTurned$Heap;", true)
def tyX0 : Nat → FieldType := fun k => match k with
  | 0 => .int
  | 1 => .int
  | 2 => .int
  | 3 => .int
  | _ => .array (.object "OneTurned$Heap")
theorem nmX0 : ∀ a, a < 5 → ∀ b, b < 5 → a ≠ b → (TX0 a).2.1 ≠ (TX0 b).2.1 := by decide +kernel
theorem tyX0_ok : ∀ k, k < 5 → parseFieldDescriptor (TX0 k).2.2.1 = some (tyX0 k) := by decide +kernel
def RX1 : String := "OneTurned$Column"
def TX1 : u_T := fun k => match k with
  | 0 => ("OneTurned$Heap", "members", "I", true)
  | 1 => ("OneTurned$Heap", "more", "I", true)
  | _ => ("OneTurned$Heap", "inside", "I", false)
def tyX1 : Nat → FieldType := fun k => match k with
  | 0 => .int
  | 1 => .int
  | _ => .int
theorem nmX1 : ∀ a, a < 3 → ∀ b, b < 3 → a ≠ b → (TX1 a).2.1 ≠ (TX1 b).2.1 := by decide +kernel
theorem tyX1_ok : ∀ k, k < 3 → parseFieldDescriptor (TX1 k).2.2.1 = some (tyX1 k) := by decide +kernel
def RX2 : String := "OneTurned$Figure"
def TX2 : u_T := fun k => match k with
  | 0 => ("OneTurned$Heap", "members", "I", true)
  | 1 => ("OneTurned$Heap", "more", "I", true)
  | _ => ("OneTurned$Heap", "inside", "I", false)
def tyX2 : Nat → FieldType := fun k => match k with
  | 0 => .int
  | 1 => .int
  | _ => .int
theorem nmX2 : ∀ a, a < 3 → ∀ b, b < 3 → a ≠ b → (TX2 a).2.1 ≠ (TX2 b).2.1 := by decide +kernel
theorem tyX2_ok : ∀ k, k < 3 → parseFieldDescriptor (TX2 k).2.2.1 = some (tyX2 k) := by decide +kernel
def RX3 : String := "OneTurned$Heap"
def TX3 : u_T := fun k => match k with
  | 0 => ("OneTurned$Heap", "members", "I", true)
  | 1 => ("OneTurned$Heap", "more", "I", true)
  | _ => ("OneTurned$Heap", "inside", "I", false)
def tyX3 : Nat → FieldType := fun k => match k with
  | 0 => .int
  | 1 => .int
  | _ => .int
theorem nmX3 : ∀ a, a < 3 → ∀ b, b < 3 → a ≠ b → (TX3 a).2.1 ≠ (TX3 b).2.1 := by decide +kernel
theorem tyX3_ok : ∀ k, k < 3 → parseFieldDescriptor (TX3 k).2.2.1 = some (tyX3 k) := by decide +kernel
def RX4 : String := "OneTurned$Image"
def TX4 : u_T := fun k => match k with
  | 0 => ("OneTurned$Image", "isKept", "Z", false)
  | 1 => ("OneTurned$Image", "cards", "I", false)
  | 2 => ("OneTurned$Image", "wide", "I", false)
  | 3 => ("OneTurned$Image", "backs", "I", false)
  | 4 => ("OneTurned$Image", "heapCount", "I", false)
  | _ => ("OneTurned$Image", "law", "I", false)
def tyX4 : Nat → FieldType := fun k => match k with
  | 0 => .boolean
  | 1 => .int
  | 2 => .int
  | 3 => .int
  | 4 => .int
  | _ => .int
theorem nmX4 : ∀ a, a < 6 → ∀ b, b < 6 → a ≠ b → (TX4 a).2.1 ≠ (TX4 b).2.1 := by decide +kernel
theorem tyX4_ok : ∀ k, k < 6 → parseFieldDescriptor (TX4 k).2.2.1 = some (tyX4 k) := by decide +kernel
def RX5 : String := "OneTurned$Law"
def TX5 : u_T := fun k => match k with
  | 0 => ("OneTurned$Law", "items", "[I", true)
  | 1 => ("OneTurned$Law", "turnsEnd", "I", true)
  | _ => ("OneTurned$Law", "swapsEnd", "I", true)
def tyX5 : Nat → FieldType := fun k => match k with
  | 0 => .array .int
  | 1 => .int
  | _ => .int
theorem nmX5 : ∀ a, a < 3 → ∀ b, b < 3 → a ≠ b → (TX5 a).2.1 ≠ (TX5 b).2.1 := by decide +kernel
theorem tyX5_ok : ∀ k, k < 3 → parseFieldDescriptor (TX5 k).2.2.1 = some (tyX5 k) := by decide +kernel
def RX6 : String := "OneTurned$Row"
def TX6 : u_T := fun k => match k with
  | 0 => ("OneTurned$Heap", "members", "I", true)
  | 1 => ("OneTurned$Heap", "more", "I", true)
  | _ => ("OneTurned$Heap", "inside", "I", false)
def tyX6 : Nat → FieldType := fun k => match k with
  | 0 => .int
  | 1 => .int
  | _ => .int
theorem nmX6 : ∀ a, a < 3 → ∀ b, b < 3 → a ≠ b → (TX6 a).2.1 ≠ (TX6 b).2.1 := by decide +kernel
theorem tyX6_ok : ∀ k, k < 3 → parseFieldDescriptor (TX6 k).2.2.1 = some (tyX6 k) := by decide +kernel
def RX7 : String := "OneTurned$Sheet"
def TX7 : u_T := fun k => match k with
  | 0 => ("OneTurned$Sheet", "sort", "I", false)
  | 1 => ("OneTurned$Sheet", "size", "I", false)
  | _ => ("OneTurned$Sheet", "cells", "[I", true)
def tyX7 : Nat → FieldType := fun k => match k with
  | 0 => .int
  | 1 => .int
  | _ => .array .int
theorem nmX7 : ∀ a, a < 3 → ∀ b, b < 3 → a ≠ b → (TX7 a).2.1 ≠ (TX7 b).2.1 := by decide +kernel
theorem tyX7_ok : ∀ k, k < 3 → parseFieldDescriptor (TX7 k).2.2.1 = some (tyX7 k) := by decide +kernel
def RX8 : String := "OneTurned$Sum"
def TX8 : u_T := fun k => match k with
  | 0 => ("OneTurned$Heap", "members", "I", true)
  | 1 => ("OneTurned$Heap", "more", "I", true)
  | _ => ("OneTurned$Heap", "inside", "I", false)
def tyX8 : Nat → FieldType := fun k => match k with
  | 0 => .int
  | 1 => .int
  | _ => .int
theorem nmX8 : ∀ a, a < 3 → ∀ b, b < 3 → a ≠ b → (TX8 a).2.1 ≠ (TX8 b).2.1 := by decide +kernel
theorem tyX8_ok : ∀ k, k < 3 → parseFieldDescriptor (TX8 k).2.2.1 = some (tyX8 k) := by decide +kernel
def RX9 : String := "OneTurned$Tape"
def TX9 : u_T := fun k => match k with
  | 0 => ("OneTurned$Tape", "size", "I", false)
  | 1 => ("OneTurned$Tape", "bytes", "[I", true)
  | 2 => ("OneTurned$Tape", "tokens", "[I", true)
  | 3 => ("OneTurned$Tape", "places", "[I", true)
  | 4 => ("OneTurned$Tape", "items", "[I", true)
  | 5 => ("OneTurned$Tape", "scanned", "I", false)
  | 6 => ("OneTurned$Tape", "next", "I", false)
  | _ => ("OneTurned$Tape", "used", "I", false)
def tyX9 : Nat → FieldType := fun k => match k with
  | 0 => .int
  | 1 => .array .int
  | 2 => .array .int
  | 3 => .array .int
  | 4 => .array .int
  | 5 => .int
  | 6 => .int
  | _ => .int
theorem nmX9 : ∀ a, a < 8 → ∀ b, b < 8 → a ≠ b → (TX9 a).2.1 ≠ (TX9 b).2.1 := by decide +kernel
theorem tyX9_ok : ∀ k, k < 8 → parseFieldDescriptor (TX9 k).2.2.1 = some (tyX9 k) := by decide +kernel
def RX10 : String := "OneTurned$Uneven"
def TX10 : u_T := fun k => match k with
  | 0 => ("OneTurned$Heap", "members", "I", true)
  | 1 => ("OneTurned$Heap", "more", "I", true)
  | _ => ("OneTurned$Heap", "inside", "I", false)
def tyX10 : Nat → FieldType := fun k => match k with
  | 0 => .int
  | 1 => .int
  | _ => .int
theorem nmX10 : ∀ a, a < 3 → ∀ b, b < 3 → a ≠ b → (TX10 a).2.1 ≠ (TX10 b).2.1 := by decide +kernel
theorem tyX10_ok : ∀ k, k < 3 → parseFieldDescriptor (TX10 k).2.2.1 = some (tyX10 k) := by decide +kernel
def RX11 : String := "OneTurned"
def TX11 : u_T := fun k => match k with
  | 0 => ("OneTurned", "board", "LOneTurned$Board;", true)
  | 1 => ("OneTurned", "image", "LOneTurned$Image;", true)
  | 2 => ("OneTurned", "tape", "LOneTurned$Tape;", true)
  | 3 => ("OneTurned", "laws", "[LOneTurned$Law;", true)
  | 4 => ("OneTurned", "lawCount", "I", false)
  | 5 => ("OneTurned", "law", "I", false)
  | 6 => ("OneTurned", "sheets", "[LOneTurned$Sheet;", true)
  | 7 => ("OneTurned", "unlikeSigns", "[I", true)
  | 8 => ("OneTurned", "weights", "[I", true)
  | 9 => ("OneTurned", "names", "[I", true)
  | _ => ("OneTurned", "stack", "[I", true)
def tyX11 : Nat → FieldType := fun k => match k with
  | 0 => .object "OneTurned$Board"
  | 1 => .object "OneTurned$Image"
  | 2 => .object "OneTurned$Tape"
  | 3 => .array (.object "OneTurned$Law")
  | 4 => .int
  | 5 => .int
  | 6 => .array (.object "OneTurned$Sheet")
  | 7 => .array .int
  | 8 => .array .int
  | 9 => .array .int
  | _ => .array .int
theorem nmX11 : ∀ a, a < 11 → ∀ b, b < 11 → a ≠ b → (TX11 a).2.1 ≠ (TX11 b).2.1 := by decide +kernel
theorem tyX11_ok : ∀ k, k < 11 → parseFieldDescriptor (TX11 k).2.2.1 = some (tyX11 k) := by decide +kernel
def RX12 : String := "OneTurnedModel"
def TX12 : u_T := fun k => match k with
  | 0 => ("OneTurnedModel", "many0", "I", false)
  | 1 => ("OneTurnedModel", "wide", "I", false)
  | 2 => ("OneTurnedModel", "backs", "I", false)
  | 3 => ("OneTurnedModel", "heaps", "I", false)
  | 4 => ("OneTurnedModel", "kind", "[I", true)
  | 5 => ("OneTurnedModel", "membersOf", "[I", true)
  | 6 => ("OneTurnedModel", "moreOf", "[I", true)
  | 7 => ("OneTurnedModel", "tape", "[I", true)
  | 8 => ("OneTurnedModel", "taped", "I", false)
  | 9 => ("OneTurnedModel", "codes", "[I", true)
  | 10 => ("OneTurnedModel", "starts", "[I", true)
  | 11 => ("OneTurnedModel", "texts", "I", false)
  | 12 => ("OneTurnedModel", "rule", "I", false)
  | 13 => ("OneTurnedModel", "hasImage", "Z", false)
  | 14 => ("OneTurnedModel", "imageMany", "I", false)
  | 15 => ("OneTurnedModel", "imageWide", "I", false)
  | 16 => ("OneTurnedModel", "imageBacks", "I", false)
  | 17 => ("OneTurnedModel", "imageHeaps", "I", false)
  | 18 => ("OneTurnedModel", "imageRule", "I", false)
  | 19 => ("OneTurnedModel", "sheetSort", "[I", true)
  | 20 => ("OneTurnedModel", "sheetSize", "[I", true)
  | 21 => ("OneTurnedModel", "cells", "[I", true)
  | 22 => ("OneTurnedModel", "law", "[I", true)
  | 23 => ("OneTurnedModel", "at", "I", false)
  | 24 => ("OneTurnedModel", "begun", "I", false)
  | 25 => ("OneTurnedModel", "token", "I", false)
  | 26 => ("OneTurnedModel", "value", "I", false)
  | 27 => ("OneTurnedModel", "words", "[I", true)
  | 28 => ("OneTurnedModel", "held", "[I", true)
  | 29 => ("OneTurnedModel", "heldMany", "I", false)
  | 30 => ("OneTurnedModel", "opens", "I", false)
  | 31 => ("OneTurnedModel", "out", "I", false)
  | 32 => ("OneTurnedModel", "stack", "[I", true)
  | 33 => ("OneTurnedModel", "named", "[I", true)
  | 34 => ("OneTurnedModel", "ins", "[I", true)
  | 35 => ("OneTurnedModel", "seen", "[I", true)
  | 36 => ("OneTurnedModel", "likeliest", "I", false)
  | 37 => ("OneTurnedModel", "itsWeight", "I", false)
  | _ => ("OneTurnedModel", "allWeights", "I", false)
def tyX12 : Nat → FieldType := fun k => match k with
  | 0 => .int
  | 1 => .int
  | 2 => .int
  | 3 => .int
  | 4 => .array .int
  | 5 => .array .int
  | 6 => .array .int
  | 7 => .array .int
  | 8 => .int
  | 9 => .array .int
  | 10 => .array .int
  | 11 => .int
  | 12 => .int
  | 13 => .boolean
  | 14 => .int
  | 15 => .int
  | 16 => .int
  | 17 => .int
  | 18 => .int
  | 19 => .array .int
  | 20 => .array .int
  | 21 => .array .int
  | 22 => .array .int
  | 23 => .int
  | 24 => .int
  | 25 => .int
  | 26 => .int
  | 27 => .array .int
  | 28 => .array .int
  | 29 => .int
  | 30 => .int
  | 31 => .int
  | 32 => .array .int
  | 33 => .array .int
  | 34 => .array .int
  | 35 => .array .int
  | 36 => .int
  | 37 => .int
  | _ => .int
theorem nmX12 : ∀ a, a < 39 → ∀ b, b < 39 → a ≠ b → (TX12 a).2.1 ≠ (TX12 b).2.1 := by decide +kernel
theorem tyX12_ok : ∀ k, k < 39 → parseFieldDescriptor (TX12 k).2.2.1 = some (tyX12 k) := by decide +kernel
def clsL : List vw_C := [(RX0, TX0, 5), (RX1, TX1, 3), (RX2, TX2, 3), (RX3, TX3, 3), (RX4, TX4, 6), (RX5, TX5, 3), (RX6, TX6, 3), (RX7, TX7, 3), (RX8, TX8, 3), (RX9, TX9, 8), (RX10, TX10, 3), (RX11, TX11, 11), (RX12, TX12, 39)]
def cnm (t : Nat) : String := (clsL.getD t ("", TX0, 0)).1
set_option maxRecDepth 20000 in
theorem inG0 : ∀ w ∈ u_ws RX0 TX0 5, w ∈ gtbl := by decide +kernel
set_option maxRecDepth 20000 in
theorem inG1 : ∀ w ∈ u_ws RX1 TX1 3, w ∈ gtbl := by decide +kernel
set_option maxRecDepth 20000 in
theorem inG2 : ∀ w ∈ u_ws RX2 TX2 3, w ∈ gtbl := by decide +kernel
set_option maxRecDepth 20000 in
theorem inG3 : ∀ w ∈ u_ws RX3 TX3 3, w ∈ gtbl := by decide +kernel
set_option maxRecDepth 20000 in
theorem inG4 : ∀ w ∈ u_ws RX4 TX4 6, w ∈ gtbl := by decide +kernel
set_option maxRecDepth 20000 in
theorem inG5 : ∀ w ∈ u_ws RX5 TX5 3, w ∈ gtbl := by decide +kernel
set_option maxRecDepth 20000 in
theorem inG6 : ∀ w ∈ u_ws RX6 TX6 3, w ∈ gtbl := by decide +kernel
set_option maxRecDepth 20000 in
theorem inG7 : ∀ w ∈ u_ws RX7 TX7 3, w ∈ gtbl := by decide +kernel
set_option maxRecDepth 20000 in
theorem inG8 : ∀ w ∈ u_ws RX8 TX8 3, w ∈ gtbl := by decide +kernel
set_option maxRecDepth 20000 in
theorem inG9 : ∀ w ∈ u_ws RX9 TX9 8, w ∈ gtbl := by decide +kernel
set_option maxRecDepth 20000 in
theorem inG10 : ∀ w ∈ u_ws RX10 TX10 3, w ∈ gtbl := by decide +kernel
set_option maxRecDepth 20000 in
theorem inG11 : ∀ w ∈ u_ws RX11 TX11 11, w ∈ gtbl := by decide +kernel
set_option maxRecDepth 20000 in
theorem inG12 : ∀ w ∈ u_ws RX12 TX12 39, w ∈ gtbl := by decide +kernel
/-- what is known of each kind of object -/
def clOK (r : vw_C) : Prop := (∃ ty : Nat → FieldType, ∀ k, k < r.2.2 → parseFieldDescriptor (r.2.1 k).2.2.1 = some (ty k)) ∧ (∀ a, a < r.2.2 → ∀ b, b < r.2.2 → a ≠ b → (r.2.1 a).2.1 ≠ (r.2.1 b).2.1) ∧ ∀ w ∈ u_ws r.1 r.2.1 r.2.2, w ∈ gtbl
theorem clsL_ok : ∀ (t : Nat) (r : vw_C), clsL[t]? = some r → clOK r := by
  intro t r h
  match t, h with
  | 0, h => cases h; exact ⟨⟨tyX0, tyX0_ok⟩, nmX0, inG0⟩
  | 1, h => cases h; exact ⟨⟨tyX1, tyX1_ok⟩, nmX1, inG1⟩
  | 2, h => cases h; exact ⟨⟨tyX2, tyX2_ok⟩, nmX2, inG2⟩
  | 3, h => cases h; exact ⟨⟨tyX3, tyX3_ok⟩, nmX3, inG3⟩
  | 4, h => cases h; exact ⟨⟨tyX4, tyX4_ok⟩, nmX4, inG4⟩
  | 5, h => cases h; exact ⟨⟨tyX5, tyX5_ok⟩, nmX5, inG5⟩
  | 6, h => cases h; exact ⟨⟨tyX6, tyX6_ok⟩, nmX6, inG6⟩
  | 7, h => cases h; exact ⟨⟨tyX7, tyX7_ok⟩, nmX7, inG7⟩
  | 8, h => cases h; exact ⟨⟨tyX8, tyX8_ok⟩, nmX8, inG8⟩
  | 9, h => cases h; exact ⟨⟨tyX9, tyX9_ok⟩, nmX9, inG9⟩
  | 10, h => cases h; exact ⟨⟨tyX10, tyX10_ok⟩, nmX10, inG10⟩
  | 11, h => cases h; exact ⟨⟨tyX11, tyX11_ok⟩, nmX11, inG11⟩
  | 12, h => cases h; exact ⟨⟨tyX12, tyX12_ok⟩, nmX12, inG12⟩
  | t + 13, h => simp [clsL] at h
def mtd_0 : List (MethodName × ByteArray × Option FieldType) := [(⟨"OneTurned$Board", "<init>", "()V"⟩, prog_2_method_1_code, none), (⟨"OneTurned$Board", "rowOf", "(II)I"⟩, prog_2_method_2_code, some (FieldType.int)), (⟨"OneTurned$Board", "columnOf", "(II)I"⟩, prog_2_method_3_code, some (FieldType.int)), (⟨"OneTurned$Board", "lieAnew", "(III)V"⟩, prog_2_method_4_code, none), (⟨"OneTurned$Board", "allCards", "()I"⟩, prog_2_method_5_code, some (FieldType.int)), (⟨"OneTurned$Board", "hasCard", "(I)Z"⟩, prog_2_method_6_code, some (FieldType.boolean)), (⟨"OneTurned$Board", "hasCards", "(I)Z"⟩, prog_2_method_7_code, some (FieldType.boolean)), (⟨"OneTurned$Board", "areUnlike", "(II)Z"⟩, prog_2_method_8_code, some (FieldType.boolean)), (⟨"OneTurned$Board", "rowCards", "(I)I"⟩, prog_2_method_9_code, some (FieldType.int)), (⟨"OneTurned$Board", "cutAt", "(I)I"⟩, prog_2_method_10_code, some (FieldType.int)), (⟨"OneTurned$Board", "movedTo", "(II)I"⟩, prog_2_method_11_code, some (FieldType.int)), (⟨"OneTurned$Board", "hasRoom", "()Z"⟩, prog_2_method_12_code, some (FieldType.boolean)), (⟨"OneTurned$Board", "add", "(LOneTurned$Heap;)V"⟩, prog_2_method_13_code, none), (⟨"OneTurned$Board", "keepHeaps", "(I)V"⟩, prog_2_method_14_code, none), (⟨"OneTurned$Board", "heapAt", "(I)LOneTurned$Heap;"⟩, prog_2_method_15_code, some (FieldType.object "OneTurned$Heap")), (⟨"OneTurned$Board", "allHeaps", "()I"⟩, prog_2_method_16_code, some (FieldType.int)), (⟨"OneTurned$Board", "signsAt", "(I)I"⟩, prog_2_method_17_code, some (FieldType.int)), (⟨"OneTurned$Board", "otherSignsAt", "(II)I"⟩, prog_2_method_18_code, some (FieldType.int)), (⟨"OneTurned$Board", "failingAt", "(I)I"⟩, prog_2_method_19_code, some (FieldType.int)), (⟨"OneTurned$Board", "failsNow", "()I"⟩, prog_2_method_20_code, some (FieldType.int)), (⟨"OneTurned$Board", "hasSignsAt", "(II)Z"⟩, prog_2_method_21_code, some (FieldType.boolean)), (⟨"OneTurned$Board", "allHoldAt", "(I)Z"⟩, prog_2_method_22_code, some (FieldType.boolean)), (⟨"OneTurned$Column", "<init>", "(II)V"⟩, prog_3_method_1_code, none), (⟨"OneTurned$Column", "kind", "()I"⟩, prog_3_method_2_code, some (FieldType.int)), (⟨"OneTurned$Column", "hasInside", "(II)Z"⟩, prog_3_method_3_code, some (FieldType.boolean)), (⟨"OneTurned$Figure", "<init>", "(II)V"⟩, prog_4_method_1_code, none), (⟨"OneTurned$Figure", "kind", "()I"⟩, prog_4_method_2_code, some (FieldType.int)), (⟨"OneTurned$Figure", "hasInside", "(II)Z"⟩, prog_4_method_3_code, some (FieldType.boolean)), (⟨"OneTurned$Heap", "<init>", "(II)V"⟩, prog_5_method_1_code, none), (⟨"OneTurned$Heap", "kind", "()I"⟩, prog_5_method_2_code, some (FieldType.int)), (⟨"OneTurned$Heap", "hasInside", "(II)Z"⟩, prog_5_method_3_code, some (FieldType.boolean)), (⟨"OneTurned$Heap", "signAt", "(I)I"⟩, prog_5_method_4_code, some (FieldType.int))]
def mtd_1 : List (MethodName × ByteArray × Option FieldType) := [(⟨"OneTurned$Heap", "lieAmong", "(II)V"⟩, prog_5_method_5_code, none), (⟨"OneTurned$Image", "<init>", "()V"⟩, prog_6_method_1_code, none), (⟨"OneTurned$Image", "keep", "(LOneTurned$Board;I)V"⟩, prog_6_method_2_code, none), (⟨"OneTurned$Law", "<init>", "([III)V"⟩, prog_7_method_1_code, none), (⟨"OneTurned$Law", "says", "(I[I[I)I"⟩, prog_7_method_2_code, some (FieldType.int)), (⟨"OneTurned$Law", "reckon", "(I[I[II)I"⟩, prog_7_method_3_code, some (FieldType.int)), (⟨"OneTurned$Law", "push", "(I[II)I"⟩, prog_7_method_4_code, some (FieldType.int)), (⟨"OneTurned$Law", "joined", "(III)I"⟩, prog_7_method_5_code, some (FieldType.int)), (⟨"OneTurned$Law", "asNumber", "(Z)I"⟩, prog_7_method_6_code, some (FieldType.int)), (⟨"OneTurned$Row", "<init>", "(II)V"⟩, prog_8_method_1_code, none), (⟨"OneTurned$Row", "kind", "()I"⟩, prog_8_method_2_code, some (FieldType.int)), (⟨"OneTurned$Row", "hasInside", "(II)Z"⟩, prog_8_method_3_code, some (FieldType.boolean)), (⟨"OneTurned$Sheet", "<init>", "()V"⟩, prog_9_method_1_code, none), (⟨"OneTurned$Sheet", "isMissing", "()Z"⟩, prog_9_method_2_code, some (FieldType.boolean)), (⟨"OneTurned$Sheet", "become", "(II)V"⟩, prog_9_method_3_code, none), (⟨"OneTurned$Sheet", "hasStretch", "(II)Z"⟩, prog_9_method_4_code, some (FieldType.boolean)), (⟨"OneTurned$Sheet", "get", "(I)I"⟩, prog_9_method_5_code, some (FieldType.int)), (⟨"OneTurned$Sheet", "set", "(II)V"⟩, prog_9_method_6_code, none), (⟨"OneTurned$Sum", "<init>", "(II)V"⟩, prog_10_method_1_code, none), (⟨"OneTurned$Sum", "kind", "()I"⟩, prog_10_method_2_code, some (FieldType.int)), (⟨"OneTurned$Sum", "signAt", "(I)I"⟩, prog_10_method_3_code, some (FieldType.int)), (⟨"OneTurned$Tape", "<init>", "()V"⟩, prog_11_method_1_code, none), (⟨"OneTurned$Tape", "put", "(I)V"⟩, prog_11_method_2_code, none), (⟨"OneTurned$Tape", "clear", "()V"⟩, prog_11_method_3_code, none), (⟨"OneTurned$Tape", "fault", "()I"⟩, prog_11_method_4_code, some (FieldType.int)), (⟨"OneTurned$Tape", "read", "()LOneTurned$Law;"⟩, prog_11_method_5_code, some (FieldType.object "OneTurned$Law")), (⟨"OneTurned$Tape", "token", "()I"⟩, prog_11_method_6_code, some (FieldType.int)), (⟨"OneTurned$Tape", "readPart", "(I)Z"⟩, prog_11_method_7_code, some (FieldType.boolean)), (⟨"OneTurned$Tape", "readToken", "(I)Z"⟩, prog_11_method_8_code, some (FieldType.boolean)), (⟨"OneTurned$Tape", "readJoined", "(II)Z"⟩, prog_11_method_9_code, some (FieldType.boolean)), (⟨"OneTurned$Tape", "joinsAt", "(I)Z"⟩, prog_11_method_10_code, some (FieldType.boolean)), (⟨"OneTurned$Tape", "readOperand", "(II)Z"⟩, prog_11_method_11_code, some (FieldType.boolean))]
def mtd_2 : List (MethodName × ByteArray × Option FieldType) := [(⟨"OneTurned$Tape", "readNot", "(I)Z"⟩, prog_11_method_12_code, some (FieldType.boolean)), (⟨"OneTurned$Tape", "readComparison", "(I)Z"⟩, prog_11_method_13_code, some (FieldType.boolean)), (⟨"OneTurned$Tape", "readOne", "(I)Z"⟩, prog_11_method_14_code, some (FieldType.boolean)), (⟨"OneTurned$Tape", "readNegative", "(I)Z"⟩, prog_11_method_15_code, some (FieldType.boolean)), (⟨"OneTurned$Tape", "putItem", "(I)V"⟩, prog_11_method_16_code, none), (⟨"OneTurned$Tape", "scan", "()V"⟩, prog_11_method_17_code, none), (⟨"OneTurned$Tape", "skipBlanks", "()V"⟩, prog_11_method_18_code, none), (⟨"OneTurned$Tape", "takeToken", "()I"⟩, prog_11_method_19_code, some (FieldType.int)), (⟨"OneTurned$Tape", "takeWord", "(I)I"⟩, prog_11_method_20_code, some (FieldType.int)), (⟨"OneTurned$Tape", "isSpelt", "(III)Z"⟩, prog_11_method_21_code, some (FieldType.boolean)), (⟨"OneTurned$Tape", "takeNumber", "(I)I"⟩, prog_11_method_22_code, some (FieldType.int)), (⟨"OneTurned$Tape", "byteAt", "(I)I"⟩, prog_11_method_23_code, some (FieldType.int)), (⟨"OneTurned$Tape", "isLetter", "(I)Z"⟩, prog_11_method_24_code, some (FieldType.boolean)), (⟨"OneTurned$Tape", "isDigit", "(I)Z"⟩, prog_11_method_25_code, some (FieldType.boolean)), (⟨"OneTurned$Tape", "isMark", "(I)Z"⟩, prog_11_method_26_code, some (FieldType.boolean)), (⟨"OneTurned$Uneven", "<init>", "(II)V"⟩, prog_12_method_1_code, none), (⟨"OneTurned$Uneven", "kind", "()I"⟩, prog_12_method_2_code, some (FieldType.int)), (⟨"OneTurned$Uneven", "hasInside", "(II)Z"⟩, prog_12_method_3_code, some (FieldType.boolean)), (⟨"OneTurned$Uneven", "signAt", "(I)I"⟩, prog_12_method_4_code, some (FieldType.int)), (⟨"OneTurned", "<init>", "()V"⟩, prog_1_method_1_code, none), (⟨"OneTurned", "table", "(II)I"⟩, prog_1_method_2_code, some (FieldType.int)), (⟨"OneTurned", "turn", "(I)I"⟩, prog_1_method_3_code, some (FieldType.int)), (⟨"OneTurned", "swap", "(II)I"⟩, prog_1_method_4_code, some (FieldType.int)), (⟨"OneTurned", "count", "(I)I"⟩, prog_1_method_5_code, some (FieldType.int)), (⟨"OneTurned", "feed", "(IIIIII)I"⟩, prog_1_method_6_code, some (FieldType.int)), (⟨"OneTurned", "text", "()I"⟩, prog_1_method_7_code, some (FieldType.int)), (⟨"OneTurned", "force", "(I)I"⟩, prog_1_method_8_code, some (FieldType.int)), (⟨"OneTurned", "asks", "(II)I"⟩, prog_1_method_9_code, some (FieldType.int)), (⟨"OneTurned", "heap", "(III)I"⟩, prog_1_method_10_code, some (FieldType.int)), (⟨"OneTurned", "drop", "()I"⟩, prog_1_method_11_code, some (FieldType.int)), (⟨"OneTurned", "told", "(II)I"⟩, prog_1_method_12_code, some (FieldType.int)), (⟨"OneTurned", "signs", "(I)I"⟩, prog_1_method_13_code, some (FieldType.int))]
def mtd_3 : List (MethodName × ByteArray × Option FieldType) := [(⟨"OneTurned", "look", "(I)I"⟩, prog_1_method_14_code, some (FieldType.int)), (⟨"OneTurned", "one", "()I"⟩, prog_1_method_15_code, some (FieldType.int)), (⟨"OneTurned", "two", "(I)I"⟩, prog_1_method_16_code, some (FieldType.int)), (⟨"OneTurned", "counts", "(I)I"⟩, prog_1_method_17_code, some (FieldType.int)), (⟨"OneTurned", "unseen", "(I)I"⟩, prog_1_method_18_code, some (FieldType.int)), (⟨"OneTurned", "apart", "(I)I"⟩, prog_1_method_19_code, some (FieldType.int)), (⟨"OneTurned", "reach", "(I)I"⟩, prog_1_method_20_code, some (FieldType.int)), (⟨"OneTurned", "lay", "(II)I"⟩, prog_1_method_21_code, some (FieldType.int)), (⟨"OneTurned", "even", "(I)I"⟩, prog_1_method_22_code, some (FieldType.int)), (⟨"OneTurned", "needs", "(I)I"⟩, prog_1_method_23_code, some (FieldType.int)), (⟨"OneTurned", "can", "(I)I"⟩, prog_1_method_24_code, some (FieldType.int)), (⟨"OneTurned", "reads", "()I"⟩, prog_1_method_25_code, some (FieldType.int)), (⟨"OneTurned", "coin", "(I)I"⟩, prog_1_method_26_code, some (FieldType.int)), (⟨"OneTurned", "swaps", "(I)I"⟩, prog_1_method_27_code, some (FieldType.int)), (⟨"OneTurned", "swept", "(II)I"⟩, prog_1_method_28_code, some (FieldType.int)), (⟨"OneTurned", "cut", "(I)I"⟩, prog_1_method_29_code, some (FieldType.int)), (⟨"OneTurned", "cuts", "(I)I"⟩, prog_1_method_30_code, some (FieldType.int)), (⟨"OneTurned", "move", "(II)I"⟩, prog_1_method_31_code, some (FieldType.int)), (⟨"OneTurned", "moves", "(I)I"⟩, prog_1_method_32_code, some (FieldType.int)), (⟨"OneTurned", "likely", "(I)I"⟩, prog_1_method_33_code, some (FieldType.int)), (⟨"OneTurned", "right", "(I)J"⟩, prog_1_method_34_code, some (FieldType.long)), (⟨"OneTurned", "cheapest", "(I)I"⟩, prog_1_method_35_code, some (FieldType.int)), (⟨"OneTurned", "lies", "()I"⟩, prog_1_method_36_code, some (FieldType.int)), (⟨"OneTurned", "idle", "()I"⟩, prog_1_method_37_code, some (FieldType.int)), (⟨"OneTurned", "judge", "(I)I"⟩, prog_1_method_38_code, some (FieldType.int)), (⟨"OneTurned", "match", "(II)I"⟩, prog_1_method_39_code, some (FieldType.int)), (⟨"OneTurned", "tells", "(III)I"⟩, prog_1_method_40_code, some (FieldType.int)), (⟨"OneTurned", "film", "(I)I"⟩, prog_1_method_41_code, some (FieldType.int)), (⟨"OneTurned", "evening", "(II)I"⟩, prog_1_method_42_code, some (FieldType.int)), (⟨"OneTurned", "odds", "(III)J"⟩, prog_1_method_43_code, some (FieldType.long)), (⟨"OneTurned", "image", "()I"⟩, prog_1_method_44_code, some (FieldType.int)), (⟨"OneTurned", "back", "()I"⟩, prog_1_method_45_code, some (FieldType.int))]
def mtd_4 : List (MethodName × ByteArray × Option FieldType) := [(⟨"OneTurned", "sheet", "(III)I"⟩, prog_1_method_46_code, some (FieldType.int)), (⟨"OneTurned", "cell", "(III)I"⟩, prog_1_method_47_code, some (FieldType.int)), (⟨"OneTurned", "copy", "(IIIII)I"⟩, prog_1_method_48_code, some (FieldType.int)), (⟨"OneTurned", "heapsBy", "(IIII)I"⟩, prog_1_method_49_code, some (FieldType.int)), (⟨"OneTurned", "taken", "(II)I"⟩, prog_1_method_50_code, some (FieldType.int)), (⟨"OneTurned", "isWithin", "(III)Z"⟩, prog_1_method_51_code, some (FieldType.boolean)), (⟨"OneTurned", "isByte", "(I)Z"⟩, prog_1_method_52_code, some (FieldType.boolean)), (⟨"OneTurned", "bit", "(I)I"⟩, prog_1_method_53_code, some (FieldType.int)), (⟨"OneTurned", "bitsBelow", "(I)I"⟩, prog_1_method_54_code, some (FieldType.int)), (⟨"OneTurned", "hasBit", "(II)Z"⟩, prog_1_method_55_code, some (FieldType.boolean)), (⟨"OneTurned", "sizeOf", "(I)I"⟩, prog_1_method_56_code, some (FieldType.int)), (⟨"OneTurned", "lowestBit", "(I)I"⟩, prog_1_method_57_code, some (FieldType.int)), (⟨"OneTurned", "signIn", "(II)I"⟩, prog_1_method_58_code, some (FieldType.int)), (⟨"OneTurned", "asTwo", "(II)I"⟩, prog_1_method_59_code, some (FieldType.int)), (⟨"OneTurned", "inLowestTerms", "(III)J"⟩, prog_1_method_60_code, some (FieldType.long)), (⟨"OneTurned", "lawSays", "(III)I"⟩, prog_1_method_61_code, some (FieldType.int)), (⟨"OneTurned", "menders", "(I)I"⟩, prog_1_method_62_code, some (FieldType.int)), (⟨"OneTurned", "fewest", "(III)I"⟩, prog_1_method_63_code, some (FieldType.int)), (⟨"OneTurned", "unlikeByOne", "()I"⟩, prog_1_method_64_code, some (FieldType.int)), (⟨"OneTurned", "firstAlike", "()I"⟩, prog_1_method_65_code, some (FieldType.int)), (⟨"OneTurned", "noteSigns", "(II)I"⟩, prog_1_method_66_code, some (FieldType.int)), (⟨"OneTurned", "onlyFailing", "(I)I"⟩, prog_1_method_67_code, some (FieldType.int)), (⟨"OneTurned", "areTwos", "()Z"⟩, prog_1_method_68_code, some (FieldType.boolean)), (⟨"OneTurned", "numbersTogether", "()I"⟩, prog_1_method_69_code, some (FieldType.int)), (⟨"OneTurned", "weighWays", "()V"⟩, prog_1_method_70_code, none), (⟨"OneTurned", "likeliest", "()I"⟩, prog_1_method_71_code, some (FieldType.int)), (⟨"OneTurned", "weightOfWay", "(I)I"⟩, prog_1_method_72_code, some (FieldType.int)), (⟨"OneTurned", "weightOfAllWays", "()I"⟩, prog_1_method_73_code, some (FieldType.int)), (⟨"OneTurned", "sheetAt", "(I)LOneTurned$Sheet;"⟩, prog_1_method_74_code, some (FieldType.object "OneTurned$Sheet")), (⟨"OneTurned", "refusalOfTold", "(I)I"⟩, prog_1_method_75_code, some (FieldType.int)), (⟨"OneTurned", "toldSigns", "(I)I"⟩, prog_1_method_76_code, some (FieldType.int)), (⟨"OneTurned", "cardBy", "(I)I"⟩, prog_1_method_77_code, some (FieldType.int))]
def mtd_5 : List (MethodName × ByteArray × Option FieldType) := [(⟨"OneTurned", "isFound", "(I)Z"⟩, prog_1_method_78_code, some (FieldType.boolean)), (⟨"OneTurned", "newHeap", "(III)LOneTurned$Heap;"⟩, prog_1_method_79_code, some (FieldType.object "OneTurned$Heap")), (⟨"OneTurned", "isOfKind", "(LOneTurned$Heap;I)Z"⟩, prog_1_method_80_code, some (FieldType.boolean)), (⟨"OneTurned", "takenCard", "(II)I"⟩, prog_1_method_81_code, some (FieldType.int)), (⟨"OneTurned", "takenHeap", "(II)I"⟩, prog_1_method_82_code, some (FieldType.int)), (⟨"OneTurnedModel", "<init>", "()V"⟩, prog_14_method_1_code, none), (⟨"OneTurnedModel", "in", "(III)Z"⟩, prog_14_method_3_code, some (FieldType.boolean)), (⟨"OneTurnedModel", "within", "(III)I"⟩, prog_14_method_4_code, some (FieldType.int)), (⟨"OneTurnedModel", "ones", "(I)I"⟩, prog_14_method_5_code, some (FieldType.int)), (⟨"OneTurnedModel", "isCard", "(I)Z"⟩, prog_14_method_6_code, some (FieldType.boolean)), (⟨"OneTurnedModel", "isHeap", "(I)Z"⟩, prog_14_method_7_code, some (FieldType.boolean)), (⟨"OneTurnedModel", "allCards", "()I"⟩, prog_14_method_8_code, some (FieldType.int)), (⟨"OneTurnedModel", "isSet", "(I)Z"⟩, prog_14_method_9_code, some (FieldType.boolean)), (⟨"OneTurnedModel", "table", "(II)I"⟩, prog_14_method_10_code, some (FieldType.int)), (⟨"OneTurnedModel", "turn", "(I)I"⟩, prog_14_method_11_code, some (FieldType.int)), (⟨"OneTurnedModel", "swapped", "(III)I"⟩, prog_14_method_12_code, some (FieldType.int)), (⟨"OneTurnedModel", "swap", "(II)I"⟩, prog_14_method_13_code, some (FieldType.int)), (⟨"OneTurnedModel", "count", "(I)I"⟩, prog_14_method_14_code, some (FieldType.int)), (⟨"OneTurnedModel", "isByte", "(I)Z"⟩, prog_14_method_15_code, some (FieldType.boolean)), (⟨"OneTurnedModel", "feed", "(IIIIII)I"⟩, prog_14_method_16_code, some (FieldType.int)), (⟨"OneTurnedModel", "wordFrom", "(II)I"⟩, prog_14_method_17_code, some (FieldType.int)), (⟨"OneTurnedModel", "next", "()V"⟩, prog_14_method_18_code, none), (⟨"OneTurnedModel", "rank", "(I)I"⟩, prog_14_method_19_code, some (FieldType.int)), (⟨"OneTurnedModel", "puts", "(I)V"⟩, prog_14_method_20_code, none), (⟨"OneTurnedModel", "unwinds", "(I)V"⟩, prog_14_method_21_code, none), (⟨"OneTurnedModel", "holds", "(I)V"⟩, prog_14_method_22_code, none), (⟨"OneTurnedModel", "opensOne", "(I)Z"⟩, prog_14_method_23_code, some (FieldType.boolean)), (⟨"OneTurnedModel", "between", "(I)Z"⟩, prog_14_method_24_code, some (FieldType.boolean)), (⟨"OneTurnedModel", "signOf", "()I"⟩, prog_14_method_25_code, some (FieldType.int)), (⟨"OneTurnedModel", "eRead", "()Z"⟩, prog_14_method_26_code, some (FieldType.boolean)), (⟨"OneTurnedModel", "text", "()I"⟩, prog_14_method_27_code, some (FieldType.int)), (⟨"OneTurnedModel", "two", "(III)I"⟩, prog_14_method_28_code, some (FieldType.int))]
def mtd_6 : List (MethodName × ByteArray × Option FieldType) := [(⟨"OneTurnedModel", "worth", "(I)I"⟩, prog_14_method_29_code, some (FieldType.int)), (⟨"OneTurnedModel", "force", "(I)I"⟩, prog_14_method_30_code, some (FieldType.int)), (⟨"OneTurnedModel", "asksOf", "(II)I"⟩, prog_14_method_31_code, some (FieldType.int)), (⟨"OneTurnedModel", "asks", "(II)I"⟩, prog_14_method_32_code, some (FieldType.int)), (⟨"OneTurnedModel", "isMade", "(III)Z"⟩, prog_14_method_33_code, some (FieldType.boolean)), (⟨"OneTurnedModel", "heap", "(III)I"⟩, prog_14_method_34_code, some (FieldType.int)), (⟨"OneTurnedModel", "drop", "()I"⟩, prog_14_method_35_code, some (FieldType.int)), (⟨"OneTurnedModel", "isIn", "(II)Z"⟩, prog_14_method_36_code, some (FieldType.boolean)), (⟨"OneTurnedModel", "cardsIn", "(I)I"⟩, prog_14_method_37_code, some (FieldType.int)), (⟨"OneTurnedModel", "signOf", "(III)I"⟩, prog_14_method_38_code, some (FieldType.int)), (⟨"OneTurnedModel", "signsOf", "(I)I"⟩, prog_14_method_39_code, some (FieldType.int)), (⟨"OneTurnedModel", "looksAt", "()V"⟩, prog_14_method_40_code, none), (⟨"OneTurnedModel", "quick", "(I)I"⟩, prog_14_method_41_code, some (FieldType.int)), (⟨"OneTurnedModel", "failing", "(I)I"⟩, prog_14_method_42_code, some (FieldType.int)), (⟨"OneTurnedModel", "told", "(II)I"⟩, prog_14_method_43_code, some (FieldType.int)), (⟨"OneTurnedModel", "signs", "(I)I"⟩, prog_14_method_44_code, some (FieldType.int)), (⟨"OneTurnedModel", "look", "(I)I"⟩, prog_14_method_45_code, some (FieldType.int)), (⟨"OneTurnedModel", "holdsBy", "(I)Z"⟩, prog_14_method_46_code, some (FieldType.boolean)), (⟨"OneTurnedModel", "oneBy", "(I)I"⟩, prog_14_method_47_code, some (FieldType.int)), (⟨"OneTurnedModel", "one", "()I"⟩, prog_14_method_48_code, some (FieldType.int)), (⟨"OneTurnedModel", "two", "(I)I"⟩, prog_14_method_49_code, some (FieldType.int)), (⟨"OneTurnedModel", "counts", "(I)I"⟩, prog_14_method_50_code, some (FieldType.int)), (⟨"OneTurnedModel", "unseen", "(I)I"⟩, prog_14_method_51_code, some (FieldType.int)), (⟨"OneTurnedModel", "apart", "(I)I"⟩, prog_14_method_52_code, some (FieldType.int)), (⟨"OneTurnedModel", "reach", "(I)I"⟩, prog_14_method_53_code, some (FieldType.int)), (⟨"OneTurnedModel", "fewestBy", "(II)I"⟩, prog_14_method_54_code, some (FieldType.int)), (⟨"OneTurnedModel", "lay", "(II)I"⟩, prog_14_method_55_code, some (FieldType.int)), (⟨"OneTurnedModel", "even", "(I)I"⟩, prog_14_method_56_code, some (FieldType.int)), (⟨"OneTurnedModel", "needs", "(I)I"⟩, prog_14_method_57_code, some (FieldType.int)), (⟨"OneTurnedModel", "isTwos", "(I)Z"⟩, prog_14_method_58_code, some (FieldType.boolean)), (⟨"OneTurnedModel", "can", "(I)I"⟩, prog_14_method_59_code, some (FieldType.int)), (⟨"OneTurnedModel", "readNow", "()I"⟩, prog_14_method_60_code, some (FieldType.int))]
def mtd_7 : List (MethodName × ByteArray × Option FieldType) := [(⟨"OneTurnedModel", "reads", "()I"⟩, prog_14_method_61_code, some (FieldType.int)), (⟨"OneTurnedModel", "coin", "(I)I"⟩, prog_14_method_62_code, some (FieldType.int)), (⟨"OneTurnedModel", "swaps", "(I)I"⟩, prog_14_method_63_code, some (FieldType.int)), (⟨"OneTurnedModel", "swept", "(II)I"⟩, prog_14_method_64_code, some (FieldType.int)), (⟨"OneTurnedModel", "cutBy", "(I)I"⟩, prog_14_method_65_code, some (FieldType.int)), (⟨"OneTurnedModel", "cut", "(I)I"⟩, prog_14_method_66_code, some (FieldType.int)), (⟨"OneTurnedModel", "cuts", "(I)I"⟩, prog_14_method_67_code, some (FieldType.int)), (⟨"OneTurnedModel", "movedBy", "(II)I"⟩, prog_14_method_68_code, some (FieldType.int)), (⟨"OneTurnedModel", "move", "(II)I"⟩, prog_14_method_69_code, some (FieldType.int)), (⟨"OneTurnedModel", "moves", "(I)I"⟩, prog_14_method_70_code, some (FieldType.int)), (⟨"OneTurnedModel", "weighs", "(III)V"⟩, prog_14_method_71_code, none), (⟨"OneTurnedModel", "findsWays", "()V"⟩, prog_14_method_72_code, none), (⟨"OneTurnedModel", "likely", "(I)I"⟩, prog_14_method_73_code, some (FieldType.int)), (⟨"OneTurnedModel", "lowest", "(JJI)J"⟩, prog_14_method_74_code, some (FieldType.long)), (⟨"OneTurnedModel", "right", "(I)J"⟩, prog_14_method_75_code, some (FieldType.long)), (⟨"OneTurnedModel", "cheapest", "(I)I"⟩, prog_14_method_76_code, some (FieldType.int)), (⟨"OneTurnedModel", "lies", "()I"⟩, prog_14_method_77_code, some (FieldType.int)), (⟨"OneTurnedModel", "idle", "()I"⟩, prog_14_method_78_code, some (FieldType.int)), (⟨"OneTurnedModel", "sheetWrong", "(I)I"⟩, prog_14_method_79_code, some (FieldType.int)), (⟨"OneTurnedModel", "toldSigns", "(I)I"⟩, prog_14_method_80_code, some (FieldType.int)), (⟨"OneTurnedModel", "judge", "(I)I"⟩, prog_14_method_81_code, some (FieldType.int)), (⟨"OneTurnedModel", "match", "(II)I"⟩, prog_14_method_82_code, some (FieldType.int)), (⟨"OneTurnedModel", "tells", "(III)I"⟩, prog_14_method_83_code, some (FieldType.int)), (⟨"OneTurnedModel", "film", "(I)I"⟩, prog_14_method_84_code, some (FieldType.int)), (⟨"OneTurnedModel", "cardOf", "(I)I"⟩, prog_14_method_85_code, some (FieldType.int)), (⟨"OneTurnedModel", "isFound", "(I)Z"⟩, prog_14_method_86_code, some (FieldType.boolean)), (⟨"OneTurnedModel", "evening", "(II)I"⟩, prog_14_method_87_code, some (FieldType.int)), (⟨"OneTurnedModel", "odds", "(III)J"⟩, prog_14_method_88_code, some (FieldType.long)), (⟨"OneTurnedModel", "image", "()I"⟩, prog_14_method_89_code, some (FieldType.int)), (⟨"OneTurnedModel", "back", "()I"⟩, prog_14_method_90_code, some (FieldType.int)), (⟨"OneTurnedModel", "sheet", "(III)I"⟩, prog_14_method_91_code, some (FieldType.int)), (⟨"OneTurnedModel", "cell", "(III)I"⟩, prog_14_method_92_code, some (FieldType.int))]
def mtd_8 : List (MethodName × ByteArray × Option FieldType) := [(⟨"OneTurnedModel", "copy", "(IIIII)I"⟩, prog_14_method_93_code, some (FieldType.int)), (⟨"OneTurnedModel", "heapsBy", "(IIII)I"⟩, prog_14_method_94_code, some (FieldType.int)), (⟨"OneTurnedModel", "isUnder", "(II)Z"⟩, prog_14_method_95_code, some (FieldType.boolean)), (⟨"OneTurnedModel", "taken", "(II)I"⟩, prog_14_method_96_code, some (FieldType.int)), (⟨"java/lang/Integer", "bitCount", "(I)I"⟩, prog_16_method_49_code, some (FieldType.int)), (⟨"java/util/Arrays", "fill", "([II)V"⟩, prog_22_method_103_code, none), (⟨"java/util/Arrays", "copyOf", "([II)[I"⟩, prog_22_method_123_code, some (FieldType.array FieldType.int)), (x, code, some .boolean)]
def mtds : List (List (MethodName × ByteArray × Option FieldType)) := [mtd_0, mtd_1, mtd_2, mtd_3, mtd_4, mtd_5, mtd_6, mtd_7, mtd_8]
def mtd (m : Nat) : MethodName × ByteArray × Option FieldType := (mtds.getD (m / 32) []).getD (m % 32) (x, code, none)
