/-! the methods 125 to 164, unrolled up to the heads of their loops -/
theorem p_125 : prg 125 = (k_125, 6) := rfl
theorem o_125 : okc k_125 = true := by decide +kernel
set_option maxRecDepth 100000 in
theorem e_125 (d : Nat) (a0 : Nat) (a1 : Int32) (a2 : Int32) (a3 : Int32) (h : MHeap) : call (d + 1) 125 [.ref a0, .int a1, .int a2, .int a3] h = (
  cI (call d 133 [.int a1, .int (0 : Int32), .int (99999 : Int32)] h) fun x2 h1 =>
  if x2 = (0 : Int32) then
  (some (some (.long (-4611686018427387904 : Int64)), h1))
  else
  (cI (call d 133 [.int a2, .int (1 : Int32), .int (50 : Int32)] h1) fun x4 h3 =>
  if x4 = (0 : Int32) then
  (some (some (.long (-4611686018427387904 : Int64)), h3))
  else
  (cI (call d 133 [.int a3, .int (0 : Int32), .int (1 : Int32)] h3) fun x6 h5 =>
  if x6 = (0 : Int32) then
  (some (some (.long (-4611686018427387904 : Int64)), h5))
  else
  (ex d 125 39 [sv (.ref a0), sv (.int a1), sv (.int a2), sv (.int a3), sv (.int (0 : Int32)), sv (.int (0 : Int32))] [] h5)))) :=
  (call_unr p_125 rfl o_125 rfl [39] 30 _ rfl h).trans rfl
set_option maxRecDepth 100000 in
theorem e_125_39 (d : Nat) (a0 : Nat) (a1 : Int32) (a2 : Int32) (a3 : Int32) (a4 : Int32) (a5 : Int32) (h : MHeap) : ex d 125 39 [sv (.ref a0), sv (.int a1), sv (.int a2), sv (.int a3), sv (.int a4), sv (.int a5)] [] h = (
  if a5 < a2 then
  (vd none h a0 [11, 159] fun m1 =>
  cI (call d m1 [.ref a0, .int (a1 + a5)] h) fun x3 h2 =>
  vd none h2 a0 [11, 160] fun m4 =>
  cI (call d m4 [.ref a0, .int x3] h2) fun x6 h5 =>
  if x6 = (0 : Int32) then
  (ex d 125 39 [sv (.ref a0), sv (.int a1), sv (.int a2), sv (.int a3), sv (.int a4), sv (.int (a5 + (1 : Int32)))] [] h5)
  else
  (ex d 125 39 [sv (.ref a0), sv (.int a1), sv (.int a2), sv (.int a3), sv (.int (a4 + (1 : Int32))), sv (.int (a5 + (1 : Int32)))] [] h5))
  else
  (cJ (call d 142 [.int a4, .int a2, .int a3] h) fun y8 h7 =>
  some (some (.long y8), h7))) :=
  (ex_unr p_125 o_125 [39] 26 rfl _ _ h).trans rfl

theorem p_126 : prg 126 = (k_126, 1) := rfl
theorem o_126 : okc k_126 = true := by decide +kernel
set_option maxRecDepth 100000 in
theorem e_126 (d : Nat) (a0 : Nat) (h : MHeap) : call (d + 1) 126 [.ref a0] h = (
  gfV none h a0 [11] 1 fun v1 =>
  gfV none h a0 [11] 0 fun v2 =>
  gfI none h a0 [11] 5 fun x3 =>
  dR none v1 fun o5 =>
  vd none h o5 [4, 34] fun m4 =>
  cV (call d m4 [.ref o5, v2, .int x3] h) fun h6 =>
  gfV none h6 a0 [11] 0 fun v7 =>
  dR none v7 fun o8 =>
  gfI none h6 o8 [0] 2 fun x9 =>
  some (some (.int x9), h6)) :=
  (call_unr p_126 rfl o_126 rfl [] 16 _ rfl h).trans rfl

theorem p_127 : prg 127 = (k_127, 1) := rfl
theorem o_127 : okc k_127 = true := by decide +kernel
set_option maxRecDepth 100000 in
theorem e_127 (d : Nat) (a0 : Nat) (h : MHeap) : call (d + 1) 127 [.ref a0] h = (
  gfV none h a0 [11] 1 fun v1 =>
  dR none v1 fun o2 =>
  gfI none h o2 [4] 0 fun x3 =>
  if x3 = (0 : Int32) then
  (some (some (.int (-3 : Int32)), h))
  else
  (gfV none h a0 [11] 0 fun v4 =>
  gfV none h a0 [11] 1 fun v5 =>
  dR none v5 fun o6 =>
  gfI none h o6 [4] 4 fun x7 =>
  dR none v4 fun o9 =>
  vd none h o9 [0, 13] fun m8 =>
  cV (call d m8 [.ref o9, .int x7] h) fun h10 =>
  gfV none h10 a0 [11] 0 fun v11 =>
  gfV none h10 a0 [11] 1 fun v12 =>
  dR none v12 fun o13 =>
  gfI none h10 o13 [4] 1 fun x14 =>
  gfV none h10 a0 [11] 1 fun v15 =>
  dR none v15 fun o16 =>
  gfI none h10 o16 [4] 2 fun x17 =>
  gfV none h10 a0 [11] 1 fun v18 =>
  dR none v18 fun o19 =>
  gfI none h10 o19 [4] 3 fun x20 =>
  dR none v11 fun o22 =>
  vd none h10 o22 [0, 3] fun m21 =>
  cV (call d m21 [.ref o22, .int x14, .int x17, .int x20] h10) fun h23 =>
  gfV none h23 a0 [11] 1 fun v24 =>
  dR none v24 fun o25 =>
  gfI none h23 o25 [4] 5 fun x26 =>
  pfI none h23 a0 [11] 5 x26 fun h27 =>
  gfV none h27 a0 [11] 0 fun v28 =>
  dR none v28 fun o29 =>
  gfI none h27 o29 [0] 2 fun x30 =>
  some (some (.int x30), h27))) :=
  (call_unr p_127 rfl o_127 rfl [] 38 _ rfl h).trans rfl

theorem p_128 : prg 128 = (k_128, 5) := rfl
theorem o_128 : okc k_128 = true := by decide +kernel
set_option maxRecDepth 100000 in
theorem e_128 (d : Nat) (a0 : Nat) (a1 : Int32) (a2 : Int32) (a3 : Int32) (h : MHeap) : call (d + 1) 128 [.ref a0, .int a1, .int a2, .int a3] h = (
  vd none h a0 [11, 156] fun m1 =>
  cR (call d m1 [.ref a0, .int a1] h) fun v3 h2 =>
  dA none v3 <|
  dA none v3 <|
  dN none v3 (
  some (some (.int (-2 : Int32)), h2)) (
  cI (call d 133 [.int a2, .int (-1 : Int32), .int (2 : Int32)] h2) fun x5 h4 =>
  if x5 = (0 : Int32) then
  (some (some (.int (-2 : Int32)), h4))
  else
  (if a2 = (-1 : Int32) then
  (dA none v3 <|
  dR none v3 fun o7 =>
  vd none h4 o7 [7, 46] fun m6 =>
  cV (call d m6 [.ref o7, .int (-1 : Int32), .int (0 : Int32)] h4) fun h8 =>
  some (some (.int (1 : Int32)), h8))
  else
  (if (40 : Int32) < a3 then
  (some (some (.int (-2 : Int32)), h4))
  else
  (if a3 < (0 : Int32) then
  (some (some (.int (-14 : Int32)), h4))
  else
  (dA none v3 <|
  dR none v3 fun o10 =>
  vd none h4 o10 [7, 46] fun m9 =>
  cV (call d m9 [.ref o10, .int a2, .int a3] h4) fun h11 =>
  some (some (.int (1 : Int32)), h11))))))) :=
  (call_unr p_128 rfl o_128 rfl [] 44 _ rfl h).trans rfl

theorem p_129 : prg 129 = (k_129, 5) := rfl
theorem o_129 : okc k_129 = true := by decide +kernel
set_option maxRecDepth 100000 in
theorem e_129 (d : Nat) (a0 : Nat) (a1 : Int32) (a2 : Int32) (a3 : Int32) (h : MHeap) : call (d + 1) 129 [.ref a0, .int a1, .int a2, .int a3] h = (
  vd none h a0 [11, 156] fun m1 =>
  cR (call d m1 [.ref a0, .int a1] h) fun v3 h2 =>
  dA none v3 <|
  dA none v3 <|
  dN none v3 (
  some (some (.int (-2 : Int32)), h2)) (
  dA none v3 <|
  dR none v3 fun o5 =>
  vd none h2 o5 [7, 45] fun m4 =>
  cI (call d m4 [.ref o5] h2) fun x7 h6 =>
  if x7 = (0 : Int32) then
  (dA none v3 <|
  dR none v3 fun o8 =>
  gfI none h6 o8 [7] 1 fun x9 =>
  cI (call d 133 [.int a2, .int (0 : Int32), .int (x9 - (1 : Int32))] h6) fun x11 h10 =>
  if x11 = (0 : Int32) then
  (some (some (.int (-12 : Int32)), h10))
  else
  (dA none v3 <|
  dR none v3 fun o13 =>
  vd none h10 o13 [7, 49] fun m12 =>
  cV (call d m12 [.ref o13, .int a2, .int a3] h10) fun h14 =>
  some (some (.int (1 : Int32)), h14)))
  else
  (some (some (.int (-11 : Int32)), h6)))) :=
  (call_unr p_129 rfl o_129 rfl [] 34 _ rfl h).trans rfl

theorem p_130 : prg 130 = (k_130, 8) := rfl
theorem o_130 : okc k_130 = true := by decide +kernel
set_option maxRecDepth 100000 in
theorem e_130 (d : Nat) (a0 : Nat) (a1 : Int32) (a2 : Int32) (a3 : Int32) (a4 : Int32) (a5 : Int32) (h : MHeap) : call (d + 1) 130 [.ref a0, .int a1, .int a2, .int a3, .int a4, .int a5] h = (
  vd none h a0 [11, 156] fun m1 =>
  cR (call d m1 [.ref a0, .int a1] h) fun v3 h2 =>
  dA none v3 <|
  vd none h2 a0 [11, 156] fun m4 =>
  cR (call d m4 [.ref a0, .int a3] h2) fun v6 h5 =>
  dA none v6 <|
  dA none v3 <|
  dN none v3 (
  some (some (.int (-2 : Int32)), h5)) (
  dA none v6 <|
  dN none v6 (
  some (some (.int (-2 : Int32)), h5)) (
  dA none v3 <|
  dR none v3 fun o8 =>
  vd none h5 o8 [7, 45] fun m7 =>
  cI (call d m7 [.ref o8] h5) fun x10 h9 =>
  if x10 = (0 : Int32) then
  (dA none v6 <|
  dR none v6 fun o12 =>
  vd none h9 o12 [7, 45] fun m11 =>
  cI (call d m11 [.ref o12] h9) fun x14 h13 =>
  if x14 = (0 : Int32) then
  (dA none v3 <|
  dR none v3 fun o15 =>
  gfI none h13 o15 [7] 0 fun x16 =>
  dA none v6 <|
  dR none v6 fun o17 =>
  gfI none h13 o17 [7] 0 fun x18 =>
  if x16 = x18 then
  (dA none v3 <|
  dR none v3 fun o20 =>
  vd none h13 o20 [7, 47] fun m19 =>
  cI (call d m19 [.ref o20, .int a2, .int a5] h13) fun x22 h21 =>
  if x22 = (0 : Int32) then
  (some (some (.int (-12 : Int32)), h21))
  else
  (dA none v6 <|
  dR none v6 fun o24 =>
  vd none h21 o24 [7, 47] fun m23 =>
  cI (call d m23 [.ref o24, .int a4, .int a5] h21) fun x26 h25 =>
  if x26 = (0 : Int32) then
  (some (some (.int (-12 : Int32)), h25))
  else
  (dA none v3 <|
  dR none v3 fun o27 =>
  gfV none h25 o27 [7] 2 fun v28 =>
  dA none v6 <|
  dR none v6 fun o29 =>
  gfV none h25 o29 [7] 2 fun v30 =>
  cV (call d 1002 [v28, .int a2, v30, .int a4, .int a5] h25) fun h31 =>
  some (some (.int a5), h31))))
  else
  (some (some (.int (-13 : Int32)), h13)))
  else
  (some (some (.int (-11 : Int32)), h13)))
  else
  (some (some (.int (-11 : Int32)), h9))))) :=
  (call_unr p_130 rfl o_130 rfl [] 62 _ rfl h).trans rfl

theorem p_131 : prg 131 = (k_131, 9) := rfl
theorem o_131 : okc k_131 = true := by decide +kernel
set_option maxRecDepth 100000 in
theorem e_131 (d : Nat) (a0 : Nat) (a1 : Int32) (a2 : Int32) (a3 : Int32) (a4 : Int32) (h : MHeap) : call (d + 1) 131 [.ref a0, .int a1, .int a2, .int a3, .int a4] h = (
  vd none h a0 [11, 156] fun m1 =>
  cR (call d m1 [.ref a0, .int a1] h) fun v3 h2 =>
  dA none v3 <|
  dA none v3 <|
  dN none v3 (
  some (some (.int (-2 : Int32)), h2)) (
  cI (call d 133 [.int a2, .int (0 : Int32), .int (2 : Int32)] h2) fun x5 h4 =>
  if x5 = (0 : Int32) then
  (some (some (.int (-2 : Int32)), h4))
  else
  (cI (call d 133 [.int a4, .int (0 : Int32), .int (7 : Int32)] h4) fun x7 h6 =>
  if x7 = (0 : Int32) then
  (some (some (.int (-2 : Int32)), h6))
  else
  (dA none v3 <|
  dR none v3 fun o9 =>
  vd none h6 o9 [7, 45] fun m8 =>
  cI (call d m8 [.ref o9] h6) fun x11 h10 =>
  if x11 = (0 : Int32) then
  (dA none v3 <|
  dR none v3 fun o12 =>
  gfI none h10 o12 [7] 0 fun x13 =>
  if x13 = a2 then
  (ex d 131 67 [sv (.ref a0), sv (.int a1), sv (.int a2), sv (.int a3), sv (.int a4), sv v3, sv (.int (0 : Int32)), sv (.int a3), sv (.int (0 : Int32))] [] h10)
  else
  (some (some (.int (-13 : Int32)), h10)))
  else
  (some (some (.int (-11 : Int32)), h10)))))) :=
  (call_unr p_131 rfl o_131 rfl [67] 44 _ rfl h).trans rfl
set_option maxRecDepth 100000 in
theorem e_131_67 (d : Nat) (a0 : Nat) (a1 : Int32) (a2 : Int32) (a3 : Int32) (a4 : Int32) (a5 : Value) (a6 : Int32) (a7 : Int32) (a8 : Int32) (h : MHeap) : ex d 131 67 [sv (.ref a0), sv (.int a1), sv (.int a2), sv (.int a3), sv (.int a4), sv a5, sv (.int a6), sv (.int a7), sv (.int a8)] [] h = (
  if a8 < a4 then
  (dA none a5 <|
  dR none a5 fun o2 =>
  vd none h o2 [7, 47] fun m1 =>
  cI (call d m1 [.ref o2, .int a7, .int (3 : Int32)] h) fun x4 h3 =>
  if x4 = (0 : Int32) then
  (some (some (.int (-12 : Int32)), h3))
  else
  (dA none a5 <|
  dR none a5 fun o6 =>
  vd none h3 o6 [7, 48] fun m5 =>
  cI (call d m5 [.ref o6, .int a7] h3) fun x8 h7 =>
  dA none a5 <|
  dR none a5 fun o10 =>
  vd none h7 o10 [7, 48] fun m9 =>
  cI (call d m9 [.ref o10, .int (a7 + (1 : Int32))] h7) fun x12 h11 =>
  dA none a5 <|
  dR none a5 fun o14 =>
  vd none h11 o14 [7, 48] fun m13 =>
  cI (call d m13 [.ref o14, .int (a7 + (2 : Int32))] h11) fun x16 h15 =>
  vd none h15 a0 [11, 92] fun m17 =>
  cI (call d m17 [.ref a0, .int x8, .int x12, .int x16] h15) fun x19 h18 =>
  if x19 < (0 : Int32) then
  (ex d 131 67 [sv (.ref a0), sv (.int a1), sv (.int a2), sv (.int a3), sv (.int a4), sv a5, sv (.int a6), sv (.int (a7 + (3 : Int32))), sv (.int (a8 + (1 : Int32)))] [] h18)
  else
  (ex d 131 67 [sv (.ref a0), sv (.int a1), sv (.int a2), sv (.int a3), sv (.int a4), sv a5, sv (.int (a6 + (1 : Int32))), sv (.int (a7 + (3 : Int32))), sv (.int (a8 + (1 : Int32)))] [] h18)))
  else
  (some (some (.int a6), h))) :=
  (ex_unr p_131 o_131 [67] 40 rfl _ _ h).trans rfl

theorem p_132 : prg 132 = (k_132, 3) := rfl
theorem o_132 : okc k_132 = true := by decide +kernel
set_option maxRecDepth 100000 in
theorem e_132 (d : Nat) (a0 : Nat) (a1 : Int32) (a2 : Int32) (h : MHeap) : call (d + 1) 132 [.ref a0, .int a1, .int a2] h = (
  cI (call d 133 [.int a2, .int (0 : Int32), .int (6 : Int32)] h) fun x2 h1 =>
  if x2 = (0 : Int32) then
  (some (some (.int (-2 : Int32)), h1))
  else
  (cI (call d 133 [.int a1, .int (0 : Int32), .int (18 : Int32)] h1) fun x4 h3 =>
  if x4 = (0 : Int32) then
  (some (some (.int (-12 : Int32)), h3))
  else
  (if a1 < (12 : Int32) then
  (vd none h3 a0 [11, 163] fun m5 =>
  cI (call d m5 [.ref a0, .int a1, .int a2] h3) fun x7 h6 =>
  some (some (.int x7), h6))
  else
  (vd none h3 a0 [11, 164] fun m8 =>
  cI (call d m8 [.ref a0, .int (a1 - (12 : Int32)), .int a2] h3) fun x10 h9 =>
  some (some (.int x10), h9))))) :=
  (call_unr p_132 rfl o_132 rfl [] 35 _ rfl h).trans rfl

theorem p_133 : prg 133 = (k_133, 3) := rfl
theorem o_133 : okc k_133 = true := by decide +kernel
set_option maxRecDepth 100000 in
theorem e_133 (d : Nat) (a0 : Int32) (a1 : Int32) (a2 : Int32) (h : MHeap) : call (d + 1) 133 [.int a0, .int a1, .int a2] h = (
  if a0 < a1 then
  (zr none (0 : Int32) (some (some (.int (0 : Int32)), h)))
  else
  (if a2 < a0 then
  (zr none (0 : Int32) (some (some (.int (0 : Int32)), h)))
  else
  (zr none (1 : Int32) (some (some (.int (1 : Int32)), h))))) :=
  (call_unr p_133 rfl o_133 rfl [] 18 _ rfl h).trans rfl

theorem p_134 : prg 134 = (k_134, 1) := rfl
theorem o_134 : okc k_134 = true := by decide +kernel
set_option maxRecDepth 100000 in
theorem e_134 (d : Nat) (a0 : Int32) (h : MHeap) : call (d + 1) 134 [.int a0] h = (
  cI (call d 133 [.int a0, .int (0 : Int32), .int (255 : Int32)] h) fun x2 h1 =>
  zr none x2 (some (some (.int x2), h1))) :=
  (call_unr p_134 rfl o_134 rfl [] 10 _ rfl h).trans rfl

theorem p_135 : prg 135 = (k_135, 1) := rfl
theorem o_135 : okc k_135 = true := by decide +kernel
set_option maxRecDepth 100000 in
theorem e_135 (d : Nat) (a0 : Int32) (h : MHeap) : call (d + 1) 135 [.int a0] h = (
  some (some (.int ((1 : Int32) <<< (a0 &&& 31))), h)) :=
  (call_unr p_135 rfl o_135 rfl [] 9 _ rfl h).trans rfl

theorem p_136 : prg 136 = (k_136, 1) := rfl
theorem o_136 : okc k_136 = true := by decide +kernel
set_option maxRecDepth 100000 in
theorem e_136 (d : Nat) (a0 : Int32) (h : MHeap) : call (d + 1) 136 [.int a0] h = (
  some (some (.int (((1 : Int32) <<< (a0 &&& 31)) - (1 : Int32))), h)) :=
  (call_unr p_136 rfl o_136 rfl [] 11 _ rfl h).trans rfl

theorem p_137 : prg 137 = (k_137, 2) := rfl
theorem o_137 : okc k_137 = true := by decide +kernel
set_option maxRecDepth 100000 in
theorem e_137 (d : Nat) (a0 : Int32) (a1 : Int32) (h : MHeap) : call (d + 1) 137 [.int a0, .int a1] h = (
  if ((a0 >>> (a1 &&& 31)) &&& (1 : Int32)) = (0 : Int32) then
  (zr none (0 : Int32) (some (some (.int (0 : Int32)), h)))
  else
  (zr none (1 : Int32) (some (some (.int (1 : Int32)), h)))) :=
  (call_unr p_137 rfl o_137 rfl [] 16 _ rfl h).trans rfl

theorem p_138 : prg 138 = (k_138, 1) := rfl
theorem o_138 : okc k_138 = true := by decide +kernel
set_option maxRecDepth 100000 in
theorem e_138 (d : Nat) (a0 : Int32) (h : MHeap) : call (d + 1) 138 [.int a0] h = (
  if a0 = (-1 : Int32) then
  (some (some (.int (-1 : Int32)), h))
  else
  (cI (call d 260 [.int a0] h) fun x2 h1 =>
  some (some (.int x2), h1))) :=
  (call_unr p_138 rfl o_138 rfl [] 14 _ rfl h).trans rfl

theorem p_139 : prg 139 = (k_139, 2) := rfl
theorem o_139 : okc k_139 = true := by decide +kernel
set_option maxRecDepth 100000 in
theorem e_139 (d : Nat) (a0 : Int32) (h : MHeap) : call (d + 1) 139 [.int a0] h = (
  ex d 139 2 [sv (.int a0), sv (.int (0 : Int32))] [] h) :=
  (call_unr p_139 rfl o_139 rfl [2] 7 _ rfl h).trans rfl
set_option maxRecDepth 100000 in
theorem e_139_2 (d : Nat) (a0 : Int32) (a1 : Int32) (h : MHeap) : ex d 139 2 [sv (.int a0), sv (.int a1)] [] h = (
  if a1 < (32 : Int32) then
  (cI (call d 137 [.int a0, .int a1] h) fun x2 h1 =>
  if x2 = (0 : Int32) then
  (ex d 139 2 [sv (.int a0), sv (.int (a1 + (1 : Int32)))] [] h1)
  else
  (some (some (.int a1), h1)))
  else
  (some (some (.int (-1 : Int32)), h))) :=
  (ex_unr p_139 o_139 [2] 18 rfl _ _ h).trans rfl

theorem p_140 : prg 140 = (k_140, 2) := rfl
theorem o_140 : okc k_140 = true := by decide +kernel
set_option maxRecDepth 100000 in
theorem e_140 (d : Nat) (a0 : Int32) (a1 : Int32) (h : MHeap) : call (d + 1) 140 [.int a0, .int a1] h = (
  some (some (.int ((a0 >>> (((4 : Int32) * a1) &&& 31)) &&& (15 : Int32))), h)) :=
  (call_unr p_140 rfl o_140 rfl [] 13 _ rfl h).trans rfl

theorem p_141 : prg 141 = (k_141, 2) := rfl
theorem o_141 : okc k_141 = true := by decide +kernel
set_option maxRecDepth 100000 in
theorem e_141 (d : Nat) (a0 : Int32) (a1 : Int32) (h : MHeap) : call (d + 1) 141 [.int a0, .int a1] h = (
  some (some (.int (((100 : Int32) * a0) + a1)), h)) :=
  (call_unr p_141 rfl o_141 rfl [] 11 _ rfl h).trans rfl

theorem p_142 : prg 142 = (k_142, 7) := rfl
theorem o_142 : okc k_142 = true := by decide +kernel
set_option maxRecDepth 100000 in
theorem e_142 (d : Nat) (a0 : Int32) (a1 : Int32) (a2 : Int32) (h : MHeap) : call (d + 1) 142 [.int a0, .int a1, .int a2] h = (
  ex d 142 8 [sv (.int a0), sv (.int a1), sv (.int a2), sv (.int a1), sv (.int a0), sv (.int (0 : Int32)), none] [] h) :=
  (call_unr p_142 rfl o_142 rfl [8] 11 _ rfl h).trans rfl
set_option maxRecDepth 100000 in
theorem e_142_8 (d : Nat) (a0 : Int32) (a1 : Int32) (a2 : Int32) (a3 : Int32) (a4 : Int32) (a5 : Int32) (a6 : MSl) (h : MHeap) : ex d 142 8 [sv (.int a0), sv (.int a1), sv (.int a2), sv (.int a3), sv (.int a4), sv (.int a5), a6] [] h = (
  if a5 < (64 : Int32) then
  (if a4 = (0 : Int32) then
  (if a2 = (0 : Int32) then
  (if a3 = (0 : Int32) then
  (some (some (.long (Int32.toInt64 a0)), h))
  else
  (dv none a3 <|
  some (some (.long (Int32.toInt64 (a0 / a3))), h)))
  else
  (if a3 = (0 : Int32) then
  (some (some (.long (Int32.toInt64 a1)), h))
  else
  (dv none a3 <|
  some (some (.long (Int32.toInt64 (a1 / a3))), h))))
  else
  (dv none a4 <|
  ex d 142 8 [sv (.int a0), sv (.int a1), sv (.int a2), sv (.int a4), sv (.int (a3 - a3 / a4 * a4)), sv (.int (a5 + (1 : Int32))), sv (.int (a3 - a3 / a4 * a4))] [] h))
  else
  (if a2 = (0 : Int32) then
  (if a3 = (0 : Int32) then
  (some (some (.long (Int32.toInt64 a0)), h))
  else
  (dv none a3 <|
  some (some (.long (Int32.toInt64 (a0 / a3))), h)))
  else
  (if a3 = (0 : Int32) then
  (some (some (.long (Int32.toInt64 a1)), h))
  else
  (dv none a3 <|
  some (some (.long (Int32.toInt64 (a1 / a3))), h))))) :=
  (ex_unr p_142 o_142 [8] 78 rfl _ _ h).trans rfl

theorem p_143 : prg 143 = (k_143, 5) := rfl
theorem o_143 : okc k_143 = true := by decide +kernel
set_option maxRecDepth 100000 in
theorem e_143 (d : Nat) (a0 : Nat) (a1 : Int32) (a2 : Int32) (a3 : Int32) (h : MHeap) : call (d + 1) 143 [.ref a0, .int a1, .int a2, .int a3] h = (
  gfI none h a0 [11] 5 fun x1 =>
  gfV none h a0 [11] 3 fun v2 =>
  dR none v2 fun o4 =>
  aln none h o4 fun x3 =>
  cI (call d 133 [.int x1, .int (0 : Int32), .int (x3 - (1 : Int32))] h) fun x6 h5 =>
  if x6 = (0 : Int32) then
  (some (some (.int (0 : Int32)), h5))
  else
  (gfV none h5 a0 [11] 3 fun v7 =>
  gfI none h5 a0 [11] 5 fun x8 =>
  dR none v7 fun o10 =>
  alV none h5 o10 x8 fun v9 =>
  dA none v9 <|
  dA none v9 <|
  dN none v9 (
  some (some (.int (0 : Int32)), h5)) (
  gfV none h5 a0 [11] 9 fun v11 =>
  dR none v11 fun o13 =>
  asI none h5 o13 (0 : Int32) a2 fun h12 =>
  gfV none h12 a0 [11] 9 fun v14 =>
  gfV none h12 a0 [11] 0 fun v15 =>
  dR none v15 fun o16 =>
  gfI none h12 o16 [0] 1 fun x17 =>
  cI (call d 1 [.int a2, .int x17] h12) fun x19 h18 =>
  dR none v14 fun o21 =>
  asI none h18 o21 (1 : Int32) x19 fun h20 =>
  gfV none h20 a0 [11] 9 fun v22 =>
  gfV none h20 a0 [11] 0 fun v23 =>
  dR none v23 fun o24 =>
  gfI none h20 o24 [0] 1 fun x25 =>
  cI (call d 2 [.int a2, .int x25] h20) fun x27 h26 =>
  dR none v22 fun o29 =>
  asI none h26 o29 (2 : Int32) x27 fun h28 =>
  gfV none h28 a0 [11] 9 fun v30 =>
  gfV none h28 a0 [11] 0 fun v31 =>
  dR none v31 fun o32 =>
  gfI none h28 o32 [0] 2 fun x33 =>
  cI (call d 137 [.int x33, .int a2] h28) fun x35 h34 =>
  if x35 = (0 : Int32) then
  (dR none v30 fun o37 =>
  asI none h34 o37 (3 : Int32) (0 : Int32) fun h36 =>
  gfV none h36 a0 [11] 9 fun v38 =>
  gfV none h36 a0 [11] 0 fun v39 =>
  dR none v39 fun o40 =>
  gfI none h36 o40 [0] 0 fun x41 =>
  dR none v38 fun o43 =>
  asI none h36 o43 (4 : Int32) x41 fun h42 =>
  gfV none h42 a0 [11] 9 fun v44 =>
  dR none v44 fun o46 =>
  asI none h42 o46 (5 : Int32) a3 fun h45 =>
  dA none v9 <|
  gfV none h45 a0 [11] 9 fun v47 =>
  gfV none h45 a0 [11] 10 fun v48 =>
  dR none v9 fun o50 =>
  vd none h45 o50 [5, 36] fun m49 =>
  cI (call d m49 [.ref o50, .int a1, v47, v48] h45) fun x52 h51 =>
  cI (call d 1001 [.int (99 : Int32), .int x52] h51) fun x54 h53 =>
  cI (call d 1000 [.int (0 : Int32), .int x54] h53) fun x56 h55 =>
  some (some (.int x56), h55))
  else
  (dR none v30 fun o58 =>
  asI none h34 o58 (3 : Int32) (1 : Int32) fun h57 =>
  gfV none h57 a0 [11] 9 fun v59 =>
  gfV none h57 a0 [11] 0 fun v60 =>
  dR none v60 fun o61 =>
  gfI none h57 o61 [0] 0 fun x62 =>
  dR none v59 fun o64 =>
  asI none h57 o64 (4 : Int32) x62 fun h63 =>
  gfV none h63 a0 [11] 9 fun v65 =>
  dR none v65 fun o67 =>
  asI none h63 o67 (5 : Int32) a3 fun h66 =>
  dA none v9 <|
  gfV none h66 a0 [11] 9 fun v68 =>
  gfV none h66 a0 [11] 10 fun v69 =>
  dR none v9 fun o71 =>
  vd none h66 o71 [5, 36] fun m70 =>
  cI (call d m70 [.ref o71, .int a1, v68, v69] h66) fun x73 h72 =>
  cI (call d 1001 [.int (99 : Int32), .int x73] h72) fun x75 h74 =>
  cI (call d 1000 [.int (0 : Int32), .int x75] h74) fun x77 h76 =>
  some (some (.int x77), h76))))) :=
  (call_unr p_143 rfl o_143 rfl [] 117 _ rfl h).trans rfl

theorem p_144 : prg 144 = (k_144, 4) := rfl
theorem o_144 : okc k_144 = true := by decide +kernel
set_option maxRecDepth 100000 in
theorem e_144 (d : Nat) (a0 : Nat) (a1 : Int32) (h : MHeap) : call (d + 1) 144 [.ref a0, .int a1] h = (
  ex d 144 4 [sv (.ref a0), sv (.int a1), sv (.int (0 : Int32)), sv (.int (0 : Int32))] [] h) :=
  (call_unr p_144 rfl o_144 rfl [4] 9 _ rfl h).trans rfl
set_option maxRecDepth 100000 in
theorem e_144_4 (d : Nat) (a0 : Nat) (a1 : Int32) (a2 : Int32) (a3 : Int32) (h : MHeap) : ex d 144 4 [sv (.ref a0), sv (.int a1), sv (.int a2), sv (.int a3)] [] h = (
  gfV none h a0 [11] 0 fun v1 =>
  dR none v1 fun o2 =>
  gfI none h o2 [0] 0 fun x3 =>
  if a3 < x3 then
  (gfV none h a0 [11] 0 fun v4 =>
  cI (call d 135 [.int a3] h) fun x6 h5 =>
  dR none v4 fun o8 =>
  vd none h5 o8 [0, 21] fun m7 =>
  cI (call d m7 [.ref o8, .int (a1 ^^^ x6)] h5) fun x10 h9 =>
  if x10 = (0 : Int32) then
  (ex d 144 4 [sv (.ref a0), sv (.int a1), sv (.int (a2 ||| (0 : Int32))), sv (.int (a3 + (1 : Int32)))] [] h9)
  else
  (cI (call d 135 [.int a3] h9) fun x12 h11 =>
  ex d 144 4 [sv (.ref a0), sv (.int a1), sv (.int (a2 ||| x12)), sv (.int (a3 + (1 : Int32)))] [] h11))
  else
  (some (some (.int a2), h))) :=
  (ex_unr p_144 o_144 [4] 33 rfl _ _ h).trans rfl

theorem p_145 : prg 145 = (k_145, 7) := rfl
theorem o_145 : okc k_145 = true := by decide +kernel
set_option maxRecDepth 100000 in
theorem e_145 (d : Nat) (a0 : Nat) (a1 : Int32) (a2 : Int32) (a3 : Int32) (h : MHeap) : call (d + 1) 145 [.ref a0, .int a1, .int a2, .int a3] h = (
  ex d 145 6 [sv (.ref a0), sv (.int a1), sv (.int a2), sv (.int a3), sv (.int (-1 : Int32)), sv (.int a1), none] [] h) :=
  (call_unr p_145 rfl o_145 rfl [6] 9 _ rfl h).trans rfl
set_option maxRecDepth 100000 in
theorem e_145_6 (d : Nat) (a0 : Nat) (a1 : Int32) (a2 : Int32) (a3 : Int32) (a4 : Int32) (a5 : Int32) (a6 : MSl) (h : MHeap) : ex d 145 6 [sv (.ref a0), sv (.int a1), sv (.int a2), sv (.int a3), sv (.int a4), sv (.int a5), a6] [] h = (
  if a2 < a5 then
  (some (some (.int a4), h))
  else
  (if a4 = (-1 : Int32) then
  (if (a5 &&& (a2 ^^^ (-1 : Int32))) = (0 : Int32) then
  (if (1 : Int32) = (0 : Int32) then
  (ex d 145 6 [sv (.ref a0), sv (.int a1), sv (.int a2), sv (.int a3), sv (.int a4), sv (.int (a5 + (1 : Int32))), sv (.int (1 : Int32))] [] h)
  else
  (gfV none h a0 [11] 0 fun v1 =>
  gfV none h a0 [11] 0 fun v2 =>
  dR none v2 fun o3 =>
  gfI none h o3 [0] 2 fun x4 =>
  dR none v1 fun o6 =>
  vd none h o6 [0, 20] fun m5 =>
  cI (call d m5 [.ref o6, .int (x4 ^^^ a5), .int a3] h) fun x8 h7 =>
  if x8 = (0 : Int32) then
  (ex d 145 6 [sv (.ref a0), sv (.int a1), sv (.int a2), sv (.int a3), sv (.int a4), sv (.int (a5 + (1 : Int32))), sv (.int (1 : Int32))] [] h7)
  else
  (ex d 145 6 [sv (.ref a0), sv (.int a1), sv (.int a2), sv (.int a3), sv (.int a5), sv (.int (a5 + (1 : Int32))), sv (.int (1 : Int32))] [] h7)))
  else
  (ex d 145 6 [sv (.ref a0), sv (.int a1), sv (.int a2), sv (.int a3), sv (.int a4), sv (.int (a5 + (1 : Int32))), sv (.int (1 : Int32))] [] h))
  else
  (cI (call d 260 [.int a5] h) fun x10 h9 =>
  cI (call d 260 [.int a4] h9) fun x12 h11 =>
  if x10 < x12 then
  (if (a5 &&& (a2 ^^^ (-1 : Int32))) = (0 : Int32) then
  (if (1 : Int32) = (0 : Int32) then
  (ex d 145 6 [sv (.ref a0), sv (.int a1), sv (.int a2), sv (.int a3), sv (.int a4), sv (.int (a5 + (1 : Int32))), sv (.int (1 : Int32))] [] h11)
  else
  (gfV none h11 a0 [11] 0 fun v13 =>
  gfV none h11 a0 [11] 0 fun v14 =>
  dR none v14 fun o15 =>
  gfI none h11 o15 [0] 2 fun x16 =>
  dR none v13 fun o18 =>
  vd none h11 o18 [0, 20] fun m17 =>
  cI (call d m17 [.ref o18, .int (x16 ^^^ a5), .int a3] h11) fun x20 h19 =>
  if x20 = (0 : Int32) then
  (ex d 145 6 [sv (.ref a0), sv (.int a1), sv (.int a2), sv (.int a3), sv (.int a4), sv (.int (a5 + (1 : Int32))), sv (.int (1 : Int32))] [] h19)
  else
  (ex d 145 6 [sv (.ref a0), sv (.int a1), sv (.int a2), sv (.int a3), sv (.int a5), sv (.int (a5 + (1 : Int32))), sv (.int (1 : Int32))] [] h19)))
  else
  (ex d 145 6 [sv (.ref a0), sv (.int a1), sv (.int a2), sv (.int a3), sv (.int a4), sv (.int (a5 + (1 : Int32))), sv (.int (1 : Int32))] [] h11))
  else
  (if (a5 &&& (a2 ^^^ (-1 : Int32))) = (0 : Int32) then
  (if (0 : Int32) = (0 : Int32) then
  (ex d 145 6 [sv (.ref a0), sv (.int a1), sv (.int a2), sv (.int a3), sv (.int a4), sv (.int (a5 + (1 : Int32))), sv (.int (0 : Int32))] [] h11)
  else
  (gfV none h11 a0 [11] 0 fun v21 =>
  gfV none h11 a0 [11] 0 fun v22 =>
  dR none v22 fun o23 =>
  gfI none h11 o23 [0] 2 fun x24 =>
  dR none v21 fun o26 =>
  vd none h11 o26 [0, 20] fun m25 =>
  cI (call d m25 [.ref o26, .int (x24 ^^^ a5), .int a3] h11) fun x28 h27 =>
  if x28 = (0 : Int32) then
  (ex d 145 6 [sv (.ref a0), sv (.int a1), sv (.int a2), sv (.int a3), sv (.int a4), sv (.int (a5 + (1 : Int32))), sv (.int (0 : Int32))] [] h27)
  else
  (ex d 145 6 [sv (.ref a0), sv (.int a1), sv (.int a2), sv (.int a3), sv (.int a5), sv (.int (a5 + (1 : Int32))), sv (.int (0 : Int32))] [] h27)))
  else
  (ex d 145 6 [sv (.ref a0), sv (.int a1), sv (.int a2), sv (.int a3), sv (.int a4), sv (.int (a5 + (1 : Int32))), sv (.int (0 : Int32))] [] h11))))) :=
  (ex_unr p_145 o_145 [6] 110 rfl _ _ h).trans rfl

theorem p_146 : prg 146 = (k_146, 3) := rfl
theorem o_146 : okc k_146 = true := by decide +kernel
set_option maxRecDepth 100000 in
theorem e_146 (d : Nat) (a0 : Nat) (h : MHeap) : call (d + 1) 146 [.ref a0] h = (
  ex d 146 4 [sv (.ref a0), sv (.int (0 : Int32)), sv (.int (0 : Int32))] [] h) :=
  (call_unr p_146 rfl o_146 rfl [4] 9 _ rfl h).trans rfl
set_option maxRecDepth 100000 in
theorem e_146_4 (d : Nat) (a0 : Nat) (a1 : Int32) (a2 : Int32) (h : MHeap) : ex d 146 4 [sv (.ref a0), sv (.int a1), sv (.int a2)] [] h = (
  gfV none h a0 [11] 0 fun v1 =>
  dR none v1 fun o2 =>
  gfI none h o2 [0] 0 fun x3 =>
  if a2 < x3 then
  (gfV none h a0 [11] 0 fun v4 =>
  gfV none h a0 [11] 0 fun v5 =>
  dR none v5 fun o6 =>
  gfI none h o6 [0] 2 fun x7 =>
  cI (call d 135 [.int a2] h) fun x9 h8 =>
  dR none v4 fun o11 =>
  vd none h8 o11 [0, 16] fun m10 =>
  cI (call d m10 [.ref o11, .int (x7 ^^^ x9)] h8) fun x13 h12 =>
  vd none h12 a0 [11, 148] fun m14 =>
  cI (call d m14 [.ref a0, .int a1, .int x13] h12) fun x16 h15 =>
  ex d 146 4 [sv (.ref a0), sv (.int x16), sv (.int (a2 + (1 : Int32)))] [] h15)
  else
  (some (some (.int a1), h))) :=
  (ex_unr p_146 o_146 [4] 27 rfl _ _ h).trans rfl

theorem p_147 : prg 147 = (k_147, 4) := rfl
theorem o_147 : okc k_147 = true := by decide +kernel
set_option maxRecDepth 100000 in
theorem e_147 (d : Nat) (a0 : Nat) (h : MHeap) : call (d + 1) 147 [.ref a0] h = (
  ex d 147 2 [sv (.ref a0), sv (.int (0 : Int32)), none, none] [] h) :=
  (call_unr p_147 rfl o_147 rfl [2, 37] 7 _ rfl h).trans rfl
set_option maxRecDepth 100000 in
theorem e_147_2 (d : Nat) (a0 : Nat) (a1 : Int32) (a2 : MSl) (a3 : MSl) (h : MHeap) : ex d 147 2 [sv (.ref a0), sv (.int a1), a2, a3] [] h = (
  gfV none h a0 [11] 0 fun v1 =>
  dR none v1 fun o2 =>
  gfI none h o2 [0] 0 fun x3 =>
  if a1 < x3 then
  (gfV none h a0 [11] 0 fun v4 =>
  gfV none h a0 [11] 0 fun v5 =>
  dR none v5 fun o6 =>
  gfI none h o6 [0] 2 fun x7 =>
  cI (call d 135 [.int a1] h) fun x9 h8 =>
  dR none v4 fun o11 =>
  vd none h8 o11 [0, 16] fun m10 =>
  cI (call d m10 [.ref o11, .int (x7 ^^^ x9)] h8) fun x13 h12 =>
  ex d 147 37 [sv (.ref a0), sv (.int a1), sv (.int x13), sv (.int (a1 + (1 : Int32)))] [] h12)
  else
  (some (some (.int (-1 : Int32)), h))) :=
  (ex_unr p_147 o_147 [2, 37] 26 rfl _ _ h).trans rfl
set_option maxRecDepth 100000 in
theorem e_147_37 (d : Nat) (a0 : Nat) (a1 : Int32) (a2 : Int32) (a3 : Int32) (h : MHeap) : ex d 147 37 [sv (.ref a0), sv (.int a1), sv (.int a2), sv (.int a3)] [] h = (
  gfV none h a0 [11] 0 fun v1 =>
  dR none v1 fun o2 =>
  gfI none h o2 [0] 0 fun x3 =>
  if a3 < x3 then
  (gfV none h a0 [11] 0 fun v4 =>
  gfV none h a0 [11] 0 fun v5 =>
  dR none v5 fun o6 =>
  gfI none h o6 [0] 2 fun x7 =>
  cI (call d 135 [.int a3] h) fun x9 h8 =>
  dR none v4 fun o11 =>
  vd none h8 o11 [0, 20] fun m10 =>
  cI (call d m10 [.ref o11, .int (x7 ^^^ x9), .int a2] h8) fun x13 h12 =>
  if x13 = (0 : Int32) then
  (ex d 147 37 [sv (.ref a0), sv (.int a1), sv (.int a2), sv (.int (a3 + (1 : Int32)))] [] h12)
  else
  (cI (call d 141 [.int a1, .int a3] h12) fun x15 h14 =>
  some (some (.int x15), h14)))
  else
  (ex d 147 2 [sv (.ref a0), sv (.int (a1 + (1 : Int32))), sv (.int a2), sv (.int a3)] [] h)) :=
  (ex_unr p_147 o_147 [2, 37] 29 rfl _ _ h).trans rfl

theorem p_148 : prg 148 = (k_148, 4) := rfl
theorem o_148 : okc k_148 = true := by decide +kernel
set_option maxRecDepth 100000 in
theorem e_148 (d : Nat) (a0 : Nat) (a1 : Int32) (a2 : Int32) (h : MHeap) : call (d + 1) 148 [.ref a0, .int a1, .int a2] h = (
  ex d 148 2 [sv (.ref a0), sv (.int a1), sv (.int a2), sv (.int (0 : Int32))] [] h) :=
  (call_unr p_148 rfl o_148 rfl [2] 7 _ rfl h).trans rfl
set_option maxRecDepth 100000 in
theorem e_148_2 (d : Nat) (a0 : Nat) (a1 : Int32) (a2 : Int32) (a3 : Int32) (h : MHeap) : ex d 148 2 [sv (.ref a0), sv (.int a1), sv (.int a2), sv (.int a3)] [] h = (
  if a3 < a1 then
  (gfV none h a0 [11] 7 fun v1 =>
  dR none v1 fun o3 =>
  aln none h o3 fun x2 =>
  if a3 < x2 then
  (gfV none h a0 [11] 7 fun v4 =>
  dR none v4 fun o6 =>
  alI none h o6 a3 fun x5 =>
  if x5 = a2 then
  (some (some (.int a1), h))
  else
  (ex d 148 2 [sv (.ref a0), sv (.int a1), sv (.int a2), sv (.int (a3 + (1 : Int32)))] [] h))
  else
  (gfV none h a0 [11] 7 fun v7 =>
  dR none v7 fun o9 =>
  aln none h o9 fun x8 =>
  cI (call d 133 [.int a1, .int (0 : Int32), .int (x8 - (1 : Int32))] h) fun x11 h10 =>
  if x11 = (0 : Int32) then
  (some (some (.int a1), h10))
  else
  (gfV none h10 a0 [11] 7 fun v12 =>
  dR none v12 fun o14 =>
  asI none h10 o14 a1 a2 fun h13 =>
  some (some (.int (a1 + (1 : Int32))), h13))))
  else
  (gfV none h a0 [11] 7 fun v15 =>
  dR none v15 fun o17 =>
  aln none h o17 fun x16 =>
  cI (call d 133 [.int a1, .int (0 : Int32), .int (x16 - (1 : Int32))] h) fun x19 h18 =>
  if x19 = (0 : Int32) then
  (some (some (.int a1), h18))
  else
  (gfV none h18 a0 [11] 7 fun v20 =>
  dR none v20 fun o22 =>
  asI none h18 o22 a1 a2 fun h21 =>
  some (some (.int (a1 + (1 : Int32))), h21)))) :=
  (ex_unr p_148 o_148 [2] 63 rfl _ _ h).trans rfl

theorem p_149 : prg 149 = (k_149, 3) := rfl
theorem o_149 : okc k_149 = true := by decide +kernel
set_option maxRecDepth 100000 in
theorem e_149 (d : Nat) (a0 : Nat) (a1 : Int32) (h : MHeap) : call (d + 1) 149 [.ref a0, .int a1] h = (
  gfV none h a0 [11] 0 fun v1 =>
  dR none v1 fun o3 =>
  vd none h o3 [0, 18] fun m2 =>
  cI (call d m2 [.ref o3, .int a1] h) fun x5 h4 =>
  if x5 = (0 : Int32) then
  (gfV none h4 a0 [11] 0 fun v6 =>
  dR none v6 fun o8 =>
  vd none h4 o8 [0, 15] fun m7 =>
  cI (call d m7 [.ref o8] h4) fun x10 h9 =>
  some (some (.int x10), h9))
  else
  (cI (call d 260 [.int x5] h4) fun x12 h11 =>
  if x12 = (1 : Int32) then
  (some (some (.int x5), h11))
  else
  (some (some (.int (0 : Int32)), h11)))) :=
  (call_unr p_149 rfl o_149 rfl [] 25 _ rfl h).trans rfl

theorem p_150 : prg 150 = (k_150, 1) := rfl
theorem o_150 : okc k_150 = true := by decide +kernel
set_option maxRecDepth 100000 in
theorem e_150 (d : Nat) (a0 : Nat) (h : MHeap) : call (d + 1) 150 [.ref a0] h = (
  gfV none h a0 [11] 0 fun v1 =>
  dR none v1 fun o2 =>
  gfI none h o2 [0] 0 fun x3 =>
  if (8 : Int32) < x3 then
  (zr none (0 : Int32) (some (some (.int (0 : Int32)), h)))
  else
  (gfV none h a0 [11] 0 fun v4 =>
  dR none v4 fun o5 =>
  gfI none h o5 [0] 0 fun x6 =>
  cI (call d 260 [.int x6] h) fun x8 h7 =>
  if x8 = (1 : Int32) then
  (zr none (1 : Int32) (some (some (.int (1 : Int32)), h7)))
  else
  (zr none (0 : Int32) (some (some (.int (0 : Int32)), h7))))) :=
  (call_unr p_150 rfl o_150 rfl [] 23 _ rfl h).trans rfl

theorem p_151 : prg 151 = (k_151, 3) := rfl
theorem o_151 : okc k_151 = true := by decide +kernel
set_option maxRecDepth 100000 in
theorem e_151 (d : Nat) (a0 : Nat) (h : MHeap) : call (d + 1) 151 [.ref a0] h = (
  ex d 151 4 [sv (.ref a0), sv (.int (0 : Int32)), sv (.int (0 : Int32))] [] h) :=
  (call_unr p_151 rfl o_151 rfl [4] 9 _ rfl h).trans rfl
set_option maxRecDepth 100000 in
theorem e_151_4 (d : Nat) (a0 : Nat) (a1 : Int32) (a2 : Int32) (h : MHeap) : ex d 151 4 [sv (.ref a0), sv (.int a1), sv (.int a2)] [] h = (
  gfV none h a0 [11] 0 fun v1 =>
  dR none v1 fun o2 =>
  gfI none h o2 [0] 0 fun x3 =>
  if a2 < x3 then
  (gfV none h a0 [11] 0 fun v4 =>
  dR none v4 fun o5 =>
  gfI none h o5 [0] 2 fun x6 =>
  cI (call d 137 [.int x6, .int a2] h) fun x8 h7 =>
  if x8 = (0 : Int32) then
  (ex d 151 4 [sv (.ref a0), sv (.int (a1 ^^^ (0 : Int32))), sv (.int (a2 + (1 : Int32)))] [] h7)
  else
  (ex d 151 4 [sv (.ref a0), sv (.int (a1 ^^^ a2)), sv (.int (a2 + (1 : Int32)))] [] h7))
  else
  (some (some (.int a1), h))) :=
  (ex_unr p_151 o_151 [4] 30 rfl _ _ h).trans rfl

theorem p_152 : prg 152 = (k_152, 4) := rfl
theorem o_152 : okc k_152 = true := by decide +kernel
set_option maxRecDepth 100000 in
theorem e_152 (d : Nat) (a0 : Nat) (h : MHeap) : call (d + 1) 152 [.ref a0] h = (
  gfV none h a0 [11] 8 fun v1 =>
  cV (call d 261 [v1, .int (0 : Int32)] h) fun h2 =>
  gfV none h2 a0 [11] 0 fun v3 =>
  dR none v3 fun o5 =>
  vd none h2 o5 [0, 19] fun m4 =>
  cI (call d m4 [.ref o5] h2) fun x7 h6 =>
  gfV none h6 a0 [11] 8 fun v8 =>
  gfV none h6 a0 [11] 0 fun v9 =>
  gfV none h6 a0 [11] 0 fun v10 =>
  dR none v10 fun o11 =>
  gfI none h6 o11 [0] 2 fun x12 =>
  dR none v9 fun o14 =>
  vd none h6 o14 [0, 21] fun m13 =>
  cI (call d m13 [.ref o14, .int x12] h6) fun x16 h15 =>
  if x16 = (0 : Int32) then
  (dR none v8 fun o18 =>
  asI none h15 o18 (0 : Int32) (0 : Int32) fun h17 =>
  ex d 152 47 [sv (.ref a0), sv (.int x7), sv (.int (0 : Int32)), none] [] h17)
  else
  (dR none v8 fun o20 =>
  asI none h15 o20 (0 : Int32) (100 : Int32) fun h19 =>
  ex d 152 47 [sv (.ref a0), sv (.int x7), sv (.int (0 : Int32)), none] [] h19)) :=
  (call_unr p_152 rfl o_152 rfl [47, 107, 184, 185] 32 _ rfl h).trans rfl
set_option maxRecDepth 100000 in
theorem e_152_47 (d : Nat) (a0 : Nat) (a1 : Int32) (a2 : Int32) (a3 : MSl) (h : MHeap) : ex d 152 47 [sv (.ref a0), sv (.int a1), sv (.int a2), a3] [] h = (
  if a2 < (12 : Int32) then
  (gfV none h a0 [11] 0 fun v1 =>
  dR none v1 fun o3 =>
  vd none h o3 [0, 5] fun m2 =>
  cI (call d m2 [.ref o3, .int a2] h) fun x5 h4 =>
  if x5 = (0 : Int32) then
  (ex d 152 107 [sv (.ref a0), sv (.int a1), sv (.int a2), a3] [] h4)
  else
  (gfV none h4 a0 [11] 0 fun v6 =>
  dR none v6 fun o7 =>
  gfI none h4 o7 [0] 2 fun x8 =>
  cI (call d 135 [.int a2] h4) fun x10 h9 =>
  gfV none h9 a0 [11] 8 fun v11 =>
  gfV none h9 a0 [11] 0 fun v12 =>
  dR none v12 fun o14 =>
  vd none h9 o14 [0, 21] fun m13 =>
  cI (call d m13 [.ref o14, .int (x8 ^^^ x10)] h9) fun x16 h15 =>
  if x16 = (0 : Int32) then
  (dR none v11 fun o18 =>
  asI none h15 o18 ((1 : Int32) + a2) (0 : Int32) fun h17 =>
  ex d 152 107 [sv (.ref a0), sv (.int a1), sv (.int a2), sv (.int (x8 ^^^ x10))] [] h17)
  else
  (vd none h15 a0 [11, 143] fun m19 =>
  cI (call d m19 [.ref a0, .int (0 : Int32), .int a2, .int a1] h15) fun x21 h20 =>
  dR none v11 fun o23 =>
  asI none h20 o23 ((1 : Int32) + a2) x21 fun h22 =>
  ex d 152 107 [sv (.ref a0), sv (.int a1), sv (.int a2), sv (.int (x8 ^^^ x10))] [] h22)))
  else
  (some (none, h))) :=
  (ex_unr p_152 o_152 [47, 107, 184, 185] 40 rfl _ _ h).trans rfl
set_option maxRecDepth 100000 in
theorem e_152_107 (d : Nat) (a0 : Nat) (a1 : Int32) (a2 : Int32) (a3 : MSl) (h : MHeap) : ex d 152 107 [sv (.ref a0), sv (.int a1), sv (.int a2), a3] [] h = (
  gfV none h a0 [11] 0 fun v1 =>
  dR none v1 fun o3 =>
  vd none h o3 [0, 5] fun m2 =>
  cI (call d m2 [.ref o3, .int (a2 + (1 : Int32))] h) fun x5 h4 =>
  if x5 = (0 : Int32) then
  (ex d 152 185 [sv (.ref a0), sv (.int a1), sv (.int a2), a3] [] h4)
  else
  (gfV none h4 a0 [11] 0 fun v6 =>
  dR none v6 fun o8 =>
  vd none h4 o8 [0, 7] fun m7 =>
  cI (call d m7 [.ref o8, .int a2, .int (a2 + (1 : Int32))] h4) fun x10 h9 =>
  if x10 = (0 : Int32) then
  (ex d 152 185 [sv (.ref a0), sv (.int a1), sv (.int a2), a3] [] h9)
  else
  (gfV none h9 a0 [11] 0 fun v11 =>
  dR none v11 fun o12 =>
  gfI none h9 o12 [0] 2 fun x13 =>
  cI (call d 135 [.int a2] h9) fun x15 h14 =>
  cI (call d 135 [.int (a2 + (1 : Int32))] h14) fun x17 h16 =>
  gfV none h16 a0 [11] 8 fun v18 =>
  gfV none h16 a0 [11] 0 fun v19 =>
  dR none v19 fun o21 =>
  vd none h16 o21 [0, 21] fun m20 =>
  cI (call d m20 [.ref o21, .int ((x13 ^^^ x15) ^^^ x17)] h16) fun x23 h22 =>
  if x23 = (0 : Int32) then
  (ex d 152 184 [sv (.ref a0), sv (.int a1), sv (.int a2), sv (.int ((x13 ^^^ x15) ^^^ x17))] [.int (0 : Int32), .int ((21 : Int32) + a2), v18] h22)
  else
  (vd none h22 a0 [11, 143] fun m24 =>
  cI (call d m24 [.ref a0, .int (1 : Int32), .int a2, .int a1] h22) fun x26 h25 =>
  ex d 152 184 [sv (.ref a0), sv (.int a1), sv (.int a2), sv (.int ((x13 ^^^ x15) ^^^ x17))] [.int x26, .int ((21 : Int32) + a2), v18] h25)))) :=
  (ex_unr p_152 o_152 [47, 107, 184, 185] 49 rfl _ _ h).trans rfl
set_option maxRecDepth 100000 in
theorem e_152_184 (d : Nat) (a0 : Nat) (a1 : Int32) (a2 : Int32) (a3 : Int32) (s0 : Int32) (s1 : Int32) (s2 : Value) (h : MHeap) : ex d 152 184 [sv (.ref a0), sv (.int a1), sv (.int a2), sv (.int a3)] [.int s0, .int s1, s2] h = (
  dR none s2 fun o2 =>
  asI none h o2 s1 s0 fun h1 =>
  ex d 152 185 [sv (.ref a0), sv (.int a1), sv (.int a2), sv (.int a3)] [] h1) :=
  (ex_unr p_152 o_152 [47, 107, 184, 185] 6 rfl _ _ h).trans rfl
set_option maxRecDepth 100000 in
theorem e_152_185 (d : Nat) (a0 : Nat) (a1 : Int32) (a2 : Int32) (a3 : MSl) (h : MHeap) : ex d 152 185 [sv (.ref a0), sv (.int a1), sv (.int a2), a3] [] h = (
  ex d 152 47 [sv (.ref a0), sv (.int a1), sv (.int (a2 + (1 : Int32))), a3] [] h) :=
  (ex_unr p_152 o_152 [47, 107, 184, 185] 7 rfl _ _ h).trans rfl

theorem p_153 : prg 153 = (k_153, 4) := rfl
theorem o_153 : okc k_153 = true := by decide +kernel
set_option maxRecDepth 100000 in
theorem e_153 (d : Nat) (a0 : Nat) (h : MHeap) : call (d + 1) 153 [.ref a0] h = (
  ex d 153 6 [sv (.ref a0), sv (.int (-1 : Int32)), sv (.int (0 : Int32)), sv (.int (0 : Int32))] [] h) :=
  (call_unr p_153 rfl o_153 rfl [6] 11 _ rfl h).trans rfl
set_option maxRecDepth 100000 in
theorem e_153_6 (d : Nat) (a0 : Nat) (a1 : Int32) (a2 : Int32) (a3 : Int32) (h : MHeap) : ex d 153 6 [sv (.ref a0), sv (.int a1), sv (.int a2), sv (.int a3)] [] h = (
  gfV none h a0 [11] 8 fun v1 =>
  dR none v1 fun o3 =>
  aln none h o3 fun x2 =>
  if a3 < x2 then
  (gfV none h a0 [11] 8 fun v4 =>
  dR none v4 fun o6 =>
  alI none h o6 a3 fun x5 =>
  if a2 < x5 then
  (gfV none h a0 [11] 8 fun v7 =>
  dR none v7 fun o9 =>
  alI none h o9 a3 fun x8 =>
  ex d 153 6 [sv (.ref a0), sv (.int a3), sv (.int x8), sv (.int (a3 + (1 : Int32)))] [] h)
  else
  (ex d 153 6 [sv (.ref a0), sv (.int a1), sv (.int a2), sv (.int (a3 + (1 : Int32)))] [] h))
  else
  (some (some (.int a1), h))) :=
  (ex_unr p_153 o_153 [6] 29 rfl _ _ h).trans rfl

theorem p_154 : prg 154 = (k_154, 2) := rfl
theorem o_154 : okc k_154 = true := by decide +kernel
set_option maxRecDepth 100000 in
theorem e_154 (d : Nat) (a0 : Nat) (a1 : Int32) (h : MHeap) : call (d + 1) 154 [.ref a0, .int a1] h = (
  gfV none h a0 [11] 8 fun v1 =>
  dR none v1 fun o3 =>
  aln none h o3 fun x2 =>
  cI (call d 133 [.int a1, .int (0 : Int32), .int (x2 - (1 : Int32))] h) fun x5 h4 =>
  if x5 = (0 : Int32) then
  (some (some (.int (0 : Int32)), h4))
  else
  (gfV none h4 a0 [11] 8 fun v6 =>
  dR none v6 fun o8 =>
  alI none h4 o8 a1 fun x7 =>
  some (some (.int x7), h4))) :=
  (call_unr p_154 rfl o_154 rfl [] 22 _ rfl h).trans rfl

theorem p_155 : prg 155 = (k_155, 6) := rfl
theorem o_155 : okc k_155 = true := by decide +kernel
set_option maxRecDepth 100000 in
theorem e_155 (d : Nat) (a0 : Nat) (h : MHeap) : call (d + 1) 155 [.ref a0] h = (
  gfV none h a0 [11] 8 fun v1 =>
  dA none v1 <|
  dA none v1 <|
  dR none v1 fun o3 =>
  aln none h o3 fun x2 =>
  ex d 155 13 [sv (.ref a0), sv (.int (0 : Int32)), sv v1, sv (.int x2), sv (.int (0 : Int32)), none] [] h) :=
  (call_unr p_155 rfl o_155 rfl [13] 15 _ rfl h).trans rfl
set_option maxRecDepth 100000 in
theorem e_155_13 (d : Nat) (a0 : Nat) (a1 : Int32) (a2 : Value) (a3 : Int32) (a4 : Int32) (a5 : MSl) (h : MHeap) : ex d 155 13 [sv (.ref a0), sv (.int a1), sv a2, sv (.int a3), sv (.int a4), a5] [] h = (
  if a4 < a3 then
  (dA none a2 <|
  dR none a2 fun o2 =>
  alI none h o2 a4 fun x1 =>
  ex d 155 13 [sv (.ref a0), sv (.int (a1 + x1)), sv a2, sv (.int a3), sv (.int (a4 + (1 : Int32))), sv (.int x1)] [] h)
  else
  (some (some (.int a1), h))) :=
  (ex_unr p_155 o_155 [13] 20 rfl _ _ h).trans rfl

theorem p_156 : prg 156 = (k_156, 2) := rfl
theorem o_156 : okc k_156 = true := by decide +kernel
set_option maxRecDepth 100000 in
theorem e_156 (d : Nat) (a0 : Nat) (a1 : Int32) (h : MHeap) : call (d + 1) 156 [.ref a0, .int a1] h = (
  gfV none h a0 [11] 6 fun v1 =>
  dR none v1 fun o3 =>
  aln none h o3 fun x2 =>
  cI (call d 133 [.int a1, .int (0 : Int32), .int (x2 - (1 : Int32))] h) fun x5 h4 =>
  if x5 = (0 : Int32) then
  (some (some .null, h4))
  else
  (gfV none h4 a0 [11] 6 fun v6 =>
  dR none v6 fun o8 =>
  alV none h4 o8 a1 fun v7 =>
  dA none v7 <|
  some (some v7, h4))) :=
  (call_unr p_156 rfl o_156 rfl [] 22 _ rfl h).trans rfl

theorem p_157 : prg 157 = (k_157, 3) := rfl
theorem o_157 : okc k_157 = true := by decide +kernel
set_option maxRecDepth 100000 in
theorem e_157 (d : Nat) (a0 : Nat) (a1 : Int32) (h : MHeap) : call (d + 1) 157 [.ref a0, .int a1] h = (
  vd none h a0 [11, 156] fun m1 =>
  cR (call d m1 [.ref a0, .int a1] h) fun v3 h2 =>
  dA none v3 <|
  dA none v3 <|
  dN none v3 (
  some (some (.int (-2 : Int32)), h2)) (
  dA none v3 <|
  dR none v3 fun o5 =>
  vd none h2 o5 [7, 45] fun m4 =>
  cI (call d m4 [.ref o5] h2) fun x7 h6 =>
  if x7 = (0 : Int32) then
  (dA none v3 <|
  dR none v3 fun o8 =>
  gfI none h6 o8 [7] 1 fun x9 =>
  gfV none h6 a0 [11] 0 fun v10 =>
  dR none v10 fun o11 =>
  gfI none h6 o11 [0] 3 fun x12 =>
  if x9 = x12 then
  (some (some (.int (0 : Int32)), h6))
  else
  (some (some (.int (-2 : Int32)), h6)))
  else
  (some (some (.int (-11 : Int32)), h6)))) :=
  (call_unr p_157 rfl o_157 rfl [] 29 _ rfl h).trans rfl

theorem p_158 : prg 158 = (k_158, 6) := rfl
theorem o_158 : okc k_158 = true := by decide +kernel
set_option maxRecDepth 100000 in
theorem e_158 (d : Nat) (a0 : Nat) (a1 : Int32) (h : MHeap) : call (d + 1) 158 [.ref a0, .int a1] h = (
  vd none h a0 [11, 156] fun m1 =>
  cR (call d m1 [.ref a0, .int a1] h) fun v3 h2 =>
  dA none v3 <|
  ex d 158 11 [sv (.ref a0), sv (.int a1), sv v3, sv (.int (0 : Int32)), sv (.int (0 : Int32)), none] [] h2) :=
  (call_unr p_158 rfl o_158 rfl [11] 13 _ rfl h).trans rfl
set_option maxRecDepth 100000 in
theorem e_158_11 (d : Nat) (a0 : Nat) (a1 : Int32) (a2 : Value) (a3 : Int32) (a4 : Int32) (a5 : MSl) (h : MHeap) : ex d 158 11 [sv (.ref a0), sv (.int a1), sv a2, sv (.int a3), sv (.int a4), a5] [] h = (
  gfV none h a0 [11] 0 fun v1 =>
  dR none v1 fun o2 =>
  gfI none h o2 [0] 3 fun x3 =>
  if a4 < x3 then
  (dA none a2 <|
  dN none a2 (
  cI (call d 133 [.int (15 : Int32), .int (0 : Int32), .int (15 : Int32)] h) fun x5 h4 =>
  if x5 = (0 : Int32) then
  (ex d 158 11 [sv (.ref a0), sv (.int a1), sv a2, sv (.int (a3 ||| ((15 : Int32) <<< (((4 : Int32) * a4) &&& 31)))), sv (.int (a4 + (1 : Int32))), sv (.int (15 : Int32))] [] h4)
  else
  (ex d 158 11 [sv (.ref a0), sv (.int a1), sv a2, sv (.int (a3 ||| ((15 : Int32) <<< (((4 : Int32) * a4) &&& 31)))), sv (.int (a4 + (1 : Int32))), sv (.int (15 : Int32))] [] h4)) (
  dA none a2 <|
  dR none a2 fun o7 =>
  vd none h o7 [7, 48] fun m6 =>
  cI (call d m6 [.ref o7, .int a4] h) fun x9 h8 =>
  cI (call d 133 [.int x9, .int (0 : Int32), .int (15 : Int32)] h8) fun x11 h10 =>
  if x11 = (0 : Int32) then
  (ex d 158 11 [sv (.ref a0), sv (.int a1), sv a2, sv (.int (a3 ||| ((15 : Int32) <<< (((4 : Int32) * a4) &&& 31)))), sv (.int (a4 + (1 : Int32))), sv (.int x9)] [] h10)
  else
  (ex d 158 11 [sv (.ref a0), sv (.int a1), sv a2, sv (.int (a3 ||| (x9 <<< (((4 : Int32) * a4) &&& 31)))), sv (.int (a4 + (1 : Int32))), sv (.int x9)] [] h10)))
  else
  (some (some (.int a3), h))) :=
  (ex_unr p_158 o_158 [11] 71 rfl _ _ h).trans rfl

theorem p_159 : prg 159 = (k_159, 4) := rfl
theorem o_159 : okc k_159 = true := by decide +kernel
set_option maxRecDepth 100000 in
theorem e_159 (d : Nat) (a0 : Nat) (a1 : Int32) (h : MHeap) : call (d + 1) 159 [.ref a0, .int a1] h = (
  dvL none (2147483647 : Int64) <|
  gfV none h a0 [11] 0 fun v1 =>
  dR none v1 fun o2 =>
  gfI none h o2 [0] 0 fun x3 =>
  if (0 : Int32) < x3 then
  (gfV none h a0 [11] 0 fun v4 =>
  dR none v4 fun o5 =>
  gfI none h o5 [0] 0 fun x6 =>
  dvL none (Int32.toInt64 x6) <|
  some (some (.int (Int64.toInt32 (((((Int32.toInt64 a1) + (1 : Int64)) * (48271 : Int64)) - (((Int32.toInt64 a1) + (1 : Int64)) * (48271 : Int64)) / (2147483647 : Int64) * (2147483647 : Int64)) - ((((Int32.toInt64 a1) + (1 : Int64)) * (48271 : Int64)) - (((Int32.toInt64 a1) + (1 : Int64)) * (48271 : Int64)) / (2147483647 : Int64) * (2147483647 : Int64)) / (Int32.toInt64 x6) * (Int32.toInt64 x6)))), h))
  else
  (some (some (.int (0 : Int32)), h))) :=
  (call_unr p_159 rfl o_159 rfl [] 29 _ rfl h).trans rfl

theorem p_160 : prg 160 = (k_160, 2) := rfl
theorem o_160 : okc k_160 = true := by decide +kernel
set_option maxRecDepth 100000 in
theorem e_160 (d : Nat) (a0 : Nat) (a1 : Int32) (h : MHeap) : call (d + 1) 160 [.ref a0, .int a1] h = (
  gfV none h a0 [11] 0 fun v1 =>
  dR none v1 fun o2 =>
  gfI none h o2 [0] 2 fun x3 =>
  cI (call d 135 [.int a1] h) fun x5 h4 =>
  vd none h4 a0 [11, 144] fun m6 =>
  cI (call d m6 [.ref a0, .int (x3 ^^^ x5)] h4) fun x8 h7 =>
  cI (call d 135 [.int a1] h7) fun x10 h9 =>
  if x8 = x10 then
  (zr none (1 : Int32) (some (some (.int (1 : Int32)), h9)))
  else
  (zr none (0 : Int32) (some (some (.int (0 : Int32)), h9)))) :=
  (call_unr p_160 rfl o_160 rfl [] 21 _ rfl h).trans rfl

theorem p_161 : prg 161 = (k_161, 3) := rfl
theorem o_161 : okc k_161 = true := by decide +kernel
set_option maxRecDepth 100000 in
theorem e_161 (d : Nat) (a0 : Int32) (a1 : Int32) (a2 : Int32) (h : MHeap) : call (d + 1) 161 [.int a0, .int a1, .int a2] h = (
  if a0 = (1 : Int32) then
  (nwO h 6 [.int 0, .int 0, .int 0] fun o1 h2 =>
  cV (call d 41 [.ref o1, .int a1, .int a2] h2) fun h3 =>
  some (some (.ref o1), h3))
  else
  (if a0 = (2 : Int32) then
  (nwO h 2 [.int 0, .int 0, .int 0] fun o4 h5 =>
  cV (call d 25 [.ref o4, .int a1, .int a2] h5) fun h6 =>
  some (some (.ref o4), h6))
  else
  (if a0 = (3 : Int32) then
  (nwO h 1 [.int 0, .int 0, .int 0] fun o7 h8 =>
  cV (call d 22 [.ref o7, .int a1, .int a2] h8) fun h9 =>
  some (some (.ref o7), h9))
  else
  (if a0 = (4 : Int32) then
  (nwO h 8 [.int 0, .int 0, .int 0] fun o10 h11 =>
  cV (call d 50 [.ref o10, .int a1, .int a2] h11) fun h12 =>
  some (some (.ref o10), h12))
  else
  (if a0 = (5 : Int32) then
  (nwO h 10 [.int 0, .int 0, .int 0] fun o13 h14 =>
  cV (call d 79 [.ref o13, .int a1, .int a2] h14) fun h15 =>
  some (some (.ref o13), h15))
  else
  (nwO h 3 [.int 0, .int 0, .int 0] fun o16 h17 =>
  cV (call d 28 [.ref o16, .int a1, .int a2] h17) fun h18 =>
  some (some (.ref o16), h18))))))) :=
  (call_unr p_161 rfl o_161 rfl [] 43 _ rfl h).trans rfl

theorem p_162 : prg 162 = (k_162, 2) := rfl
theorem o_162 : okc k_162 = true := by decide +kernel
set_option maxRecDepth 100000 in
theorem e_162 (d : Nat) (a0 : Nat) (a1 : Int32) (h : MHeap) : call (d + 1) 162 [.ref a0, .int a1] h = (
  if a1 = (0 : Int32) then
  (zr none (1 : Int32) (some (some (.int (1 : Int32)), h)))
  else
  (if a1 = (1 : Int32) then
  (inO none h a0 [1, 6] [2, 3, 8, 10] fun x1 =>
  zr none x1 (some (some (.int x1), h)))
  else
  (if a1 = (2 : Int32) then
  (inO none h a0 [2, 10] [1, 3, 6, 8] fun x2 =>
  zr none x2 (some (some (.int x2), h)))
  else
  (if a1 = (3 : Int32) then
  (inO none h a0 [1] [2, 3, 6, 8, 10] fun x3 =>
  zr none x3 (some (some (.int x3), h)))
  else
  (if a1 = (4 : Int32) then
  (inO none h a0 [8] [1, 2, 3, 6, 10] fun x4 =>
  zr none x4 (some (some (.int x4), h)))
  else
  (if a1 = (5 : Int32) then
  (inO none h a0 [10] [1, 2, 3, 6, 8] fun x5 =>
  zr none x5 (some (some (.int x5), h)))
  else
  (zr none (0 : Int32) (some (some (.int (0 : Int32)), h))))))))) :=
  (call_unr p_162 rfl o_162 rfl [] 26 _ rfl h).trans rfl

theorem p_163 : prg 163 = (k_163, 3) := rfl
theorem o_163 : okc k_163 = true := by decide +kernel
set_option maxRecDepth 100000 in
theorem e_163 (d : Nat) (a0 : Nat) (a1 : Int32) (a2 : Int32) (h : MHeap) : call (d + 1) 163 [.ref a0, .int a1, .int a2] h = (
  gfV none h a0 [11] 0 fun v1 =>
  dR none v1 fun o3 =>
  vd none h o3 [0, 5] fun m2 =>
  cI (call d m2 [.ref o3, .int a1] h) fun x5 h4 =>
  if x5 = (0 : Int32) then
  (some (some (.int (-11 : Int32)), h4))
  else
  (if a2 = (6 : Int32) then
  (gfV none h4 a0 [11] 0 fun v6 =>
  dR none v6 fun o7 =>
  gfI none h4 o7 [0] 2 fun x8 =>
  cI (call d 137 [.int x8, .int a1] h4) fun x10 h9 =>
  if x10 = (0 : Int32) then
  (some (some (.int (0 : Int32)), h9))
  else
  (some (some (.int (1 : Int32)), h9)))
  else
  (some (some (.int (-13 : Int32)), h4)))) :=
  (call_unr p_163 rfl o_163 rfl [] 28 _ rfl h).trans rfl

theorem p_164 : prg 164 = (k_164, 4) := rfl
theorem o_164 : okc k_164 = true := by decide +kernel
set_option maxRecDepth 100000 in
theorem e_164 (d : Nat) (a0 : Nat) (a1 : Int32) (a2 : Int32) (h : MHeap) : call (d + 1) 164 [.ref a0, .int a1, .int a2] h = (
  gfV none h a0 [11] 0 fun v1 =>
  dR none v1 fun o3 =>
  vd none h o3 [0, 14] fun m2 =>
  cR (call d m2 [.ref o3, .int a1] h) fun v5 h4 =>
  dA none v5 <|
  dA none v5 <|
  dN none v5 (
  some (some (.int (-11 : Int32)), h4)) (
  dA none v5 <|
  cI (call d 162 [v5, .int a2] h4) fun x7 h6 =>
  if x7 = (0 : Int32) then
  (some (some (.int (-13 : Int32)), h6))
  else
  (some (some (.int a1), h6)))) :=
  (call_unr p_164 rfl o_164 rfl [] 23 _ rfl h).trans rfl
