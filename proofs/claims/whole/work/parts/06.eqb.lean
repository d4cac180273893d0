/-! the methods 83 to 124, unrolled up to the heads of their loops -/
theorem p_83 : prg 83 = (k_83, 2) := rfl
theorem o_83 : okc k_83 = true := by decide +kernel
set_option maxRecDepth 100000 in
theorem e_83 (d : Nat) (a0 : Nat) (h : MHeap) : call (d + 1) 83 [.ref a0] h = (
  cV (call d 1003 [.ref a0] h) fun h1 =>
  nwO h1 0 [.int 0, .int 0, .int 0, .int 0, .null] fun o2 h3 =>
  cV (call d 0 [.ref o2] h3) fun h4 =>
  pfV none h4 a0 [11] 0 (.ref o2) fun h5 =>
  nwO h5 4 [.int 0, .int 0, .int 0, .int 0, .int 0, .int 0] fun o6 h7 =>
  cV (call d 33 [.ref o6] h7) fun h8 =>
  pfV none h8 a0 [11] 1 (.ref o6) fun h9 =>
  nwO h9 9 [.int 0, .null, .null, .null, .null, .int 0, .int 0, .int 0] fun o10 h11 =>
  cV (call d 53 [.ref o10] h11) fun h12 =>
  pfV none h12 a0 [11] 2 (.ref o10) fun h13 =>
  nwA none h13 102 (6 : Int32) .null fun o14 h15 =>
  pfV none h15 a0 [11] 3 (.ref o14) fun h16 =>
  nwA none h16 103 (4 : Int32) .null fun o17 h18 =>
  pfV none h18 a0 [11] 6 (.ref o17) fun h19 =>
  ex d 83 56 [sv (.ref a0), sv (.int (0 : Int32))] [] h19) :=
  (call_unr p_83 rfl o_83 rfl [56, 120] 32 _ rfl h).trans rfl
set_option maxRecDepth 100000 in
theorem e_83_56 (d : Nat) (a0 : Nat) (a1 : Int32) (h : MHeap) : ex d 83 56 [sv (.ref a0), sv (.int a1)] [] h = (
  gfV none h a0 [11] 6 fun v1 =>
  dR none v1 fun o3 =>
  aln none h o3 fun x2 =>
  if a1 < x2 then
  (gfV none h a0 [11] 6 fun v4 =>
  nwO h 7 [.int 0, .int 0, .null] fun o5 h6 =>
  cV (call d 44 [.ref o5] h6) fun h7 =>
  dR none v4 fun o9 =>
  asV none h7 o9 a1 (.ref o5) fun h8 =>
  ex d 83 56 [sv (.ref a0), sv (.int (a1 + (1 : Int32)))] [] h8)
  else
  (nwA none h 100 (299 : Int32) (.int 0) fun o10 h11 =>
  pfV none h11 a0 [11] 7 (.ref o10) fun h12 =>
  nwA none h12 100 (33 : Int32) (.int 0) fun o13 h14 =>
  pfV none h14 a0 [11] 8 (.ref o13) fun h15 =>
  nwA none h15 100 (6 : Int32) (.int 0) fun o16 h17 =>
  pfV none h17 a0 [11] 9 (.ref o16) fun h18 =>
  nwA none h18 100 (160 : Int32) (.int 0) fun o19 h20 =>
  pfV none h20 a0 [11] 10 (.ref o19) fun h21 =>
  ex d 83 120 [sv (.ref a0), sv (.int (0 : Int32))] [] h21)) :=
  (ex_unr p_83 o_83 [56, 120] 37 rfl _ _ h).trans rfl
set_option maxRecDepth 100000 in
theorem e_83_120 (d : Nat) (a0 : Nat) (a1 : Int32) (h : MHeap) : ex d 83 120 [sv (.ref a0), sv (.int a1)] [] h = (
  vd none h 1 [98, 1004] fun m1 =>
  cI (call d m1 [.ref 1] h) fun x3 h2 =>
  if a1 < x3 then
  (gfV none h2 a0 [11] 2 fun v4 =>
  vd none h2 1 [98, 1005] fun m5 =>
  cI (call d m5 [.ref 1, .int a1] h2) fun x7 h6 =>
  dR none v4 fun o9 =>
  vd none h6 o9 [9, 54] fun m8 =>
  cV (call d m8 [.ref o9, .int x7] h6) fun h10 =>
  ex d 83 120 [sv (.ref a0), sv (.int (a1 + (1 : Int32)))] [] h10)
  else
  (gfV none h2 a0 [11] 3 fun v11 =>
  gfV none h2 a0 [11] 2 fun v12 =>
  dR none v12 fun o14 =>
  vd none h2 o14 [9, 57] fun m13 =>
  cR (call d m13 [.ref o14] h2) fun v16 h15 =>
  dR none v11 fun o18 =>
  asV none h15 o18 (0 : Int32) v16 fun h17 =>
  gfV none h17 a0 [11] 2 fun v19 =>
  dR none v19 fun o21 =>
  vd none h17 o21 [9, 55] fun m20 =>
  cV (call d m20 [.ref o21] h17) fun h22 =>
  pfI none h22 a0 [11] 4 (1 : Int32) fun h23 =>
  pfI none h23 a0 [11] 5 (0 : Int32) fun h24 =>
  some (none, h24))) :=
  (ex_unr p_83 o_83 [56, 120] 34 rfl _ _ h).trans rfl

theorem p_84 : prg 84 = (k_84, 4) := rfl
theorem o_84 : okc k_84 = true := by decide +kernel
set_option maxRecDepth 100000 in
theorem e_84 (d : Nat) (a0 : Nat) (a1 : Int32) (a2 : Int32) (h : MHeap) : call (d + 1) 84 [.ref a0, .int a1, .int a2] h = (
  cI (call d 133 [.int a1, .int (1 : Int32), .int (12 : Int32)] h) fun x2 h1 =>
  if x2 = (0 : Int32) then
  (some (some (.int (-2 : Int32)), h1))
  else
  (cI (call d 133 [.int a2, .int (1 : Int32), .int (12 : Int32)] h1) fun x4 h3 =>
  if x4 = (0 : Int32) then
  (some (some (.int (-2 : Int32)), h3))
  else
  (gfV none h3 a0 [11] 0 fun v5 =>
  dR none v5 fun o6 =>
  gfI none h3 o6 [0] 0 fun x7 =>
  gfV none h3 a0 [11] 0 fun v8 =>
  dR none v8 fun o10 =>
  vd none h3 o10 [0, 3] fun m9 =>
  cV (call d m9 [.ref o10, .int a1, .int a2, .int (0 : Int32)] h3) fun h11 =>
  some (some (.int x7), h11)))) :=
  (call_unr p_84 rfl o_84 rfl [] 31 _ rfl h).trans rfl

theorem p_85 : prg 85 = (k_85, 2) := rfl
theorem o_85 : okc k_85 = true := by decide +kernel
set_option maxRecDepth 100000 in
theorem e_85 (d : Nat) (a0 : Nat) (a1 : Int32) (h : MHeap) : call (d + 1) 85 [.ref a0, .int a1] h = (
  gfV none h a0 [11] 0 fun v1 =>
  dR none v1 fun o3 =>
  vd none h o3 [0, 6] fun m2 =>
  cI (call d m2 [.ref o3, .int a1] h) fun x5 h4 =>
  if x5 = (0 : Int32) then
  (some (some (.int (-2 : Int32)), h4))
  else
  (gfV none h4 a0 [11] 0 fun v6 =>
  dD none v6 <|
  dR none v6 fun o7 =>
  gfI none h4 o7 [0] 2 fun x8 =>
  dR none v6 fun o10 =>
  pfI none h4 o10 [0] 2 (x8 ^^^ a1) fun h9 =>
  gfV none h9 a0 [11] 0 fun v11 =>
  dR none v11 fun o12 =>
  gfI none h9 o12 [0] 2 fun x13 =>
  some (some (.int x13), h9))) :=
  (call_unr p_85 rfl o_85 rfl [] 23 _ rfl h).trans rfl

theorem p_86 : prg 86 = (k_86, 3) := rfl
theorem o_86 : okc k_86 = true := by decide +kernel
set_option maxRecDepth 100000 in
theorem e_86 (d : Nat) (a0 : Nat) (a1 : Int32) (a2 : Int32) (h : MHeap) : call (d + 1) 86 [.ref a0, .int a1, .int a2] h = (
  gfV none h a0 [11] 0 fun v1 =>
  dR none v1 fun o3 =>
  vd none h o3 [0, 5] fun m2 =>
  cI (call d m2 [.ref o3, .int a1] h) fun x5 h4 =>
  if x5 = (0 : Int32) then
  (some (some (.int (-5 : Int32)), h4))
  else
  (gfV none h4 a0 [11] 0 fun v6 =>
  dR none v6 fun o8 =>
  vd none h4 o8 [0, 5] fun m7 =>
  cI (call d m7 [.ref o8, .int a2] h4) fun x10 h9 =>
  if x10 = (0 : Int32) then
  (some (some (.int (-5 : Int32)), h9))
  else
  (if a1 = a2 then
  (some (some (.int (-5 : Int32)), h9))
  else
  (gfV none h9 a0 [11] 0 fun v11 =>
  dR none v11 fun o13 =>
  vd none h9 o13 [0, 7] fun m12 =>
  cI (call d m12 [.ref o13, .int a1, .int a2] h9) fun x15 h14 =>
  if x15 = (0 : Int32) then
  (some (some (.int (0 : Int32)), h14))
  else
  (gfV none h14 a0 [11] 0 fun v16 =>
  dD none v16 <|
  dR none v16 fun o17 =>
  gfI none h14 o17 [0] 2 fun x18 =>
  cI (call d 135 [.int a1] h14) fun x20 h19 =>
  cI (call d 135 [.int a2] h19) fun x22 h21 =>
  dR none v16 fun o24 =>
  pfI none h21 o24 [0] 2 (x18 ^^^ (x20 ||| x22)) fun h23 =>
  some (some (.int (1 : Int32)), h23)))))) :=
  (call_unr p_86 rfl o_86 rfl [] 45 _ rfl h).trans rfl

theorem p_87 : prg 87 = (k_87, 2) := rfl
theorem o_87 : okc k_87 = true := by decide +kernel
set_option maxRecDepth 100000 in
theorem e_87 (d : Nat) (a0 : Nat) (a1 : Int32) (h : MHeap) : call (d + 1) 87 [.ref a0, .int a1] h = (
  if a1 = (0 : Int32) then
  (gfV none h a0 [11] 0 fun v1 =>
  dR none v1 fun o2 =>
  gfI none h o2 [0] 0 fun x3 =>
  some (some (.int x3), h))
  else
  (if a1 = (1 : Int32) then
  (gfV none h a0 [11] 0 fun v4 =>
  dR none v4 fun o5 =>
  gfI none h o5 [0] 1 fun x6 =>
  some (some (.int x6), h))
  else
  (if a1 = (2 : Int32) then
  (gfV none h a0 [11] 0 fun v7 =>
  dR none v7 fun o8 =>
  gfI none h o8 [0] 2 fun x9 =>
  some (some (.int x9), h))
  else
  (if a1 = (3 : Int32) then
  (gfV none h a0 [11] 0 fun v10 =>
  dR none v10 fun o11 =>
  gfI none h o11 [0] 3 fun x12 =>
  some (some (.int x12), h))
  else
  (if a1 = (4 : Int32) then
  (gfI none h a0 [11] 4 fun x13 =>
  some (some (.int x13), h))
  else
  (if a1 = (5 : Int32) then
  (gfI none h a0 [11] 5 fun x14 =>
  some (some (.int x14), h))
  else
  (if a1 = (6 : Int32) then
  (gfV none h a0 [11] 2 fun v15 =>
  dR none v15 fun o16 =>
  gfI none h o16 [9] 0 fun x17 =>
  some (some (.int x17), h))
  else
  (some (some (.int (-2 : Int32)), h))))))))) :=
  (call_unr p_87 rfl o_87 rfl [] 35 _ rfl h).trans rfl

theorem p_88 : prg 88 = (k_88, 7) := rfl
theorem o_88 : okc k_88 = true := by decide +kernel
set_option maxRecDepth 100000 in
theorem e_88 (d : Nat) (a0 : Nat) (a1 : Int32) (a2 : Int32) (a3 : Int32) (a4 : Int32) (a5 : Int32) (a6 : Int32) (h : MHeap) : call (d + 1) 88 [.ref a0, .int a1, .int a2, .int a3, .int a4, .int a5, .int a6] h = (
  cI (call d 133 [.int a1, .int (1 : Int32), .int (5 : Int32)] h) fun x2 h1 =>
  if x2 = (0 : Int32) then
  (some (some (.int (-2 : Int32)), h1))
  else
  (cI (call d 134 [.int a2] h1) fun x4 h3 =>
  if x4 = (0 : Int32) then
  (some (some (.int (-2 : Int32)), h3))
  else
  (cI (call d 134 [.int a3] h3) fun x6 h5 =>
  if x6 = (0 : Int32) then
  (some (some (.int (-2 : Int32)), h5))
  else
  (cI (call d 134 [.int a4] h5) fun x8 h7 =>
  if x8 = (0 : Int32) then
  (some (some (.int (-2 : Int32)), h7))
  else
  (cI (call d 134 [.int a5] h7) fun x10 h9 =>
  if x10 = (0 : Int32) then
  (some (some (.int (-2 : Int32)), h9))
  else
  (cI (call d 134 [.int a6] h9) fun x12 h11 =>
  if x12 = (0 : Int32) then
  (some (some (.int (-2 : Int32)), h11))
  else
  (gfV none h11 a0 [11] 2 fun v13 =>
  dR none v13 fun o14 =>
  gfI none h11 o14 [9] 0 fun x15 =>
  if ((160 : Int32) - x15) < a1 then
  (some (some (.int (-4 : Int32)), h11))
  else
  (gfV none h11 a0 [11] 2 fun v16 =>
  dR none v16 fun o18 =>
  vd none h11 o18 [9, 54] fun m17 =>
  cV (call d m17 [.ref o18, .int a2] h11) fun h19 =>
  if (1 : Int32) < a1 then
  (gfV none h19 a0 [11] 2 fun v20 =>
  dR none v20 fun o22 =>
  vd none h19 o22 [9, 54] fun m21 =>
  cV (call d m21 [.ref o22, .int a3] h19) fun h23 =>
  if (2 : Int32) < a1 then
  (gfV none h23 a0 [11] 2 fun v24 =>
  dR none v24 fun o26 =>
  vd none h23 o26 [9, 54] fun m25 =>
  cV (call d m25 [.ref o26, .int a4] h23) fun h27 =>
  if (3 : Int32) < a1 then
  (gfV none h27 a0 [11] 2 fun v28 =>
  dR none v28 fun o30 =>
  vd none h27 o30 [9, 54] fun m29 =>
  cV (call d m29 [.ref o30, .int a5] h27) fun h31 =>
  if (4 : Int32) < a1 then
  (gfV none h31 a0 [11] 2 fun v32 =>
  dR none v32 fun o34 =>
  vd none h31 o34 [9, 54] fun m33 =>
  cV (call d m33 [.ref o34, .int a6] h31) fun h35 =>
  ex d 88 131 [sv (.ref a0), sv (.int a1), sv (.int a2), sv (.int a3), sv (.int a4), sv (.int a5), sv (.int a6)] [] h35)
  else
  (ex d 88 131 [sv (.ref a0), sv (.int a1), sv (.int a2), sv (.int a3), sv (.int a4), sv (.int a5), sv (.int a6)] [] h31))
  else
  (if (4 : Int32) < a1 then
  (gfV none h27 a0 [11] 2 fun v36 =>
  dR none v36 fun o38 =>
  vd none h27 o38 [9, 54] fun m37 =>
  cV (call d m37 [.ref o38, .int a6] h27) fun h39 =>
  ex d 88 131 [sv (.ref a0), sv (.int a1), sv (.int a2), sv (.int a3), sv (.int a4), sv (.int a5), sv (.int a6)] [] h39)
  else
  (ex d 88 131 [sv (.ref a0), sv (.int a1), sv (.int a2), sv (.int a3), sv (.int a4), sv (.int a5), sv (.int a6)] [] h27)))
  else
  (if (3 : Int32) < a1 then
  (gfV none h23 a0 [11] 2 fun v40 =>
  dR none v40 fun o42 =>
  vd none h23 o42 [9, 54] fun m41 =>
  cV (call d m41 [.ref o42, .int a5] h23) fun h43 =>
  if (4 : Int32) < a1 then
  (gfV none h43 a0 [11] 2 fun v44 =>
  dR none v44 fun o46 =>
  vd none h43 o46 [9, 54] fun m45 =>
  cV (call d m45 [.ref o46, .int a6] h43) fun h47 =>
  ex d 88 131 [sv (.ref a0), sv (.int a1), sv (.int a2), sv (.int a3), sv (.int a4), sv (.int a5), sv (.int a6)] [] h47)
  else
  (ex d 88 131 [sv (.ref a0), sv (.int a1), sv (.int a2), sv (.int a3), sv (.int a4), sv (.int a5), sv (.int a6)] [] h43))
  else
  (if (4 : Int32) < a1 then
  (gfV none h23 a0 [11] 2 fun v48 =>
  dR none v48 fun o50 =>
  vd none h23 o50 [9, 54] fun m49 =>
  cV (call d m49 [.ref o50, .int a6] h23) fun h51 =>
  ex d 88 131 [sv (.ref a0), sv (.int a1), sv (.int a2), sv (.int a3), sv (.int a4), sv (.int a5), sv (.int a6)] [] h51)
  else
  (ex d 88 131 [sv (.ref a0), sv (.int a1), sv (.int a2), sv (.int a3), sv (.int a4), sv (.int a5), sv (.int a6)] [] h23))))
  else
  (if (2 : Int32) < a1 then
  (gfV none h19 a0 [11] 2 fun v52 =>
  dR none v52 fun o54 =>
  vd none h19 o54 [9, 54] fun m53 =>
  cV (call d m53 [.ref o54, .int a4] h19) fun h55 =>
  if (3 : Int32) < a1 then
  (gfV none h55 a0 [11] 2 fun v56 =>
  dR none v56 fun o58 =>
  vd none h55 o58 [9, 54] fun m57 =>
  cV (call d m57 [.ref o58, .int a5] h55) fun h59 =>
  if (4 : Int32) < a1 then
  (gfV none h59 a0 [11] 2 fun v60 =>
  dR none v60 fun o62 =>
  vd none h59 o62 [9, 54] fun m61 =>
  cV (call d m61 [.ref o62, .int a6] h59) fun h63 =>
  ex d 88 131 [sv (.ref a0), sv (.int a1), sv (.int a2), sv (.int a3), sv (.int a4), sv (.int a5), sv (.int a6)] [] h63)
  else
  (ex d 88 131 [sv (.ref a0), sv (.int a1), sv (.int a2), sv (.int a3), sv (.int a4), sv (.int a5), sv (.int a6)] [] h59))
  else
  (if (4 : Int32) < a1 then
  (gfV none h55 a0 [11] 2 fun v64 =>
  dR none v64 fun o66 =>
  vd none h55 o66 [9, 54] fun m65 =>
  cV (call d m65 [.ref o66, .int a6] h55) fun h67 =>
  ex d 88 131 [sv (.ref a0), sv (.int a1), sv (.int a2), sv (.int a3), sv (.int a4), sv (.int a5), sv (.int a6)] [] h67)
  else
  (ex d 88 131 [sv (.ref a0), sv (.int a1), sv (.int a2), sv (.int a3), sv (.int a4), sv (.int a5), sv (.int a6)] [] h55)))
  else
  (if (3 : Int32) < a1 then
  (gfV none h19 a0 [11] 2 fun v68 =>
  dR none v68 fun o70 =>
  vd none h19 o70 [9, 54] fun m69 =>
  cV (call d m69 [.ref o70, .int a5] h19) fun h71 =>
  if (4 : Int32) < a1 then
  (gfV none h71 a0 [11] 2 fun v72 =>
  dR none v72 fun o74 =>
  vd none h71 o74 [9, 54] fun m73 =>
  cV (call d m73 [.ref o74, .int a6] h71) fun h75 =>
  ex d 88 131 [sv (.ref a0), sv (.int a1), sv (.int a2), sv (.int a3), sv (.int a4), sv (.int a5), sv (.int a6)] [] h75)
  else
  (ex d 88 131 [sv (.ref a0), sv (.int a1), sv (.int a2), sv (.int a3), sv (.int a4), sv (.int a5), sv (.int a6)] [] h71))
  else
  (if (4 : Int32) < a1 then
  (gfV none h19 a0 [11] 2 fun v76 =>
  dR none v76 fun o78 =>
  vd none h19 o78 [9, 54] fun m77 =>
  cV (call d m77 [.ref o78, .int a6] h19) fun h79 =>
  ex d 88 131 [sv (.ref a0), sv (.int a1), sv (.int a2), sv (.int a3), sv (.int a4), sv (.int a5), sv (.int a6)] [] h79)
  else
  (ex d 88 131 [sv (.ref a0), sv (.int a1), sv (.int a2), sv (.int a3), sv (.int a4), sv (.int a5), sv (.int a6)] [] h19)))))))))))) :=
  (call_unr p_88 rfl o_88 rfl [131] 155 _ rfl h).trans rfl
set_option maxRecDepth 100000 in
theorem e_88_131 (d : Nat) (a0 : Nat) (a1 : Int32) (a2 : Int32) (a3 : Int32) (a4 : Int32) (a5 : Int32) (a6 : Int32) (h : MHeap) : ex d 88 131 [sv (.ref a0), sv (.int a1), sv (.int a2), sv (.int a3), sv (.int a4), sv (.int a5), sv (.int a6)] [] h = (
  gfV none h a0 [11] 2 fun v1 =>
  dR none v1 fun o2 =>
  gfI none h o2 [9] 0 fun x3 =>
  some (some (.int x3), h)) :=
  (ex_unr p_88 o_88 [131] 9 rfl _ _ h).trans rfl

theorem p_89 : prg 89 = (k_89, 2) := rfl
theorem o_89 : okc k_89 = true := by decide +kernel
set_option maxRecDepth 100000 in
theorem e_89 (d : Nat) (a0 : Nat) (h : MHeap) : call (d + 1) 89 [.ref a0] h = (
  gfI none h a0 [11] 4 fun x1 =>
  if x1 < (0 : Int32) then
  (some (some (.int (-4 : Int32)), h))
  else
  (gfI none h a0 [11] 4 fun x2 =>
  gfV none h a0 [11] 3 fun v3 =>
  dR none v3 fun o5 =>
  aln none h o5 fun x4 =>
  if x2 < x4 then
  (gfV none h a0 [11] 2 fun v6 =>
  dR none v6 fun o8 =>
  vd none h o8 [9, 57] fun m7 =>
  cR (call d m7 [.ref o8] h) fun v10 h9 =>
  dA none v10 <|
  gfV none h9 a0 [11] 2 fun v11 =>
  dR none v11 fun o13 =>
  vd none h9 o13 [9, 55] fun m12 =>
  cV (call d m12 [.ref o13] h9) fun h14 =>
  dA none v10 <|
  dN none v10 (
  gfV none h14 a0 [11] 2 fun v15 =>
  dR none v15 fun o17 =>
  vd none h14 o17 [9, 56] fun m16 =>
  cI (call d m16 [.ref o17] h14) fun x19 h18 =>
  some (some (.int ((-100 : Int32) - x19)), h18)) (
  gfV none h14 a0 [11] 3 fun v20 =>
  gfI none h14 a0 [11] 4 fun x21 =>
  dA none v10 <|
  dR none v20 fun o23 =>
  asV none h14 o23 x21 v10 fun h22 =>
  gfI none h22 a0 [11] 4 fun x24 =>
  pfI none h22 a0 [11] 4 (x24 + (1 : Int32)) fun h25 =>
  gfI none h25 a0 [11] 4 fun x26 =>
  some (some (.int (x26 - (1 : Int32))), h25)))
  else
  (some (some (.int (-4 : Int32)), h)))) :=
  (call_unr p_89 rfl o_89 rfl [] 50 _ rfl h).trans rfl

theorem p_90 : prg 90 = (k_90, 3) := rfl
theorem o_90 : okc k_90 = true := by decide +kernel
set_option maxRecDepth 100000 in
theorem e_90 (d : Nat) (a0 : Nat) (a1 : Int32) (h : MHeap) : call (d + 1) 90 [.ref a0, .int a1] h = (
  gfI none h a0 [11] 4 fun x1 =>
  cI (call d 133 [.int a1, .int (0 : Int32), .int (x1 - (1 : Int32))] h) fun x3 h2 =>
  if x3 = (0 : Int32) then
  (some (some (.int (-2 : Int32)), h2))
  else
  (gfI none h2 a0 [11] 5 fun x4 =>
  pfI none h2 a0 [11] 5 a1 fun h5 =>
  some (some (.int x4), h5))) :=
  (call_unr p_90 rfl o_90 rfl [] 23 _ rfl h).trans rfl

theorem p_91 : prg 91 = (k_91, 3) := rfl
theorem o_91 : okc k_91 = true := by decide +kernel
set_option maxRecDepth 100000 in
theorem e_91 (d : Nat) (a0 : Nat) (a1 : Int32) (a2 : Int32) (h : MHeap) : call (d + 1) 91 [.ref a0, .int a1, .int a2] h = (
  gfV none h a0 [11] 0 fun v1 =>
  dR none v1 fun o3 =>
  vd none h o3 [0, 5] fun m2 =>
  cI (call d m2 [.ref o3, .int a2] h) fun x5 h4 =>
  if x5 = (0 : Int32) then
  (some (some (.int (-5 : Int32)), h4))
  else
  (cI (call d 133 [.int a1, .int (0 : Int32), .int (2 : Int32)] h4) fun x7 h6 =>
  if x7 = (0 : Int32) then
  (some (some (.int (-7 : Int32)), h6))
  else
  (gfV none h6 a0 [11] 0 fun v8 =>
  dR none v8 fun o10 =>
  vd none h6 o10 [0, 19] fun m9 =>
  cI (call d m9 [.ref o10] h6) fun x12 h11 =>
  vd none h11 a0 [11, 143] fun m13 =>
  cI (call d m13 [.ref a0, .int a1, .int a2, .int x12] h11) fun x15 h14 =>
  some (some (.int x15), h14)))) :=
  (call_unr p_91 rfl o_91 rfl [] 27 _ rfl h).trans rfl

theorem p_92 : prg 92 = (k_92, 4) := rfl
theorem o_92 : okc k_92 = true := by decide +kernel
set_option maxRecDepth 100000 in
theorem e_92 (d : Nat) (a0 : Nat) (a1 : Int32) (a2 : Int32) (a3 : Int32) (h : MHeap) : call (d + 1) 92 [.ref a0, .int a1, .int a2, .int a3] h = (
  cI (call d 133 [.int a1, .int (0 : Int32), .int (5 : Int32)] h) fun x2 h1 =>
  if x2 = (0 : Int32) then
  (some (some (.int (-2 : Int32)), h1))
  else
  (cI (call d 133 [.int a2, .int (0 : Int32), .int (4095 : Int32)] h1) fun x4 h3 =>
  if x4 = (0 : Int32) then
  (some (some (.int (-2 : Int32)), h3))
  else
  (cI (call d 133 [.int a3, .int (0 : Int32), .int (9 : Int32)] h3) fun x6 h5 =>
  if x6 = (0 : Int32) then
  (some (some (.int (-2 : Int32)), h5))
  else
  (gfV none h5 a0 [11] 0 fun v7 =>
  dR none v7 fun o9 =>
  vd none h5 o9 [0, 11] fun m8 =>
  cI (call d m8 [.ref o9] h5) fun x11 h10 =>
  if x11 = (0 : Int32) then
  (some (some (.int (-4 : Int32)), h10))
  else
  (gfV none h10 a0 [11] 0 fun v12 =>
  cR (call d 161 [.int a1, .int a2, .int a3] h10) fun v14 h13 =>
  dR none v12 fun o16 =>
  vd none h13 o16 [0, 12] fun m15 =>
  cV (call d m15 [.ref o16, v14] h13) fun h17 =>
  gfV none h17 a0 [11] 0 fun v18 =>
  dR none v18 fun o19 =>
  gfI none h17 o19 [0] 3 fun x20 =>
  some (some (.int (x20 - (1 : Int32))), h17)))))) :=
  (call_unr p_92 rfl o_92 rfl [] 45 _ rfl h).trans rfl

theorem p_93 : prg 93 = (k_93, 1) := rfl
theorem o_93 : okc k_93 = true := by decide +kernel
set_option maxRecDepth 100000 in
theorem e_93 (d : Nat) (a0 : Nat) (h : MHeap) : call (d + 1) 93 [.ref a0] h = (
  gfV none h a0 [11] 0 fun v1 =>
  dR none v1 fun o2 =>
  gfI none h o2 [0] 3 fun x3 =>
  if x3 < (1 : Int32) then
  (some (some (.int (-3 : Int32)), h))
  else
  (gfV none h a0 [11] 0 fun v4 =>
  gfV none h a0 [11] 0 fun v5 =>
  dR none v5 fun o6 =>
  gfI none h o6 [0] 3 fun x7 =>
  dR none v4 fun o9 =>
  vd none h o9 [0, 13] fun m8 =>
  cV (call d m8 [.ref o9, .int (x7 - (1 : Int32))] h) fun h10 =>
  gfV none h10 a0 [11] 1 fun v11 =>
  dR none v11 fun o12 =>
  gfI none h10 o12 [4] 4 fun x13 =>
  gfV none h10 a0 [11] 0 fun v14 =>
  dR none v14 fun o15 =>
  gfI none h10 o15 [0] 3 fun x16 =>
  if x16 < x13 then
  (gfV none h10 a0 [11] 1 fun v17 =>
  zr none (0 : Int32) <|
  dR none v17 fun o19 =>
  pfI none h10 o19 [4] 0 (0 : Int32) fun h18 =>
  gfV none h18 a0 [11] 0 fun v20 =>
  dR none v20 fun o21 =>
  gfI none h18 o21 [0] 3 fun x22 =>
  some (some (.int x22), h18))
  else
  (gfV none h10 a0 [11] 0 fun v23 =>
  dR none v23 fun o24 =>
  gfI none h10 o24 [0] 3 fun x25 =>
  some (some (.int x25), h10)))) :=
  (call_unr p_93 rfl o_93 rfl [] 39 _ rfl h).trans rfl

theorem p_94 : prg 94 = (k_94, 4) := rfl
theorem o_94 : okc k_94 = true := by decide +kernel
set_option maxRecDepth 100000 in
theorem e_94 (d : Nat) (a0 : Nat) (a1 : Int32) (a2 : Int32) (h : MHeap) : call (d + 1) 94 [.ref a0, .int a1, .int a2] h = (
  gfV none h a0 [11] 0 fun v1 =>
  dR none v1 fun o3 =>
  vd none h o3 [0, 14] fun m2 =>
  cR (call d m2 [.ref o3, .int a1] h) fun v5 h4 =>
  dA none v5 <|
  dA none v5 <|
  dN none v5 (
  some (some (.int (-5 : Int32)), h4)) (
  if a2 = (0 : Int32) then
  (dA none v5 <|
  dR none v5 fun o7 =>
  vd none h4 o7 [1, 23, 2, 26, 3, 29, 6, 42, 8, 51, 10, 80] fun m6 =>
  cI (call d m6 [.ref o7] h4) fun x9 h8 =>
  some (some (.int x9), h8))
  else
  (if a2 = (1 : Int32) then
  (dA none v5 <|
  dR none v5 fun o10 =>
  gfI none h4 o10 [1, 2, 3, 6, 8, 10] 0 fun x11 =>
  some (some (.int x11), h4))
  else
  (if a2 = (2 : Int32) then
  (dA none v5 <|
  dR none v5 fun o12 =>
  gfI none h4 o12 [1, 2, 3, 6, 8, 10] 1 fun x13 =>
  some (some (.int x13), h4))
  else
  (if a2 = (3 : Int32) then
  (dA none v5 <|
  dR none v5 fun o14 =>
  gfI none h4 o14 [1, 2, 3, 6, 8, 10] 2 fun x15 =>
  some (some (.int x15), h4))
  else
  (if a2 = (4 : Int32) then
  (dA none v5 <|
  gfV none h4 a0 [11] 0 fun v16 =>
  dR none v16 fun o17 =>
  gfI none h4 o17 [0] 2 fun x18 =>
  dR none v5 fun o20 =>
  vd none h4 o20 [1, 31, 2, 31, 3, 31, 6, 31, 8, 52, 10, 82] fun m19 =>
  cI (call d m19 [.ref o20, .int x18] h4) fun x22 h21 =>
  some (some (.int x22), h21))
  else
  (some (some (.int (-7 : Int32)), h4)))))))) :=
  (call_unr p_94 rfl o_94 rfl [] 36 _ rfl h).trans rfl

theorem p_95 : prg 95 = (k_95, 2) := rfl
theorem o_95 : okc k_95 = true := by decide +kernel
set_option maxRecDepth 100000 in
theorem e_95 (d : Nat) (a0 : Nat) (a1 : Int32) (h : MHeap) : call (d + 1) 95 [.ref a0, .int a1] h = (
  if a1 = (0 : Int32) then
  (gfV none h a0 [11] 0 fun v1 =>
  gfV none h a0 [11] 0 fun v2 =>
  dR none v2 fun o3 =>
  gfI none h o3 [0] 2 fun x4 =>
  dR none v1 fun o6 =>
  vd none h o6 [0, 16] fun m5 =>
  cI (call d m5 [.ref o6, .int x4] h) fun x8 h7 =>
  some (some (.int x8), h7))
  else
  (if a1 = (1 : Int32) then
  (gfV none h a0 [11] 0 fun v9 =>
  gfV none h a0 [11] 0 fun v10 =>
  dR none v10 fun o11 =>
  gfI none h o11 [0] 2 fun x12 =>
  dR none v9 fun o14 =>
  vd none h o14 [0, 18] fun m13 =>
  cI (call d m13 [.ref o14, .int x12] h) fun x16 h15 =>
  some (some (.int x16), h15))
  else
  (if a1 = (2 : Int32) then
  (gfV none h a0 [11] 0 fun v17 =>
  dR none v17 fun o19 =>
  vd none h o19 [0, 19] fun m18 =>
  cI (call d m18 [.ref o19] h) fun x21 h20 =>
  some (some (.int x21), h20))
  else
  (some (some (.int (-2 : Int32)), h))))) :=
  (call_unr p_95 rfl o_95 rfl [] 27 _ rfl h).trans rfl

theorem p_96 : prg 96 = (k_96, 2) := rfl
theorem o_96 : okc k_96 = true := by decide +kernel
set_option maxRecDepth 100000 in
theorem e_96 (d : Nat) (a0 : Nat) (a1 : Int32) (h : MHeap) : call (d + 1) 96 [.ref a0, .int a1] h = (
  gfV none h a0 [11] 0 fun v1 =>
  dR none v1 fun o3 =>
  vd none h o3 [0, 6] fun m2 =>
  cI (call d m2 [.ref o3, .int a1] h) fun x5 h4 =>
  if x5 = (0 : Int32) then
  (some (some (.int (-2 : Int32)), h4))
  else
  (gfV none h4 a0 [11] 0 fun v6 =>
  gfV none h4 a0 [11] 0 fun v7 =>
  dR none v7 fun o8 =>
  gfI none h4 o8 [0] 2 fun x9 =>
  dR none v6 fun o11 =>
  vd none h4 o11 [0, 16] fun m10 =>
  cI (call d m10 [.ref o11, .int (x9 ^^^ a1)] h4) fun x13 h12 =>
  some (some (.int x13), h12))) :=
  (call_unr p_96 rfl o_96 rfl [] 21 _ rfl h).trans rfl

theorem p_97 : prg 97 = (k_97, 1) := rfl
theorem o_97 : okc k_97 = true := by decide +kernel
set_option maxRecDepth 100000 in
theorem e_97 (d : Nat) (a0 : Nat) (h : MHeap) : call (d + 1) 97 [.ref a0] h = (
  gfV none h a0 [11] 0 fun v1 =>
  dR none v1 fun o2 =>
  gfI none h o2 [0] 2 fun x3 =>
  vd none h a0 [11, 144] fun m4 =>
  cI (call d m4 [.ref a0, .int x3] h) fun x6 h5 =>
  some (some (.int x6), h5)) :=
  (call_unr p_97 rfl o_97 rfl [] 11 _ rfl h).trans rfl

theorem p_98 : prg 98 = (k_98, 5) := rfl
theorem o_98 : okc k_98 = true := by decide +kernel
set_option maxRecDepth 100000 in
theorem e_98 (d : Nat) (a0 : Nat) (a1 : Int32) (h : MHeap) : call (d + 1) 98 [.ref a0, .int a1] h = (
  cI (call d 133 [.int a1, .int (0 : Int32), .int (1 : Int32)] h) fun x2 h1 =>
  if x2 = (0 : Int32) then
  (some (some (.int (-2 : Int32)), h1))
  else
  (ex d 98 16 [sv (.ref a0), sv (.int a1), sv (.int (0 : Int32)), sv (.int (0 : Int32)), none] [] h1)) :=
  (call_unr p_98 rfl o_98 rfl [16, 32] 16 _ rfl h).trans rfl
set_option maxRecDepth 100000 in
theorem e_98_16 (d : Nat) (a0 : Nat) (a1 : Int32) (a2 : Int32) (a3 : Int32) (a4 : MSl) (h : MHeap) : ex d 98 16 [sv (.ref a0), sv (.int a1), sv (.int a2), sv (.int a3), a4] [] h = (
  gfV none h a0 [11] 0 fun v1 =>
  dR none v1 fun o2 =>
  gfI none h o2 [0] 0 fun x3 =>
  if a3 < x3 then
  (ex d 98 32 [sv (.ref a0), sv (.int a1), sv (.int a2), sv (.int a3), sv (.int (a3 + (1 : Int32)))] [] h)
  else
  (if a1 = (0 : Int32) then
  (some (some (.int a2), h))
  else
  (some (some (.int (-1 : Int32)), h)))) :=
  (ex_unr p_98 o_98 [16, 32] 21 rfl _ _ h).trans rfl
set_option maxRecDepth 100000 in
theorem e_98_32 (d : Nat) (a0 : Nat) (a1 : Int32) (a2 : Int32) (a3 : Int32) (a4 : Int32) (h : MHeap) : ex d 98 32 [sv (.ref a0), sv (.int a1), sv (.int a2), sv (.int a3), sv (.int a4)] [] h = (
  gfV none h a0 [11] 0 fun v1 =>
  dR none v1 fun o2 =>
  gfI none h o2 [0] 0 fun x3 =>
  if a4 < x3 then
  (gfV none h a0 [11] 0 fun v4 =>
  gfV none h a0 [11] 0 fun v5 =>
  dR none v5 fun o6 =>
  gfI none h o6 [0] 2 fun x7 =>
  cI (call d 135 [.int a3] h) fun x9 h8 =>
  cI (call d 135 [.int a4] h8) fun x11 h10 =>
  dR none v4 fun o13 =>
  vd none h10 o13 [0, 21] fun m12 =>
  cI (call d m12 [.ref o13, .int ((x7 ^^^ x9) ^^^ x11)] h10) fun x15 h14 =>
  if x15 = (0 : Int32) then
  (ex d 98 32 [sv (.ref a0), sv (.int a1), sv (.int a2), sv (.int a3), sv (.int (a4 + (1 : Int32)))] [] h14)
  else
  (if a1 = (1 : Int32) then
  (cI (call d 141 [.int a3, .int a4] h14) fun x17 h16 =>
  some (some (.int x17), h16))
  else
  (ex d 98 32 [sv (.ref a0), sv (.int a1), sv (.int (a2 + (1 : Int32))), sv (.int a3), sv (.int (a4 + (1 : Int32)))] [] h14)))
  else
  (ex d 98 16 [sv (.ref a0), sv (.int a1), sv (.int a2), sv (.int (a3 + (1 : Int32))), sv (.int a4)] [] h)) :=
  (ex_unr p_98 o_98 [16, 32] 37 rfl _ _ h).trans rfl

theorem p_99 : prg 99 = (k_99, 5) := rfl
theorem o_99 : okc k_99 = true := by decide +kernel
set_option maxRecDepth 100000 in
theorem e_99 (d : Nat) (a0 : Nat) (a1 : Int32) (h : MHeap) : call (d + 1) 99 [.ref a0, .int a1] h = (
  cI (call d 133 [.int a1, .int (0 : Int32), .int (12 : Int32)] h) fun x2 h1 =>
  if x2 = (0 : Int32) then
  (some (some (.int (-2 : Int32)), h1))
  else
  (gfV none h1 a0 [11] 0 fun v3 =>
  gfV none h1 a0 [11] 0 fun v4 =>
  dR none v4 fun o5 =>
  gfI none h1 o5 [0] 2 fun x6 =>
  dR none v3 fun o8 =>
  vd none h1 o8 [0, 16] fun m7 =>
  cI (call d m7 [.ref o8, .int x6] h1) fun x10 h9 =>
  ex d 99 33 [sv (.ref a0), sv (.int a1), sv (.int x10), sv (.int (0 : Int32)), sv (.int (0 : Int32))] [] h9)) :=
  (call_unr p_99 rfl o_99 rfl [33] 23 _ rfl h).trans rfl
set_option maxRecDepth 100000 in
theorem e_99_33 (d : Nat) (a0 : Nat) (a1 : Int32) (a2 : Int32) (a3 : Int32) (a4 : Int32) (h : MHeap) : ex d 99 33 [sv (.ref a0), sv (.int a1), sv (.int a2), sv (.int a3), sv (.int a4)] [] h = (
  gfV none h a0 [11] 0 fun v1 =>
  dR none v1 fun o3 =>
  vd none h o3 [0, 4] fun m2 =>
  cI (call d m2 [.ref o3] h) fun x5 h4 =>
  if x5 < a4 then
  (some (some (.int a3), h4))
  else
  (cI (call d 260 [.int a4] h4) fun x7 h6 =>
  if x7 = a1 then
  (gfV none h6 a0 [11] 0 fun v8 =>
  gfV none h6 a0 [11] 0 fun v9 =>
  dR none v9 fun o10 =>
  gfI none h6 o10 [0] 2 fun x11 =>
  dR none v8 fun o13 =>
  vd none h6 o13 [0, 20] fun m12 =>
  cI (call d m12 [.ref o13, .int (x11 ^^^ a4), .int a2] h6) fun x15 h14 =>
  if x15 = (0 : Int32) then
  (ex d 99 33 [sv (.ref a0), sv (.int a1), sv (.int a2), sv (.int a3), sv (.int (a4 + (1 : Int32)))] [] h14)
  else
  (ex d 99 33 [sv (.ref a0), sv (.int a1), sv (.int a2), sv (.int (a3 + (1 : Int32))), sv (.int (a4 + (1 : Int32)))] [] h14))
  else
  (ex d 99 33 [sv (.ref a0), sv (.int a1), sv (.int a2), sv (.int a3), sv (.int (a4 + (1 : Int32)))] [] h6))) :=
  (ex_unr p_99 o_99 [33] 33 rfl _ _ h).trans rfl

theorem p_100 : prg 100 = (k_100, 3) := rfl
theorem o_100 : okc k_100 = true := by decide +kernel
set_option maxRecDepth 100000 in
theorem e_100 (d : Nat) (a0 : Nat) (a1 : Int32) (h : MHeap) : call (d + 1) 100 [.ref a0, .int a1] h = (
  cI (call d 133 [.int a1, .int (0 : Int32), .int (1 : Int32)] h) fun x2 h1 =>
  if x2 = (0 : Int32) then
  (some (some (.int (-2 : Int32)), h1))
  else
  (gfV none h1 a0 [11] 0 fun v3 =>
  dR none v3 fun o5 =>
  vd none h1 o5 [0, 4] fun m4 =>
  cI (call d m4 [.ref o5] h1) fun x7 h6 =>
  gfV none h6 a0 [11] 0 fun v8 =>
  gfV none h6 a0 [11] 0 fun v9 =>
  dR none v9 fun o10 =>
  gfI none h6 o10 [0] 2 fun x11 =>
  dR none v8 fun o13 =>
  vd none h6 o13 [0, 16] fun m12 =>
  cI (call d m12 [.ref o13, .int x11] h6) fun x15 h14 =>
  vd none h14 a0 [11, 145] fun m16 =>
  cI (call d m16 [.ref a0, .int (1 : Int32), .int x7, .int x15] h14) fun x18 h17 =>
  if a1 = (0 : Int32) then
  (cI (call d 138 [.int x18] h17) fun x20 h19 =>
  some (some (.int x20), h19))
  else
  (some (some (.int x18), h17)))) :=
  (call_unr p_100 rfl o_100 rfl [] 33 _ rfl h).trans rfl

theorem p_101 : prg 101 = (k_101, 2) := rfl
theorem o_101 : okc k_101 = true := by decide +kernel
set_option maxRecDepth 100000 in
theorem e_101 (d : Nat) (a0 : Nat) (a1 : Int32) (h : MHeap) : call (d + 1) 101 [.ref a0, .int a1] h = (
  if a1 = (0 : Int32) then
  (vd none h a0 [11, 146] fun m1 =>
  cI (call d m1 [.ref a0] h) fun x3 h2 =>
  some (some (.int x3), h2))
  else
  (if a1 = (1 : Int32) then
  (vd none h a0 [11, 147] fun m4 =>
  cI (call d m4 [.ref a0] h) fun x6 h5 =>
  some (some (.int x6), h5))
  else
  (some (some (.int (-2 : Int32)), h)))) :=
  (call_unr p_101 rfl o_101 rfl [] 15 _ rfl h).trans rfl

theorem p_102 : prg 102 = (k_102, 4) := rfl
theorem o_102 : okc k_102 = true := by decide +kernel
set_option maxRecDepth 100000 in
theorem e_102 (d : Nat) (a0 : Nat) (a1 : Int32) (h : MHeap) : call (d + 1) 102 [.ref a0, .int a1] h = (
  cI (call d 133 [.int a1, .int (0 : Int32), .int (3 : Int32)] h) fun x2 h1 =>
  if x2 = (0 : Int32) then
  (some (some (.int (-2 : Int32)), h1))
  else
  (ex d 102 16 [sv (.ref a0), sv (.int a1), sv (.int (0 : Int32)), sv (.int (0 : Int32))] [] h1)) :=
  (call_unr p_102 rfl o_102 rfl [16] 16 _ rfl h).trans rfl
set_option maxRecDepth 100000 in
theorem e_102_16 (d : Nat) (a0 : Nat) (a1 : Int32) (a2 : Int32) (a3 : Int32) (h : MHeap) : ex d 102 16 [sv (.ref a0), sv (.int a1), sv (.int a2), sv (.int a3)] [] h = (
  gfV none h a0 [11] 0 fun v1 =>
  dR none v1 fun o3 =>
  vd none h o3 [0, 4] fun m2 =>
  cI (call d m2 [.ref o3] h) fun x5 h4 =>
  if x5 < a3 then
  (some (some (.int a2), h4))
  else
  (cI (call d 260 [.int a3] h4) fun x7 h6 =>
  if a1 < x7 then
  (ex d 102 16 [sv (.ref a0), sv (.int a1), sv (.int a2), sv (.int (a3 + (1 : Int32)))] [] h6)
  else
  (gfV none h6 a0 [11] 0 fun v8 =>
  gfV none h6 a0 [11] 0 fun v9 =>
  dR none v9 fun o10 =>
  gfI none h6 o10 [0] 2 fun x11 =>
  dR none v8 fun o13 =>
  vd none h6 o13 [0, 16] fun m12 =>
  cI (call d m12 [.ref o13, .int (x11 ^^^ a3)] h6) fun x15 h14 =>
  vd none h14 a0 [11, 148] fun m16 =>
  cI (call d m16 [.ref a0, .int a2, .int x15] h14) fun x18 h17 =>
  ex d 102 16 [sv (.ref a0), sv (.int a1), sv (.int x18), sv (.int (a3 + (1 : Int32)))] [] h17))) :=
  (ex_unr p_102 o_102 [16] 32 rfl _ _ h).trans rfl

theorem p_103 : prg 103 = (k_103, 4) := rfl
theorem o_103 : okc k_103 = true := by decide +kernel
set_option maxRecDepth 100000 in
theorem e_103 (d : Nat) (a0 : Nat) (a1 : Int32) (a2 : Int32) (h : MHeap) : call (d + 1) 103 [.ref a0, .int a1, .int a2] h = (
  gfV none h a0 [11] 0 fun v1 =>
  dR none v1 fun o3 =>
  vd none h o3 [0, 6] fun m2 =>
  cI (call d m2 [.ref o3, .int a1] h) fun x5 h4 =>
  if x5 = (0 : Int32) then
  (some (some (.int (-2 : Int32)), h4))
  else
  (cI (call d 133 [.int a2, .int (0 : Int32), .int (1 : Int32)] h4) fun x7 h6 =>
  if x7 = (0 : Int32) then
  (some (some (.int (-7 : Int32)), h6))
  else
  (vd none h6 a0 [11, 145] fun m8 =>
  cI (call d m8 [.ref a0, .int (0 : Int32), .int a1, .int (0 : Int32)] h6) fun x10 h9 =>
  if a2 = (0 : Int32) then
  (cI (call d 138 [.int x10] h9) fun x12 h11 =>
  some (some (.int x12), h11))
  else
  (some (some (.int x10), h9))))) :=
  (call_unr p_103 rfl o_103 rfl [] 33 _ rfl h).trans rfl

theorem p_104 : prg 104 = (k_104, 3) := rfl
theorem o_104 : okc k_104 = true := by decide +kernel
set_option maxRecDepth 100000 in
theorem e_104 (d : Nat) (a0 : Nat) (a1 : Int32) (h : MHeap) : call (d + 1) 104 [.ref a0, .int a1] h = (
  gfV none h a0 [11] 0 fun v1 =>
  dR none v1 fun o3 =>
  vd none h o3 [0, 6] fun m2 =>
  cI (call d m2 [.ref o3, .int a1] h) fun x5 h4 =>
  if x5 = (0 : Int32) then
  (some (some (.int (-2 : Int32)), h4))
  else
  (vd none h4 a0 [11, 145] fun m6 =>
  cI (call d m6 [.ref a0, .int (0 : Int32), .int a1, .int (0 : Int32)] h4) fun x8 h7 =>
  if x8 = (-1 : Int32) then
  (some (some (.int (-1 : Int32)), h7))
  else
  (gfV none h7 a0 [11] 0 fun v9 =>
  dD none v9 <|
  dR none v9 fun o10 =>
  gfI none h7 o10 [0] 2 fun x11 =>
  dR none v9 fun o13 =>
  pfI none h7 o13 [0] 2 (x11 ^^^ x8) fun h12 =>
  cI (call d 138 [.int x8] h12) fun x15 h14 =>
  some (some (.int x15), h14)))) :=
  (call_unr p_104 rfl o_104 rfl [] 33 _ rfl h).trans rfl

theorem p_105 : prg 105 = (k_105, 3) := rfl
theorem o_105 : okc k_105 = true := by decide +kernel
set_option maxRecDepth 100000 in
theorem e_105 (d : Nat) (a0 : Nat) (a1 : Int32) (h : MHeap) : call (d + 1) 105 [.ref a0, .int a1] h = (
  cI (call d 133 [.int a1, .int (0 : Int32), .int (9999 : Int32)] h) fun x2 h1 =>
  if x2 = (0 : Int32) then
  (some (some (.int (-2 : Int32)), h1))
  else
  (ex d 105 16 [sv (.ref a0), sv (.int a1), sv (.int (0 : Int32))] [] h1)) :=
  (call_unr p_105 rfl o_105 rfl [16] 14 _ rfl h).trans rfl
set_option maxRecDepth 100000 in
theorem e_105_16 (d : Nat) (a0 : Nat) (a1 : Int32) (a2 : Int32) (h : MHeap) : ex d 105 16 [sv (.ref a0), sv (.int a1), sv (.int a2)] [] h = (
  if a2 < (31 : Int32) then
  (if ((1 : Int32) <<< (a2 &&& 31)) < ((a1 + a2) + (1 : Int32)) then
  (ex d 105 16 [sv (.ref a0), sv (.int a1), sv (.int (a2 + (1 : Int32)))] [] h)
  else
  (some (some (.int a2), h)))
  else
  (some (some (.int a2), h))) :=
  (ex_unr p_105 o_105 [16] 23 rfl _ _ h).trans rfl

theorem p_106 : prg 106 = (k_106, 2) := rfl
theorem o_106 : okc k_106 = true := by decide +kernel
set_option maxRecDepth 100000 in
theorem e_106 (d : Nat) (a0 : Nat) (a1 : Int32) (h : MHeap) : call (d + 1) 106 [.ref a0, .int a1] h = (
  cI (call d 133 [.int a1, .int (1 : Int32), .int (99999 : Int32)] h) fun x2 h1 =>
  if x2 = (0 : Int32) then
  (some (some (.int (-2 : Int32)), h1))
  else
  (cI (call d 260 [.int a1] h1) fun x4 h3 =>
  if x4 = (1 : Int32) then
  (some (some (.int (1 : Int32)), h3))
  else
  (some (some (.int (0 : Int32)), h3)))) :=
  (call_unr p_106 rfl o_106 rfl [] 21 _ rfl h).trans rfl

theorem p_107 : prg 107 = (k_107, 1) := rfl
theorem o_107 : okc k_107 = true := by decide +kernel
set_option maxRecDepth 100000 in
theorem e_107 (d : Nat) (a0 : Nat) (h : MHeap) : call (d + 1) 107 [.ref a0] h = (
  vd none h a0 [11, 150] fun m1 =>
  cI (call d m1 [.ref a0] h) fun x3 h2 =>
  if x3 = (0 : Int32) then
  (some (some (.int (-3 : Int32)), h2))
  else
  (vd none h2 a0 [11, 151] fun m4 =>
  cI (call d m4 [.ref a0] h2) fun x6 h5 =>
  some (some (.int x6), h5))) :=
  (call_unr p_107 rfl o_107 rfl [] 13 _ rfl h).trans rfl

theorem p_108 : prg 108 = (k_108, 2) := rfl
theorem o_108 : okc k_108 = true := by decide +kernel
set_option maxRecDepth 100000 in
theorem e_108 (d : Nat) (a0 : Nat) (a1 : Int32) (h : MHeap) : call (d + 1) 108 [.ref a0, .int a1] h = (
  gfV none h a0 [11] 0 fun v1 =>
  dR none v1 fun o3 =>
  vd none h o3 [0, 5] fun m2 =>
  cI (call d m2 [.ref o3, .int a1] h) fun x5 h4 =>
  if x5 = (0 : Int32) then
  (some (some (.int (-2 : Int32)), h4))
  else
  (vd none h4 a0 [11, 150] fun m6 =>
  cI (call d m6 [.ref a0] h4) fun x8 h7 =>
  if x8 = (0 : Int32) then
  (some (some (.int (-3 : Int32)), h7))
  else
  (vd none h7 a0 [11, 151] fun m9 =>
  cI (call d m9 [.ref a0] h7) fun x11 h10 =>
  some (some (.int (x11 ^^^ a1)), h10)))) :=
  (call_unr p_108 rfl o_108 rfl [] 22 _ rfl h).trans rfl

theorem p_109 : prg 109 = (k_109, 7) := rfl
theorem o_109 : okc k_109 = true := by decide +kernel
set_option maxRecDepth 100000 in
theorem e_109 (d : Nat) (a0 : Nat) (a1 : Int32) (h : MHeap) : call (d + 1) 109 [.ref a0, .int a1] h = (
  cI (call d 133 [.int a1, .int (0 : Int32), .int (2 : Int32)] h) fun x2 h1 =>
  if x2 = (0 : Int32) then
  (some (some (.int (-2 : Int32)), h1))
  else
  (gfV none h1 a0 [11] 0 fun v3 =>
  gfV none h1 a0 [11] 0 fun v4 =>
  dR none v4 fun o5 =>
  gfI none h1 o5 [0] 2 fun x6 =>
  dR none v3 fun o8 =>
  vd none h1 o8 [0, 16] fun m7 =>
  cI (call d m7 [.ref o8, .int x6] h1) fun x10 h9 =>
  ex d 109 32 [sv (.ref a0), sv (.int a1), sv (.int x10), sv (.int (0 : Int32)), sv (.int (0 : Int32)), none, none] [] h9)) :=
  (call_unr p_109 rfl o_109 rfl [32] 23 _ rfl h).trans rfl
set_option maxRecDepth 100000 in
theorem e_109_32 (d : Nat) (a0 : Nat) (a1 : Int32) (a2 : Int32) (a3 : Int32) (a4 : Int32) (a5 : MSl) (a6 : MSl) (h : MHeap) : ex d 109 32 [sv (.ref a0), sv (.int a1), sv (.int a2), sv (.int a3), sv (.int a4), a5, a6] [] h = (
  gfV none h a0 [11] 0 fun v1 =>
  dR none v1 fun o2 =>
  gfI none h o2 [0] 0 fun x3 =>
  if a4 < (x3 - (1 : Int32)) then
  (gfV none h a0 [11] 0 fun v4 =>
  dR none v4 fun o6 =>
  vd none h o6 [0, 7] fun m5 =>
  cI (call d m5 [.ref o6, .int a4, .int (a4 + (1 : Int32))] h) fun x8 h7 =>
  if x8 = (0 : Int32) then
  (ex d 109 32 [sv (.ref a0), sv (.int a1), sv (.int a2), sv (.int a3), sv (.int (a4 + (1 : Int32))), a5, a6] [] h7)
  else
  (gfV none h7 a0 [11] 0 fun v9 =>
  dR none v9 fun o10 =>
  gfI none h7 o10 [0] 2 fun x11 =>
  cI (call d 135 [.int a4] h7) fun x13 h12 =>
  cI (call d 135 [.int (a4 + (1 : Int32))] h12) fun x15 h14 =>
  if a1 = (2 : Int32) then
  (gfV none h14 a0 [11] 0 fun v16 =>
  dR none v16 fun o18 =>
  vd none h14 o18 [0, 21] fun m17 =>
  cI (call d m17 [.ref o18, .int ((x11 ^^^ x13) ^^^ x15)] h14) fun x20 h19 =>
  if x20 = (0 : Int32) then
  (ex d 109 32 [sv (.ref a0), sv (.int a1), sv (.int a2), sv (.int (a3 ||| (0 : Int32))), sv (.int (a4 + (1 : Int32))), sv (.int ((x11 ^^^ x13) ^^^ x15)), sv (.int x20)] [] h19)
  else
  (cI (call d 135 [.int a4] h19) fun x22 h21 =>
  ex d 109 32 [sv (.ref a0), sv (.int a1), sv (.int a2), sv (.int (a3 ||| x22)), sv (.int (a4 + (1 : Int32))), sv (.int ((x11 ^^^ x13) ^^^ x15)), sv (.int x20)] [] h21))
  else
  (gfV none h14 a0 [11] 0 fun v23 =>
  dR none v23 fun o25 =>
  vd none h14 o25 [0, 20] fun m24 =>
  cI (call d m24 [.ref o25, .int ((x11 ^^^ x13) ^^^ x15), .int a2] h14) fun x27 h26 =>
  if a1 = (0 : Int32) then
  (if x27 = (1 : Int32) then
  (if (1 : Int32) = (0 : Int32) then
  (ex d 109 32 [sv (.ref a0), sv (.int a1), sv (.int a2), sv (.int (a3 ||| (0 : Int32))), sv (.int (a4 + (1 : Int32))), sv (.int ((x11 ^^^ x13) ^^^ x15)), sv (.int (1 : Int32))] [] h26)
  else
  (cI (call d 135 [.int a4] h26) fun x29 h28 =>
  ex d 109 32 [sv (.ref a0), sv (.int a1), sv (.int a2), sv (.int (a3 ||| x29)), sv (.int (a4 + (1 : Int32))), sv (.int ((x11 ^^^ x13) ^^^ x15)), sv (.int (1 : Int32))] [] h28))
  else
  (if (0 : Int32) = (0 : Int32) then
  (ex d 109 32 [sv (.ref a0), sv (.int a1), sv (.int a2), sv (.int (a3 ||| (0 : Int32))), sv (.int (a4 + (1 : Int32))), sv (.int ((x11 ^^^ x13) ^^^ x15)), sv (.int (0 : Int32))] [] h26)
  else
  (cI (call d 135 [.int a4] h26) fun x31 h30 =>
  ex d 109 32 [sv (.ref a0), sv (.int a1), sv (.int a2), sv (.int (a3 ||| x31)), sv (.int (a4 + (1 : Int32))), sv (.int ((x11 ^^^ x13) ^^^ x15)), sv (.int (0 : Int32))] [] h30)))
  else
  (if x27 = (0 : Int32) then
  (if (1 : Int32) = (0 : Int32) then
  (ex d 109 32 [sv (.ref a0), sv (.int a1), sv (.int a2), sv (.int (a3 ||| (0 : Int32))), sv (.int (a4 + (1 : Int32))), sv (.int ((x11 ^^^ x13) ^^^ x15)), sv (.int (1 : Int32))] [] h26)
  else
  (cI (call d 135 [.int a4] h26) fun x33 h32 =>
  ex d 109 32 [sv (.ref a0), sv (.int a1), sv (.int a2), sv (.int (a3 ||| x33)), sv (.int (a4 + (1 : Int32))), sv (.int ((x11 ^^^ x13) ^^^ x15)), sv (.int (1 : Int32))] [] h32))
  else
  (if (0 : Int32) = (0 : Int32) then
  (ex d 109 32 [sv (.ref a0), sv (.int a1), sv (.int a2), sv (.int (a3 ||| (0 : Int32))), sv (.int (a4 + (1 : Int32))), sv (.int ((x11 ^^^ x13) ^^^ x15)), sv (.int (0 : Int32))] [] h26)
  else
  (cI (call d 135 [.int a4] h26) fun x35 h34 =>
  ex d 109 32 [sv (.ref a0), sv (.int a1), sv (.int a2), sv (.int (a3 ||| x35)), sv (.int (a4 + (1 : Int32))), sv (.int ((x11 ^^^ x13) ^^^ x15)), sv (.int (0 : Int32))] [] h34))))))
  else
  (some (some (.int a3), h))) :=
  (ex_unr p_109 o_109 [32] 142 rfl _ _ h).trans rfl

theorem p_110 : prg 110 = (k_110, 8) := rfl
theorem o_110 : okc k_110 = true := by decide +kernel
set_option maxRecDepth 100000 in
theorem e_110 (d : Nat) (a0 : Nat) (a1 : Int32) (a2 : Int32) (h : MHeap) : call (d + 1) 110 [.ref a0, .int a1, .int a2] h = (
  gfV none h a0 [11] 0 fun v1 =>
  dR none v1 fun o3 =>
  vd none h o3 [0, 8] fun m2 =>
  cI (call d m2 [.ref o3, .int a1] h) fun x5 h4 =>
  if x5 = (0 : Int32) then
  (some (some (.int (-5 : Int32)), h4))
  else
  (cI (call d 133 [.int a2, .int (0 : Int32), .int (2 : Int32)] h4) fun x7 h6 =>
  if x7 = (0 : Int32) then
  (some (some (.int (-7 : Int32)), h6))
  else
  (gfV none h6 a0 [11] 0 fun v8 =>
  dR none v8 fun o9 =>
  gfI none h6 o9 [0] 2 fun x10 =>
  ex d 110 50 [sv (.ref a0), sv (.int a1), sv (.int a2), sv (.int x5), sv (.int (x10 &&& (x5 ^^^ (-1 : Int32)))), sv (.int (0 : Int32)), sv (.int (-1 : Int32)), sv (.int (0 : Int32))] [] h6))) :=
  (call_unr p_110 rfl o_110 rfl [50] 35 _ rfl h).trans rfl
set_option maxRecDepth 100000 in
theorem e_110_50 (d : Nat) (a0 : Nat) (a1 : Int32) (a2 : Int32) (a3 : Int32) (a4 : Int32) (a5 : Int32) (a6 : Int32) (a7 : Int32) (h : MHeap) : ex d 110 50 [sv (.ref a0), sv (.int a1), sv (.int a2), sv (.int a3), sv (.int a4), sv (.int a5), sv (.int a6), sv (.int a7)] [] h = (
  if a3 < a7 then
  (if a2 = (2 : Int32) then
  (if a5 = (1 : Int32) then
  (gfV none h a0 [11] 0 fun v1 =>
  dR none v1 fun o2 =>
  gfI none h o2 [0] 2 fun x3 =>
  if a6 = (x3 &&& a3) then
  (some (some (.int (1 : Int32)), h))
  else
  (some (some (.int (0 : Int32)), h)))
  else
  (some (some (.int (0 : Int32)), h)))
  else
  (if a2 = (0 : Int32) then
  (some (some (.int a5), h))
  else
  (some (some (.int a6), h))))
  else
  (if (a7 &&& (a3 ^^^ (-1 : Int32))) = (0 : Int32) then
  (gfV none h a0 [11] 0 fun v4 =>
  dR none v4 fun o6 =>
  vd none h o6 [0, 21] fun m5 =>
  cI (call d m5 [.ref o6, .int (a4 ||| a7)] h) fun x8 h7 =>
  if x8 = (0 : Int32) then
  (ex d 110 50 [sv (.ref a0), sv (.int a1), sv (.int a2), sv (.int a3), sv (.int a4), sv (.int a5), sv (.int a6), sv (.int (a7 + (1 : Int32)))] [] h7)
  else
  (if a5 = (0 : Int32) then
  (ex d 110 50 [sv (.ref a0), sv (.int a1), sv (.int a2), sv (.int a3), sv (.int a4), sv (.int (a5 + (1 : Int32))), sv (.int a7), sv (.int (a7 + (1 : Int32)))] [] h7)
  else
  (ex d 110 50 [sv (.ref a0), sv (.int a1), sv (.int a2), sv (.int a3), sv (.int a4), sv (.int (a5 + (1 : Int32))), sv (.int a6), sv (.int (a7 + (1 : Int32)))] [] h7)))
  else
  (ex d 110 50 [sv (.ref a0), sv (.int a1), sv (.int a2), sv (.int a3), sv (.int a4), sv (.int a5), sv (.int a6), sv (.int (a7 + (1 : Int32)))] [] h))) :=
  (ex_unr p_110 o_110 [50] 65 rfl _ _ h).trans rfl

theorem p_111 : prg 111 = (k_111, 2) := rfl
theorem o_111 : okc k_111 = true := by decide +kernel
set_option maxRecDepth 100000 in
theorem e_111 (d : Nat) (a0 : Nat) (a1 : Int32) (h : MHeap) : call (d + 1) 111 [.ref a0, .int a1] h = (
  gfV none h a0 [11] 0 fun v1 =>
  dR none v1 fun o2 =>
  gfI none h o2 [0] 0 fun x3 =>
  cI (call d 133 [.int a1, .int (0 : Int32), .int (x3 - (1 : Int32))] h) fun x5 h4 =>
  if x5 = (0 : Int32) then
  (some (some (.int (-2 : Int32)), h4))
  else
  (gfV none h4 a0 [11] 0 fun v6 =>
  gfV none h4 a0 [11] 0 fun v7 =>
  dR none v7 fun o9 =>
  vd none h4 o9 [0, 9] fun m8 =>
  cI (call d m8 [.ref o9, .int a1] h4) fun x11 h10 =>
  dR none v6 fun o13 =>
  pfI none h10 o13 [0] 2 x11 fun h12 =>
  gfV none h12 a0 [11] 0 fun v14 =>
  dR none v14 fun o15 =>
  gfI none h12 o15 [0] 2 fun x16 =>
  some (some (.int x16), h12))) :=
  (call_unr p_111 rfl o_111 rfl [] 27 _ rfl h).trans rfl

theorem p_112 : prg 112 = (k_112, 7) := rfl
theorem o_112 : okc k_112 = true := by decide +kernel
set_option maxRecDepth 100000 in
theorem e_112 (d : Nat) (a0 : Nat) (a1 : Int32) (h : MHeap) : call (d + 1) 112 [.ref a0, .int a1] h = (
  cI (call d 133 [.int a1, .int (0 : Int32), .int (2 : Int32)] h) fun x2 h1 =>
  if x2 = (0 : Int32) then
  (some (some (.int (-2 : Int32)), h1))
  else
  (gfV none h1 a0 [11] 0 fun v3 =>
  gfV none h1 a0 [11] 0 fun v4 =>
  dR none v4 fun o5 =>
  gfI none h1 o5 [0] 2 fun x6 =>
  dR none v3 fun o8 =>
  vd none h1 o8 [0, 16] fun m7 =>
  cI (call d m7 [.ref o8, .int x6] h1) fun x10 h9 =>
  ex d 112 32 [sv (.ref a0), sv (.int a1), sv (.int x10), sv (.int (0 : Int32)), sv (.int (1 : Int32)), none, none] [] h9)) :=
  (call_unr p_112 rfl o_112 rfl [32] 23 _ rfl h).trans rfl
set_option maxRecDepth 100000 in
theorem e_112_32 (d : Nat) (a0 : Nat) (a1 : Int32) (a2 : Int32) (a3 : Int32) (a4 : Int32) (a5 : MSl) (a6 : MSl) (h : MHeap) : ex d 112 32 [sv (.ref a0), sv (.int a1), sv (.int a2), sv (.int a3), sv (.int a4), a5, a6] [] h = (
  gfV none h a0 [11] 0 fun v1 =>
  dR none v1 fun o2 =>
  gfI none h o2 [0] 0 fun x3 =>
  if a4 < x3 then
  (gfV none h a0 [11] 0 fun v4 =>
  dR none v4 fun o6 =>
  vd none h o6 [0, 9] fun m5 =>
  cI (call d m5 [.ref o6, .int a4] h) fun x8 h7 =>
  if a1 = (2 : Int32) then
  (gfV none h7 a0 [11] 0 fun v9 =>
  dR none v9 fun o10 =>
  gfI none h7 o10 [0] 2 fun x11 =>
  if x8 = x11 then
  (if (1 : Int32) = (0 : Int32) then
  (ex d 112 32 [sv (.ref a0), sv (.int a1), sv (.int a2), sv (.int (a3 ||| (0 : Int32))), sv (.int (a4 + (1 : Int32))), sv (.int x8), sv (.int (1 : Int32))] [] h7)
  else
  (cI (call d 135 [.int a4] h7) fun x13 h12 =>
  ex d 112 32 [sv (.ref a0), sv (.int a1), sv (.int a2), sv (.int (a3 ||| x13)), sv (.int (a4 + (1 : Int32))), sv (.int x8), sv (.int (1 : Int32))] [] h12))
  else
  (if (0 : Int32) = (0 : Int32) then
  (ex d 112 32 [sv (.ref a0), sv (.int a1), sv (.int a2), sv (.int (a3 ||| (0 : Int32))), sv (.int (a4 + (1 : Int32))), sv (.int x8), sv (.int (0 : Int32))] [] h7)
  else
  (cI (call d 135 [.int a4] h7) fun x15 h14 =>
  ex d 112 32 [sv (.ref a0), sv (.int a1), sv (.int a2), sv (.int (a3 ||| x15)), sv (.int (a4 + (1 : Int32))), sv (.int x8), sv (.int (0 : Int32))] [] h14)))
  else
  (gfV none h7 a0 [11] 0 fun v16 =>
  if a1 = (0 : Int32) then
  (dR none v16 fun o18 =>
  vd none h7 o18 [0, 20] fun m17 =>
  cI (call d m17 [.ref o18, .int x8, .int a2] h7) fun x20 h19 =>
  if x20 = (0 : Int32) then
  (ex d 112 32 [sv (.ref a0), sv (.int a1), sv (.int a2), sv (.int (a3 ||| (0 : Int32))), sv (.int (a4 + (1 : Int32))), sv (.int x8), sv (.int x20)] [] h19)
  else
  (cI (call d 135 [.int a4] h19) fun x22 h21 =>
  ex d 112 32 [sv (.ref a0), sv (.int a1), sv (.int a2), sv (.int (a3 ||| x22)), sv (.int (a4 + (1 : Int32))), sv (.int x8), sv (.int x20)] [] h21))
  else
  (dR none v16 fun o24 =>
  vd none h7 o24 [0, 20] fun m23 =>
  cI (call d m23 [.ref o24, .int x8, .int (0 : Int32)] h7) fun x26 h25 =>
  if x26 = (0 : Int32) then
  (ex d 112 32 [sv (.ref a0), sv (.int a1), sv (.int a2), sv (.int (a3 ||| (0 : Int32))), sv (.int (a4 + (1 : Int32))), sv (.int x8), sv (.int x26)] [] h25)
  else
  (cI (call d 135 [.int a4] h25) fun x28 h27 =>
  ex d 112 32 [sv (.ref a0), sv (.int a1), sv (.int a2), sv (.int (a3 ||| x28)), sv (.int (a4 + (1 : Int32))), sv (.int x8), sv (.int x26)] [] h27))))
  else
  (some (some (.int a3), h))) :=
  (ex_unr p_112 o_112 [32] 103 rfl _ _ h).trans rfl

theorem p_113 : prg 113 = (k_113, 3) := rfl
theorem o_113 : okc k_113 = true := by decide +kernel
set_option maxRecDepth 100000 in
theorem e_113 (d : Nat) (a0 : Nat) (a1 : Int32) (a2 : Int32) (h : MHeap) : call (d + 1) 113 [.ref a0, .int a1, .int a2] h = (
  gfV none h a0 [11] 0 fun v1 =>
  dR none v1 fun o3 =>
  vd none h o3 [0, 5] fun m2 =>
  cI (call d m2 [.ref o3, .int a1] h) fun x5 h4 =>
  if x5 = (0 : Int32) then
  (some (some (.int (-5 : Int32)), h4))
  else
  (gfV none h4 a0 [11] 0 fun v6 =>
  dR none v6 fun o8 =>
  vd none h4 o8 [0, 5] fun m7 =>
  cI (call d m7 [.ref o8, .int a2] h4) fun x10 h9 =>
  if x10 = (0 : Int32) then
  (some (some (.int (-5 : Int32)), h9))
  else
  (gfV none h9 a0 [11] 0 fun v11 =>
  gfV none h9 a0 [11] 0 fun v12 =>
  dR none v12 fun o14 =>
  vd none h9 o14 [0, 10] fun m13 =>
  cI (call d m13 [.ref o14, .int a1, .int a2] h9) fun x16 h15 =>
  dR none v11 fun o18 =>
  pfI none h15 o18 [0] 2 x16 fun h17 =>
  gfV none h17 a0 [11] 0 fun v19 =>
  dR none v19 fun o20 =>
  gfI none h17 o20 [0] 2 fun x21 =>
  some (some (.int x21), h17)))) :=
  (call_unr p_113 rfl o_113 rfl [] 31 _ rfl h).trans rfl

theorem p_114 : prg 114 = (k_114, 7) := rfl
theorem o_114 : okc k_114 = true := by decide +kernel
set_option maxRecDepth 100000 in
theorem e_114 (d : Nat) (a0 : Nat) (a1 : Int32) (h : MHeap) : call (d + 1) 114 [.ref a0, .int a1] h = (
  cI (call d 133 [.int a1, .int (0 : Int32), .int (1 : Int32)] h) fun x2 h1 =>
  if x2 = (0 : Int32) then
  (some (some (.int (-2 : Int32)), h1))
  else
  (gfV none h1 a0 [11] 0 fun v3 =>
  gfV none h1 a0 [11] 0 fun v4 =>
  dR none v4 fun o5 =>
  gfI none h1 o5 [0] 2 fun x6 =>
  dR none v3 fun o8 =>
  vd none h1 o8 [0, 16] fun m7 =>
  cI (call d m7 [.ref o8, .int x6] h1) fun x10 h9 =>
  ex d 114 32 [sv (.ref a0), sv (.int a1), sv (.int x10), sv (.int (0 : Int32)), sv (.int (0 : Int32)), none, none] [] h9)) :=
  (call_unr p_114 rfl o_114 rfl [32, 47] 23 _ rfl h).trans rfl
set_option maxRecDepth 100000 in
theorem e_114_32 (d : Nat) (a0 : Nat) (a1 : Int32) (a2 : Int32) (a3 : Int32) (a4 : Int32) (a5 : MSl) (a6 : MSl) (h : MHeap) : ex d 114 32 [sv (.ref a0), sv (.int a1), sv (.int a2), sv (.int a3), sv (.int a4), a5, a6] [] h = (
  gfV none h a0 [11] 0 fun v1 =>
  dR none v1 fun o2 =>
  gfI none h o2 [0] 0 fun x3 =>
  if a4 < x3 then
  (ex d 114 47 [sv (.ref a0), sv (.int a1), sv (.int a2), sv (.int a3), sv (.int a4), sv (.int (0 : Int32)), a6] [] h)
  else
  (some (some (.int a3), h))) :=
  (ex_unr p_114 o_114 [32, 47] 14 rfl _ _ h).trans rfl
set_option maxRecDepth 100000 in
theorem e_114_47 (d : Nat) (a0 : Nat) (a1 : Int32) (a2 : Int32) (a3 : Int32) (a4 : Int32) (a5 : Int32) (a6 : MSl) (h : MHeap) : ex d 114 47 [sv (.ref a0), sv (.int a1), sv (.int a2), sv (.int a3), sv (.int a4), sv (.int a5), a6] [] h = (
  gfV none h a0 [11] 0 fun v1 =>
  dR none v1 fun o2 =>
  gfI none h o2 [0] 0 fun x3 =>
  if a5 < x3 then
  (gfV none h a0 [11] 0 fun v4 =>
  dR none v4 fun o6 =>
  vd none h o6 [0, 10] fun m5 =>
  cI (call d m5 [.ref o6, .int a4, .int a5] h) fun x8 h7 =>
  gfV none h7 a0 [11] 0 fun v9 =>
  dR none v9 fun o10 =>
  gfI none h7 o10 [0] 2 fun x11 =>
  if x8 = x11 then
  (ex d 114 47 [sv (.ref a0), sv (.int a1), sv (.int a2), sv (.int a3), sv (.int a4), sv (.int (a5 + (1 : Int32))), sv (.int x8)] [] h7)
  else
  (gfV none h7 a0 [11] 0 fun v12 =>
  dR none v12 fun o14 =>
  vd none h7 o14 [0, 20] fun m13 =>
  cI (call d m13 [.ref o14, .int x8, .int a2] h7) fun x16 h15 =>
  if a1 = (1 : Int32) then
  (if x16 = (1 : Int32) then
  (ex d 114 47 [sv (.ref a0), sv (.int a1), sv (.int a2), sv (.int (a3 + (1 : Int32))), sv (.int a4), sv (.int (a5 + (1 : Int32))), sv (.int x8)] [] h15)
  else
  (ex d 114 47 [sv (.ref a0), sv (.int a1), sv (.int a2), sv (.int a3), sv (.int a4), sv (.int (a5 + (1 : Int32))), sv (.int x8)] [] h15))
  else
  (if x16 = (0 : Int32) then
  (ex d 114 47 [sv (.ref a0), sv (.int a1), sv (.int a2), sv (.int (a3 + (1 : Int32))), sv (.int a4), sv (.int (a5 + (1 : Int32))), sv (.int x8)] [] h15)
  else
  (ex d 114 47 [sv (.ref a0), sv (.int a1), sv (.int a2), sv (.int a3), sv (.int a4), sv (.int (a5 + (1 : Int32))), sv (.int x8)] [] h15))))
  else
  (ex d 114 32 [sv (.ref a0), sv (.int a1), sv (.int a2), sv (.int a3), sv (.int (a4 + (1 : Int32))), sv (.int a5), a6] [] h)) :=
  (ex_unr p_114 o_114 [32, 47] 48 rfl _ _ h).trans rfl

theorem p_115 : prg 115 = (k_115, 2) := rfl
theorem o_115 : okc k_115 = true := by decide +kernel
set_option maxRecDepth 100000 in
theorem e_115 (d : Nat) (a0 : Nat) (a1 : Int32) (h : MHeap) : call (d + 1) 115 [.ref a0, .int a1] h = (
  vd none h a0 [11, 152] fun m1 =>
  cV (call d m1 [.ref a0] h) fun h2 =>
  if a1 = (0 : Int32) then
  (vd none h2 a0 [11, 153] fun m3 =>
  cI (call d m3 [.ref a0] h2) fun x5 h4 =>
  some (some (.int x5), h4))
  else
  (if a1 = (1 : Int32) then
  (vd none h2 a0 [11, 153] fun m6 =>
  cI (call d m6 [.ref a0] h2) fun x8 h7 =>
  vd none h7 a0 [11, 154] fun m9 =>
  cI (call d m9 [.ref a0, .int x8] h7) fun x11 h10 =>
  some (some (.int x11), h10))
  else
  (if a1 = (2 : Int32) then
  (vd none h2 a0 [11, 155] fun m12 =>
  cI (call d m12 [.ref a0] h2) fun x14 h13 =>
  some (some (.int x14), h13))
  else
  (some (some (.int (-2 : Int32)), h2))))) :=
  (call_unr p_115 rfl o_115 rfl [] 22 _ rfl h).trans rfl

theorem p_116 : prg 116 = (k_116, 3) := rfl
theorem o_116 : okc k_116 = true := by decide +kernel
set_option maxRecDepth 100000 in
theorem e_116 (d : Nat) (a0 : Nat) (a1 : Int32) (h : MHeap) : call (d + 1) 116 [.ref a0, .int a1] h = (
  vd none h a0 [11, 152] fun m1 =>
  cV (call d m1 [.ref a0] h) fun h2 =>
  vd none h2 a0 [11, 153] fun m3 =>
  cI (call d m3 [.ref a0] h2) fun x5 h4 =>
  cI (call d 133 [.int a1, .int (0 : Int32), .int (1 : Int32)] h4) fun x7 h6 =>
  if x7 = (0 : Int32) then
  (some (some (.long (-4611686018427387904 : Int64)), h6))
  else
  (if x5 = (-1 : Int32) then
  (some (some (.long (-4611686018427387904 : Int64)), h6))
  else
  (vd none h6 a0 [11, 154] fun m8 =>
  cI (call d m8 [.ref a0, .int x5] h6) fun x10 h9 =>
  vd none h9 a0 [11, 155] fun m11 =>
  cI (call d m11 [.ref a0] h9) fun x13 h12 =>
  cJ (call d 142 [.int x10, .int x13, .int a1] h12) fun y15 h14 =>
  some (some (.long y15), h14)))) :=
  (call_unr p_116 rfl o_116 rfl [] 30 _ rfl h).trans rfl

theorem p_117 : prg 117 = (k_117, 9) := rfl
theorem o_117 : okc k_117 = true := by decide +kernel
set_option maxRecDepth 100000 in
theorem e_117 (d : Nat) (a0 : Nat) (a1 : Int32) (h : MHeap) : call (d + 1) 117 [.ref a0, .int a1] h = (
  cI (call d 133 [.int a1, .int (0 : Int32), .int (1 : Int32)] h) fun x2 h1 =>
  if x2 = (0 : Int32) then
  (some (some (.int (-2 : Int32)), h1))
  else
  (gfV none h1 a0 [11] 0 fun v3 =>
  dR none v3 fun o4 =>
  gfI none h1 o4 [0] 2 fun x5 =>
  vd none h1 a0 [11, 144] fun m6 =>
  cI (call d m6 [.ref a0, .int x5] h1) fun x8 h7 =>
  gfV none h7 a0 [11] 0 fun v9 =>
  dR none v9 fun o11 =>
  vd none h7 o11 [0, 19] fun m10 =>
  cI (call d m10 [.ref o11] h7) fun x13 h12 =>
  ex d 117 44 [sv (.ref a0), sv (.int a1), sv (.int x8), sv (.int x13), sv (.int (-1 : Int32)), sv (.int (0 : Int32)), sv (.int (0 : Int32)), sv (.int (0 : Int32)), none] [] h12)) :=
  (call_unr p_117 rfl o_117 rfl [44] 30 _ rfl h).trans rfl
set_option maxRecDepth 100000 in
theorem e_117_44 (d : Nat) (a0 : Nat) (a1 : Int32) (a2 : Int32) (a3 : Int32) (a4 : Int32) (a5 : Int32) (a6 : Int32) (a7 : Int32) (a8 : MSl) (h : MHeap) : ex d 117 44 [sv (.ref a0), sv (.int a1), sv (.int a2), sv (.int a3), sv (.int a4), sv (.int a5), sv (.int a6), sv (.int a7), a8] [] h = (
  gfV none h a0 [11] 0 fun v1 =>
  dR none v1 fun o2 =>
  gfI none h o2 [0] 0 fun x3 =>
  if a7 < x3 then
  (cI (call d 137 [.int a2, .int a7] h) fun x5 h4 =>
  if x5 = (0 : Int32) then
  (ex d 117 44 [sv (.ref a0), sv (.int a1), sv (.int a2), sv (.int a3), sv (.int a4), sv (.int a5), sv (.int a6), sv (.int (a7 + (1 : Int32))), a8] [] h4)
  else
  (vd none h4 a0 [11, 143] fun m6 =>
  cI (call d m6 [.ref a0, .int (2 : Int32), .int a7, .int a3] h4) fun x8 h7 =>
  if a4 = (-1 : Int32) then
  (ex d 117 44 [sv (.ref a0), sv (.int a1), sv (.int a2), sv (.int a3), sv (.int a7), sv (.int x8), sv (.int (a6 + x8)), sv (.int (a7 + (1 : Int32))), sv (.int x8)] [] h7)
  else
  (if x8 < a5 then
  (ex d 117 44 [sv (.ref a0), sv (.int a1), sv (.int a2), sv (.int a3), sv (.int a7), sv (.int x8), sv (.int (a6 + x8)), sv (.int (a7 + (1 : Int32))), sv (.int x8)] [] h7)
  else
  (ex d 117 44 [sv (.ref a0), sv (.int a1), sv (.int a2), sv (.int a3), sv (.int a4), sv (.int a5), sv (.int (a6 + x8)), sv (.int (a7 + (1 : Int32))), sv (.int x8)] [] h7))))
  else
  (if a1 = (0 : Int32) then
  (some (some (.int a4), h))
  else
  (some (some (.int a6), h)))) :=
  (ex_unr p_117 o_117 [44] 53 rfl _ _ h).trans rfl

theorem p_118 : prg 118 = (k_118, 3) := rfl
theorem o_118 : okc k_118 = true := by decide +kernel
set_option maxRecDepth 100000 in
theorem e_118 (d : Nat) (a0 : Nat) (h : MHeap) : call (d + 1) 118 [.ref a0] h = (
  gfV none h a0 [11] 0 fun v1 =>
  dR none v1 fun o2 =>
  gfI none h o2 [0] 2 fun x3 =>
  vd none h a0 [11, 149] fun m4 =>
  cI (call d m4 [.ref a0, .int x3] h) fun x6 h5 =>
  ex d 118 14 [sv (.ref a0), sv (.int x6), sv (.int (0 : Int32))] [] h5) :=
  (call_unr p_118 rfl o_118 rfl [14] 13 _ rfl h).trans rfl
set_option maxRecDepth 100000 in
theorem e_118_14 (d : Nat) (a0 : Nat) (a1 : Int32) (a2 : Int32) (h : MHeap) : ex d 118 14 [sv (.ref a0), sv (.int a1), sv (.int a2)] [] h = (
  gfV none h a0 [11] 0 fun v1 =>
  dR none v1 fun o2 =>
  gfI none h o2 [0] 0 fun x3 =>
  if a2 < x3 then
  (gfV none h a0 [11] 0 fun v4 =>
  dR none v4 fun o5 =>
  gfI none h o5 [0] 2 fun x6 =>
  cI (call d 135 [.int a2] h) fun x8 h7 =>
  vd none h7 a0 [11, 149] fun m9 =>
  cI (call d m9 [.ref a0, .int (x6 ^^^ x8)] h7) fun x11 h10 =>
  ex d 118 14 [sv (.ref a0), sv (.int (a1 ||| x11)), sv (.int (a2 + (1 : Int32)))] [] h10)
  else
  (some (some (.int a1), h))) :=
  (ex_unr p_118 o_118 [14] 25 rfl _ _ h).trans rfl

theorem p_119 : prg 119 = (k_119, 5) := rfl
theorem o_119 : okc k_119 = true := by decide +kernel
set_option maxRecDepth 100000 in
theorem e_119 (d : Nat) (a0 : Nat) (h : MHeap) : call (d + 1) 119 [.ref a0] h = (
  gfV none h a0 [11] 0 fun v1 =>
  gfV none h a0 [11] 0 fun v2 =>
  dR none v2 fun o3 =>
  gfI none h o3 [0] 2 fun x4 =>
  dR none v1 fun o6 =>
  vd none h o6 [0, 16] fun m5 =>
  cI (call d m5 [.ref o6, .int x4] h) fun x8 h7 =>
  gfV none h7 a0 [11] 0 fun v9 =>
  dR none v9 fun o11 =>
  vd none h7 o11 [0, 15] fun m10 =>
  cI (call d m10 [.ref o11] h7) fun x13 h12 =>
  ex d 119 25 [sv (.ref a0), sv (.int x8), sv (.int x13), sv (.int (0 : Int32)), none] [] h12) :=
  (call_unr p_119 rfl o_119 rfl [25] 18 _ rfl h).trans rfl
set_option maxRecDepth 100000 in
theorem e_119_25 (d : Nat) (a0 : Nat) (a1 : Int32) (a2 : Int32) (a3 : Int32) (a4 : MSl) (h : MHeap) : ex d 119 25 [sv (.ref a0), sv (.int a1), sv (.int a2), sv (.int a3), a4] [] h = (
  gfV none h a0 [11] 0 fun v1 =>
  dR none v1 fun o3 =>
  vd none h o3 [0, 4] fun m2 =>
  cI (call d m2 [.ref o3] h) fun x5 h4 =>
  if x5 < a3 then
  (some (some (.int a2), h4))
  else
  (gfV none h4 a0 [11] 0 fun v6 =>
  dR none v6 fun o8 =>
  vd none h4 o8 [0, 17] fun m7 =>
  cI (call d m7 [.ref o8, .int a3, .int a1] h4) fun x10 h9 =>
  cI (call d 260 [.int x10] h9) fun x12 h11 =>
  if x12 = (1 : Int32) then
  (ex d 119 25 [sv (.ref a0), sv (.int a1), sv (.int (a2 &&& (x10 ^^^ (-1 : Int32)))), sv (.int (a3 + (1 : Int32))), sv (.int x10)] [] h11)
  else
  (ex d 119 25 [sv (.ref a0), sv (.int a1), sv (.int a2), sv (.int (a3 + (1 : Int32))), sv (.int x10)] [] h11))) :=
  (ex_unr p_119 o_119 [25] 32 rfl _ _ h).trans rfl

theorem p_120 : prg 120 = (k_120, 3) := rfl
theorem o_120 : okc k_120 = true := by decide +kernel
set_option maxRecDepth 100000 in
theorem e_120 (d : Nat) (a0 : Nat) (a1 : Int32) (h : MHeap) : call (d + 1) 120 [.ref a0, .int a1] h = (
  vd none h a0 [11, 157] fun m1 =>
  cI (call d m1 [.ref a0, .int a1] h) fun x3 h2 =>
  if x3 = (0 : Int32) then
  (gfV none h2 a0 [11] 0 fun v4 =>
  gfV none h2 a0 [11] 0 fun v5 =>
  dR none v5 fun o6 =>
  gfI none h2 o6 [0] 2 fun x7 =>
  vd none h2 a0 [11, 158] fun m8 =>
  cI (call d m8 [.ref a0, .int a1] h2) fun x10 h9 =>
  dR none v4 fun o12 =>
  vd none h9 o12 [0, 17] fun m11 =>
  cI (call d m11 [.ref o12, .int x7, .int x10] h9) fun x14 h13 =>
  cI (call d 139 [.int x14] h13) fun x16 h15 =>
  some (some (.int x16), h15))
  else
  (some (some (.int x3), h2))) :=
  (call_unr p_120 rfl o_120 rfl [] 24 _ rfl h).trans rfl

theorem p_121 : prg 121 = (k_121, 10) := rfl
theorem o_121 : okc k_121 = true := by decide +kernel
set_option maxRecDepth 100000 in
theorem e_121 (d : Nat) (a0 : Nat) (a1 : Int32) (a2 : Int32) (h : MHeap) : call (d + 1) 121 [.ref a0, .int a1, .int a2] h = (
  vd none h a0 [11, 157] fun m1 =>
  cI (call d m1 [.ref a0, .int a1] h) fun x3 h2 =>
  if x3 = (0 : Int32) then
  (cI (call d 133 [.int a2, .int (0 : Int32), .int (3 : Int32)] h2) fun x5 h4 =>
  if x5 = (0 : Int32) then
  (some (some (.int (-7 : Int32)), h4))
  else
  (vd none h4 a0 [11, 158] fun m6 =>
  cI (call d m6 [.ref a0, .int a1] h4) fun x8 h7 =>
  gfV none h7 a0 [11] 0 fun v9 =>
  dR none v9 fun o11 =>
  vd none h7 o11 [0, 4] fun m10 =>
  cI (call d m10 [.ref o11] h7) fun x13 h12 =>
  ex d 121 52 [sv (.ref a0), sv (.int a1), sv (.int a2), sv (.int x3), sv (.int x8), sv (.int (0 : Int32)), sv (.int (-1 : Int32)), sv (.int x13), sv (.int (0 : Int32)), sv (.int (0 : Int32))] [] h12))
  else
  (some (some (.int x3), h2))) :=
  (call_unr p_121 rfl o_121 rfl [52] 36 _ rfl h).trans rfl
set_option maxRecDepth 100000 in
theorem e_121_52 (d : Nat) (a0 : Nat) (a1 : Int32) (a2 : Int32) (a3 : Int32) (a4 : Int32) (a5 : Int32) (a6 : Int32) (a7 : Int32) (a8 : Int32) (a9 : Int32) (h : MHeap) : ex d 121 52 [sv (.ref a0), sv (.int a1), sv (.int a2), sv (.int a3), sv (.int a4), sv (.int a5), sv (.int a6), sv (.int a7), sv (.int a8), sv (.int a9)] [] h = (
  gfV none h a0 [11] 0 fun v1 =>
  dR none v1 fun o3 =>
  vd none h o3 [0, 4] fun m2 =>
  cI (call d m2 [.ref o3] h) fun x5 h4 =>
  if x5 < a9 then
  (if a2 = (0 : Int32) then
  (some (some (.int a5), h4))
  else
  (if a2 = (1 : Int32) then
  (some (some (.int a6), h4))
  else
  (if a2 = (2 : Int32) then
  (if a5 = (0 : Int32) then
  (some (some (.int (0 : Int32)), h4))
  else
  (some (some (.int a7), h4)))
  else
  (some (some (.int a8), h4)))))
  else
  (gfV none h4 a0 [11] 0 fun v6 =>
  dR none v6 fun o8 =>
  vd none h4 o8 [0, 20] fun m7 =>
  cI (call d m7 [.ref o8, .int a9, .int a4] h4) fun x10 h9 =>
  if x10 = (0 : Int32) then
  (ex d 121 52 [sv (.ref a0), sv (.int a1), sv (.int a2), sv (.int a3), sv (.int a4), sv (.int a5), sv (.int a6), sv (.int a7), sv (.int a8), sv (.int (a9 + (1 : Int32)))] [] h9)
  else
  (if a5 = (0 : Int32) then
  (ex d 121 52 [sv (.ref a0), sv (.int a1), sv (.int a2), sv (.int a3), sv (.int a4), sv (.int (a5 + (1 : Int32))), sv (.int a9), sv (.int (a7 &&& a9)), sv (.int (a8 ||| a9)), sv (.int (a9 + (1 : Int32)))] [] h9)
  else
  (ex d 121 52 [sv (.ref a0), sv (.int a1), sv (.int a2), sv (.int a3), sv (.int a4), sv (.int (a5 + (1 : Int32))), sv (.int a6), sv (.int (a7 &&& a9)), sv (.int (a8 ||| a9)), sv (.int (a9 + (1 : Int32)))] [] h9)))) :=
  (ex_unr p_121 o_121 [52] 62 rfl _ _ h).trans rfl

theorem p_122 : prg 122 = (k_122, 6) := rfl
theorem o_122 : okc k_122 = true := by decide +kernel
set_option maxRecDepth 100000 in
theorem e_122 (d : Nat) (a0 : Nat) (a1 : Int32) (a2 : Int32) (a3 : Int32) (h : MHeap) : call (d + 1) 122 [.ref a0, .int a1, .int a2, .int a3] h = (
  vd none h a0 [11, 157] fun m1 =>
  cI (call d m1 [.ref a0, .int a1] h) fun x3 h2 =>
  if x3 = (0 : Int32) then
  (gfV none h2 a0 [11] 0 fun v4 =>
  dR none v4 fun o6 =>
  vd none h2 o6 [0, 6] fun m5 =>
  cI (call d m5 [.ref o6, .int a2] h2) fun x8 h7 =>
  if x8 = (0 : Int32) then
  (some (some (.int (-7 : Int32)), h7))
  else
  (cI (call d 133 [.int a3, .int (0 : Int32), .int (1 : Int32)] h7) fun x10 h9 =>
  if x10 = (0 : Int32) then
  (some (some (.int (-7 : Int32)), h9))
  else
  (vd none h9 a0 [11, 158] fun m11 =>
  cI (call d m11 [.ref a0, .int a1] h9) fun x13 h12 =>
  vd none h12 a0 [11, 145] fun m14 =>
  cI (call d m14 [.ref a0, .int (0 : Int32), .int a2, .int x13] h12) fun x16 h15 =>
  if a3 = (0 : Int32) then
  (cI (call d 138 [.int x16] h15) fun x18 h17 =>
  some (some (.int x18), h17))
  else
  (some (some (.int x16), h15)))))
  else
  (some (some (.int x3), h2))) :=
  (call_unr p_122 rfl o_122 rfl [] 43 _ rfl h).trans rfl

theorem p_123 : prg 123 = (k_123, 5) := rfl
theorem o_123 : okc k_123 = true := by decide +kernel
set_option maxRecDepth 100000 in
theorem e_123 (d : Nat) (a0 : Nat) (a1 : Int32) (h : MHeap) : call (d + 1) 123 [.ref a0, .int a1] h = (
  vd none h a0 [11, 156] fun m1 =>
  cR (call d m1 [.ref a0, .int a1] h) fun v3 h2 =>
  dA none v3 <|
  dA none v3 <|
  dN none v3 (
  some (some (.int (-2 : Int32)), h2)) (
  dA none v3 <|
  gfV none h2 a0 [11] 0 fun v4 =>
  dR none v4 fun o5 =>
  gfI none h2 o5 [0] 3 fun x6 =>
  dR none v3 fun o8 =>
  vd none h2 o8 [7, 46] fun m7 =>
  cV (call d m7 [.ref o8, .int (2 : Int32), .int x6] h2) fun h9 =>
  gfV none h9 a0 [11] 0 fun v10 =>
  gfV none h9 a0 [11] 0 fun v11 =>
  dR none v11 fun o12 =>
  gfI none h9 o12 [0] 2 fun x13 =>
  dR none v10 fun o15 =>
  vd none h9 o15 [0, 16] fun m14 =>
  cI (call d m14 [.ref o15, .int x13] h9) fun x17 h16 =>
  ex d 123 43 [sv (.ref a0), sv (.int a1), sv v3, sv (.int x17), sv (.int (0 : Int32))] [] h16)) :=
  (call_unr p_123 rfl o_123 rfl [43] 28 _ rfl h).trans rfl
set_option maxRecDepth 100000 in
theorem e_123_43 (d : Nat) (a0 : Nat) (a1 : Int32) (a2 : Value) (a3 : Int32) (a4 : Int32) (h : MHeap) : ex d 123 43 [sv (.ref a0), sv (.int a1), sv a2, sv (.int a3), sv (.int a4)] [] h = (
  gfV none h a0 [11] 0 fun v1 =>
  dR none v1 fun o2 =>
  gfI none h o2 [0] 3 fun x3 =>
  if a4 < x3 then
  (dA none a2 <|
  cI (call d 140 [.int a3, .int a4] h) fun x5 h4 =>
  dR none a2 fun o7 =>
  vd none h4 o7 [7, 49] fun m6 =>
  cV (call d m6 [.ref o7, .int a4, .int x5] h4) fun h8 =>
  ex d 123 43 [sv (.ref a0), sv (.int a1), sv a2, sv (.int a3), sv (.int (a4 + (1 : Int32)))] [] h8)
  else
  (gfV none h a0 [11] 0 fun v9 =>
  dR none v9 fun o10 =>
  gfI none h o10 [0] 3 fun x11 =>
  some (some (.int x11), h))) :=
  (ex_unr p_123 o_123 [43] 22 rfl _ _ h).trans rfl

theorem p_124 : prg 124 = (k_124, 4) := rfl
theorem o_124 : okc k_124 = true := by decide +kernel
set_option maxRecDepth 100000 in
theorem e_124 (d : Nat) (a0 : Nat) (a1 : Int32) (a2 : Int32) (h : MHeap) : call (d + 1) 124 [.ref a0, .int a1, .int a2] h = (
  cI (call d 133 [.int a1, .int (0 : Int32), .int (99999 : Int32)] h) fun x2 h1 =>
  if x2 = (0 : Int32) then
  (some (some (.int (-2 : Int32)), h1))
  else
  (cI (call d 133 [.int a2, .int (0 : Int32), .int (1 : Int32)] h1) fun x4 h3 =>
  if x4 = (0 : Int32) then
  (some (some (.int (-2 : Int32)), h3))
  else
  (vd none h3 a0 [11, 159] fun m5 =>
  cI (call d m5 [.ref a0, .int a1] h3) fun x7 h6 =>
  if a2 = (0 : Int32) then
  (some (some (.int x7), h6))
  else
  (vd none h6 a0 [11, 160] fun m8 =>
  cI (call d m8 [.ref a0, .int x7] h6) fun x10 h9 =>
  if x10 = (0 : Int32) then
  (some (some (.int (0 : Int32)), h9))
  else
  (some (some (.int (1 : Int32)), h9)))))) :=
  (call_unr p_124 rfl o_124 rfl [] 36 _ rfl h).trans rfl
