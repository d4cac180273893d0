/-! the methods 0 to 82, unrolled up to the heads of their loops -/
theorem p_0 : prg 0 = (k_0, 1) := rfl
theorem o_0 : okc k_0 = true := by decide +kernel
set_option maxRecDepth 100000 in
theorem e_0 (d : Nat) (a0 : Nat) (h : MHeap) : call (d + 1) 0 [.ref a0] h = (
  cV (call d 1003 [.ref a0] h) fun h1 =>
  pfI none h1 a0 [0] 0 (9 : Int32) fun h2 =>
  pfI none h2 a0 [0] 1 (3 : Int32) fun h3 =>
  pfI none h3 a0 [0] 2 (0 : Int32) fun h4 =>
  pfI none h4 a0 [0] 3 (0 : Int32) fun h5 =>
  nwA none h5 101 (7 : Int32) .null fun o6 h7 =>
  pfV none h7 a0 [0] 4 (.ref o6) fun h8 =>
  some (none, h8)) :=
  (call_unr p_0 rfl o_0 rfl [] 24 _ rfl h).trans rfl

theorem p_1 : prg 1 = (k_1, 2) := rfl
theorem o_1 : okc k_1 = true := by decide +kernel
set_option maxRecDepth 100000 in
theorem e_1 (d : Nat) (a0 : Int32) (a1 : Int32) (h : MHeap) : call (d + 1) 1 [.int a0, .int a1] h = (
  if (0 : Int32) < a1 then
  (dv none a1 <|
  some (some (.int (a0 / a1)), h))
  else
  (some (some (.int (0 : Int32)), h))) :=
  (call_unr p_1 rfl o_1 rfl [] 14 _ rfl h).trans rfl

theorem p_2 : prg 2 = (k_2, 2) := rfl
theorem o_2 : okc k_2 = true := by decide +kernel
set_option maxRecDepth 100000 in
theorem e_2 (d : Nat) (a0 : Int32) (a1 : Int32) (h : MHeap) : call (d + 1) 2 [.int a0, .int a1] h = (
  if (0 : Int32) < a1 then
  (dv none a1 <|
  some (some (.int (a0 - a0 / a1 * a1)), h))
  else
  (some (some (.int (0 : Int32)), h))) :=
  (call_unr p_2 rfl o_2 rfl [] 14 _ rfl h).trans rfl

theorem p_3 : prg 3 = (k_3, 8) := rfl
theorem o_3 : okc k_3 = true := by decide +kernel
set_option maxRecDepth 100000 in
theorem e_3 (d : Nat) (a0 : Nat) (a1 : Int32) (a2 : Int32) (a3 : Int32) (h : MHeap) : call (d + 1) 3 [.ref a0, .int a1, .int a2, .int a3] h = (
  pfI none h a0 [0] 0 a1 fun h1 =>
  pfI none h1 a0 [0] 1 a2 fun h2 =>
  pfI none h2 a0 [0] 2 a3 fun h3 =>
  gfV none h3 a0 [0] 4 fun v4 =>
  dA none v4 <|
  dA none v4 <|
  dR none v4 fun o6 =>
  aln none h3 o6 fun x5 =>
  ex d 3 29 [sv (.ref a0), sv (.int a1), sv (.int a2), sv (.int a3), sv v4, sv (.int x5), sv (.int (0 : Int32)), none] [] h3) :=
  (call_unr p_3 rfl o_3 rfl [29] 22 _ rfl h).trans rfl
set_option maxRecDepth 100000 in
theorem e_3_29 (d : Nat) (a0 : Nat) (a1 : Int32) (a2 : Int32) (a3 : Int32) (a4 : Value) (a5 : Int32) (a6 : Int32) (a7 : MSl) (h : MHeap) : ex d 3 29 [sv (.ref a0), sv (.int a1), sv (.int a2), sv (.int a3), sv a4, sv (.int a5), sv (.int a6), a7] [] h = (
  if a6 < a5 then
  (dA none a4 <|
  dR none a4 fun o2 =>
  alV none h o2 a6 fun v1 =>
  dA none v1 <|
  dA none v1 <|
  dN none v1 (
  ex d 3 29 [sv (.ref a0), sv (.int a1), sv (.int a2), sv (.int a3), sv a4, sv (.int a5), sv (.int (a6 + (1 : Int32))), sv v1] [] h) (
  dA none v1 <|
  dR none v1 fun o4 =>
  vd none h o4 [1, 32, 2, 32, 3, 32, 6, 32, 8, 32, 10, 32] fun m3 =>
  cV (call d m3 [.ref o4, .int a1, .int a2] h) fun h5 =>
  ex d 3 29 [sv (.ref a0), sv (.int a1), sv (.int a2), sv (.int a3), sv a4, sv (.int a5), sv (.int (a6 + (1 : Int32))), sv v1] [] h5))
  else
  (some (none, h))) :=
  (ex_unr p_3 o_3 [29] 23 rfl _ _ h).trans rfl

theorem p_4 : prg 4 = (k_4, 1) := rfl
theorem o_4 : okc k_4 = true := by decide +kernel
set_option maxRecDepth 100000 in
theorem e_4 (d : Nat) (a0 : Nat) (h : MHeap) : call (d + 1) 4 [.ref a0] h = (
  gfI none h a0 [0] 0 fun x1 =>
  cI (call d 136 [.int x1] h) fun x3 h2 =>
  some (some (.int x3), h2)) :=
  (call_unr p_4 rfl o_4 rfl [] 9 _ rfl h).trans rfl

theorem p_5 : prg 5 = (k_5, 2) := rfl
theorem o_5 : okc k_5 = true := by decide +kernel
set_option maxRecDepth 100000 in
theorem e_5 (d : Nat) (a0 : Nat) (a1 : Int32) (h : MHeap) : call (d + 1) 5 [.ref a0, .int a1] h = (
  gfI none h a0 [0] 0 fun x1 =>
  cI (call d 133 [.int a1, .int (0 : Int32), .int (x1 - (1 : Int32))] h) fun x3 h2 =>
  zr none x3 (some (some (.int x3), h2))) :=
  (call_unr p_5 rfl o_5 rfl [] 13 _ rfl h).trans rfl

theorem p_6 : prg 6 = (k_6, 2) := rfl
theorem o_6 : okc k_6 = true := by decide +kernel
set_option maxRecDepth 100000 in
theorem e_6 (d : Nat) (a0 : Nat) (a1 : Int32) (h : MHeap) : call (d + 1) 6 [.ref a0, .int a1] h = (
  vd none h a0 [0, 4] fun m1 =>
  cI (call d m1 [.ref a0] h) fun x3 h2 =>
  cI (call d 133 [.int a1, .int (0 : Int32), .int x3] h2) fun x5 h4 =>
  zr none x5 (some (some (.int x5), h4))) :=
  (call_unr p_6 rfl o_6 rfl [] 11 _ rfl h).trans rfl

theorem p_7 : prg 7 = (k_7, 3) := rfl
theorem o_7 : okc k_7 = true := by decide +kernel
set_option maxRecDepth 100000 in
theorem e_7 (d : Nat) (a0 : Nat) (a1 : Int32) (a2 : Int32) (h : MHeap) : call (d + 1) 7 [.ref a0, .int a1, .int a2] h = (
  gfI none h a0 [0] 2 fun x1 =>
  cI (call d 137 [.int x1, .int a1] h) fun x3 h2 =>
  gfI none h2 a0 [0] 2 fun x4 =>
  cI (call d 137 [.int x4, .int a2] h2) fun x6 h5 =>
  if x3 = x6 then
  (zr none (0 : Int32) (some (some (.int (0 : Int32)), h5)))
  else
  (zr none (1 : Int32) (some (some (.int (1 : Int32)), h5)))) :=
  (call_unr p_7 rfl o_7 rfl [] 19 _ rfl h).trans rfl

theorem p_8 : prg 8 = (k_8, 4) := rfl
theorem o_8 : okc k_8 = true := by decide +kernel
set_option maxRecDepth 100000 in
theorem e_8 (d : Nat) (a0 : Nat) (a1 : Int32) (h : MHeap) : call (d + 1) 8 [.ref a0, .int a1] h = (
  ex d 8 4 [sv (.ref a0), sv (.int a1), sv (.int (0 : Int32)), sv (.int (0 : Int32))] [] h) :=
  (call_unr p_8 rfl o_8 rfl [4] 9 _ rfl h).trans rfl
set_option maxRecDepth 100000 in
theorem e_8_4 (d : Nat) (a0 : Nat) (a1 : Int32) (a2 : Int32) (a3 : Int32) (h : MHeap) : ex d 8 4 [sv (.ref a0), sv (.int a1), sv (.int a2), sv (.int a3)] [] h = (
  gfI none h a0 [0] 0 fun x1 =>
  if a3 < x1 then
  (gfI none h a0 [0] 1 fun x2 =>
  cI (call d 1 [.int a3, .int x2] h) fun x4 h3 =>
  if x4 = a1 then
  (cI (call d 135 [.int a3] h3) fun x6 h5 =>
  ex d 8 4 [sv (.ref a0), sv (.int a1), sv (.int (a2 ||| x6)), sv (.int (a3 + (1 : Int32)))] [] h5)
  else
  (ex d 8 4 [sv (.ref a0), sv (.int a1), sv (.int (a2 ||| (0 : Int32))), sv (.int (a3 + (1 : Int32)))] [] h3))
  else
  (some (some (.int a2), h))) :=
  (ex_unr p_8 o_8 [4] 30 rfl _ _ h).trans rfl

theorem p_9 : prg 9 = (k_9, 2) := rfl
theorem o_9 : okc k_9 = true := by decide +kernel
set_option maxRecDepth 100000 in
theorem e_9 (d : Nat) (a0 : Nat) (a1 : Int32) (h : MHeap) : call (d + 1) 9 [.ref a0, .int a1] h = (
  gfI none h a0 [0] 2 fun x1 =>
  gfI none h a0 [0] 2 fun x2 =>
  cI (call d 136 [.int a1] h) fun x4 h3 =>
  gfI none h3 a0 [0] 0 fun x5 =>
  some (some (.int ((x1 >>> (a1 &&& 31)) ||| ((x2 &&& x4) <<< ((x5 - a1) &&& 31)))), h3)) :=
  (call_unr p_9 rfl o_9 rfl [] 21 _ rfl h).trans rfl

theorem p_10 : prg 10 = (k_10, 5) := rfl
theorem o_10 : okc k_10 = true := by decide +kernel
set_option maxRecDepth 100000 in
theorem e_10 (d : Nat) (a0 : Nat) (a1 : Int32) (a2 : Int32) (h : MHeap) : call (d + 1) 10 [.ref a0, .int a1, .int a2] h = (
  gfI none h a0 [0] 2 fun x1 =>
  gfI none h a0 [0] 2 fun x2 =>
  cI (call d 136 [.int a1] h) fun x4 h3 =>
  gfI none h3 a0 [0] 2 fun x5 =>
  cI (call d 136 [.int a2] h3) fun x7 h6 =>
  some (some (.int (((((x2 &&& x4) ||| ((x5 >>> ((a1 + (1 : Int32)) &&& 31)) <<< (a1 &&& 31))) &&& x7) ||| (((x1 >>> (a1 &&& 31)) &&& (1 : Int32)) <<< (a2 &&& 31))) ||| ((((x2 &&& x4) ||| ((x5 >>> ((a1 + (1 : Int32)) &&& 31)) <<< (a1 &&& 31))) >>> (a2 &&& 31)) <<< ((a2 + (1 : Int32)) &&& 31)))), h6)) :=
  (call_unr p_10 rfl o_10 rfl [] 44 _ rfl h).trans rfl

theorem p_11 : prg 11 = (k_11, 1) := rfl
theorem o_11 : okc k_11 = true := by decide +kernel
set_option maxRecDepth 100000 in
theorem e_11 (d : Nat) (a0 : Nat) (h : MHeap) : call (d + 1) 11 [.ref a0] h = (
  gfI none h a0 [0] 3 fun x1 =>
  gfV none h a0 [0] 4 fun v2 =>
  dR none v2 fun o4 =>
  aln none h o4 fun x3 =>
  if x1 < x3 then
  (zr none (1 : Int32) (some (some (.int (1 : Int32)), h)))
  else
  (zr none (0 : Int32) (some (some (.int (0 : Int32)), h)))) :=
  (call_unr p_11 rfl o_11 rfl [] 16 _ rfl h).trans rfl

theorem p_12 : prg 12 = (k_12, 2) := rfl
theorem o_12 : okc k_12 = true := by decide +kernel
set_option maxRecDepth 100000 in
theorem e_12 (d : Nat) (a0 : Nat) (a1 : Nat) (h : MHeap) : call (d + 1) 12 [.ref a0, .ref a1] h = (
  gfI none h a0 [0] 3 fun x1 =>
  gfV none h a0 [0] 4 fun v2 =>
  dR none v2 fun o4 =>
  aln none h o4 fun x3 =>
  cI (call d 133 [.int x1, .int (0 : Int32), .int (x3 - (1 : Int32))] h) fun x6 h5 =>
  if x6 = (0 : Int32) then
  (some (none, h5))
  else
  (gfI none h5 a0 [0] 0 fun x7 =>
  gfI none h5 a0 [0] 1 fun x8 =>
  vd none h5 a1 [1, 32, 2, 32, 3, 32, 6, 32, 8, 32, 10, 32] fun m9 =>
  cV (call d m9 [.ref a1, .int x7, .int x8] h5) fun h10 =>
  gfV none h10 a0 [0] 4 fun v11 =>
  gfI none h10 a0 [0] 3 fun x12 =>
  dR none v11 fun o14 =>
  asV none h10 o14 x12 (.ref a1) fun h13 =>
  gfI none h13 a0 [0] 3 fun x15 =>
  pfI none h13 a0 [0] 3 (x15 + (1 : Int32)) fun h16 =>
  some (none, h16))) :=
  (call_unr p_12 rfl o_12 rfl [] 37 _ rfl h).trans rfl

theorem p_13 : prg 13 = (k_13, 3) := rfl
theorem o_13 : okc k_13 = true := by decide +kernel
set_option maxRecDepth 100000 in
theorem e_13 (d : Nat) (a0 : Nat) (a1 : Int32) (h : MHeap) : call (d + 1) 13 [.ref a0, .int a1] h = (
  cI (call d 1000 [.int (0 : Int32), .int a1] h) fun x2 h1 =>
  ex d 13 6 [sv (.ref a0), sv (.int a1), sv (.int x2)] [] h1) :=
  (call_unr p_13 rfl o_13 rfl [6] 9 _ rfl h).trans rfl
set_option maxRecDepth 100000 in
theorem e_13_6 (d : Nat) (a0 : Nat) (a1 : Int32) (a2 : Int32) (h : MHeap) : ex d 13 6 [sv (.ref a0), sv (.int a1), sv (.int a2)] [] h = (
  gfV none h a0 [0] 4 fun v1 =>
  dR none v1 fun o3 =>
  aln none h o3 fun x2 =>
  if a2 < x2 then
  (gfV none h a0 [0] 4 fun v4 =>
  dR none v4 fun o6 =>
  asV none h o6 a2 .null fun h5 =>
  ex d 13 6 [sv (.ref a0), sv (.int a1), sv (.int (a2 + (1 : Int32)))] [] h5)
  else
  (gfI none h a0 [0] 3 fun x7 =>
  cI (call d 1001 [.int x7, .int a1] h) fun x9 h8 =>
  pfI none h8 a0 [0] 3 x9 fun h10 =>
  some (none, h10))) :=
  (ex_unr p_13 o_13 [6] 24 rfl _ _ h).trans rfl

theorem p_14 : prg 14 = (k_14, 2) := rfl
theorem o_14 : okc k_14 = true := by decide +kernel
set_option maxRecDepth 100000 in
theorem e_14 (d : Nat) (a0 : Nat) (a1 : Int32) (h : MHeap) : call (d + 1) 14 [.ref a0, .int a1] h = (
  if a1 < (0 : Int32) then
  (some (some .null, h))
  else
  (gfI none h a0 [0] 3 fun x1 =>
  if a1 < x1 then
  (gfV none h a0 [0] 4 fun v2 =>
  dR none v2 fun o4 =>
  aln none h o4 fun x3 =>
  if a1 < x3 then
  (gfV none h a0 [0] 4 fun v5 =>
  dR none v5 fun o7 =>
  alV none h o7 a1 fun v6 =>
  dA none v6 <|
  some (some v6, h))
  else
  (some (some .null, h)))
  else
  (some (some .null, h)))) :=
  (call_unr p_14 rfl o_14 rfl [] 28 _ rfl h).trans rfl

theorem p_15 : prg 15 = (k_15, 1) := rfl
theorem o_15 : okc k_15 = true := by decide +kernel
set_option maxRecDepth 100000 in
theorem e_15 (d : Nat) (a0 : Nat) (h : MHeap) : call (d + 1) 15 [.ref a0] h = (
  gfI none h a0 [0] 3 fun x1 =>
  cI (call d 136 [.int x1] h) fun x3 h2 =>
  some (some (.int x3), h2)) :=
  (call_unr p_15 rfl o_15 rfl [] 9 _ rfl h).trans rfl

theorem p_16 : prg 16 = (k_16, 5) := rfl
theorem o_16 : okc k_16 = true := by decide +kernel
set_option maxRecDepth 100000 in
theorem e_16 (d : Nat) (a0 : Nat) (a1 : Int32) (h : MHeap) : call (d + 1) 16 [.ref a0, .int a1] h = (
  ex d 16 4 [sv (.ref a0), sv (.int a1), sv (.int (0 : Int32)), sv (.int (0 : Int32)), none] [] h) :=
  (call_unr p_16 rfl o_16 rfl [4] 9 _ rfl h).trans rfl
set_option maxRecDepth 100000 in
theorem e_16_4 (d : Nat) (a0 : Nat) (a1 : Int32) (a2 : Int32) (a3 : Int32) (a4 : MSl) (h : MHeap) : ex d 16 4 [sv (.ref a0), sv (.int a1), sv (.int a2), sv (.int a3), a4] [] h = (
  gfI none h a0 [0] 3 fun x1 =>
  if a3 < x1 then
  (vd none h a0 [0, 14] fun m2 =>
  cR (call d m2 [.ref a0, .int a3] h) fun v4 h3 =>
  dA none v4 <|
  dA none v4 <|
  dN none v4 (
  ex d 16 4 [sv (.ref a0), sv (.int a1), sv (.int (a2 ||| (0 : Int32))), sv (.int (a3 + (1 : Int32))), sv v4] [] h3) (
  dA none v4 <|
  dR none v4 fun o6 =>
  vd none h3 o6 [1, 31, 2, 31, 3, 31, 6, 31, 8, 52, 10, 82] fun m5 =>
  cI (call d m5 [.ref o6, .int a1] h3) fun x8 h7 =>
  ex d 16 4 [sv (.ref a0), sv (.int a1), sv (.int (a2 ||| (x8 <<< (((4 : Int32) * a3) &&& 31)))), sv (.int (a3 + (1 : Int32))), sv v4] [] h7))
  else
  (some (some (.int a2), h))) :=
  (ex_unr p_16 o_16 [4] 35 rfl _ _ h).trans rfl

theorem p_17 : prg 17 = (k_17, 6) := rfl
theorem o_17 : okc k_17 = true := by decide +kernel
set_option maxRecDepth 100000 in
theorem e_17 (d : Nat) (a0 : Nat) (a1 : Int32) (a2 : Int32) (h : MHeap) : call (d + 1) 17 [.ref a0, .int a1, .int a2] h = (
  ex d 17 5 [sv (.ref a0), sv (.int a1), sv (.int a2), sv (.int (0 : Int32)), sv (.int (0 : Int32)), none] [] h) :=
  (call_unr p_17 rfl o_17 rfl [5] 9 _ rfl h).trans rfl
set_option maxRecDepth 100000 in
theorem e_17_5 (d : Nat) (a0 : Nat) (a1 : Int32) (a2 : Int32) (a3 : Int32) (a4 : Int32) (a5 : MSl) (h : MHeap) : ex d 17 5 [sv (.ref a0), sv (.int a1), sv (.int a2), sv (.int a3), sv (.int a4), a5] [] h = (
  gfI none h a0 [0] 3 fun x1 =>
  if a4 < x1 then
  (vd none h a0 [0, 14] fun m2 =>
  cR (call d m2 [.ref a0, .int a4] h) fun v4 h3 =>
  dA none v4 <|
  dA none v4 <|
  dN none v4 (
  ex d 17 5 [sv (.ref a0), sv (.int a1), sv (.int a2), sv (.int (a3 ||| (0 : Int32))), sv (.int (a4 + (1 : Int32))), sv v4] [] h3) (
  dA none v4 <|
  dR none v4 fun o6 =>
  vd none h3 o6 [1, 31, 2, 31, 3, 31, 6, 31, 8, 52, 10, 82] fun m5 =>
  cI (call d m5 [.ref o6, .int a1] h3) fun x8 h7 =>
  cI (call d 140 [.int a2, .int a4] h7) fun x10 h9 =>
  if x8 = x10 then
  (ex d 17 5 [sv (.ref a0), sv (.int a1), sv (.int a2), sv (.int (a3 ||| (0 : Int32))), sv (.int (a4 + (1 : Int32))), sv v4] [] h9)
  else
  (cI (call d 135 [.int a4] h9) fun x12 h11 =>
  ex d 17 5 [sv (.ref a0), sv (.int a1), sv (.int a2), sv (.int (a3 ||| x12)), sv (.int (a4 + (1 : Int32))), sv v4] [] h11)))
  else
  (some (some (.int a3), h))) :=
  (ex_unr p_17 o_17 [5] 42 rfl _ _ h).trans rfl

theorem p_18 : prg 18 = (k_18, 2) := rfl
theorem o_18 : okc k_18 = true := by decide +kernel
set_option maxRecDepth 100000 in
theorem e_18 (d : Nat) (a0 : Nat) (a1 : Int32) (h : MHeap) : call (d + 1) 18 [.ref a0, .int a1] h = (
  vd none h a0 [0, 17] fun m1 =>
  cI (call d m1 [.ref a0, .int a1, .int (0 : Int32)] h) fun x3 h2 =>
  some (some (.int x3), h2)) :=
  (call_unr p_18 rfl o_18 rfl [] 10 _ rfl h).trans rfl

theorem p_19 : prg 19 = (k_19, 1) := rfl
theorem o_19 : okc k_19 = true := by decide +kernel
set_option maxRecDepth 100000 in
theorem e_19 (d : Nat) (a0 : Nat) (h : MHeap) : call (d + 1) 19 [.ref a0] h = (
  gfI none h a0 [0] 2 fun x1 =>
  vd none h a0 [0, 18] fun m2 =>
  cI (call d m2 [.ref a0, .int x1] h) fun x4 h3 =>
  cI (call d 260 [.int x4] h3) fun x6 h5 =>
  some (some (.int x6), h5)) :=
  (call_unr p_19 rfl o_19 rfl [] 11 _ rfl h).trans rfl

theorem p_20 : prg 20 = (k_20, 5) := rfl
theorem o_20 : okc k_20 = true := by decide +kernel
set_option maxRecDepth 100000 in
theorem e_20 (d : Nat) (a0 : Nat) (a1 : Int32) (a2 : Int32) (h : MHeap) : call (d + 1) 20 [.ref a0, .int a1, .int a2] h = (
  ex d 20 2 [sv (.ref a0), sv (.int a1), sv (.int a2), sv (.int (0 : Int32)), none] [] h) :=
  (call_unr p_20 rfl o_20 rfl [2] 7 _ rfl h).trans rfl
set_option maxRecDepth 100000 in
theorem e_20_2 (d : Nat) (a0 : Nat) (a1 : Int32) (a2 : Int32) (a3 : Int32) (a4 : MSl) (h : MHeap) : ex d 20 2 [sv (.ref a0), sv (.int a1), sv (.int a2), sv (.int a3), a4] [] h = (
  gfI none h a0 [0] 3 fun x1 =>
  if a3 < x1 then
  (vd none h a0 [0, 14] fun m2 =>
  cR (call d m2 [.ref a0, .int a3] h) fun v4 h3 =>
  dA none v4 <|
  dA none v4 <|
  dN none v4 (
  ex d 20 2 [sv (.ref a0), sv (.int a1), sv (.int a2), sv (.int (a3 + (1 : Int32))), sv v4] [] h3) (
  dA none v4 <|
  dR none v4 fun o6 =>
  vd none h3 o6 [1, 31, 2, 31, 3, 31, 6, 31, 8, 52, 10, 82] fun m5 =>
  cI (call d m5 [.ref o6, .int a1] h3) fun x8 h7 =>
  cI (call d 140 [.int a2, .int a3] h7) fun x10 h9 =>
  if x8 = x10 then
  (ex d 20 2 [sv (.ref a0), sv (.int a1), sv (.int a2), sv (.int (a3 + (1 : Int32))), sv v4] [] h9)
  else
  (zr none (0 : Int32) (some (some (.int (0 : Int32)), h9)))))
  else
  (zr none (1 : Int32) (some (some (.int (1 : Int32)), h)))) :=
  (ex_unr p_20 o_20 [2] 30 rfl _ _ h).trans rfl

theorem p_21 : prg 21 = (k_21, 2) := rfl
theorem o_21 : okc k_21 = true := by decide +kernel
set_option maxRecDepth 100000 in
theorem e_21 (d : Nat) (a0 : Nat) (a1 : Int32) (h : MHeap) : call (d + 1) 21 [.ref a0, .int a1] h = (
  vd none h a0 [0, 20] fun m1 =>
  cI (call d m1 [.ref a0, .int a1, .int (0 : Int32)] h) fun x3 h2 =>
  zr none x3 (some (some (.int x3), h2))) :=
  (call_unr p_21 rfl o_21 rfl [] 10 _ rfl h).trans rfl

theorem p_22 : prg 22 = (k_22, 3) := rfl
theorem o_22 : okc k_22 = true := by decide +kernel
set_option maxRecDepth 100000 in
theorem e_22 (d : Nat) (a0 : Nat) (a1 : Int32) (a2 : Int32) (h : MHeap) : call (d + 1) 22 [.ref a0, .int a1, .int a2] h = (
  cV (call d 41 [.ref a0, .int a1, .int a2] h) fun h1 =>
  some (none, h1)) :=
  (call_unr p_22 rfl o_22 rfl [] 10 _ rfl h).trans rfl

theorem p_23 : prg 23 = (k_23, 1) := rfl
theorem o_23 : okc k_23 = true := by decide +kernel
set_option maxRecDepth 100000 in
theorem e_23 (d : Nat) (a0 : Nat) (h : MHeap) : call (d + 1) 23 [.ref a0] h = (
  some (some (.int (3 : Int32)), h)) :=
  (call_unr p_23 rfl o_23 rfl [] 7 _ rfl h).trans rfl

theorem p_24 : prg 24 = (k_24, 3) := rfl
theorem o_24 : okc k_24 = true := by decide +kernel
set_option maxRecDepth 100000 in
theorem e_24 (d : Nat) (a0 : Nat) (a1 : Int32) (a2 : Int32) (h : MHeap) : call (d + 1) 24 [.ref a0, .int a1, .int a2] h = (
  cI (call d 2 [.int a1, .int a2] h) fun x2 h1 =>
  gfI none h1 a0 [1] 1 fun x3 =>
  if x2 = x3 then
  (zr none (1 : Int32) (some (some (.int (1 : Int32)), h1)))
  else
  (zr none (0 : Int32) (some (some (.int (0 : Int32)), h1)))) :=
  (call_unr p_24 rfl o_24 rfl [] 16 _ rfl h).trans rfl

theorem p_25 : prg 25 = (k_25, 3) := rfl
theorem o_25 : okc k_25 = true := by decide +kernel
set_option maxRecDepth 100000 in
theorem e_25 (d : Nat) (a0 : Nat) (a1 : Int32) (a2 : Int32) (h : MHeap) : call (d + 1) 25 [.ref a0, .int a1, .int a2] h = (
  cV (call d 28 [.ref a0, .int a1, .int a2] h) fun h1 =>
  some (none, h1)) :=
  (call_unr p_25 rfl o_25 rfl [] 10 _ rfl h).trans rfl

theorem p_26 : prg 26 = (k_26, 1) := rfl
theorem o_26 : okc k_26 = true := by decide +kernel
set_option maxRecDepth 100000 in
theorem e_26 (d : Nat) (a0 : Nat) (h : MHeap) : call (d + 1) 26 [.ref a0] h = (
  some (some (.int (2 : Int32)), h)) :=
  (call_unr p_26 rfl o_26 rfl [] 7 _ rfl h).trans rfl

theorem p_27 : prg 27 = (k_27, 3) := rfl
theorem o_27 : okc k_27 = true := by decide +kernel
set_option maxRecDepth 100000 in
theorem e_27 (d : Nat) (a0 : Nat) (a1 : Int32) (a2 : Int32) (h : MHeap) : call (d + 1) 27 [.ref a0, .int a1, .int a2] h = (
  gfI none h a0 [2, 10] 1 fun x1 =>
  cI (call d 137 [.int a1, .int (x1 &&& (3 : Int32))] h) fun x3 h2 =>
  zr none x3 (some (some (.int x3), h2))) :=
  (call_unr p_27 rfl o_27 rfl [] 12 _ rfl h).trans rfl

theorem p_28 : prg 28 = (k_28, 3) := rfl
theorem o_28 : okc k_28 = true := by decide +kernel
set_option maxRecDepth 100000 in
theorem e_28 (d : Nat) (a0 : Nat) (a1 : Int32) (a2 : Int32) (h : MHeap) : call (d + 1) 28 [.ref a0, .int a1, .int a2] h = (
  cV (call d 1003 [.ref a0] h) fun h1 =>
  pfI none h1 a0 [1, 2, 3, 6, 8, 10] 0 a1 fun h2 =>
  pfI none h2 a0 [1, 2, 3, 6, 8, 10] 1 a2 fun h3 =>
  some (none, h3)) :=
  (call_unr p_28 rfl o_28 rfl [] 14 _ rfl h).trans rfl

theorem p_29 : prg 29 = (k_29, 1) := rfl
theorem o_29 : okc k_29 = true := by decide +kernel
set_option maxRecDepth 100000 in
theorem e_29 (d : Nat) (a0 : Nat) (h : MHeap) : call (d + 1) 29 [.ref a0] h = (
  some (some (.int (0 : Int32)), h)) :=
  (call_unr p_29 rfl o_29 rfl [] 7 _ rfl h).trans rfl

theorem p_30 : prg 30 = (k_30, 3) := rfl
theorem o_30 : okc k_30 = true := by decide +kernel
set_option maxRecDepth 100000 in
theorem e_30 (d : Nat) (a0 : Nat) (a1 : Int32) (a2 : Int32) (h : MHeap) : call (d + 1) 30 [.ref a0, .int a1, .int a2] h = (
  gfI none h a0 [1, 2, 3, 6, 8, 10] 0 fun x1 =>
  cI (call d 137 [.int x1, .int a1] h) fun x3 h2 =>
  zr none x3 (some (some (.int x3), h2))) :=
  (call_unr p_30 rfl o_30 rfl [] 10 _ rfl h).trans rfl

theorem p_31 : prg 31 = (k_31, 2) := rfl
theorem o_31 : okc k_31 = true := by decide +kernel
set_option maxRecDepth 100000 in
theorem e_31 (d : Nat) (a0 : Nat) (a1 : Int32) (h : MHeap) : call (d + 1) 31 [.ref a0, .int a1] h = (
  gfI none h a0 [1, 2, 3, 6, 8, 10] 2 fun x1 =>
  cI (call d 260 [.int (a1 &&& x1)] h) fun x3 h2 =>
  some (some (.int (x3 &&& (1 : Int32))), h2)) :=
  (call_unr p_31 rfl o_31 rfl [] 13 _ rfl h).trans rfl

theorem p_32 : prg 32 = (k_32, 4) := rfl
theorem o_32 : okc k_32 = true := by decide +kernel
set_option maxRecDepth 100000 in
theorem e_32 (d : Nat) (a0 : Nat) (a1 : Int32) (a2 : Int32) (h : MHeap) : call (d + 1) 32 [.ref a0, .int a1, .int a2] h = (
  pfI none h a0 [1, 2, 3, 6, 8, 10] 2 (0 : Int32) fun h1 =>
  ex d 32 7 [sv (.ref a0), sv (.int a1), sv (.int a2), sv (.int (0 : Int32))] [] h1) :=
  (call_unr p_32 rfl o_32 rfl [7] 10 _ rfl h).trans rfl
set_option maxRecDepth 100000 in
theorem e_32_7 (d : Nat) (a0 : Nat) (a1 : Int32) (a2 : Int32) (a3 : Int32) (h : MHeap) : ex d 32 7 [sv (.ref a0), sv (.int a1), sv (.int a2), sv (.int a3)] [] h = (
  if a3 < a1 then
  (gfI none h a0 [1, 2, 3, 6, 8, 10] 2 fun x1 =>
  vd none h a0 [1, 24, 2, 27, 3, 30, 6, 43, 8, 30, 10, 81] fun m2 =>
  cI (call d m2 [.ref a0, .int a3, .int a2] h) fun x4 h3 =>
  if x4 = (0 : Int32) then
  (pfI none h3 a0 [1, 2, 3, 6, 8, 10] 2 (x1 ||| (0 : Int32)) fun h5 =>
  ex d 32 7 [sv (.ref a0), sv (.int a1), sv (.int a2), sv (.int (a3 + (1 : Int32)))] [] h5)
  else
  (cI (call d 135 [.int a3] h3) fun x7 h6 =>
  pfI none h6 a0 [1, 2, 3, 6, 8, 10] 2 (x1 ||| x7) fun h8 =>
  ex d 32 7 [sv (.ref a0), sv (.int a1), sv (.int a2), sv (.int (a3 + (1 : Int32)))] [] h8))
  else
  (some (none, h))) :=
  (ex_unr p_32 o_32 [7] 29 rfl _ _ h).trans rfl

theorem p_33 : prg 33 = (k_33, 1) := rfl
theorem o_33 : okc k_33 = true := by decide +kernel
set_option maxRecDepth 100000 in
theorem e_33 (d : Nat) (a0 : Nat) (h : MHeap) : call (d + 1) 33 [.ref a0] h = (
  cV (call d 1003 [.ref a0] h) fun h1 =>
  zr none (0 : Int32) <|
  pfI none h1 a0 [4] 0 (0 : Int32) fun h2 =>
  some (none, h2)) :=
  (call_unr p_33 rfl o_33 rfl [] 11 _ rfl h).trans rfl

theorem p_34 : prg 34 = (k_34, 3) := rfl
theorem o_34 : okc k_34 = true := by decide +kernel
set_option maxRecDepth 100000 in
theorem e_34 (d : Nat) (a0 : Nat) (a1 : Nat) (a2 : Int32) (h : MHeap) : call (d + 1) 34 [.ref a0, .ref a1, .int a2] h = (
  zr none (1 : Int32) <|
  pfI none h a0 [4] 0 (1 : Int32) fun h1 =>
  gfI none h1 a1 [0] 0 fun x2 =>
  pfI none h1 a0 [4] 1 x2 fun h3 =>
  gfI none h3 a1 [0] 1 fun x4 =>
  pfI none h3 a0 [4] 2 x4 fun h5 =>
  gfI none h5 a1 [0] 2 fun x6 =>
  pfI none h5 a0 [4] 3 x6 fun h7 =>
  gfI none h7 a1 [0] 3 fun x8 =>
  pfI none h7 a0 [4] 4 x8 fun h9 =>
  pfI none h9 a0 [4] 5 a2 fun h10 =>
  some (none, h10)) :=
  (call_unr p_34 rfl o_34 rfl [] 28 _ rfl h).trans rfl

theorem p_35 : prg 35 = (k_35, 4) := rfl
theorem o_35 : okc k_35 = true := by decide +kernel
set_option maxRecDepth 100000 in
theorem e_35 (d : Nat) (a0 : Nat) (a1 : Nat) (a2 : Int32) (a3 : Int32) (h : MHeap) : call (d + 1) 35 [.ref a0, .ref a1, .int a2, .int a3] h = (
  cV (call d 1003 [.ref a0] h) fun h1 =>
  pfV none h1 a0 [5] 0 (.ref a1) fun h2 =>
  pfI none h2 a0 [5] 1 a2 fun h3 =>
  pfI none h3 a0 [5] 2 a3 fun h4 =>
  some (none, h4)) :=
  (call_unr p_35 rfl o_35 rfl [] 17 _ rfl h).trans rfl

theorem p_36 : prg 36 = (k_36, 8) := rfl
theorem o_36 : okc k_36 = true := by decide +kernel
set_option maxRecDepth 100000 in
theorem e_36 (d : Nat) (a0 : Nat) (a1 : Int32) (a2 : Nat) (a3 : Nat) (h : MHeap) : call (d + 1) 36 [.ref a0, .int a1, .ref a2, .ref a3] h = (
  if a1 = (0 : Int32) then
  (if a1 = (0 : Int32) then
  (gfI none h a0 [5] 1 fun x1 =>
  cI (call d 1000 [.int (0 : Int32), .int (0 : Int32)] h) fun x3 h2 =>
  ex d 36 67 [sv (.ref a0), sv (.int a1), sv (.ref a2), sv (.ref a3), sv (.int (0 : Int32)), sv (.int x1), sv (.int (0 : Int32)), sv (.int x3)] [] h2)
  else
  (if a1 = (1 : Int32) then
  (gfI none h a0 [5] 2 fun x4 =>
  cI (call d 1000 [.int (0 : Int32), .int (0 : Int32)] h) fun x6 h5 =>
  ex d 36 67 [sv (.ref a0), sv (.int a1), sv (.ref a2), sv (.ref a3), sv (.int (0 : Int32)), sv (.int x4), sv (.int (0 : Int32)), sv (.int x6)] [] h5)
  else
  (gfV none h a0 [5] 0 fun v7 =>
  dR none v7 fun o9 =>
  aln none h o9 fun x8 =>
  cI (call d 1000 [.int (0 : Int32), .int (0 : Int32)] h) fun x11 h10 =>
  ex d 36 67 [sv (.ref a0), sv (.int a1), sv (.ref a2), sv (.ref a3), sv (.int (0 : Int32)), sv (.int x8), sv (.int (0 : Int32)), sv (.int x11)] [] h10)))
  else
  (if a1 = (1 : Int32) then
  (gfI none h a0 [5] 1 fun x12 =>
  if a1 = (0 : Int32) then
  (gfI none h a0 [5] 1 fun x13 =>
  cI (call d 1000 [.int (0 : Int32), .int x12] h) fun x15 h14 =>
  ex d 36 67 [sv (.ref a0), sv (.int a1), sv (.ref a2), sv (.ref a3), sv (.int x12), sv (.int x13), sv (.int (0 : Int32)), sv (.int x15)] [] h14)
  else
  (if a1 = (1 : Int32) then
  (gfI none h a0 [5] 2 fun x16 =>
  cI (call d 1000 [.int (0 : Int32), .int x12] h) fun x18 h17 =>
  ex d 36 67 [sv (.ref a0), sv (.int a1), sv (.ref a2), sv (.ref a3), sv (.int x12), sv (.int x16), sv (.int (0 : Int32)), sv (.int x18)] [] h17)
  else
  (gfV none h a0 [5] 0 fun v19 =>
  dR none v19 fun o21 =>
  aln none h o21 fun x20 =>
  cI (call d 1000 [.int (0 : Int32), .int x12] h) fun x23 h22 =>
  ex d 36 67 [sv (.ref a0), sv (.int a1), sv (.ref a2), sv (.ref a3), sv (.int x12), sv (.int x20), sv (.int (0 : Int32)), sv (.int x23)] [] h22)))
  else
  (gfI none h a0 [5] 2 fun x24 =>
  if a1 = (0 : Int32) then
  (gfI none h a0 [5] 1 fun x25 =>
  cI (call d 1000 [.int (0 : Int32), .int x24] h) fun x27 h26 =>
  ex d 36 67 [sv (.ref a0), sv (.int a1), sv (.ref a2), sv (.ref a3), sv (.int x24), sv (.int x25), sv (.int (0 : Int32)), sv (.int x27)] [] h26)
  else
  (if a1 = (1 : Int32) then
  (gfI none h a0 [5] 2 fun x28 =>
  cI (call d 1000 [.int (0 : Int32), .int x24] h) fun x30 h29 =>
  ex d 36 67 [sv (.ref a0), sv (.int a1), sv (.ref a2), sv (.ref a3), sv (.int x24), sv (.int x28), sv (.int (0 : Int32)), sv (.int x30)] [] h29)
  else
  (gfV none h a0 [5] 0 fun v31 =>
  dR none v31 fun o33 =>
  aln none h o33 fun x32 =>
  cI (call d 1000 [.int (0 : Int32), .int x24] h) fun x35 h34 =>
  ex d 36 67 [sv (.ref a0), sv (.int a1), sv (.ref a2), sv (.ref a3), sv (.int x24), sv (.int x32), sv (.int (0 : Int32)), sv (.int x35)] [] h34))))) :=
  (call_unr p_36 rfl o_36 rfl [67] 125 _ rfl h).trans rfl
set_option maxRecDepth 100000 in
theorem e_36_67 (d : Nat) (a0 : Nat) (a1 : Int32) (a2 : Nat) (a3 : Nat) (a4 : Int32) (a5 : Int32) (a6 : Int32) (a7 : Int32) (h : MHeap) : ex d 36 67 [sv (.ref a0), sv (.int a1), sv (.ref a2), sv (.ref a3), sv (.int a4), sv (.int a5), sv (.int a6), sv (.int a7)] [] h = (
  if a7 < a5 then
  (gfV none h a0 [5] 0 fun v1 =>
  dR none v1 fun o3 =>
  aln none h o3 fun x2 =>
  if a7 < x2 then
  (gfV none h a0 [5] 0 fun v4 =>
  dR none v4 fun o6 =>
  alI none h o6 a7 fun x5 =>
  cI (call d 37 [.int x5, .ref a2, .ref a3, .int a6] h) fun x8 h7 =>
  ex d 36 67 [sv (.ref a0), sv (.int a1), sv (.ref a2), sv (.ref a3), sv (.int a4), sv (.int a5), sv (.int x8), sv (.int (a7 + (1 : Int32)))] [] h7)
  else
  (if (0 : Int32) < a6 then
  (aln none h a3 fun x9 =>
  if x9 < a6 then
  (some (some (.int (0 : Int32)), h))
  else
  (alI none h a3 (a6 - (1 : Int32)) fun x10 =>
  some (some (.int x10), h)))
  else
  (some (some (.int (0 : Int32)), h))))
  else
  (if (0 : Int32) < a6 then
  (aln none h a3 fun x11 =>
  if x11 < a6 then
  (some (some (.int (0 : Int32)), h))
  else
  (alI none h a3 (a6 - (1 : Int32)) fun x12 =>
  some (some (.int x12), h)))
  else
  (some (some (.int (0 : Int32)), h)))) :=
  (ex_unr p_36 o_36 [67] 58 rfl _ _ h).trans rfl

theorem p_37 : prg 37 = (k_37, 7) := rfl
theorem o_37 : okc k_37 = true := by decide +kernel
set_option maxRecDepth 100000 in
theorem e_37 (d : Nat) (a0 : Int32) (a1 : Nat) (a2 : Nat) (a3 : Int32) (h : MHeap) : call (d + 1) 37 [.int a0, .ref a1, .ref a2, .int a3] h = (
  if a0 < (1000 : Int32) then
  (if (a0 - (6 : Int32)) < (0 : Int32) then
  (if a3 < (1 : Int32) then
  (ex d 37 57 [sv (.int a0), sv (.ref a1), sv (.ref a2), sv (.int a3), sv (.int (a0 - (6 : Int32))), none, none] [] h)
  else
  (aln none h a2 fun x1 =>
  if x1 < a3 then
  (ex d 37 57 [sv (.int a0), sv (.ref a1), sv (.ref a2), sv (.int a3), sv (.int (a0 - (6 : Int32))), none, none] [] h)
  else
  (alI none h a2 (a3 - (1 : Int32)) fun x2 =>
  if a0 = (5 : Int32) then
  (ex d 37 77 [sv (.int a0), sv (.ref a1), sv (.ref a2), sv (.int a3), sv (.int (a0 - (6 : Int32))), sv (.int x2), none] [] h)
  else
  (if a0 = (12 : Int32) then
  (ex d 37 77 [sv (.int a0), sv (.ref a1), sv (.ref a2), sv (.int a3), sv (.int (a0 - (6 : Int32))), sv (.int x2), none] [] h)
  else
  (if a3 < (2 : Int32) then
  (cI (call d 39 [.int a0, .int (0 : Int32), .int x2] h) fun x4 h3 =>
  cI (call d 38 [.int x4, .ref a2, .int (a3 - (2 : Int32))] h3) fun x6 h5 =>
  some (some (.int x6), h5))
  else
  (alI none h a2 (a3 - (2 : Int32)) fun x7 =>
  cI (call d 39 [.int a0, .int x7, .int x2] h) fun x9 h8 =>
  cI (call d 38 [.int x9, .ref a2, .int (a3 - (2 : Int32))] h8) fun x11 h10 =>
  some (some (.int x11), h10)))))))
  else
  (aln none h a1 fun x12 =>
  if (a0 - (6 : Int32)) < x12 then
  (alI none h a1 (a0 - (6 : Int32)) fun x13 =>
  cI (call d 38 [.int x13, .ref a2, .int a3] h) fun x15 h14 =>
  some (some (.int x15), h14))
  else
  (if a3 < (1 : Int32) then
  (ex d 37 57 [sv (.int a0), sv (.ref a1), sv (.ref a2), sv (.int a3), sv (.int (a0 - (6 : Int32))), none, none] [] h)
  else
  (aln none h a2 fun x16 =>
  if x16 < a3 then
  (ex d 37 57 [sv (.int a0), sv (.ref a1), sv (.ref a2), sv (.int a3), sv (.int (a0 - (6 : Int32))), none, none] [] h)
  else
  (alI none h a2 (a3 - (1 : Int32)) fun x17 =>
  if a0 = (5 : Int32) then
  (ex d 37 77 [sv (.int a0), sv (.ref a1), sv (.ref a2), sv (.int a3), sv (.int (a0 - (6 : Int32))), sv (.int x17), none] [] h)
  else
  (if a0 = (12 : Int32) then
  (ex d 37 77 [sv (.int a0), sv (.ref a1), sv (.ref a2), sv (.int a3), sv (.int (a0 - (6 : Int32))), sv (.int x17), none] [] h)
  else
  (if a3 < (2 : Int32) then
  (cI (call d 39 [.int a0, .int (0 : Int32), .int x17] h) fun x19 h18 =>
  cI (call d 38 [.int x19, .ref a2, .int (a3 - (2 : Int32))] h18) fun x21 h20 =>
  some (some (.int x21), h20))
  else
  (alI none h a2 (a3 - (2 : Int32)) fun x22 =>
  cI (call d 39 [.int a0, .int x22, .int x17] h) fun x24 h23 =>
  cI (call d 38 [.int x24, .ref a2, .int (a3 - (2 : Int32))] h23) fun x26 h25 =>
  some (some (.int x26), h25)))))))))
  else
  (cI (call d 38 [.int (a0 - (1000 : Int32)), .ref a2, .int a3] h) fun x28 h27 =>
  some (some (.int x28), h27))) :=
  (call_unr p_37 rfl o_37 rfl [57, 77, 92, 101] 134 _ rfl h).trans rfl
set_option maxRecDepth 100000 in
theorem e_37_57 (d : Nat) (a0 : Int32) (a1 : Nat) (a2 : Nat) (a3 : Int32) (a4 : Int32) (h : MHeap) : ex d 37 57 [sv (.int a0), sv (.ref a1), sv (.ref a2), sv (.int a3), sv (.int a4), none, none] [] h = (
  some (some (.int a3), h)) :=
  (ex_unr p_37 o_37 [57, 77, 92, 101] 7 rfl _ _ h).trans rfl
set_option maxRecDepth 100000 in
theorem e_37_77 (d : Nat) (a0 : Int32) (a1 : Nat) (a2 : Nat) (a3 : Int32) (a4 : Int32) (a5 : Int32) (h : MHeap) : ex d 37 77 [sv (.int a0), sv (.ref a1), sv (.ref a2), sv (.int a3), sv (.int a4), sv (.int a5), none] [] h = (
  if a0 = (5 : Int32) then
  (if a5 = (0 : Int32) then
  (ex d 37 92 [sv (.int a0), sv (.ref a1), sv (.ref a2), sv (.int a3), sv (.int a4), sv (.int a5), none] [.int (1 : Int32)] h)
  else
  (ex d 37 92 [sv (.int a0), sv (.ref a1), sv (.ref a2), sv (.int a3), sv (.int a4), sv (.int a5), none] [.int (0 : Int32)] h))
  else
  (ex d 37 101 [sv (.int a0), sv (.ref a1), sv (.ref a2), sv (.int a3), sv (.int a4), sv (.int a5), none] [.int (-a5)] h)) :=
  (ex_unr p_37 o_37 [57, 77, 92, 101] 15 rfl _ _ h).trans rfl
set_option maxRecDepth 100000 in
theorem e_37_92 (d : Nat) (a0 : Int32) (a1 : Nat) (a2 : Nat) (a3 : Int32) (a4 : Int32) (a5 : Int32) (s0 : Int32) (h : MHeap) : ex d 37 92 [sv (.int a0), sv (.ref a1), sv (.ref a2), sv (.int a3), sv (.int a4), sv (.int a5), none] [.int s0] h = (
  cI (call d 40 [.int s0] h) fun x2 h1 =>
  ex d 37 101 [sv (.int a0), sv (.ref a1), sv (.ref a2), sv (.int a3), sv (.int a4), sv (.int a5), none] [.int x2] h1) :=
  (ex_unr p_37 o_37 [57, 77, 92, 101] 7 rfl _ _ h).trans rfl
set_option maxRecDepth 100000 in
theorem e_37_101 (d : Nat) (a0 : Int32) (a1 : Nat) (a2 : Nat) (a3 : Int32) (a4 : Int32) (a5 : Int32) (s0 : Int32) (h : MHeap) : ex d 37 101 [sv (.int a0), sv (.ref a1), sv (.ref a2), sv (.int a3), sv (.int a4), sv (.int a5), none] [.int s0] h = (
  cI (call d 38 [.int s0, .ref a2, .int (a3 - (1 : Int32))] h) fun x2 h1 =>
  some (some (.int x2), h1)) :=
  (ex_unr p_37 o_37 [57, 77, 92, 101] 11 rfl _ _ h).trans rfl

theorem p_38 : prg 38 = (k_38, 3) := rfl
theorem o_38 : okc k_38 = true := by decide +kernel
set_option maxRecDepth 100000 in
theorem e_38 (d : Nat) (a0 : Int32) (a1 : Nat) (a2 : Int32) (h : MHeap) : call (d + 1) 38 [.int a0, .ref a1, .int a2] h = (
  if a2 < (0 : Int32) then
  (some (some (.int a2), h))
  else
  (aln none h a1 fun x1 =>
  if a2 < x1 then
  (asI none h a1 a2 a0 fun h2 =>
  some (some (.int (a2 + (1 : Int32))), h2))
  else
  (some (some (.int a2), h)))) :=
  (call_unr p_38 rfl o_38 rfl [] 23 _ rfl h).trans rfl

theorem p_39 : prg 39 = (k_39, 3) := rfl
theorem o_39 : okc k_39 = true := by decide +kernel
set_option maxRecDepth 100000 in
theorem e_39 (d : Nat) (a0 : Int32) (a1 : Int32) (a2 : Int32) (h : MHeap) : call (d + 1) 39 [.int a0, .int a1, .int a2] h = (
  if a0 = (3 : Int32) then
  (if a1 = (0 : Int32) then
  (if a2 = (0 : Int32) then
  (cI (call d 40 [.int (0 : Int32)] h) fun x2 h1 =>
  some (some (.int x2), h1))
  else
  (cI (call d 40 [.int (1 : Int32)] h) fun x4 h3 =>
  some (some (.int x4), h3)))
  else
  (cI (call d 40 [.int (1 : Int32)] h) fun x6 h5 =>
  some (some (.int x6), h5)))
  else
  (if a0 = (4 : Int32) then
  (if a1 = (0 : Int32) then
  (cI (call d 40 [.int (0 : Int32)] h) fun x8 h7 =>
  some (some (.int x8), h7))
  else
  (if a2 = (0 : Int32) then
  (cI (call d 40 [.int (0 : Int32)] h) fun x10 h9 =>
  some (some (.int x10), h9))
  else
  (cI (call d 40 [.int (1 : Int32)] h) fun x12 h11 =>
  some (some (.int x12), h11))))
  else
  (if a0 = (43 : Int32) then
  (some (some (.int (a1 + a2)), h))
  else
  (if a0 = (45 : Int32) then
  (some (some (.int (a1 - a2)), h))
  else
  (if a0 = (60 : Int32) then
  (if a1 < a2 then
  (cI (call d 40 [.int (1 : Int32)] h) fun x14 h13 =>
  some (some (.int x14), h13))
  else
  (cI (call d 40 [.int (0 : Int32)] h) fun x16 h15 =>
  some (some (.int x16), h15)))
  else
  (if a0 = (61 : Int32) then
  (if a1 = a2 then
  (cI (call d 40 [.int (1 : Int32)] h) fun x18 h17 =>
  some (some (.int x18), h17))
  else
  (cI (call d 40 [.int (0 : Int32)] h) fun x20 h19 =>
  some (some (.int x20), h19)))
  else
  (some (some (.int (a1 * a2)), h)))))))) :=
  (call_unr p_39 rfl o_39 rfl [] 68 _ rfl h).trans rfl

theorem p_40 : prg 40 = (k_40, 1) := rfl
theorem o_40 : okc k_40 = true := by decide +kernel
set_option maxRecDepth 100000 in
theorem e_40 (d : Nat) (a0 : Int32) (h : MHeap) : call (d + 1) 40 [.int a0] h = (
  if a0 = (0 : Int32) then
  (some (some (.int (0 : Int32)), h))
  else
  (some (some (.int (1 : Int32)), h))) :=
  (call_unr p_40 rfl o_40 rfl [] 12 _ rfl h).trans rfl

theorem p_41 : prg 41 = (k_41, 3) := rfl
theorem o_41 : okc k_41 = true := by decide +kernel
set_option maxRecDepth 100000 in
theorem e_41 (d : Nat) (a0 : Nat) (a1 : Int32) (a2 : Int32) (h : MHeap) : call (d + 1) 41 [.ref a0, .int a1, .int a2] h = (
  cV (call d 28 [.ref a0, .int a1, .int a2] h) fun h1 =>
  some (none, h1)) :=
  (call_unr p_41 rfl o_41 rfl [] 10 _ rfl h).trans rfl

theorem p_42 : prg 42 = (k_42, 1) := rfl
theorem o_42 : okc k_42 = true := by decide +kernel
set_option maxRecDepth 100000 in
theorem e_42 (d : Nat) (a0 : Nat) (h : MHeap) : call (d + 1) 42 [.ref a0] h = (
  some (some (.int (1 : Int32)), h)) :=
  (call_unr p_42 rfl o_42 rfl [] 7 _ rfl h).trans rfl

theorem p_43 : prg 43 = (k_43, 3) := rfl
theorem o_43 : okc k_43 = true := by decide +kernel
set_option maxRecDepth 100000 in
theorem e_43 (d : Nat) (a0 : Nat) (a1 : Int32) (a2 : Int32) (h : MHeap) : call (d + 1) 43 [.ref a0, .int a1, .int a2] h = (
  cI (call d 1 [.int a1, .int a2] h) fun x2 h1 =>
  gfI none h1 a0 [1, 6] 1 fun x3 =>
  if x2 = x3 then
  (zr none (1 : Int32) (some (some (.int (1 : Int32)), h1)))
  else
  (zr none (0 : Int32) (some (some (.int (0 : Int32)), h1)))) :=
  (call_unr p_43 rfl o_43 rfl [] 16 _ rfl h).trans rfl

theorem p_44 : prg 44 = (k_44, 1) := rfl
theorem o_44 : okc k_44 = true := by decide +kernel
set_option maxRecDepth 100000 in
theorem e_44 (d : Nat) (a0 : Nat) (h : MHeap) : call (d + 1) 44 [.ref a0] h = (
  cV (call d 1003 [.ref a0] h) fun h1 =>
  pfI none h1 a0 [7] 0 (-1 : Int32) fun h2 =>
  pfI none h2 a0 [7] 1 (0 : Int32) fun h3 =>
  nwA none h3 100 (40 : Int32) (.int 0) fun o4 h5 =>
  pfV none h5 a0 [7] 2 (.ref o4) fun h6 =>
  some (none, h6)) :=
  (call_unr p_44 rfl o_44 rfl [] 18 _ rfl h).trans rfl

theorem p_45 : prg 45 = (k_45, 1) := rfl
theorem o_45 : okc k_45 = true := by decide +kernel
set_option maxRecDepth 100000 in
theorem e_45 (d : Nat) (a0 : Nat) (h : MHeap) : call (d + 1) 45 [.ref a0] h = (
  gfI none h a0 [7] 0 fun x1 =>
  if x1 = (-1 : Int32) then
  (zr none (1 : Int32) (some (some (.int (1 : Int32)), h)))
  else
  (zr none (0 : Int32) (some (some (.int (0 : Int32)), h)))) :=
  (call_unr p_45 rfl o_45 rfl [] 14 _ rfl h).trans rfl

theorem p_46 : prg 46 = (k_46, 3) := rfl
theorem o_46 : okc k_46 = true := by decide +kernel
set_option maxRecDepth 100000 in
theorem e_46 (d : Nat) (a0 : Nat) (a1 : Int32) (a2 : Int32) (h : MHeap) : call (d + 1) 46 [.ref a0, .int a1, .int a2] h = (
  pfI none h a0 [7] 0 a1 fun h1 =>
  gfV none h1 a0 [7] 2 fun v2 =>
  dR none v2 fun o4 =>
  aln none h1 o4 fun x3 =>
  cI (call d 1001 [.int a2, .int x3] h1) fun x6 h5 =>
  cI (call d 1000 [.int (0 : Int32), .int x6] h5) fun x8 h7 =>
  pfI none h7 a0 [7] 1 x8 fun h9 =>
  gfV none h9 a0 [7] 2 fun v10 =>
  cV (call d 261 [v10, .int (0 : Int32)] h9) fun h11 =>
  some (none, h11)) :=
  (call_unr p_46 rfl o_46 rfl [] 22 _ rfl h).trans rfl

theorem p_47 : prg 47 = (k_47, 3) := rfl
theorem o_47 : okc k_47 = true := by decide +kernel
set_option maxRecDepth 100000 in
theorem e_47 (d : Nat) (a0 : Nat) (a1 : Int32) (a2 : Int32) (h : MHeap) : call (d + 1) 47 [.ref a0, .int a1, .int a2] h = (
  if a1 < (0 : Int32) then
  (zr none (0 : Int32) (some (some (.int (0 : Int32)), h)))
  else
  (if a2 < (0 : Int32) then
  (zr none (0 : Int32) (some (some (.int (0 : Int32)), h)))
  else
  (gfI none h a0 [7] 1 fun x1 =>
  if x1 < a2 then
  (zr none (0 : Int32) (some (some (.int (0 : Int32)), h)))
  else
  (gfI none h a0 [7] 1 fun x2 =>
  if (x2 - a2) < a1 then
  (zr none (0 : Int32) (some (some (.int (0 : Int32)), h)))
  else
  (zr none (1 : Int32) (some (some (.int (1 : Int32)), h))))))) :=
  (call_unr p_47 rfl o_47 rfl [] 30 _ rfl h).trans rfl

theorem p_48 : prg 48 = (k_48, 2) := rfl
theorem o_48 : okc k_48 = true := by decide +kernel
set_option maxRecDepth 100000 in
theorem e_48 (d : Nat) (a0 : Nat) (a1 : Int32) (h : MHeap) : call (d + 1) 48 [.ref a0, .int a1] h = (
  if a1 < (0 : Int32) then
  (some (some (.int (0 : Int32)), h))
  else
  (gfI none h a0 [7] 1 fun x1 =>
  if a1 < x1 then
  (gfV none h a0 [7] 2 fun v2 =>
  dR none v2 fun o4 =>
  aln none h o4 fun x3 =>
  if a1 < x3 then
  (gfV none h a0 [7] 2 fun v5 =>
  dR none v5 fun o7 =>
  alI none h o7 a1 fun x6 =>
  some (some (.int x6), h))
  else
  (some (some (.int (0 : Int32)), h)))
  else
  (some (some (.int (0 : Int32)), h)))) :=
  (call_unr p_48 rfl o_48 rfl [] 28 _ rfl h).trans rfl

theorem p_49 : prg 49 = (k_49, 3) := rfl
theorem o_49 : okc k_49 = true := by decide +kernel
set_option maxRecDepth 100000 in
theorem e_49 (d : Nat) (a0 : Nat) (a1 : Int32) (a2 : Int32) (h : MHeap) : call (d + 1) 49 [.ref a0, .int a1, .int a2] h = (
  if a1 < (0 : Int32) then
  (some (none, h))
  else
  (gfI none h a0 [7] 1 fun x1 =>
  if a1 < x1 then
  (gfV none h a0 [7] 2 fun v2 =>
  dR none v2 fun o4 =>
  aln none h o4 fun x3 =>
  if a1 < x3 then
  (gfV none h a0 [7] 2 fun v5 =>
  gfI none h a0 [7] 0 fun x6 =>
  if x6 = (0 : Int32) then
  (dR none v5 fun o8 =>
  asI none h o8 a1 (Int8.toInt32 (Int32.toInt8 a2)) fun h7 =>
  some (none, h7))
  else
  (gfI none h a0 [7] 0 fun x9 =>
  if x9 = (1 : Int32) then
  (dR none v5 fun o11 =>
  asI none h o11 a1 (Int16.toInt32 (Int32.toInt16 a2)) fun h10 =>
  some (none, h10))
  else
  (dR none v5 fun o13 =>
  asI none h o13 a1 a2 fun h12 =>
  some (none, h12))))
  else
  (some (none, h)))
  else
  (some (none, h)))) :=
  (call_unr p_49 rfl o_49 rfl [] 42 _ rfl h).trans rfl

theorem p_50 : prg 50 = (k_50, 3) := rfl
theorem o_50 : okc k_50 = true := by decide +kernel
set_option maxRecDepth 100000 in
theorem e_50 (d : Nat) (a0 : Nat) (a1 : Int32) (a2 : Int32) (h : MHeap) : call (d + 1) 50 [.ref a0, .int a1, .int a2] h = (
  cV (call d 28 [.ref a0, .int a1, .int a2] h) fun h1 =>
  some (none, h1)) :=
  (call_unr p_50 rfl o_50 rfl [] 10 _ rfl h).trans rfl

theorem p_51 : prg 51 = (k_51, 1) := rfl
theorem o_51 : okc k_51 = true := by decide +kernel
set_option maxRecDepth 100000 in
theorem e_51 (d : Nat) (a0 : Nat) (h : MHeap) : call (d + 1) 51 [.ref a0] h = (
  some (some (.int (4 : Int32)), h)) :=
  (call_unr p_51 rfl o_51 rfl [] 7 _ rfl h).trans rfl

theorem p_52 : prg 52 = (k_52, 5) := rfl
theorem o_52 : okc k_52 = true := by decide +kernel
set_option maxRecDepth 100000 in
theorem e_52 (d : Nat) (a0 : Nat) (a1 : Int32) (h : MHeap) : call (d + 1) 52 [.ref a0, .int a1] h = (
  gfI none h a0 [8] 2 fun x1 =>
  ex d 52 12 [sv (.ref a0), sv (.int a1), sv (.int (a1 &&& x1)), sv (.int (0 : Int32)), sv (.int (0 : Int32))] [] h) :=
  (call_unr p_52 rfl o_52 rfl [12] 14 _ rfl h).trans rfl
set_option maxRecDepth 100000 in
theorem e_52_12 (d : Nat) (a0 : Nat) (a1 : Int32) (a2 : Int32) (a3 : Int32) (a4 : Int32) (h : MHeap) : ex d 52 12 [sv (.ref a0), sv (.int a1), sv (.int a2), sv (.int a3), sv (.int a4)] [] h = (
  if a4 < (12 : Int32) then
  (ex d 52 12 [sv (.ref a0), sv (.int a1), sv (.int a2), sv (.int (a3 + (((a2 >>> (a4 &&& 31)) &&& (1 : Int32)) * (a4 + (1 : Int32))))), sv (.int (a4 + (1 : Int32)))] [] h)
  else
  (gfI none h a0 [8] 1 fun x1 =>
  if (0 : Int32) < (x1 + (2 : Int32)) then
  (dv none (x1 + (2 : Int32)) <|
  some (some (.int (a3 - a3 / (x1 + (2 : Int32)) * (x1 + (2 : Int32)))), h))
  else
  (some (some (.int (0 : Int32)), h)))) :=
  (ex_unr p_52 o_52 [12] 36 rfl _ _ h).trans rfl

theorem p_53 : prg 53 = (k_53, 1) := rfl
theorem o_53 : okc k_53 = true := by decide +kernel
set_option maxRecDepth 100000 in
theorem e_53 (d : Nat) (a0 : Nat) (h : MHeap) : call (d + 1) 53 [.ref a0] h = (
  cV (call d 1003 [.ref a0] h) fun h1 =>
  pfI none h1 a0 [9] 0 (0 : Int32) fun h2 =>
  nwA none h2 100 (160 : Int32) (.int 0) fun o3 h4 =>
  pfV none h4 a0 [9] 1 (.ref o3) fun h5 =>
  nwA none h5 100 (161 : Int32) (.int 0) fun o6 h7 =>
  pfV none h7 a0 [9] 2 (.ref o6) fun h8 =>
  nwA none h8 100 (161 : Int32) (.int 0) fun o9 h10 =>
  pfV none h10 a0 [9] 3 (.ref o9) fun h11 =>
  nwA none h11 100 (160 : Int32) (.int 0) fun o12 h13 =>
  pfV none h13 a0 [9] 4 (.ref o12) fun h14 =>
  pfI none h14 a0 [9] 5 (0 : Int32) fun h15 =>
  pfI none h15 a0 [9] 6 (0 : Int32) fun h16 =>
  pfI none h16 a0 [9] 7 (0 : Int32) fun h17 =>
  some (none, h17)) :=
  (call_unr p_53 rfl o_53 rfl [] 36 _ rfl h).trans rfl

theorem p_54 : prg 54 = (k_54, 2) := rfl
theorem o_54 : okc k_54 = true := by decide +kernel
set_option maxRecDepth 100000 in
theorem e_54 (d : Nat) (a0 : Nat) (a1 : Int32) (h : MHeap) : call (d + 1) 54 [.ref a0, .int a1] h = (
  gfI none h a0 [9] 0 fun x1 =>
  gfV none h a0 [9] 1 fun v2 =>
  dR none v2 fun o4 =>
  aln none h o4 fun x3 =>
  cI (call d 133 [.int x1, .int (0 : Int32), .int (x3 - (1 : Int32))] h) fun x6 h5 =>
  if x6 = (0 : Int32) then
  (some (none, h5))
  else
  (gfV none h5 a0 [9] 1 fun v7 =>
  gfI none h5 a0 [9] 0 fun x8 =>
  dR none v7 fun o10 =>
  asI none h5 o10 x8 a1 fun h9 =>
  gfI none h9 a0 [9] 0 fun x11 =>
  pfI none h9 a0 [9] 0 (x11 + (1 : Int32)) fun h12 =>
  some (none, h12))) :=
  (call_unr p_54 rfl o_54 rfl [] 29 _ rfl h).trans rfl

theorem p_55 : prg 55 = (k_55, 1) := rfl
theorem o_55 : okc k_55 = true := by decide +kernel
set_option maxRecDepth 100000 in
theorem e_55 (d : Nat) (a0 : Nat) (h : MHeap) : call (d + 1) 55 [.ref a0] h = (
  pfI none h a0 [9] 0 (0 : Int32) fun h1 =>
  some (none, h1)) :=
  (call_unr p_55 rfl o_55 rfl [] 9 _ rfl h).trans rfl

theorem p_56 : prg 56 = (k_56, 1) := rfl
theorem o_56 : okc k_56 = true := by decide +kernel
set_option maxRecDepth 100000 in
theorem e_56 (d : Nat) (a0 : Nat) (h : MHeap) : call (d + 1) 56 [.ref a0] h = (
  gfI none h a0 [9] 6 fun x1 =>
  gfV none h a0 [9] 3 fun v2 =>
  dR none v2 fun o4 =>
  aln none h o4 fun x3 =>
  cI (call d 133 [.int x1, .int (0 : Int32), .int (x3 - (1 : Int32))] h) fun x6 h5 =>
  if x6 = (0 : Int32) then
  (some (some (.int (0 : Int32)), h5))
  else
  (gfV none h5 a0 [9] 3 fun v7 =>
  gfI none h5 a0 [9] 6 fun x8 =>
  dR none v7 fun o10 =>
  alI none h5 o10 x8 fun x9 =>
  some (some (.int x9), h5))) :=
  (call_unr p_56 rfl o_56 rfl [] 24 _ rfl h).trans rfl

theorem p_57 : prg 57 = (k_57, 3) := rfl
theorem o_57 : okc k_57 = true := by decide +kernel
set_option maxRecDepth 100000 in
theorem e_57 (d : Nat) (a0 : Nat) (h : MHeap) : call (d + 1) 57 [.ref a0] h = (
  vd none h a0 [9, 69] fun m1 =>
  cV (call d m1 [.ref a0] h) fun h2 =>
  pfI none h2 a0 [9] 6 (0 : Int32) fun h3 =>
  pfI none h3 a0 [9] 7 (0 : Int32) fun h4 =>
  vd none h4 a0 [9, 59] fun m5 =>
  cI (call d m5 [.ref a0, .int (0 : Int32)] h4) fun x7 h6 =>
  if x7 = (0 : Int32) then
  (some (some .null, h6))
  else
  (gfI none h6 a0 [9] 7 fun x8 =>
  vd none h6 a0 [9, 59] fun m9 =>
  cI (call d m9 [.ref a0, .int (1 : Int32)] h6) fun x11 h10 =>
  if x11 = (0 : Int32) then
  (some (some .null, h10))
  else
  (gfI none h10 a0 [9] 7 fun x12 =>
  vd none h10 a0 [9, 59] fun m13 =>
  cI (call d m13 [.ref a0, .int (2 : Int32)] h10) fun x15 h14 =>
  if x15 = (0 : Int32) then
  (some (some .null, h14))
  else
  (vd none h14 a0 [9, 58] fun m16 =>
  cI (call d m16 [.ref a0] h14) fun x18 h17 =>
  if x18 = (-1 : Int32) then
  (gfI none h17 a0 [9] 7 fun x19 =>
  if x19 < (0 : Int32) then
  (some (some .null, h17))
  else
  (nwO h17 5 [.null, .int 0, .int 0] fun o20 h21 =>
  gfV none h21 a0 [9] 4 fun v22 =>
  gfI none h21 a0 [9] 7 fun x23 =>
  cR (call d 262 [v22, .int x23] h21) fun v25 h24 =>
  cV (call d 35 [.ref o20, v25, .int x8, .int x12] h24) fun h26 =>
  some (some (.ref o20), h26)))
  else
  (some (some .null, h17)))))) :=
  (call_unr p_57 rfl o_57 rfl [] 59 _ rfl h).trans rfl

theorem p_58 : prg 58 = (k_58, 1) := rfl
theorem o_58 : okc k_58 = true := by decide +kernel
set_option maxRecDepth 100000 in
theorem e_58 (d : Nat) (a0 : Nat) (h : MHeap) : call (d + 1) 58 [.ref a0] h = (
  gfI none h a0 [9] 6 fun x1 =>
  gfV none h a0 [9] 2 fun v2 =>
  dR none v2 fun o4 =>
  aln none h o4 fun x3 =>
  cI (call d 133 [.int x1, .int (0 : Int32), .int (x3 - (1 : Int32))] h) fun x6 h5 =>
  if x6 = (0 : Int32) then
  (some (some (.int (-1 : Int32)), h5))
  else
  (gfV none h5 a0 [9] 2 fun v7 =>
  gfI none h5 a0 [9] 6 fun x8 =>
  dR none v7 fun o10 =>
  alI none h5 o10 x8 fun x9 =>
  some (some (.int x9), h5))) :=
  (call_unr p_58 rfl o_58 rfl [] 24 _ rfl h).trans rfl

theorem p_59 : prg 59 = (k_59, 2) := rfl
theorem o_59 : okc k_59 = true := by decide +kernel
set_option maxRecDepth 100000 in
theorem e_59 (d : Nat) (a0 : Nat) (a1 : Int32) (h : MHeap) : call (d + 1) 59 [.ref a0, .int a1] h = (
  vd none h a0 [9, 60] fun m1 =>
  cI (call d m1 [.ref a0, .int a1] h) fun x3 h2 =>
  if x3 = (0 : Int32) then
  (zr none (0 : Int32) (some (some (.int (0 : Int32)), h2)))
  else
  (vd none h2 a0 [9, 61] fun m4 =>
  cI (call d m4 [.ref a0, .int (0 : Int32), .int (0 : Int32)] h2) fun x6 h5 =>
  if x6 = (0 : Int32) then
  (zr none (0 : Int32) (some (some (.int (0 : Int32)), h5)))
  else
  (vd none h5 a0 [9, 60] fun m7 =>
  cI (call d m7 [.ref a0, .int (59 : Int32)] h5) fun x9 h8 =>
  if x9 = (0 : Int32) then
  (zr none (0 : Int32) (some (some (.int (0 : Int32)), h8)))
  else
  (zr none (1 : Int32) (some (some (.int (1 : Int32)), h8)))))) :=
  (call_unr p_59 rfl o_59 rfl [] 27 _ rfl h).trans rfl

theorem p_60 : prg 60 = (k_60, 2) := rfl
theorem o_60 : okc k_60 = true := by decide +kernel
set_option maxRecDepth 100000 in
theorem e_60 (d : Nat) (a0 : Nat) (a1 : Int32) (h : MHeap) : call (d + 1) 60 [.ref a0, .int a1] h = (
  vd none h a0 [9, 58] fun m1 =>
  cI (call d m1 [.ref a0] h) fun x3 h2 =>
  if x3 = a1 then
  (gfI none h2 a0 [9] 6 fun x4 =>
  pfI none h2 a0 [9] 6 (x4 + (1 : Int32)) fun h5 =>
  zr none (1 : Int32) (some (some (.int (1 : Int32)), h5)))
  else
  (zr none (0 : Int32) (some (some (.int (0 : Int32)), h2)))) :=
  (call_unr p_60 rfl o_60 rfl [] 19 _ rfl h).trans rfl

theorem p_61 : prg 61 = (k_61, 5) := rfl
theorem o_61 : okc k_61 = true := by decide +kernel
set_option maxRecDepth 100000 in
theorem e_61 (d : Nat) (a0 : Nat) (a1 : Int32) (a2 : Int32) (h : MHeap) : call (d + 1) 61 [.ref a0, .int a1, .int a2] h = (
  vd none h a0 [9, 63] fun m1 =>
  cI (call d m1 [.ref a0, .int a1, .int a2] h) fun x3 h2 =>
  if x3 = (0 : Int32) then
  (zr none (0 : Int32) (some (some (.int (0 : Int32)), h2)))
  else
  (ex d 61 13 [sv (.ref a0), sv (.int a1), sv (.int a2), sv (.int (0 : Int32)), none] [] h2)) :=
  (call_unr p_61 rfl o_61 rfl [13] 14 _ rfl h).trans rfl
set_option maxRecDepth 100000 in
theorem e_61_13 (d : Nat) (a0 : Nat) (a1 : Int32) (a2 : Int32) (a3 : Int32) (a4 : MSl) (h : MHeap) : ex d 61 13 [sv (.ref a0), sv (.int a1), sv (.int a2), sv (.int a3), a4] [] h = (
  if a3 < (160 : Int32) then
  (vd none h a0 [9, 62] fun m1 =>
  cI (call d m1 [.ref a0, .int a1] h) fun x3 h2 =>
  if x3 = (0 : Int32) then
  (zr none (1 : Int32) (some (some (.int (1 : Int32)), h2)))
  else
  (vd none h2 a0 [9, 58] fun m4 =>
  cI (call d m4 [.ref a0] h2) fun x6 h5 =>
  gfI none h5 a0 [9] 6 fun x7 =>
  pfI none h5 a0 [9] 6 (x7 + (1 : Int32)) fun h8 =>
  vd none h8 a0 [9, 63] fun m9 =>
  cI (call d m9 [.ref a0, .int a1, .int a2] h8) fun x11 h10 =>
  if x11 = (0 : Int32) then
  (zr none (0 : Int32) (some (some (.int (0 : Int32)), h10)))
  else
  (vd none h10 a0 [9, 68] fun m12 =>
  cV (call d m12 [.ref a0, .int x6] h10) fun h13 =>
  ex d 61 13 [sv (.ref a0), sv (.int a1), sv (.int a2), sv (.int (a3 + (1 : Int32))), sv (.int x6)] [] h13)))
  else
  (zr none (1 : Int32) (some (some (.int (1 : Int32)), h)))) :=
  (ex_unr p_61 o_61 [13] 37 rfl _ _ h).trans rfl

theorem p_62 : prg 62 = (k_62, 3) := rfl
theorem o_62 : okc k_62 = true := by decide +kernel
set_option maxRecDepth 100000 in
theorem e_62 (d : Nat) (a0 : Nat) (a1 : Int32) (h : MHeap) : call (d + 1) 62 [.ref a0, .int a1] h = (
  vd none h a0 [9, 58] fun m1 =>
  cI (call d m1 [.ref a0] h) fun x3 h2 =>
  if a1 = (0 : Int32) then
  (if x3 = (3 : Int32) then
  (zr none (1 : Int32) (some (some (.int (1 : Int32)), h2)))
  else
  (zr none (0 : Int32) (some (some (.int (0 : Int32)), h2))))
  else
  (if a1 = (1 : Int32) then
  (if x3 = (4 : Int32) then
  (zr none (1 : Int32) (some (some (.int (1 : Int32)), h2)))
  else
  (zr none (0 : Int32) (some (some (.int (0 : Int32)), h2))))
  else
  (if a1 = (2 : Int32) then
  (if x3 = (43 : Int32) then
  (zr none (1 : Int32) (some (some (.int (1 : Int32)), h2)))
  else
  (if x3 = (45 : Int32) then
  (zr none (1 : Int32) (some (some (.int (1 : Int32)), h2)))
  else
  (zr none (0 : Int32) (some (some (.int (0 : Int32)), h2)))))
  else
  (if x3 = (42 : Int32) then
  (zr none (1 : Int32) (some (some (.int (1 : Int32)), h2)))
  else
  (zr none (0 : Int32) (some (some (.int (0 : Int32)), h2))))))) :=
  (call_unr p_62 rfl o_62 rfl [] 48 _ rfl h).trans rfl

theorem p_63 : prg 63 = (k_63, 3) := rfl
theorem o_63 : okc k_63 = true := by decide +kernel
set_option maxRecDepth 100000 in
theorem e_63 (d : Nat) (a0 : Nat) (a1 : Int32) (a2 : Int32) (h : MHeap) : call (d + 1) 63 [.ref a0, .int a1, .int a2] h = (
  if a1 = (0 : Int32) then
  (vd none h a0 [9, 61] fun m1 =>
  cI (call d m1 [.ref a0, .int (1 : Int32), .int a2] h) fun x3 h2 =>
  zr none x3 (some (some (.int x3), h2)))
  else
  (if a1 = (1 : Int32) then
  (vd none h a0 [9, 58] fun m4 =>
  cI (call d m4 [.ref a0] h) fun x6 h5 =>
  if x6 = (5 : Int32) then
  (vd none h5 a0 [9, 64] fun m7 =>
  cI (call d m7 [.ref a0, .int a2] h5) fun x9 h8 =>
  zr none x9 (some (some (.int x9), h8)))
  else
  (vd none h5 a0 [9, 65] fun m10 =>
  cI (call d m10 [.ref a0, .int a2] h5) fun x12 h11 =>
  zr none x12 (some (some (.int x12), h11))))
  else
  (if a1 = (2 : Int32) then
  (vd none h a0 [9, 61] fun m13 =>
  cI (call d m13 [.ref a0, .int (3 : Int32), .int a2] h) fun x15 h14 =>
  zr none x15 (some (some (.int x15), h14)))
  else
  (vd none h a0 [9, 66] fun m16 =>
  cI (call d m16 [.ref a0, .int a2] h) fun x18 h17 =>
  zr none x18 (some (some (.int x18), h17)))))) :=
  (call_unr p_63 rfl o_63 rfl [] 34 _ rfl h).trans rfl

theorem p_64 : prg 64 = (k_64, 2) := rfl
theorem o_64 : okc k_64 = true := by decide +kernel
set_option maxRecDepth 100000 in
theorem e_64 (d : Nat) (a0 : Nat) (a1 : Int32) (h : MHeap) : call (d + 1) 64 [.ref a0, .int a1] h = (
  if a1 < (5 : Int32) then
  (gfI none h a0 [9] 6 fun x1 =>
  pfI none h a0 [9] 6 (x1 + (1 : Int32)) fun h2 =>
  vd none h2 a0 [9, 63] fun m3 =>
  cI (call d m3 [.ref a0, .int (1 : Int32), .int (a1 + (1 : Int32))] h2) fun x5 h4 =>
  if x5 = (0 : Int32) then
  (zr none (0 : Int32) (some (some (.int (0 : Int32)), h4)))
  else
  (vd none h4 a0 [9, 68] fun m6 =>
  cV (call d m6 [.ref a0, .int (5 : Int32)] h4) fun h7 =>
  zr none (1 : Int32) (some (some (.int (1 : Int32)), h7))))
  else
  (zr none (0 : Int32) (some (some (.int (0 : Int32)), h)))) :=
  (call_unr p_64 rfl o_64 rfl [] 30 _ rfl h).trans rfl

theorem p_65 : prg 65 = (k_65, 3) := rfl
theorem o_65 : okc k_65 = true := by decide +kernel
set_option maxRecDepth 100000 in
theorem e_65 (d : Nat) (a0 : Nat) (a1 : Int32) (h : MHeap) : call (d + 1) 65 [.ref a0, .int a1] h = (
  vd none h a0 [9, 61] fun m1 =>
  cI (call d m1 [.ref a0, .int (2 : Int32), .int a1] h) fun x3 h2 =>
  if x3 = (0 : Int32) then
  (zr none (0 : Int32) (some (some (.int (0 : Int32)), h2)))
  else
  (vd none h2 a0 [9, 58] fun m4 =>
  cI (call d m4 [.ref a0] h2) fun x6 h5 =>
  if x6 = (60 : Int32) then
  (gfI none h5 a0 [9] 6 fun x7 =>
  pfI none h5 a0 [9] 6 (x7 + (1 : Int32)) fun h8 =>
  vd none h8 a0 [9, 61] fun m9 =>
  cI (call d m9 [.ref a0, .int (2 : Int32), .int a1] h8) fun x11 h10 =>
  if x11 = (0 : Int32) then
  (zr none (0 : Int32) (some (some (.int (0 : Int32)), h10)))
  else
  (vd none h10 a0 [9, 68] fun m12 =>
  cV (call d m12 [.ref a0, .int x6] h10) fun h13 =>
  zr none (1 : Int32) (some (some (.int (1 : Int32)), h13))))
  else
  (if x6 = (61 : Int32) then
  (gfI none h5 a0 [9] 6 fun x14 =>
  pfI none h5 a0 [9] 6 (x14 + (1 : Int32)) fun h15 =>
  vd none h15 a0 [9, 61] fun m16 =>
  cI (call d m16 [.ref a0, .int (2 : Int32), .int a1] h15) fun x18 h17 =>
  if x18 = (0 : Int32) then
  (zr none (0 : Int32) (some (some (.int (0 : Int32)), h17)))
  else
  (vd none h17 a0 [9, 68] fun m19 =>
  cV (call d m19 [.ref a0, .int x6] h17) fun h20 =>
  zr none (1 : Int32) (some (some (.int (1 : Int32)), h20))))
  else
  (zr none (1 : Int32) (some (some (.int (1 : Int32)), h5)))))) :=
  (call_unr p_65 rfl o_65 rfl [] 59 _ rfl h).trans rfl

theorem p_66 : prg 66 = (k_66, 3) := rfl
theorem o_66 : okc k_66 = true := by decide +kernel
set_option maxRecDepth 100000 in
theorem e_66 (d : Nat) (a0 : Nat) (a1 : Int32) (h : MHeap) : call (d + 1) 66 [.ref a0, .int a1] h = (
  vd none h a0 [9, 58] fun m1 =>
  cI (call d m1 [.ref a0] h) fun x3 h2 =>
  if x3 < (1000 : Int32) then
  (cI (call d 133 [.int x3, .int (6 : Int32), .int (11 : Int32)] h2) fun x5 h4 =>
  if x5 = (0 : Int32) then
  (if x3 = (45 : Int32) then
  (if a1 < (5 : Int32) then
  (gfI none h4 a0 [9] 6 fun x6 =>
  pfI none h4 a0 [9] 6 (x6 + (1 : Int32)) fun h7 =>
  if x3 = (45 : Int32) then
  (vd none h7 a0 [9, 67] fun m8 =>
  cI (call d m8 [.ref a0, .int (a1 + (1 : Int32))] h7) fun x10 h9 =>
  zr none x10 (some (some (.int x10), h9)))
  else
  (vd none h7 a0 [9, 61] fun m11 =>
  cI (call d m11 [.ref a0, .int (0 : Int32), .int (a1 + (1 : Int32))] h7) fun x13 h12 =>
  if x13 = (0 : Int32) then
  (zr none (0 : Int32) (some (some (.int (0 : Int32)), h12)))
  else
  (vd none h12 a0 [9, 60] fun m14 =>
  cI (call d m14 [.ref a0, .int (41 : Int32)] h12) fun x16 h15 =>
  if x16 = (0 : Int32) then
  (zr none (0 : Int32) (some (some (.int (0 : Int32)), h15)))
  else
  (zr none (1 : Int32) (some (some (.int (1 : Int32)), h15))))))
  else
  (zr none (0 : Int32) (some (some (.int (0 : Int32)), h4))))
  else
  (if x3 = (40 : Int32) then
  (if a1 < (5 : Int32) then
  (gfI none h4 a0 [9] 6 fun x17 =>
  pfI none h4 a0 [9] 6 (x17 + (1 : Int32)) fun h18 =>
  if x3 = (45 : Int32) then
  (vd none h18 a0 [9, 67] fun m19 =>
  cI (call d m19 [.ref a0, .int (a1 + (1 : Int32))] h18) fun x21 h20 =>
  zr none x21 (some (some (.int x21), h20)))
  else
  (vd none h18 a0 [9, 61] fun m22 =>
  cI (call d m22 [.ref a0, .int (0 : Int32), .int (a1 + (1 : Int32))] h18) fun x24 h23 =>
  if x24 = (0 : Int32) then
  (zr none (0 : Int32) (some (some (.int (0 : Int32)), h23)))
  else
  (vd none h23 a0 [9, 60] fun m25 =>
  cI (call d m25 [.ref a0, .int (41 : Int32)] h23) fun x27 h26 =>
  if x27 = (0 : Int32) then
  (zr none (0 : Int32) (some (some (.int (0 : Int32)), h26)))
  else
  (zr none (1 : Int32) (some (some (.int (1 : Int32)), h26))))))
  else
  (zr none (0 : Int32) (some (some (.int (0 : Int32)), h4))))
  else
  (zr none (0 : Int32) (some (some (.int (0 : Int32)), h4)))))
  else
  (vd none h4 a0 [9, 68] fun m28 =>
  cV (call d m28 [.ref a0, .int x3] h4) fun h29 =>
  gfI none h29 a0 [9] 6 fun x30 =>
  pfI none h29 a0 [9] 6 (x30 + (1 : Int32)) fun h31 =>
  zr none (1 : Int32) (some (some (.int (1 : Int32)), h31))))
  else
  (vd none h2 a0 [9, 68] fun m32 =>
  cV (call d m32 [.ref a0, .int x3] h2) fun h33 =>
  gfI none h33 a0 [9] 6 fun x34 =>
  pfI none h33 a0 [9] 6 (x34 + (1 : Int32)) fun h35 =>
  zr none (1 : Int32) (some (some (.int (1 : Int32)), h35)))) :=
  (call_unr p_66 rfl o_66 rfl [] 122 _ rfl h).trans rfl

theorem p_67 : prg 67 = (k_67, 2) := rfl
theorem o_67 : okc k_67 = true := by decide +kernel
set_option maxRecDepth 100000 in
theorem e_67 (d : Nat) (a0 : Nat) (a1 : Int32) (h : MHeap) : call (d + 1) 67 [.ref a0, .int a1] h = (
  vd none h a0 [9, 66] fun m1 =>
  cI (call d m1 [.ref a0, .int a1] h) fun x3 h2 =>
  if x3 = (0 : Int32) then
  (zr none (0 : Int32) (some (some (.int (0 : Int32)), h2)))
  else
  (vd none h2 a0 [9, 68] fun m4 =>
  cV (call d m4 [.ref a0, .int (12 : Int32)] h2) fun h5 =>
  zr none (1 : Int32) (some (some (.int (1 : Int32)), h5)))) :=
  (call_unr p_67 rfl o_67 rfl [] 16 _ rfl h).trans rfl

theorem p_68 : prg 68 = (k_68, 2) := rfl
theorem o_68 : okc k_68 = true := by decide +kernel
set_option maxRecDepth 100000 in
theorem e_68 (d : Nat) (a0 : Nat) (a1 : Int32) (h : MHeap) : call (d + 1) 68 [.ref a0, .int a1] h = (
  gfI none h a0 [9] 7 fun x1 =>
  gfV none h a0 [9] 4 fun v2 =>
  dR none v2 fun o4 =>
  aln none h o4 fun x3 =>
  cI (call d 133 [.int x1, .int (0 : Int32), .int (x3 - (1 : Int32))] h) fun x6 h5 =>
  if x6 = (0 : Int32) then
  (some (none, h5))
  else
  (gfV none h5 a0 [9] 4 fun v7 =>
  gfI none h5 a0 [9] 7 fun x8 =>
  dR none v7 fun o10 =>
  asI none h5 o10 x8 a1 fun h9 =>
  gfI none h9 a0 [9] 7 fun x11 =>
  pfI none h9 a0 [9] 7 (x11 + (1 : Int32)) fun h12 =>
  some (none, h12))) :=
  (call_unr p_68 rfl o_68 rfl [] 29 _ rfl h).trans rfl

theorem p_69 : prg 69 = (k_69, 3) := rfl
theorem o_69 : okc k_69 = true := by decide +kernel
set_option maxRecDepth 100000 in
theorem e_69 (d : Nat) (a0 : Nat) (h : MHeap) : call (d + 1) 69 [.ref a0] h = (
  pfI none h a0 [9] 5 (0 : Int32) fun h1 =>
  ex d 69 9 [sv (.ref a0), sv (.int (1 : Int32)), sv (.int (0 : Int32))] [] h1) :=
  (call_unr p_69 rfl o_69 rfl [9] 12 _ rfl h).trans rfl
set_option maxRecDepth 100000 in
theorem e_69_9 (d : Nat) (a0 : Nat) (a1 : Int32) (a2 : Int32) (h : MHeap) : ex d 69 9 [sv (.ref a0), sv (.int a1), sv (.int a2)] [] h = (
  if a1 = (0 : Int32) then
  (some (none, h))
  else
  (gfV none h a0 [9] 2 fun v1 =>
  dR none v1 fun o3 =>
  aln none h o3 fun x2 =>
  if a2 < x2 then
  (gfV none h a0 [9] 3 fun v4 =>
  dR none v4 fun o6 =>
  aln none h o6 fun x5 =>
  if a2 < x5 then
  (vd none h a0 [9, 70] fun m7 =>
  cV (call d m7 [.ref a0] h) fun h8 =>
  gfV none h8 a0 [9] 3 fun v9 =>
  gfI none h8 a0 [9] 5 fun x10 =>
  dR none v9 fun o12 =>
  asI none h8 o12 a2 x10 fun h11 =>
  gfV none h11 a0 [9] 2 fun v13 =>
  vd none h11 a0 [9, 71] fun m14 =>
  cI (call d m14 [.ref a0] h11) fun x16 h15 =>
  dR none v13 fun o18 =>
  asI none h15 o18 a2 x16 fun h17 =>
  gfV none h17 a0 [9] 2 fun v19 =>
  dR none v19 fun o21 =>
  alI none h17 o21 a2 fun x20 =>
  if x20 = (-1 : Int32) then
  (ex d 69 9 [sv (.ref a0), sv (.int (0 : Int32)), sv (.int (a2 + (1 : Int32)))] [] h17)
  else
  (gfV none h17 a0 [9] 2 fun v22 =>
  dR none v22 fun o24 =>
  alI none h17 o24 a2 fun x23 =>
  if x23 = (-2 : Int32) then
  (ex d 69 9 [sv (.ref a0), sv (.int (0 : Int32)), sv (.int (a2 + (1 : Int32)))] [] h17)
  else
  (ex d 69 9 [sv (.ref a0), sv (.int (1 : Int32)), sv (.int (a2 + (1 : Int32)))] [] h17)))
  else
  (some (none, h)))
  else
  (some (none, h)))) :=
  (ex_unr p_69 o_69 [9] 59 rfl _ _ h).trans rfl

theorem p_70 : prg 70 = (k_70, 1) := rfl
theorem o_70 : okc k_70 = true := by decide +kernel
set_option maxRecDepth 100000 in
theorem e_70 (d : Nat) (a0 : Nat) (h : MHeap) : call (d + 1) 70 [.ref a0] h = (
  ex d 70 0 [sv (.ref a0)] [] h) :=
  (call_unr p_70 rfl o_70 rfl [0] 0 _ rfl h).trans rfl
set_option maxRecDepth 100000 in
theorem e_70_0 (d : Nat) (a0 : Nat) (h : MHeap) : ex d 70 0 [sv (.ref a0)] [] h = (
  gfI none h a0 [9] 5 fun x1 =>
  gfI none h a0 [9] 0 fun x2 =>
  if x1 < x2 then
  (gfI none h a0 [9] 5 fun x3 =>
  vd none h a0 [9, 75] fun m4 =>
  cI (call d m4 [.ref a0, .int x3] h) fun x6 h5 =>
  if x6 = (32 : Int32) then
  (gfI none h5 a0 [9] 5 fun x7 =>
  pfI none h5 a0 [9] 5 (x7 + (1 : Int32)) fun h8 =>
  ex d 70 0 [sv (.ref a0)] [] h8)
  else
  (gfI none h5 a0 [9] 5 fun x9 =>
  vd none h5 a0 [9, 75] fun m10 =>
  cI (call d m10 [.ref a0, .int x9] h5) fun x12 h11 =>
  if x12 = (10 : Int32) then
  (gfI none h11 a0 [9] 5 fun x13 =>
  pfI none h11 a0 [9] 5 (x13 + (1 : Int32)) fun h14 =>
  ex d 70 0 [sv (.ref a0)] [] h14)
  else
  (some (none, h11))))
  else
  (some (none, h))) :=
  (ex_unr p_70 o_70 [0] 38 rfl _ _ h).trans rfl

theorem p_71 : prg 71 = (k_71, 3) := rfl
theorem o_71 : okc k_71 = true := by decide +kernel
set_option maxRecDepth 100000 in
theorem e_71 (d : Nat) (a0 : Nat) (h : MHeap) : call (d + 1) 71 [.ref a0] h = (
  gfI none h a0 [9] 5 fun x1 =>
  gfI none h a0 [9] 0 fun x2 =>
  if x1 < x2 then
  (vd none h a0 [9, 75] fun m3 =>
  cI (call d m3 [.ref a0, .int x1] h) fun x5 h4 =>
  gfI none h4 a0 [9] 5 fun x6 =>
  pfI none h4 a0 [9] 5 (x6 + (1 : Int32)) fun h7 =>
  cI (call d 76 [.int x5] h7) fun x9 h8 =>
  if x9 = (0 : Int32) then
  (cI (call d 77 [.int x5] h8) fun x11 h10 =>
  if x11 = (0 : Int32) then
  (cI (call d 78 [.int x5] h10) fun x13 h12 =>
  if x13 = (0 : Int32) then
  (some (some (.int (-2 : Int32)), h12))
  else
  (some (some (.int x5), h12)))
  else
  (vd none h10 a0 [9, 74] fun m14 =>
  cI (call d m14 [.ref a0, .int x1] h10) fun x16 h15 =>
  some (some (.int x16), h15)))
  else
  (vd none h8 a0 [9, 72] fun m17 =>
  cI (call d m17 [.ref a0, .int x1] h8) fun x19 h18 =>
  some (some (.int x19), h18)))
  else
  (some (some (.int (-1 : Int32)), h))) :=
  (call_unr p_71 rfl o_71 rfl [] 46 _ rfl h).trans rfl

theorem p_72 : prg 72 = (k_72, 5) := rfl
theorem o_72 : okc k_72 = true := by decide +kernel
set_option maxRecDepth 100000 in
theorem e_72 (d : Nat) (a0 : Nat) (a1 : Int32) (h : MHeap) : call (d + 1) 72 [.ref a0, .int a1] h = (
  ex d 72 0 [sv (.ref a0), sv (.int a1), none, none, none] [] h) :=
  (call_unr p_72 rfl o_72 rfl [0, 45] 0 _ rfl h).trans rfl
set_option maxRecDepth 100000 in
theorem e_72_0 (d : Nat) (a0 : Nat) (a1 : Int32) (h : MHeap) : ex d 72 0 [sv (.ref a0), sv (.int a1), none, none, none] [] h = (
  gfI none h a0 [9] 5 fun x1 =>
  gfI none h a0 [9] 0 fun x2 =>
  if x1 < x2 then
  (gfI none h a0 [9] 5 fun x3 =>
  vd none h a0 [9, 75] fun m4 =>
  cI (call d m4 [.ref a0, .int x3] h) fun x6 h5 =>
  cI (call d 76 [.int x6] h5) fun x8 h7 =>
  if x8 = (0 : Int32) then
  (ex d 72 45 [sv (.ref a0), sv (.int a1), sv (.int (0 : Int32)), sv (.int (0 : Int32)), sv (.int (0 : Int32))] [] h7)
  else
  (gfI none h7 a0 [9] 5 fun x9 =>
  pfI none h7 a0 [9] 5 (x9 + (1 : Int32)) fun h10 =>
  ex d 72 0 [sv (.ref a0), sv (.int a1), none, none, none] [] h10))
  else
  (ex d 72 45 [sv (.ref a0), sv (.int a1), sv (.int (0 : Int32)), sv (.int (0 : Int32)), sv (.int (0 : Int32))] [] h)) :=
  (ex_unr p_72 o_72 [0, 45] 35 rfl _ _ h).trans rfl
set_option maxRecDepth 100000 in
theorem e_72_45 (d : Nat) (a0 : Nat) (a1 : Int32) (a2 : Int32) (a3 : Int32) (a4 : Int32) (h : MHeap) : ex d 72 45 [sv (.ref a0), sv (.int a1), sv (.int a2), sv (.int a3), sv (.int a4)] [] h = (
  vd none h 2 [98, 1004] fun m1 =>
  cI (call d m1 [.ref 2] h) fun x3 h2 =>
  if a4 < x3 then
  (vd none h2 2 [98, 1005] fun m4 =>
  cI (call d m4 [.ref 2, .int a4] h2) fun x6 h5 =>
  if x6 = (32 : Int32) then
  (gfI none h5 a0 [9] 5 fun x7 =>
  if (a4 - a3) = (x7 - a1) then
  (vd none h5 a0 [9, 73] fun m8 =>
  cI (call d m8 [.ref a0, .int a1, .int a3, .int a4] h5) fun x10 h9 =>
  if x10 = (0 : Int32) then
  (ex d 72 45 [sv (.ref a0), sv (.int a1), sv (.int (a2 + (1 : Int32))), sv (.int (a4 + (1 : Int32))), sv (.int (a4 + (1 : Int32)))] [] h9)
  else
  (some (some (.int a2), h9)))
  else
  (ex d 72 45 [sv (.ref a0), sv (.int a1), sv (.int (a2 + (1 : Int32))), sv (.int (a4 + (1 : Int32))), sv (.int (a4 + (1 : Int32)))] [] h5))
  else
  (ex d 72 45 [sv (.ref a0), sv (.int a1), sv (.int a2), sv (.int a3), sv (.int (a4 + (1 : Int32)))] [] h5))
  else
  (some (some (.int (-2 : Int32)), h2))) :=
  (ex_unr p_72 o_72 [0, 45] 48 rfl _ _ h).trans rfl

theorem p_73 : prg 73 = (k_73, 5) := rfl
theorem o_73 : okc k_73 = true := by decide +kernel
set_option maxRecDepth 100000 in
theorem e_73 (d : Nat) (a0 : Nat) (a1 : Int32) (a2 : Int32) (a3 : Int32) (h : MHeap) : call (d + 1) 73 [.ref a0, .int a1, .int a2, .int a3] h = (
  ex d 73 3 [sv (.ref a0), sv (.int a1), sv (.int a2), sv (.int a3), sv (.int a2)] [] h) :=
  (call_unr p_73 rfl o_73 rfl [3] 7 _ rfl h).trans rfl
set_option maxRecDepth 100000 in
theorem e_73_3 (d : Nat) (a0 : Nat) (a1 : Int32) (a2 : Int32) (a3 : Int32) (a4 : Int32) (h : MHeap) : ex d 73 3 [sv (.ref a0), sv (.int a1), sv (.int a2), sv (.int a3), sv (.int a4)] [] h = (
  if a4 < (0 : Int32) then
  (zr none (1 : Int32) (some (some (.int (1 : Int32)), h)))
  else
  (if a4 < a3 then
  (vd none h 2 [98, 1004] fun m1 =>
  cI (call d m1 [.ref 2] h) fun x3 h2 =>
  if a4 < x3 then
  (vd none h2 2 [98, 1005] fun m4 =>
  cI (call d m4 [.ref 2, .int a4] h2) fun x6 h5 =>
  vd none h5 a0 [9, 75] fun m7 =>
  cI (call d m7 [.ref a0, .int ((a1 + a4) - a2)] h5) fun x9 h8 =>
  if x6 = x9 then
  (ex d 73 3 [sv (.ref a0), sv (.int a1), sv (.int a2), sv (.int a3), sv (.int (a4 + (1 : Int32)))] [] h8)
  else
  (zr none (0 : Int32) (some (some (.int (0 : Int32)), h8))))
  else
  (zr none (1 : Int32) (some (some (.int (1 : Int32)), h2))))
  else
  (zr none (1 : Int32) (some (some (.int (1 : Int32)), h))))) :=
  (ex_unr p_73 o_73 [3] 35 rfl _ _ h).trans rfl

theorem p_74 : prg 74 = (k_74, 4) := rfl
theorem o_74 : okc k_74 = true := by decide +kernel
set_option maxRecDepth 100000 in
theorem e_74 (d : Nat) (a0 : Nat) (a1 : Int32) (h : MHeap) : call (d + 1) 74 [.ref a0, .int a1] h = (
  ex d 74 0 [sv (.ref a0), sv (.int a1), none, none] [] h) :=
  (call_unr p_74 rfl o_74 rfl [0, 55] 0 _ rfl h).trans rfl
set_option maxRecDepth 100000 in
theorem e_74_0 (d : Nat) (a0 : Nat) (a1 : Int32) (h : MHeap) : ex d 74 0 [sv (.ref a0), sv (.int a1), none, none] [] h = (
  gfI none h a0 [9] 5 fun x1 =>
  gfI none h a0 [9] 0 fun x2 =>
  if x1 < x2 then
  (gfI none h a0 [9] 5 fun x3 =>
  vd none h a0 [9, 75] fun m4 =>
  cI (call d m4 [.ref a0, .int x3] h) fun x6 h5 =>
  cI (call d 77 [.int x6] h5) fun x8 h7 =>
  if x8 = (0 : Int32) then
  (gfI none h7 a0 [9] 5 fun x9 =>
  if (4 : Int32) < (x9 - a1) then
  (some (some (.int (-2 : Int32)), h7))
  else
  (ex d 74 55 [sv (.ref a0), sv (.int a1), sv (.int (0 : Int32)), sv (.int a1)] [] h7))
  else
  (gfI none h7 a0 [9] 5 fun x10 =>
  pfI none h7 a0 [9] 5 (x10 + (1 : Int32)) fun h11 =>
  ex d 74 0 [sv (.ref a0), sv (.int a1), none, none] [] h11))
  else
  (gfI none h a0 [9] 5 fun x12 =>
  if (4 : Int32) < (x12 - a1) then
  (some (some (.int (-2 : Int32)), h))
  else
  (ex d 74 55 [sv (.ref a0), sv (.int a1), sv (.int (0 : Int32)), sv (.int a1)] [] h))) :=
  (ex_unr p_74 o_74 [0, 55] 47 rfl _ _ h).trans rfl
set_option maxRecDepth 100000 in
theorem e_74_55 (d : Nat) (a0 : Nat) (a1 : Int32) (a2 : Int32) (a3 : Int32) (h : MHeap) : ex d 74 55 [sv (.ref a0), sv (.int a1), sv (.int a2), sv (.int a3)] [] h = (
  gfI none h a0 [9] 5 fun x1 =>
  if a3 < x1 then
  (vd none h a0 [9, 75] fun m2 =>
  cI (call d m2 [.ref a0, .int a3] h) fun x4 h3 =>
  ex d 74 55 [sv (.ref a0), sv (.int a1), sv (.int ((((10 : Int32) * a2) + x4) - (48 : Int32))), sv (.int (a3 + (1 : Int32)))] [] h3)
  else
  (some (some (.int ((1000 : Int32) + a2)), h))) :=
  (ex_unr p_74 o_74 [0, 55] 25 rfl _ _ h).trans rfl

theorem p_75 : prg 75 = (k_75, 2) := rfl
theorem o_75 : okc k_75 = true := by decide +kernel
set_option maxRecDepth 100000 in
theorem e_75 (d : Nat) (a0 : Nat) (a1 : Int32) (h : MHeap) : call (d + 1) 75 [.ref a0, .int a1] h = (
  if a1 < (0 : Int32) then
  (some (some (.int (0 : Int32)), h))
  else
  (gfI none h a0 [9] 0 fun x1 =>
  if a1 < x1 then
  (gfV none h a0 [9] 1 fun v2 =>
  dR none v2 fun o4 =>
  aln none h o4 fun x3 =>
  if a1 < x3 then
  (gfV none h a0 [9] 1 fun v5 =>
  dR none v5 fun o7 =>
  alI none h o7 a1 fun x6 =>
  some (some (.int x6), h))
  else
  (some (some (.int (0 : Int32)), h)))
  else
  (some (some (.int (0 : Int32)), h)))) :=
  (call_unr p_75 rfl o_75 rfl [] 28 _ rfl h).trans rfl

theorem p_76 : prg 76 = (k_76, 1) := rfl
theorem o_76 : okc k_76 = true := by decide +kernel
set_option maxRecDepth 100000 in
theorem e_76 (d : Nat) (a0 : Int32) (h : MHeap) : call (d + 1) 76 [.int a0] h = (
  if a0 < (97 : Int32) then
  (zr none (0 : Int32) (some (some (.int (0 : Int32)), h)))
  else
  (if (122 : Int32) < a0 then
  (zr none (0 : Int32) (some (some (.int (0 : Int32)), h)))
  else
  (zr none (1 : Int32) (some (some (.int (1 : Int32)), h))))) :=
  (call_unr p_76 rfl o_76 rfl [] 18 _ rfl h).trans rfl

theorem p_77 : prg 77 = (k_77, 1) := rfl
theorem o_77 : okc k_77 = true := by decide +kernel
set_option maxRecDepth 100000 in
theorem e_77 (d : Nat) (a0 : Int32) (h : MHeap) : call (d + 1) 77 [.int a0] h = (
  if a0 < (48 : Int32) then
  (zr none (0 : Int32) (some (some (.int (0 : Int32)), h)))
  else
  (if (57 : Int32) < a0 then
  (zr none (0 : Int32) (some (some (.int (0 : Int32)), h)))
  else
  (zr none (1 : Int32) (some (some (.int (1 : Int32)), h))))) :=
  (call_unr p_77 rfl o_77 rfl [] 18 _ rfl h).trans rfl

theorem p_78 : prg 78 = (k_78, 1) := rfl
theorem o_78 : okc k_78 = true := by decide +kernel
set_option maxRecDepth 100000 in
theorem e_78 (d : Nat) (a0 : Int32) (h : MHeap) : call (d + 1) 78 [.int a0] h = (
  if a0 = (40 : Int32) then
  (zr none (1 : Int32) (some (some (.int (1 : Int32)), h)))
  else
  (if a0 = (41 : Int32) then
  (zr none (1 : Int32) (some (some (.int (1 : Int32)), h)))
  else
  (if a0 = (42 : Int32) then
  (zr none (1 : Int32) (some (some (.int (1 : Int32)), h)))
  else
  (if a0 = (43 : Int32) then
  (zr none (1 : Int32) (some (some (.int (1 : Int32)), h)))
  else
  (if a0 = (44 : Int32) then
  (zr none (0 : Int32) (some (some (.int (0 : Int32)), h)))
  else
  (if a0 = (45 : Int32) then
  (zr none (1 : Int32) (some (some (.int (1 : Int32)), h)))
  else
  (if a0 = (46 : Int32) then
  (zr none (0 : Int32) (some (some (.int (0 : Int32)), h)))
  else
  (if a0 = (47 : Int32) then
  (zr none (0 : Int32) (some (some (.int (0 : Int32)), h)))
  else
  (if a0 = (48 : Int32) then
  (zr none (0 : Int32) (some (some (.int (0 : Int32)), h)))
  else
  (if a0 = (49 : Int32) then
  (zr none (0 : Int32) (some (some (.int (0 : Int32)), h)))
  else
  (if a0 = (50 : Int32) then
  (zr none (0 : Int32) (some (some (.int (0 : Int32)), h)))
  else
  (if a0 = (51 : Int32) then
  (zr none (0 : Int32) (some (some (.int (0 : Int32)), h)))
  else
  (if a0 = (52 : Int32) then
  (zr none (0 : Int32) (some (some (.int (0 : Int32)), h)))
  else
  (if a0 = (53 : Int32) then
  (zr none (0 : Int32) (some (some (.int (0 : Int32)), h)))
  else
  (if a0 = (54 : Int32) then
  (zr none (0 : Int32) (some (some (.int (0 : Int32)), h)))
  else
  (if a0 = (55 : Int32) then
  (zr none (0 : Int32) (some (some (.int (0 : Int32)), h)))
  else
  (if a0 = (56 : Int32) then
  (zr none (0 : Int32) (some (some (.int (0 : Int32)), h)))
  else
  (if a0 = (57 : Int32) then
  (zr none (0 : Int32) (some (some (.int (0 : Int32)), h)))
  else
  (if a0 = (58 : Int32) then
  (zr none (0 : Int32) (some (some (.int (0 : Int32)), h)))
  else
  (if a0 = (59 : Int32) then
  (zr none (1 : Int32) (some (some (.int (1 : Int32)), h)))
  else
  (if a0 = (60 : Int32) then
  (zr none (1 : Int32) (some (some (.int (1 : Int32)), h)))
  else
  (if a0 = (61 : Int32) then
  (zr none (1 : Int32) (some (some (.int (1 : Int32)), h)))
  else
  (zr none (0 : Int32) (some (some (.int (0 : Int32)), h))))))))))))))))))))))))) :=
  (call_unr p_78 rfl o_78 rfl [] 53 _ rfl h).trans rfl

theorem p_79 : prg 79 = (k_79, 3) := rfl
theorem o_79 : okc k_79 = true := by decide +kernel
set_option maxRecDepth 100000 in
theorem e_79 (d : Nat) (a0 : Nat) (a1 : Int32) (a2 : Int32) (h : MHeap) : call (d + 1) 79 [.ref a0, .int a1, .int a2] h = (
  cV (call d 25 [.ref a0, .int a1, .int a2] h) fun h1 =>
  some (none, h1)) :=
  (call_unr p_79 rfl o_79 rfl [] 10 _ rfl h).trans rfl

theorem p_80 : prg 80 = (k_80, 1) := rfl
theorem o_80 : okc k_80 = true := by decide +kernel
set_option maxRecDepth 100000 in
theorem e_80 (d : Nat) (a0 : Nat) (h : MHeap) : call (d + 1) 80 [.ref a0] h = (
  some (some (.int (5 : Int32)), h)) :=
  (call_unr p_80 rfl o_80 rfl [] 7 _ rfl h).trans rfl

theorem p_81 : prg 81 = (k_81, 3) := rfl
theorem o_81 : okc k_81 = true := by decide +kernel
set_option maxRecDepth 100000 in
theorem e_81 (d : Nat) (a0 : Nat) (a1 : Int32) (a2 : Int32) (h : MHeap) : call (d + 1) 81 [.ref a0, .int a1, .int a2] h = (
  inO none h a0 [10] [] fun _ =>
  cI (call d 27 [.ref a0, .int a1, .int a2] h) fun x2 h1 =>
  gfI none h1 a0 [10] 0 fun x3 =>
  cI (call d 137 [.int x3, .int a1] h1) fun x5 h4 =>
  if x2 = x5 then
  (zr none (0 : Int32) (some (some (.int (0 : Int32)), h4)))
  else
  (zr none (1 : Int32) (some (some (.int (1 : Int32)), h4)))) :=
  (call_unr p_81 rfl o_81 rfl [] 19 _ rfl h).trans rfl

theorem p_82 : prg 82 = (k_82, 2) := rfl
theorem o_82 : okc k_82 = true := by decide +kernel
set_option maxRecDepth 100000 in
theorem e_82 (d : Nat) (a0 : Nat) (a1 : Int32) (h : MHeap) : call (d + 1) 82 [.ref a0, .int a1] h = (
  inO none h a0 [10] [] fun _ =>
  cI (call d 31 [.ref a0, .int a1] h) fun x2 h1 =>
  some (some (.int ((1 : Int32) - x2)), h1)) :=
  (call_unr p_82 rfl o_82 rfl [] 11 _ rfl h).trans rfl
