/-! the methods 215 to 263, unrolled up to the heads of their loops -/
theorem p_215 : prg 215 = (k_215, 8) := rfl
theorem o_215 : okc k_215 = true := by decide +kernel
set_option maxRecDepth 100000 in
theorem e_215 (d : Nat) (a0 : Nat) (a1 : Int32) (h : MHeap) : call (d + 1) 215 [.ref a0, .int a1] h = (
  cI (call d 166 [.int a1, .int (0 : Int32), .int (1 : Int32)] h) fun x2 h1 =>
  if x2 = (0 : Int32) then
  (some (some (.int (-2 : Int32)), h1))
  else
  (vd none h1 a0 [12, 203] fun m3 =>
  cV (call d m3 [.ref a0] h1) fun h4 =>
  ex d 215 23 [sv (.ref a0), sv (.int a1), sv (.int (0 : Int32)), sv (.int (-1 : Int32)), sv (.int (0 : Int32)), none, none, none] [] h4)) :=
  (call_unr p_215 rfl o_215 rfl [23, 38, 120, 132] 20 _ rfl h).trans rfl
set_option maxRecDepth 100000 in
theorem e_215_23 (d : Nat) (a0 : Nat) (a1 : Int32) (a2 : Int32) (a3 : Int32) (a4 : Int32) (a5 : MSl) (a6 : MSl) (a7 : MSl) (h : MHeap) : ex d 215 23 [sv (.ref a0), sv (.int a1), sv (.int a2), sv (.int a3), sv (.int a4), a5, a6, a7] [] h = (
  gfI none h a0 [12] 0 fun x1 =>
  if a4 < x1 then
  (ex d 215 38 [sv (.ref a0), sv (.int a1), sv (.int a2), sv (.int a3), sv (.int a4), sv (.int (1 : Int32)), sv (.int (0 : Int32)), a7] [] h)
  else
  (if a1 = (0 : Int32) then
  (some (some (.int a2), h))
  else
  (some (some (.int a3), h)))) :=
  (ex_unr p_215 o_215 [23, 38, 120, 132] 20 rfl _ _ h).trans rfl
set_option maxRecDepth 100000 in
theorem e_215_38 (d : Nat) (a0 : Nat) (a1 : Int32) (a2 : Int32) (a3 : Int32) (a4 : Int32) (a5 : Int32) (a6 : Int32) (a7 : MSl) (h : MHeap) : ex d 215 38 [sv (.ref a0), sv (.int a1), sv (.int a2), sv (.int a3), sv (.int a4), sv (.int a5), sv (.int a6), a7] [] h = (
  if a6 < a4 then
  (gfI none h a0 [12] 2 fun x1 =>
  vd none h a0 [12, 204] fun m2 =>
  cI (call d m2 [.ref a0, .int (x1 ^^^ ((1 : Int32) <<< (a6 &&& 31)))] h) fun x4 h3 =>
  gfI none h3 a0 [12] 2 fun x5 =>
  vd none h3 a0 [12, 204] fun m6 =>
  cI (call d m6 [.ref a0, .int (x5 ^^^ ((1 : Int32) <<< (a4 &&& 31)))] h3) fun x8 h7 =>
  if x4 = x8 then
  (if a5 = (0 : Int32) then
  (if (1 : Int32) = (0 : Int32) then
  (ex d 215 132 [sv (.ref a0), sv (.int a1), sv (.int a2), sv (.int a3), sv (.int a4), sv (.int (0 : Int32)), sv (.int a6), sv (.int (1 : Int32))] [.int a3] h7)
  else
  (if a3 = (-1 : Int32) then
  (ex d 215 120 [sv (.ref a0), sv (.int a1), sv (.int a2), sv (.int a3), sv (.int a4), sv (.int (0 : Int32)), sv (.int a6), sv (.int (1 : Int32))] [] h7)
  else
  (if (((100 : Int32) * a6) + a4) < a3 then
  (ex d 215 120 [sv (.ref a0), sv (.int a1), sv (.int a2), sv (.int a3), sv (.int a4), sv (.int (0 : Int32)), sv (.int a6), sv (.int (1 : Int32))] [] h7)
  else
  (ex d 215 132 [sv (.ref a0), sv (.int a1), sv (.int a2), sv (.int a3), sv (.int a4), sv (.int (0 : Int32)), sv (.int a6), sv (.int (1 : Int32))] [.int a3] h7))))
  else
  (if (1 : Int32) = (0 : Int32) then
  (if (1 : Int32) = (0 : Int32) then
  (ex d 215 132 [sv (.ref a0), sv (.int a1), sv (.int a2), sv (.int a3), sv (.int a4), sv (.int (1 : Int32)), sv (.int a6), sv (.int (1 : Int32))] [.int a3] h7)
  else
  (if a3 = (-1 : Int32) then
  (ex d 215 120 [sv (.ref a0), sv (.int a1), sv (.int a2), sv (.int a3), sv (.int a4), sv (.int (1 : Int32)), sv (.int a6), sv (.int (1 : Int32))] [] h7)
  else
  (if (((100 : Int32) * a6) + a4) < a3 then
  (ex d 215 120 [sv (.ref a0), sv (.int a1), sv (.int a2), sv (.int a3), sv (.int a4), sv (.int (1 : Int32)), sv (.int a6), sv (.int (1 : Int32))] [] h7)
  else
  (ex d 215 132 [sv (.ref a0), sv (.int a1), sv (.int a2), sv (.int a3), sv (.int a4), sv (.int (1 : Int32)), sv (.int a6), sv (.int (1 : Int32))] [.int a3] h7))))
  else
  (if (1 : Int32) = (0 : Int32) then
  (ex d 215 132 [sv (.ref a0), sv (.int a1), sv (.int a2), sv (.int a3), sv (.int a4), sv (.int (0 : Int32)), sv (.int a6), sv (.int (1 : Int32))] [.int a3] h7)
  else
  (if a3 = (-1 : Int32) then
  (ex d 215 120 [sv (.ref a0), sv (.int a1), sv (.int a2), sv (.int a3), sv (.int a4), sv (.int (0 : Int32)), sv (.int a6), sv (.int (1 : Int32))] [] h7)
  else
  (if (((100 : Int32) * a6) + a4) < a3 then
  (ex d 215 120 [sv (.ref a0), sv (.int a1), sv (.int a2), sv (.int a3), sv (.int a4), sv (.int (0 : Int32)), sv (.int a6), sv (.int (1 : Int32))] [] h7)
  else
  (ex d 215 132 [sv (.ref a0), sv (.int a1), sv (.int a2), sv (.int a3), sv (.int a4), sv (.int (0 : Int32)), sv (.int a6), sv (.int (1 : Int32))] [.int a3] h7))))))
  else
  (if a5 = (0 : Int32) then
  (if (0 : Int32) = (0 : Int32) then
  (ex d 215 132 [sv (.ref a0), sv (.int a1), sv (.int a2), sv (.int a3), sv (.int a4), sv (.int (0 : Int32)), sv (.int a6), sv (.int (0 : Int32))] [.int a3] h7)
  else
  (if a3 = (-1 : Int32) then
  (ex d 215 120 [sv (.ref a0), sv (.int a1), sv (.int a2), sv (.int a3), sv (.int a4), sv (.int (0 : Int32)), sv (.int a6), sv (.int (0 : Int32))] [] h7)
  else
  (if (((100 : Int32) * a6) + a4) < a3 then
  (ex d 215 120 [sv (.ref a0), sv (.int a1), sv (.int a2), sv (.int a3), sv (.int a4), sv (.int (0 : Int32)), sv (.int a6), sv (.int (0 : Int32))] [] h7)
  else
  (ex d 215 132 [sv (.ref a0), sv (.int a1), sv (.int a2), sv (.int a3), sv (.int a4), sv (.int (0 : Int32)), sv (.int a6), sv (.int (0 : Int32))] [.int a3] h7))))
  else
  (if (0 : Int32) = (0 : Int32) then
  (if (0 : Int32) = (0 : Int32) then
  (ex d 215 132 [sv (.ref a0), sv (.int a1), sv (.int a2), sv (.int a3), sv (.int a4), sv (.int (1 : Int32)), sv (.int a6), sv (.int (0 : Int32))] [.int a3] h7)
  else
  (if a3 = (-1 : Int32) then
  (ex d 215 120 [sv (.ref a0), sv (.int a1), sv (.int a2), sv (.int a3), sv (.int a4), sv (.int (1 : Int32)), sv (.int a6), sv (.int (0 : Int32))] [] h7)
  else
  (if (((100 : Int32) * a6) + a4) < a3 then
  (ex d 215 120 [sv (.ref a0), sv (.int a1), sv (.int a2), sv (.int a3), sv (.int a4), sv (.int (1 : Int32)), sv (.int a6), sv (.int (0 : Int32))] [] h7)
  else
  (ex d 215 132 [sv (.ref a0), sv (.int a1), sv (.int a2), sv (.int a3), sv (.int a4), sv (.int (1 : Int32)), sv (.int a6), sv (.int (0 : Int32))] [.int a3] h7))))
  else
  (if (0 : Int32) = (0 : Int32) then
  (ex d 215 132 [sv (.ref a0), sv (.int a1), sv (.int a2), sv (.int a3), sv (.int a4), sv (.int (0 : Int32)), sv (.int a6), sv (.int (0 : Int32))] [.int a3] h7)
  else
  (if a3 = (-1 : Int32) then
  (ex d 215 120 [sv (.ref a0), sv (.int a1), sv (.int a2), sv (.int a3), sv (.int a4), sv (.int (0 : Int32)), sv (.int a6), sv (.int (0 : Int32))] [] h7)
  else
  (if (((100 : Int32) * a6) + a4) < a3 then
  (ex d 215 120 [sv (.ref a0), sv (.int a1), sv (.int a2), sv (.int a3), sv (.int a4), sv (.int (0 : Int32)), sv (.int a6), sv (.int (0 : Int32))] [] h7)
  else
  (ex d 215 132 [sv (.ref a0), sv (.int a1), sv (.int a2), sv (.int a3), sv (.int a4), sv (.int (0 : Int32)), sv (.int a6), sv (.int (0 : Int32))] [.int a3] h7)))))))
  else
  (if a5 = (0 : Int32) then
  (ex d 215 23 [sv (.ref a0), sv (.int a1), sv (.int (a2 + (0 : Int32))), sv (.int a3), sv (.int (a4 + (1 : Int32))), sv (.int a5), sv (.int a6), a7] [] h)
  else
  (ex d 215 23 [sv (.ref a0), sv (.int a1), sv (.int (a2 + (1 : Int32))), sv (.int a3), sv (.int (a4 + (1 : Int32))), sv (.int a5), sv (.int a6), a7] [] h))) :=
  (ex_unr p_215 o_215 [23, 38, 120, 132] 150 rfl _ _ h).trans rfl
set_option maxRecDepth 100000 in
theorem e_215_120 (d : Nat) (a0 : Nat) (a1 : Int32) (a2 : Int32) (a3 : Int32) (a4 : Int32) (a5 : Int32) (a6 : Int32) (a7 : Int32) (h : MHeap) : ex d 215 120 [sv (.ref a0), sv (.int a1), sv (.int a2), sv (.int a3), sv (.int a4), sv (.int a5), sv (.int a6), sv (.int a7)] [] h = (
  ex d 215 132 [sv (.ref a0), sv (.int a1), sv (.int a2), sv (.int a3), sv (.int a4), sv (.int a5), sv (.int a6), sv (.int a7)] [.int (((100 : Int32) * a6) + a4)] h) :=
  (ex_unr p_215 o_215 [23, 38, 120, 132] 11 rfl _ _ h).trans rfl
set_option maxRecDepth 100000 in
theorem e_215_132 (d : Nat) (a0 : Nat) (a1 : Int32) (a2 : Int32) (a3 : Int32) (a4 : Int32) (a5 : Int32) (a6 : Int32) (a7 : Int32) (s0 : Int32) (h : MHeap) : ex d 215 132 [sv (.ref a0), sv (.int a1), sv (.int a2), sv (.int a3), sv (.int a4), sv (.int a5), sv (.int a6), sv (.int a7)] [.int s0] h = (
  ex d 215 38 [sv (.ref a0), sv (.int a1), sv (.int a2), sv (.int s0), sv (.int a4), sv (.int a5), sv (.int (a6 + (1 : Int32))), sv (.int a7)] [] h) :=
  (ex_unr p_215 o_215 [23, 38, 120, 132] 8 rfl _ _ h).trans rfl

theorem p_216 : prg 216 = (k_216, 5) := rfl
theorem o_216 : okc k_216 = true := by decide +kernel
set_option maxRecDepth 100000 in
theorem e_216 (d : Nat) (a0 : Nat) (a1 : Int32) (h : MHeap) : call (d + 1) 216 [.ref a0, .int a1] h = (
  cI (call d 166 [.int a1, .int (0 : Int32), .int (3 : Int32)] h) fun x2 h1 =>
  if x2 = (0 : Int32) then
  (some (some (.int (-2 : Int32)), h1))
  else
  (vd none h1 a0 [12, 203] fun m3 =>
  cV (call d m3 [.ref a0] h1) fun h4 =>
  ex d 216 20 [sv (.ref a0), sv (.int a1), sv (.int (0 : Int32)), sv (.int (0 : Int32)), none] [] h4)) :=
  (call_unr p_216 rfl o_216 rfl [20, 55] 18 _ rfl h).trans rfl
set_option maxRecDepth 100000 in
theorem e_216_20 (d : Nat) (a0 : Nat) (a1 : Int32) (a2 : Int32) (a3 : Int32) (a4 : MSl) (h : MHeap) : ex d 216 20 [sv (.ref a0), sv (.int a1), sv (.int a2), sv (.int a3), a4] [] h = (
  vd none h a0 [12, 171] fun m1 =>
  cI (call d m1 [.ref a0] h) fun x3 h2 =>
  if x3 < a3 then
  (some (some (.int a2), h2))
  else
  (cI (call d 168 [.int a3] h2) fun x5 h4 =>
  if a1 < x5 then
  (ex d 216 20 [sv (.ref a0), sv (.int a1), sv (.int a2), sv (.int (a3 + (1 : Int32))), a4] [] h4)
  else
  (gfV none h4 a0 [12] 35 fun v6 =>
  gfI none h4 a0 [12] 2 fun x7 =>
  vd none h4 a0 [12, 204] fun m8 =>
  cI (call d m8 [.ref a0, .int (x7 ^^^ a3)] h4) fun x10 h9 =>
  dR none v6 fun o12 =>
  asI none h9 o12 a2 x10 fun h11 =>
  ex d 216 55 [sv (.ref a0), sv (.int a1), sv (.int a2), sv (.int a3), sv (.int (0 : Int32))] [] h11))) :=
  (ex_unr p_216 o_216 [20, 55] 29 rfl _ _ h).trans rfl
set_option maxRecDepth 100000 in
theorem e_216_55 (d : Nat) (a0 : Nat) (a1 : Int32) (a2 : Int32) (a3 : Int32) (a4 : Int32) (h : MHeap) : ex d 216 55 [sv (.ref a0), sv (.int a1), sv (.int a2), sv (.int a3), sv (.int a4)] [] h = (
  gfV none h a0 [12] 35 fun v1 =>
  dR none v1 fun o3 =>
  alI none h o3 a4 fun x2 =>
  gfV none h a0 [12] 35 fun v4 =>
  dR none v4 fun o6 =>
  alI none h o6 a2 fun x5 =>
  if x2 = x5 then
  (if a4 = a2 then
  (ex d 216 20 [sv (.ref a0), sv (.int a1), sv (.int (a2 + (1 : Int32))), sv (.int (a3 + (1 : Int32))), sv (.int a4)] [] h)
  else
  (ex d 216 20 [sv (.ref a0), sv (.int a1), sv (.int (a2 + (0 : Int32))), sv (.int (a3 + (1 : Int32))), sv (.int a4)] [] h))
  else
  (ex d 216 55 [sv (.ref a0), sv (.int a1), sv (.int a2), sv (.int a3), sv (.int (a4 + (1 : Int32)))] [] h)) :=
  (ex_unr p_216 o_216 [20, 55] 31 rfl _ _ h).trans rfl

theorem p_217 : prg 217 = (k_217, 6) := rfl
theorem o_217 : okc k_217 = true := by decide +kernel
set_option maxRecDepth 100000 in
theorem e_217 (d : Nat) (a0 : Nat) (a1 : Int32) (a2 : Int32) (h : MHeap) : call (d + 1) 217 [.ref a0, .int a1, .int a2] h = (
  vd none h a0 [12, 203] fun m1 =>
  cV (call d m1 [.ref a0] h) fun h2 =>
  ex d 217 9 [sv (.ref a0), sv (.int a1), sv (.int a2), sv (.int (-1 : Int32)), sv (.int (0 : Int32)), none] [] h2) :=
  (call_unr p_217 rfl o_217 rfl [9] 11 _ rfl h).trans rfl
set_option maxRecDepth 100000 in
theorem e_217_9 (d : Nat) (a0 : Nat) (a1 : Int32) (a2 : Int32) (a3 : Int32) (a4 : Int32) (a5 : MSl) (h : MHeap) : ex d 217 9 [sv (.ref a0), sv (.int a1), sv (.int a2), sv (.int a3), sv (.int a4), a5] [] h = (
  vd none h a0 [12, 171] fun m1 =>
  cI (call d m1 [.ref a0] h) fun x3 h2 =>
  if x3 < a4 then
  (some (some (.int a3), h2))
  else
  (if (a4 &&& (a1 ^^^ (-1 : Int32))) = (0 : Int32) then
  (if a3 = (-1 : Int32) then
  (if (1 : Int32) = (0 : Int32) then
  (ex d 217 9 [sv (.ref a0), sv (.int a1), sv (.int a2), sv (.int a3), sv (.int (a4 + (1 : Int32))), sv (.int (1 : Int32))] [] h2)
  else
  (gfI none h2 a0 [12] 2 fun x4 =>
  vd none h2 a0 [12, 204] fun m5 =>
  cI (call d m5 [.ref a0, .int (x4 ^^^ a4)] h2) fun x7 h6 =>
  if x7 = a2 then
  (ex d 217 9 [sv (.ref a0), sv (.int a1), sv (.int a2), sv (.int a4), sv (.int (a4 + (1 : Int32))), sv (.int (1 : Int32))] [] h6)
  else
  (ex d 217 9 [sv (.ref a0), sv (.int a1), sv (.int a2), sv (.int a3), sv (.int (a4 + (1 : Int32))), sv (.int (1 : Int32))] [] h6)))
  else
  (cI (call d 168 [.int a4] h2) fun x9 h8 =>
  cI (call d 168 [.int a3] h8) fun x11 h10 =>
  if x9 < x11 then
  (if (1 : Int32) = (0 : Int32) then
  (ex d 217 9 [sv (.ref a0), sv (.int a1), sv (.int a2), sv (.int a3), sv (.int (a4 + (1 : Int32))), sv (.int (1 : Int32))] [] h10)
  else
  (gfI none h10 a0 [12] 2 fun x12 =>
  vd none h10 a0 [12, 204] fun m13 =>
  cI (call d m13 [.ref a0, .int (x12 ^^^ a4)] h10) fun x15 h14 =>
  if x15 = a2 then
  (ex d 217 9 [sv (.ref a0), sv (.int a1), sv (.int a2), sv (.int a4), sv (.int (a4 + (1 : Int32))), sv (.int (1 : Int32))] [] h14)
  else
  (ex d 217 9 [sv (.ref a0), sv (.int a1), sv (.int a2), sv (.int a3), sv (.int (a4 + (1 : Int32))), sv (.int (1 : Int32))] [] h14)))
  else
  (if (0 : Int32) = (0 : Int32) then
  (ex d 217 9 [sv (.ref a0), sv (.int a1), sv (.int a2), sv (.int a3), sv (.int (a4 + (1 : Int32))), sv (.int (0 : Int32))] [] h10)
  else
  (gfI none h10 a0 [12] 2 fun x16 =>
  vd none h10 a0 [12, 204] fun m17 =>
  cI (call d m17 [.ref a0, .int (x16 ^^^ a4)] h10) fun x19 h18 =>
  if x19 = a2 then
  (ex d 217 9 [sv (.ref a0), sv (.int a1), sv (.int a2), sv (.int a4), sv (.int (a4 + (1 : Int32))), sv (.int (0 : Int32))] [] h18)
  else
  (ex d 217 9 [sv (.ref a0), sv (.int a1), sv (.int a2), sv (.int a3), sv (.int (a4 + (1 : Int32))), sv (.int (0 : Int32))] [] h18)))))
  else
  (if (0 : Int32) = (0 : Int32) then
  (ex d 217 9 [sv (.ref a0), sv (.int a1), sv (.int a2), sv (.int a3), sv (.int (a4 + (1 : Int32))), sv (.int (0 : Int32))] [] h2)
  else
  (gfI none h2 a0 [12] 2 fun x20 =>
  vd none h2 a0 [12, 204] fun m21 =>
  cI (call d m21 [.ref a0, .int (x20 ^^^ a4)] h2) fun x23 h22 =>
  if x23 = a2 then
  (ex d 217 9 [sv (.ref a0), sv (.int a1), sv (.int a2), sv (.int a4), sv (.int (a4 + (1 : Int32))), sv (.int (0 : Int32))] [] h22)
  else
  (ex d 217 9 [sv (.ref a0), sv (.int a1), sv (.int a2), sv (.int a3), sv (.int (a4 + (1 : Int32))), sv (.int (0 : Int32))] [] h22))))) :=
  (ex_unr p_217 o_217 [9] 127 rfl _ _ h).trans rfl

theorem p_218 : prg 218 = (k_218, 4) := rfl
theorem o_218 : okc k_218 = true := by decide +kernel
set_option maxRecDepth 100000 in
theorem e_218 (d : Nat) (a0 : Nat) (a1 : Int32) (a2 : Int32) (h : MHeap) : call (d + 1) 218 [.ref a0, .int a1, .int a2] h = (
  vd none h a0 [12, 172] fun m1 =>
  cI (call d m1 [.ref a0, .int a1] h) fun x3 h2 =>
  if x3 = (0 : Int32) then
  (some (some (.int (-2 : Int32)), h2))
  else
  (cI (call d 166 [.int a2, .int (0 : Int32), .int (1 : Int32)] h2) fun x5 h4 =>
  if x5 = (0 : Int32) then
  (some (some (.int (-7 : Int32)), h4))
  else
  (vd none h4 a0 [12, 217] fun m6 =>
  cI (call d m6 [.ref a0, .int a1, .int (0 : Int32)] h4) fun x8 h7 =>
  if a2 = (1 : Int32) then
  (some (some (.int x8), h7))
  else
  (if x8 = (-1 : Int32) then
  (some (some (.int x8), h7))
  else
  (cI (call d 168 [.int x8] h7) fun x10 h9 =>
  some (some (.int x10), h9)))))) :=
  (call_unr p_218 rfl o_218 rfl [] 38 _ rfl h).trans rfl

theorem p_219 : prg 219 = (k_219, 3) := rfl
theorem o_219 : okc k_219 = true := by decide +kernel
set_option maxRecDepth 100000 in
theorem e_219 (d : Nat) (a0 : Nat) (a1 : Int32) (h : MHeap) : call (d + 1) 219 [.ref a0, .int a1] h = (
  vd none h a0 [12, 172] fun m1 =>
  cI (call d m1 [.ref a0, .int a1] h) fun x3 h2 =>
  if x3 = (0 : Int32) then
  (some (some (.int (-2 : Int32)), h2))
  else
  (vd none h2 a0 [12, 217] fun m4 =>
  cI (call d m4 [.ref a0, .int a1, .int (0 : Int32)] h2) fun x6 h5 =>
  gfI none h5 a0 [12] 2 fun x7 =>
  if x6 = (-1 : Int32) then
  (pfI none h5 a0 [12] 2 (x7 ^^^ (0 : Int32)) fun h8 =>
  if x6 = (-1 : Int32) then
  (some (some (.int (-1 : Int32)), h8))
  else
  (cI (call d 168 [.int x6] h8) fun x10 h9 =>
  some (some (.int x10), h9)))
  else
  (pfI none h5 a0 [12] 2 (x7 ^^^ x6) fun h11 =>
  if x6 = (-1 : Int32) then
  (some (some (.int (-1 : Int32)), h11))
  else
  (cI (call d 168 [.int x6] h11) fun x13 h12 =>
  some (some (.int x13), h12))))) :=
  (call_unr p_219 rfl o_219 rfl [] 47 _ rfl h).trans rfl

theorem p_220 : prg 220 = (k_220, 3) := rfl
theorem o_220 : okc k_220 = true := by decide +kernel
set_option maxRecDepth 100000 in
theorem e_220 (d : Nat) (a0 : Nat) (a1 : Int32) (h : MHeap) : call (d + 1) 220 [.ref a0, .int a1] h = (
  cI (call d 166 [.int a1, .int (0 : Int32), .int (9999 : Int32)] h) fun x2 h1 =>
  if x2 = (0 : Int32) then
  (some (some (.int (-2 : Int32)), h1))
  else
  (ex d 220 16 [sv (.ref a0), sv (.int a1), sv (.int (0 : Int32))] [] h1)) :=
  (call_unr p_220 rfl o_220 rfl [16] 14 _ rfl h).trans rfl
set_option maxRecDepth 100000 in
theorem e_220_16 (d : Nat) (a0 : Nat) (a1 : Int32) (a2 : Int32) (h : MHeap) : ex d 220 16 [sv (.ref a0), sv (.int a1), sv (.int a2)] [] h = (
  if ((1 : Int32) <<< (a2 &&& 31)) < ((a1 + a2) + (1 : Int32)) then
  (ex d 220 16 [sv (.ref a0), sv (.int a1), sv (.int (a2 + (1 : Int32)))] [] h)
  else
  (some (some (.int a2), h))) :=
  (ex_unr p_220 o_220 [16] 18 rfl _ _ h).trans rfl

theorem p_221 : prg 221 = (k_221, 1) := rfl
theorem o_221 : okc k_221 = true := by decide +kernel
set_option maxRecDepth 100000 in
theorem e_221 (d : Nat) (a0 : Int32) (h : MHeap) : call (d + 1) 221 [.int a0] h = (
  if (a0 &&& (a0 - (1 : Int32))) = (0 : Int32) then
  (zr none (1 : Int32) (some (some (.int (1 : Int32)), h)))
  else
  (zr none (0 : Int32) (some (some (.int (0 : Int32)), h)))) :=
  (call_unr p_221 rfl o_221 rfl [] 16 _ rfl h).trans rfl

theorem p_222 : prg 222 = (k_222, 2) := rfl
theorem o_222 : okc k_222 = true := by decide +kernel
set_option maxRecDepth 100000 in
theorem e_222 (d : Nat) (a0 : Nat) (a1 : Int32) (h : MHeap) : call (d + 1) 222 [.ref a0, .int a1] h = (
  cI (call d 166 [.int a1, .int (1 : Int32), .int (99999 : Int32)] h) fun x2 h1 =>
  if x2 = (0 : Int32) then
  (some (some (.int (-2 : Int32)), h1))
  else
  (cI (call d 221 [.int a1] h1) fun x4 h3 =>
  if x4 = (0 : Int32) then
  (some (some (.int (0 : Int32)), h3))
  else
  (some (some (.int (1 : Int32)), h3)))) :=
  (call_unr p_222 rfl o_222 rfl [] 21 _ rfl h).trans rfl

theorem p_223 : prg 223 = (k_223, 3) := rfl
theorem o_223 : okc k_223 = true := by decide +kernel
set_option maxRecDepth 100000 in
theorem e_223 (d : Nat) (a0 : Nat) (h : MHeap) : call (d + 1) 223 [.ref a0] h = (
  ex d 223 4 [sv (.ref a0), sv (.int (0 : Int32)), sv (.int (0 : Int32))] [] h) :=
  (call_unr p_223 rfl o_223 rfl [4] 9 _ rfl h).trans rfl
set_option maxRecDepth 100000 in
theorem e_223_4 (d : Nat) (a0 : Nat) (a1 : Int32) (a2 : Int32) (h : MHeap) : ex d 223 4 [sv (.ref a0), sv (.int a1), sv (.int a2)] [] h = (
  gfI none h a0 [12] 0 fun x1 =>
  if a2 < x1 then
  (gfI none h a0 [12] 2 fun x2 =>
  if ((x2 >>> (a2 &&& 31)) &&& (1 : Int32)) = (1 : Int32) then
  (ex d 223 4 [sv (.ref a0), sv (.int (a1 ^^^ a2)), sv (.int (a2 + (1 : Int32)))] [] h)
  else
  (ex d 223 4 [sv (.ref a0), sv (.int (a1 ^^^ (0 : Int32))), sv (.int (a2 + (1 : Int32)))] [] h))
  else
  (some (some (.int a1), h))) :=
  (ex_unr p_223 o_223 [4] 31 rfl _ _ h).trans rfl

theorem p_224 : prg 224 = (k_224, 1) := rfl
theorem o_224 : okc k_224 = true := by decide +kernel
set_option maxRecDepth 100000 in
theorem e_224 (d : Nat) (a0 : Nat) (h : MHeap) : call (d + 1) 224 [.ref a0] h = (
  gfI none h a0 [12] 0 fun x1 =>
  cI (call d 221 [.int x1] h) fun x3 h2 =>
  if x3 = (0 : Int32) then
  (some (some (.int (-3 : Int32)), h2))
  else
  (vd none h2 a0 [12, 223] fun m4 =>
  cI (call d m4 [.ref a0] h2) fun x6 h5 =>
  some (some (.int x6), h5))) :=
  (call_unr p_224 rfl o_224 rfl [] 15 _ rfl h).trans rfl

theorem p_225 : prg 225 = (k_225, 2) := rfl
theorem o_225 : okc k_225 = true := by decide +kernel
set_option maxRecDepth 100000 in
theorem e_225 (d : Nat) (a0 : Nat) (a1 : Int32) (h : MHeap) : call (d + 1) 225 [.ref a0, .int a1] h = (
  vd none h a0 [12, 169] fun m1 =>
  cI (call d m1 [.ref a0, .int a1] h) fun x3 h2 =>
  if x3 = (0 : Int32) then
  (some (some (.int (-2 : Int32)), h2))
  else
  (gfI none h2 a0 [12] 0 fun x4 =>
  cI (call d 221 [.int x4] h2) fun x6 h5 =>
  if x6 = (0 : Int32) then
  (some (some (.int (-3 : Int32)), h5))
  else
  (vd none h5 a0 [12, 223] fun m7 =>
  cI (call d m7 [.ref a0] h5) fun x9 h8 =>
  some (some (.int (x9 ^^^ a1)), h8)))) :=
  (call_unr p_225 rfl o_225 rfl [] 23 _ rfl h).trans rfl

theorem p_226 : prg 226 = (k_226, 8) := rfl
theorem o_226 : okc k_226 = true := by decide +kernel
set_option maxRecDepth 100000 in
theorem e_226 (d : Nat) (a0 : Nat) (a1 : Int32) (h : MHeap) : call (d + 1) 226 [.ref a0, .int a1] h = (
  cI (call d 166 [.int a1, .int (0 : Int32), .int (2 : Int32)] h) fun x2 h1 =>
  if x2 = (0 : Int32) then
  (some (some (.int (-2 : Int32)), h1))
  else
  (vd none h1 a0 [12, 203] fun m3 =>
  cV (call d m3 [.ref a0] h1) fun h4 =>
  gfI none h4 a0 [12] 2 fun x5 =>
  vd none h4 a0 [12, 204] fun m6 =>
  cI (call d m6 [.ref a0, .int x5] h4) fun x8 h7 =>
  ex d 226 30 [sv (.ref a0), sv (.int a1), sv (.int x8), sv (.int (0 : Int32)), sv (.int (0 : Int32)), none, none, none] [] h7)) :=
  (call_unr p_226 rfl o_226 rfl [30, 126] 23 _ rfl h).trans rfl
set_option maxRecDepth 100000 in
theorem e_226_30 (d : Nat) (a0 : Nat) (a1 : Int32) (a2 : Int32) (a3 : Int32) (a4 : Int32) (a5 : MSl) (a6 : MSl) (a7 : MSl) (h : MHeap) : ex d 226 30 [sv (.ref a0), sv (.int a1), sv (.int a2), sv (.int a3), sv (.int a4), a5, a6, a7] [] h = (
  gfI none h a0 [12] 0 fun x1 =>
  if (a4 + (1 : Int32)) < x1 then
  (gfI none h a0 [12] 2 fun x2 =>
  cI (call d 175 [.int x2, .int a4, .int (a4 + (1 : Int32))] h) fun x4 h3 =>
  vd none h3 a0 [12, 204] fun m5 =>
  cI (call d m5 [.ref a0, .int x4] h3) fun x7 h6 =>
  gfI none h6 a0 [12] 2 fun x8 =>
  if x4 = x8 then
  (if (0 : Int32) = (0 : Int32) then
  (ex d 226 126 [sv (.ref a0), sv (.int a1), sv (.int a2), sv (.int a3), sv (.int a4), sv (.int x4), sv (.int x7), sv (.int (0 : Int32))] [.int (0 : Int32), .int a3] h6)
  else
  (ex d 226 126 [sv (.ref a0), sv (.int a1), sv (.int a2), sv (.int a3), sv (.int a4), sv (.int x4), sv (.int x7), sv (.int (0 : Int32))] [.int ((1 : Int32) <<< (a4 &&& 31)), .int a3] h6))
  else
  (if a1 = (0 : Int32) then
  (if x7 = a2 then
  (if (1 : Int32) = (0 : Int32) then
  (ex d 226 126 [sv (.ref a0), sv (.int a1), sv (.int a2), sv (.int a3), sv (.int a4), sv (.int x4), sv (.int x7), sv (.int (1 : Int32))] [.int (0 : Int32), .int a3] h6)
  else
  (ex d 226 126 [sv (.ref a0), sv (.int a1), sv (.int a2), sv (.int a3), sv (.int a4), sv (.int x4), sv (.int x7), sv (.int (1 : Int32))] [.int ((1 : Int32) <<< (a4 &&& 31)), .int a3] h6))
  else
  (if (0 : Int32) = (0 : Int32) then
  (ex d 226 126 [sv (.ref a0), sv (.int a1), sv (.int a2), sv (.int a3), sv (.int a4), sv (.int x4), sv (.int x7), sv (.int (0 : Int32))] [.int (0 : Int32), .int a3] h6)
  else
  (ex d 226 126 [sv (.ref a0), sv (.int a1), sv (.int a2), sv (.int a3), sv (.int a4), sv (.int x4), sv (.int x7), sv (.int (0 : Int32))] [.int ((1 : Int32) <<< (a4 &&& 31)), .int a3] h6)))
  else
  (if a1 = (1 : Int32) then
  (if x7 = a2 then
  (if (0 : Int32) = (0 : Int32) then
  (ex d 226 126 [sv (.ref a0), sv (.int a1), sv (.int a2), sv (.int a3), sv (.int a4), sv (.int x4), sv (.int x7), sv (.int (0 : Int32))] [.int (0 : Int32), .int a3] h6)
  else
  (ex d 226 126 [sv (.ref a0), sv (.int a1), sv (.int a2), sv (.int a3), sv (.int a4), sv (.int x4), sv (.int x7), sv (.int (0 : Int32))] [.int ((1 : Int32) <<< (a4 &&& 31)), .int a3] h6))
  else
  (if (1 : Int32) = (0 : Int32) then
  (ex d 226 126 [sv (.ref a0), sv (.int a1), sv (.int a2), sv (.int a3), sv (.int a4), sv (.int x4), sv (.int x7), sv (.int (1 : Int32))] [.int (0 : Int32), .int a3] h6)
  else
  (ex d 226 126 [sv (.ref a0), sv (.int a1), sv (.int a2), sv (.int a3), sv (.int a4), sv (.int x4), sv (.int x7), sv (.int (1 : Int32))] [.int ((1 : Int32) <<< (a4 &&& 31)), .int a3] h6)))
  else
  (if x7 = (0 : Int32) then
  (if (1 : Int32) = (0 : Int32) then
  (ex d 226 126 [sv (.ref a0), sv (.int a1), sv (.int a2), sv (.int a3), sv (.int a4), sv (.int x4), sv (.int x7), sv (.int (1 : Int32))] [.int (0 : Int32), .int a3] h6)
  else
  (ex d 226 126 [sv (.ref a0), sv (.int a1), sv (.int a2), sv (.int a3), sv (.int a4), sv (.int x4), sv (.int x7), sv (.int (1 : Int32))] [.int ((1 : Int32) <<< (a4 &&& 31)), .int a3] h6))
  else
  (if (0 : Int32) = (0 : Int32) then
  (ex d 226 126 [sv (.ref a0), sv (.int a1), sv (.int a2), sv (.int a3), sv (.int a4), sv (.int x4), sv (.int x7), sv (.int (0 : Int32))] [.int (0 : Int32), .int a3] h6)
  else
  (ex d 226 126 [sv (.ref a0), sv (.int a1), sv (.int a2), sv (.int a3), sv (.int a4), sv (.int x4), sv (.int x7), sv (.int (0 : Int32))] [.int ((1 : Int32) <<< (a4 &&& 31)), .int a3] h6))))))
  else
  (some (some (.int a3), h))) :=
  (ex_unr p_226 o_226 [30, 126] 117 rfl _ _ h).trans rfl
set_option maxRecDepth 100000 in
theorem e_226_126 (d : Nat) (a0 : Nat) (a1 : Int32) (a2 : Int32) (a3 : Int32) (a4 : Int32) (a5 : Int32) (a6 : Int32) (a7 : Int32) (s0 : Int32) (s1 : Int32) (h : MHeap) : ex d 226 126 [sv (.ref a0), sv (.int a1), sv (.int a2), sv (.int a3), sv (.int a4), sv (.int a5), sv (.int a6), sv (.int a7)] [.int s0, .int s1] h = (
  ex d 226 30 [sv (.ref a0), sv (.int a1), sv (.int a2), sv (.int (s1 ||| s0)), sv (.int (a4 + (1 : Int32))), sv (.int a5), sv (.int a6), sv (.int a7)] [] h) :=
  (ex_unr p_226 o_226 [30, 126] 9 rfl _ _ h).trans rfl

theorem p_227 : prg 227 = (k_227, 7) := rfl
theorem o_227 : okc k_227 = true := by decide +kernel
set_option maxRecDepth 100000 in
theorem e_227 (d : Nat) (a0 : Nat) (a1 : Int32) (a2 : Int32) (h : MHeap) : call (d + 1) 227 [.ref a0, .int a1, .int a2] h = (
  gfI none h a0 [12] 0 fun x1 =>
  gfI none h a0 [12] 1 fun x2 =>
  dv none x2 <|
  cI (call d 166 [.int a1, .int (0 : Int32), .int ((x1 - (1 : Int32)) / x2)] h) fun x4 h3 =>
  if x4 = (0 : Int32) then
  (some (some (.int (-5 : Int32)), h3))
  else
  (cI (call d 166 [.int a2, .int (0 : Int32), .int (2 : Int32)] h3) fun x6 h5 =>
  if x6 = (0 : Int32) then
  (some (some (.int (-7 : Int32)), h5))
  else
  (vd none h5 a0 [12, 203] fun m7 =>
  cV (call d m7 [.ref a0] h5) fun h8 =>
  ex d 227 43 [sv (.ref a0), sv (.int a1), sv (.int a2), sv (.int (0 : Int32)), sv (.int (0 : Int32)), none, none] [] h8))) :=
  (call_unr p_227 rfl o_227 rfl [43, 89] 31 _ rfl h).trans rfl
set_option maxRecDepth 100000 in
theorem e_227_43 (d : Nat) (a0 : Nat) (a1 : Int32) (a2 : Int32) (a3 : Int32) (a4 : Int32) (h : MHeap) : ex d 227 43 [sv (.ref a0), sv (.int a1), sv (.int a2), sv (.int a3), sv (.int a4), none, none] [] h = (
  gfI none h a0 [12] 0 fun x1 =>
  if a4 < x1 then
  (gfI none h a0 [12] 1 fun x2 =>
  dv none x2 <|
  if (a4 / x2) = a1 then
  (ex d 227 43 [sv (.ref a0), sv (.int a1), sv (.int a2), sv (.int (a3 ||| ((1 : Int32) <<< (a4 &&& 31)))), sv (.int (a4 + (1 : Int32))), none, none] [] h)
  else
  (ex d 227 43 [sv (.ref a0), sv (.int a1), sv (.int a2), sv (.int (a3 ||| (0 : Int32))), sv (.int (a4 + (1 : Int32))), none, none] [] h))
  else
  (ex d 227 89 [sv (.ref a0), sv (.int a1), sv (.int a2), sv (.int a3), sv (.int (0 : Int32)), sv (.int (-1 : Int32)), sv (.int (0 : Int32))] [] h)) :=
  (ex_unr p_227 o_227 [43, 89] 35 rfl _ _ h).trans rfl
set_option maxRecDepth 100000 in
theorem e_227_89 (d : Nat) (a0 : Nat) (a1 : Int32) (a2 : Int32) (a3 : Int32) (a4 : Int32) (a5 : Int32) (a6 : Int32) (h : MHeap) : ex d 227 89 [sv (.ref a0), sv (.int a1), sv (.int a2), sv (.int a3), sv (.int a4), sv (.int a5), sv (.int a6)] [] h = (
  vd none h a0 [12, 171] fun m1 =>
  cI (call d m1 [.ref a0] h) fun x3 h2 =>
  if x3 < a6 then
  (if a2 = (0 : Int32) then
  (some (some (.int a4), h2))
  else
  (if a2 = (1 : Int32) then
  (some (some (.int a5), h2))
  else
  (if a4 = (1 : Int32) then
  (gfI none h2 a0 [12] 2 fun x4 =>
  if a5 = (x4 &&& a3) then
  (some (some (.int (1 : Int32)), h2))
  else
  (some (some (.int (0 : Int32)), h2)))
  else
  (some (some (.int (0 : Int32)), h2)))))
  else
  (if (a6 &&& (a3 ^^^ (-1 : Int32))) = (0 : Int32) then
  (gfI none h2 a0 [12] 2 fun x5 =>
  vd none h2 a0 [12, 209] fun m6 =>
  cI (call d m6 [.ref a0, .int ((x5 &&& (a3 ^^^ (-1 : Int32))) ||| a6)] h2) fun x8 h7 =>
  if x8 = (0 : Int32) then
  (ex d 227 89 [sv (.ref a0), sv (.int a1), sv (.int a2), sv (.int a3), sv (.int a4), sv (.int a5), sv (.int (a6 + (1 : Int32)))] [] h7)
  else
  (if a5 = (-1 : Int32) then
  (ex d 227 89 [sv (.ref a0), sv (.int a1), sv (.int a2), sv (.int a3), sv (.int (a4 + (1 : Int32))), sv (.int a6), sv (.int (a6 + (1 : Int32)))] [] h7)
  else
  (ex d 227 89 [sv (.ref a0), sv (.int a1), sv (.int a2), sv (.int a3), sv (.int (a4 + (1 : Int32))), sv (.int a5), sv (.int (a6 + (1 : Int32)))] [] h7)))
  else
  (ex d 227 89 [sv (.ref a0), sv (.int a1), sv (.int a2), sv (.int a3), sv (.int a4), sv (.int a5), sv (.int (a6 + (1 : Int32)))] [] h2))) :=
  (ex_unr p_227 o_227 [43, 89] 70 rfl _ _ h).trans rfl

theorem p_228 : prg 228 = (k_228, 2) := rfl
theorem o_228 : okc k_228 = true := by decide +kernel
set_option maxRecDepth 100000 in
theorem e_228 (d : Nat) (a0 : Nat) (a1 : Int32) (h : MHeap) : call (d + 1) 228 [.ref a0, .int a1] h = (
  gfI none h a0 [12] 2 fun x1 =>
  gfI none h a0 [12] 2 fun x2 =>
  gfI none h a0 [12] 0 fun x3 =>
  vd none h a0 [12, 171] fun m4 =>
  cI (call d m4 [.ref a0] h) fun x6 h5 =>
  some (some (.int (((x1 >>> (a1 &&& 31)) ||| (x2 <<< ((x3 - a1) &&& 31))) &&& x6)), h5)) :=
  (call_unr p_228 rfl o_228 rfl [] 21 _ rfl h).trans rfl

theorem p_229 : prg 229 = (k_229, 2) := rfl
theorem o_229 : okc k_229 = true := by decide +kernel
set_option maxRecDepth 100000 in
theorem e_229 (d : Nat) (a0 : Nat) (a1 : Int32) (h : MHeap) : call (d + 1) 229 [.ref a0, .int a1] h = (
  vd none h a0 [12, 169] fun m1 =>
  cI (call d m1 [.ref a0, .int a1] h) fun x3 h2 =>
  if x3 = (0 : Int32) then
  (some (some (.int (-2 : Int32)), h2))
  else
  (vd none h2 a0 [12, 228] fun m4 =>
  cI (call d m4 [.ref a0, .int a1] h2) fun x6 h5 =>
  pfI none h5 a0 [12] 2 x6 fun h7 =>
  gfI none h7 a0 [12] 2 fun x8 =>
  some (some (.int x8), h7))) :=
  (call_unr p_229 rfl o_229 rfl [] 19 _ rfl h).trans rfl

theorem p_230 : prg 230 = (k_230, 7) := rfl
theorem o_230 : okc k_230 = true := by decide +kernel
set_option maxRecDepth 100000 in
theorem e_230 (d : Nat) (a0 : Nat) (a1 : Int32) (h : MHeap) : call (d + 1) 230 [.ref a0, .int a1] h = (
  cI (call d 166 [.int a1, .int (0 : Int32), .int (2 : Int32)] h) fun x2 h1 =>
  if x2 = (0 : Int32) then
  (some (some (.int (-2 : Int32)), h1))
  else
  (vd none h1 a0 [12, 203] fun m3 =>
  cV (call d m3 [.ref a0] h1) fun h4 =>
  gfI none h4 a0 [12] 2 fun x5 =>
  vd none h4 a0 [12, 204] fun m6 =>
  cI (call d m6 [.ref a0, .int x5] h4) fun x8 h7 =>
  ex d 230 30 [sv (.ref a0), sv (.int a1), sv (.int x8), sv (.int (0 : Int32)), sv (.int (1 : Int32)), none, none] [] h7)) :=
  (call_unr p_230 rfl o_230 rfl [30] 23 _ rfl h).trans rfl
set_option maxRecDepth 100000 in
theorem e_230_30 (d : Nat) (a0 : Nat) (a1 : Int32) (a2 : Int32) (a3 : Int32) (a4 : Int32) (a5 : MSl) (a6 : MSl) (h : MHeap) : ex d 230 30 [sv (.ref a0), sv (.int a1), sv (.int a2), sv (.int a3), sv (.int a4), a5, a6] [] h = (
  gfI none h a0 [12] 0 fun x1 =>
  if a4 < x1 then
  (vd none h a0 [12, 228] fun m2 =>
  cI (call d m2 [.ref a0, .int a4] h) fun x4 h3 =>
  if a1 = (0 : Int32) then
  (vd none h3 a0 [12, 204] fun m5 =>
  cI (call d m5 [.ref a0, .int x4] h3) fun x7 h6 =>
  if x7 = a2 then
  (if (1 : Int32) = (0 : Int32) then
  (ex d 230 30 [sv (.ref a0), sv (.int a1), sv (.int a2), sv (.int (a3 ||| (0 : Int32))), sv (.int (a4 + (1 : Int32))), sv (.int x4), sv (.int (1 : Int32))] [] h6)
  else
  (ex d 230 30 [sv (.ref a0), sv (.int a1), sv (.int a2), sv (.int (a3 ||| ((1 : Int32) <<< (a4 &&& 31)))), sv (.int (a4 + (1 : Int32))), sv (.int x4), sv (.int (1 : Int32))] [] h6))
  else
  (if (0 : Int32) = (0 : Int32) then
  (ex d 230 30 [sv (.ref a0), sv (.int a1), sv (.int a2), sv (.int (a3 ||| (0 : Int32))), sv (.int (a4 + (1 : Int32))), sv (.int x4), sv (.int (0 : Int32))] [] h6)
  else
  (ex d 230 30 [sv (.ref a0), sv (.int a1), sv (.int a2), sv (.int (a3 ||| ((1 : Int32) <<< (a4 &&& 31)))), sv (.int (a4 + (1 : Int32))), sv (.int x4), sv (.int (0 : Int32))] [] h6)))
  else
  (if a1 = (1 : Int32) then
  (vd none h3 a0 [12, 209] fun m8 =>
  cI (call d m8 [.ref a0, .int x4] h3) fun x10 h9 =>
  if x10 = (0 : Int32) then
  (ex d 230 30 [sv (.ref a0), sv (.int a1), sv (.int a2), sv (.int (a3 ||| (0 : Int32))), sv (.int (a4 + (1 : Int32))), sv (.int x4), sv (.int x10)] [] h9)
  else
  (ex d 230 30 [sv (.ref a0), sv (.int a1), sv (.int a2), sv (.int (a3 ||| ((1 : Int32) <<< (a4 &&& 31)))), sv (.int (a4 + (1 : Int32))), sv (.int x4), sv (.int x10)] [] h9))
  else
  (gfI none h3 a0 [12] 2 fun x11 =>
  if x4 = x11 then
  (if (1 : Int32) = (0 : Int32) then
  (ex d 230 30 [sv (.ref a0), sv (.int a1), sv (.int a2), sv (.int (a3 ||| (0 : Int32))), sv (.int (a4 + (1 : Int32))), sv (.int x4), sv (.int (1 : Int32))] [] h3)
  else
  (ex d 230 30 [sv (.ref a0), sv (.int a1), sv (.int a2), sv (.int (a3 ||| ((1 : Int32) <<< (a4 &&& 31)))), sv (.int (a4 + (1 : Int32))), sv (.int x4), sv (.int (1 : Int32))] [] h3))
  else
  (if (0 : Int32) = (0 : Int32) then
  (ex d 230 30 [sv (.ref a0), sv (.int a1), sv (.int a2), sv (.int (a3 ||| (0 : Int32))), sv (.int (a4 + (1 : Int32))), sv (.int x4), sv (.int (0 : Int32))] [] h3)
  else
  (ex d 230 30 [sv (.ref a0), sv (.int a1), sv (.int a2), sv (.int (a3 ||| ((1 : Int32) <<< (a4 &&& 31)))), sv (.int (a4 + (1 : Int32))), sv (.int x4), sv (.int (0 : Int32))] [] h3)))))
  else
  (some (some (.int a3), h))) :=
  (ex_unr p_230 o_230 [30] 125 rfl _ _ h).trans rfl

theorem p_231 : prg 231 = (k_231, 5) := rfl
theorem o_231 : okc k_231 = true := by decide +kernel
set_option maxRecDepth 100000 in
theorem e_231 (d : Nat) (a0 : Nat) (a1 : Int32) (a2 : Int32) (h : MHeap) : call (d + 1) 231 [.ref a0, .int a1, .int a2] h = (
  gfI none h a0 [12] 2 fun x1 =>
  gfI none h a0 [12] 2 fun x2 =>
  gfI none h a0 [12] 2 fun x3 =>
  some (some (.int (((((x2 &&& (((1 : Int32) <<< (a1 &&& 31)) - (1 : Int32))) ||| ((x3 >>> ((a1 + (1 : Int32)) &&& 31)) <<< (a1 &&& 31))) &&& (((1 : Int32) <<< (a2 &&& 31)) - (1 : Int32))) ||| (((x1 >>> (a1 &&& 31)) &&& (1 : Int32)) <<< (a2 &&& 31))) ||| ((((x2 &&& (((1 : Int32) <<< (a1 &&& 31)) - (1 : Int32))) ||| ((x3 >>> ((a1 + (1 : Int32)) &&& 31)) <<< (a1 &&& 31))) >>> (a2 &&& 31)) <<< ((a2 + (1 : Int32)) &&& 31)))), h)) :=
  (call_unr p_231 rfl o_231 rfl [] 50 _ rfl h).trans rfl

theorem p_232 : prg 232 = (k_232, 3) := rfl
theorem o_232 : okc k_232 = true := by decide +kernel
set_option maxRecDepth 100000 in
theorem e_232 (d : Nat) (a0 : Nat) (a1 : Int32) (a2 : Int32) (h : MHeap) : call (d + 1) 232 [.ref a0, .int a1, .int a2] h = (
  vd none h a0 [12, 169] fun m1 =>
  cI (call d m1 [.ref a0, .int a1] h) fun x3 h2 =>
  if x3 = (0 : Int32) then
  (some (some (.int (-5 : Int32)), h2))
  else
  (vd none h2 a0 [12, 169] fun m4 =>
  cI (call d m4 [.ref a0, .int a2] h2) fun x6 h5 =>
  if x6 = (0 : Int32) then
  (some (some (.int (-5 : Int32)), h5))
  else
  (vd none h5 a0 [12, 231] fun m7 =>
  cI (call d m7 [.ref a0, .int a1, .int a2] h5) fun x9 h8 =>
  pfI none h8 a0 [12] 2 x9 fun h10 =>
  gfI none h10 a0 [12] 2 fun x11 =>
  some (some (.int x11), h10)))) :=
  (call_unr p_232 rfl o_232 rfl [] 26 _ rfl h).trans rfl

theorem p_233 : prg 233 = (k_233, 8) := rfl
theorem o_233 : okc k_233 = true := by decide +kernel
set_option maxRecDepth 100000 in
theorem e_233 (d : Nat) (a0 : Nat) (a1 : Int32) (h : MHeap) : call (d + 1) 233 [.ref a0, .int a1] h = (
  cI (call d 166 [.int a1, .int (0 : Int32), .int (1 : Int32)] h) fun x2 h1 =>
  if x2 = (0 : Int32) then
  (some (some (.int (-2 : Int32)), h1))
  else
  (vd none h1 a0 [12, 203] fun m3 =>
  cV (call d m3 [.ref a0] h1) fun h4 =>
  gfI none h4 a0 [12] 2 fun x5 =>
  vd none h4 a0 [12, 204] fun m6 =>
  cI (call d m6 [.ref a0, .int x5] h4) fun x8 h7 =>
  ex d 233 30 [sv (.ref a0), sv (.int a1), sv (.int x8), sv (.int (0 : Int32)), sv (.int (0 : Int32)), none, none, none] [] h7)) :=
  (call_unr p_233 rfl o_233 rfl [30, 42] 23 _ rfl h).trans rfl
set_option maxRecDepth 100000 in
theorem e_233_30 (d : Nat) (a0 : Nat) (a1 : Int32) (a2 : Int32) (a3 : Int32) (a4 : Int32) (a5 : MSl) (a6 : MSl) (a7 : MSl) (h : MHeap) : ex d 233 30 [sv (.ref a0), sv (.int a1), sv (.int a2), sv (.int a3), sv (.int a4), a5, a6, a7] [] h = (
  gfI none h a0 [12] 0 fun x1 =>
  if a4 < x1 then
  (ex d 233 42 [sv (.ref a0), sv (.int a1), sv (.int a2), sv (.int a3), sv (.int a4), sv (.int (0 : Int32)), a6, a7] [] h)
  else
  (some (some (.int a3), h))) :=
  (ex_unr p_233 o_233 [30, 42] 13 rfl _ _ h).trans rfl
set_option maxRecDepth 100000 in
theorem e_233_42 (d : Nat) (a0 : Nat) (a1 : Int32) (a2 : Int32) (a3 : Int32) (a4 : Int32) (a5 : Int32) (a6 : MSl) (a7 : MSl) (h : MHeap) : ex d 233 42 [sv (.ref a0), sv (.int a1), sv (.int a2), sv (.int a3), sv (.int a4), sv (.int a5), a6, a7] [] h = (
  gfI none h a0 [12] 0 fun x1 =>
  if a5 < x1 then
  (vd none h a0 [12, 231] fun m2 =>
  cI (call d m2 [.ref a0, .int a4, .int a5] h) fun x4 h3 =>
  vd none h3 a0 [12, 204] fun m5 =>
  cI (call d m5 [.ref a0, .int x4] h3) fun x7 h6 =>
  if x7 = a2 then
  (if a1 = (0 : Int32) then
  (if (1 : Int32) = (0 : Int32) then
  (ex d 233 42 [sv (.ref a0), sv (.int a1), sv (.int a2), sv (.int (a3 + (1 : Int32))), sv (.int a4), sv (.int (a5 + (1 : Int32))), sv (.int x4), sv (.int (1 : Int32))] [] h6)
  else
  (ex d 233 42 [sv (.ref a0), sv (.int a1), sv (.int a2), sv (.int (a3 + (0 : Int32))), sv (.int a4), sv (.int (a5 + (1 : Int32))), sv (.int x4), sv (.int (1 : Int32))] [] h6))
  else
  (if (1 : Int32) = (0 : Int32) then
  (ex d 233 42 [sv (.ref a0), sv (.int a1), sv (.int a2), sv (.int (a3 + (0 : Int32))), sv (.int a4), sv (.int (a5 + (1 : Int32))), sv (.int x4), sv (.int (1 : Int32))] [] h6)
  else
  (gfI none h6 a0 [12] 2 fun x8 =>
  if x4 = x8 then
  (ex d 233 42 [sv (.ref a0), sv (.int a1), sv (.int a2), sv (.int (a3 + (0 : Int32))), sv (.int a4), sv (.int (a5 + (1 : Int32))), sv (.int x4), sv (.int (1 : Int32))] [] h6)
  else
  (ex d 233 42 [sv (.ref a0), sv (.int a1), sv (.int a2), sv (.int (a3 + (1 : Int32))), sv (.int a4), sv (.int (a5 + (1 : Int32))), sv (.int x4), sv (.int (1 : Int32))] [] h6))))
  else
  (if a1 = (0 : Int32) then
  (if (0 : Int32) = (0 : Int32) then
  (ex d 233 42 [sv (.ref a0), sv (.int a1), sv (.int a2), sv (.int (a3 + (1 : Int32))), sv (.int a4), sv (.int (a5 + (1 : Int32))), sv (.int x4), sv (.int (0 : Int32))] [] h6)
  else
  (ex d 233 42 [sv (.ref a0), sv (.int a1), sv (.int a2), sv (.int (a3 + (0 : Int32))), sv (.int a4), sv (.int (a5 + (1 : Int32))), sv (.int x4), sv (.int (0 : Int32))] [] h6))
  else
  (if (0 : Int32) = (0 : Int32) then
  (ex d 233 42 [sv (.ref a0), sv (.int a1), sv (.int a2), sv (.int (a3 + (0 : Int32))), sv (.int a4), sv (.int (a5 + (1 : Int32))), sv (.int x4), sv (.int (0 : Int32))] [] h6)
  else
  (gfI none h6 a0 [12] 2 fun x9 =>
  if x4 = x9 then
  (ex d 233 42 [sv (.ref a0), sv (.int a1), sv (.int a2), sv (.int (a3 + (0 : Int32))), sv (.int a4), sv (.int (a5 + (1 : Int32))), sv (.int x4), sv (.int (0 : Int32))] [] h6)
  else
  (ex d 233 42 [sv (.ref a0), sv (.int a1), sv (.int a2), sv (.int (a3 + (1 : Int32))), sv (.int a4), sv (.int (a5 + (1 : Int32))), sv (.int x4), sv (.int (0 : Int32))] [] h6)))))
  else
  (ex d 233 30 [sv (.ref a0), sv (.int a1), sv (.int a2), sv (.int a3), sv (.int (a4 + (1 : Int32))), sv (.int a5), a6, a7] [] h)) :=
  (ex_unr p_233 o_233 [30, 42] 104 rfl _ _ h).trans rfl

theorem p_234 : prg 234 = (k_234, 4) := rfl
theorem o_234 : okc k_234 = true := by decide +kernel
set_option maxRecDepth 100000 in
theorem e_234 (d : Nat) (a0 : Nat) (a1 : Int32) (a2 : Int32) (a3 : Int32) (h : MHeap) : call (d + 1) 234 [.ref a0, .int a1, .int a2, .int a3] h = (
  if (0 : Int32) < a2 then
  (vd none h a0 [12, 209] fun m1 =>
  cI (call d m1 [.ref a0, .int a3] h) fun x3 h2 =>
  if x3 = (0 : Int32) then
  (some (none, h2))
  else
  (gfI none h2 a0 [12] 37 fun x4 =>
  if x4 < a2 then
  (pfI none h2 a0 [12] 36 a1 fun h5 =>
  gfI none h5 a0 [12] 37 fun x6 =>
  if x6 < a2 then
  (pfI none h5 a0 [12] 37 a2 fun h7 =>
  gfI none h7 a0 [12] 38 fun x8 =>
  pfI none h7 a0 [12] 38 (x8 + a2) fun h9 =>
  some (none, h9))
  else
  (gfI none h5 a0 [12] 37 fun x10 =>
  pfI none h5 a0 [12] 37 x10 fun h11 =>
  gfI none h11 a0 [12] 38 fun x12 =>
  pfI none h11 a0 [12] 38 (x12 + a2) fun h13 =>
  some (none, h13)))
  else
  (gfI none h2 a0 [12] 36 fun x14 =>
  pfI none h2 a0 [12] 36 x14 fun h15 =>
  gfI none h15 a0 [12] 37 fun x16 =>
  if x16 < a2 then
  (pfI none h15 a0 [12] 37 a2 fun h17 =>
  gfI none h17 a0 [12] 38 fun x18 =>
  pfI none h17 a0 [12] 38 (x18 + a2) fun h19 =>
  some (none, h19))
  else
  (gfI none h15 a0 [12] 37 fun x20 =>
  pfI none h15 a0 [12] 37 x20 fun h21 =>
  gfI none h21 a0 [12] 38 fun x22 =>
  pfI none h21 a0 [12] 38 (x22 + a2) fun h23 =>
  some (none, h23)))))
  else
  (some (none, h))) :=
  (call_unr p_234 rfl o_234 rfl [] 74 _ rfl h).trans rfl

theorem p_235 : prg 235 = (k_235, 3) := rfl
theorem o_235 : okc k_235 = true := by decide +kernel
set_option maxRecDepth 100000 in
theorem e_235 (d : Nat) (a0 : Nat) (h : MHeap) : call (d + 1) 235 [.ref a0] h = (
  vd none h a0 [12, 203] fun m1 =>
  cV (call d m1 [.ref a0] h) fun h2 =>
  pfI none h2 a0 [12] 36 (-1 : Int32) fun h3 =>
  pfI none h3 a0 [12] 37 (0 : Int32) fun h4 =>
  pfI none h4 a0 [12] 38 (0 : Int32) fun h5 =>
  gfI none h5 a0 [12] 2 fun x6 =>
  vd none h5 a0 [12, 234] fun m7 =>
  cV (call d m7 [.ref a0, .int (0 : Int32), .int (100 : Int32), .int x6] h5) fun h8 =>
  ex d 235 32 [sv (.ref a0), sv (.int (0 : Int32)), none] [] h8) :=
  (call_unr p_235 rfl o_235 rfl [32, 69] 24 _ rfl h).trans rfl
set_option maxRecDepth 100000 in
theorem e_235_32 (d : Nat) (a0 : Nat) (a1 : Int32) (h : MHeap) : ex d 235 32 [sv (.ref a0), sv (.int a1), none] [] h = (
  gfI none h a0 [12] 0 fun x1 =>
  if a1 < x1 then
  (vd none h a0 [12, 194] fun m2 =>
  cI (call d m2 [.ref a0, .int (0 : Int32), .int a1] h) fun x4 h3 =>
  gfI none h3 a0 [12] 2 fun x5 =>
  vd none h3 a0 [12, 234] fun m6 =>
  cV (call d m6 [.ref a0, .int ((1 : Int32) + a1), .int x4, .int (x5 ^^^ ((1 : Int32) <<< (a1 &&& 31)))] h3) fun h7 =>
  ex d 235 32 [sv (.ref a0), sv (.int (a1 + (1 : Int32))), none] [] h7)
  else
  (ex d 235 69 [sv (.ref a0), sv (.int (0 : Int32)), none] [] h)) :=
  (ex_unr p_235 o_235 [32, 69] 28 rfl _ _ h).trans rfl
set_option maxRecDepth 100000 in
theorem e_235_69 (d : Nat) (a0 : Nat) (a1 : Int32) (a2 : MSl) (h : MHeap) : ex d 235 69 [sv (.ref a0), sv (.int a1), a2] [] h = (
  gfI none h a0 [12] 0 fun x1 =>
  if (a1 + (1 : Int32)) < x1 then
  (gfI none h a0 [12] 2 fun x2 =>
  cI (call d 175 [.int x2, .int a1, .int (a1 + (1 : Int32))] h) fun x4 h3 =>
  gfI none h3 a0 [12] 2 fun x5 =>
  if x4 = x5 then
  (ex d 235 69 [sv (.ref a0), sv (.int (a1 + (1 : Int32))), sv (.int x4)] [] h3)
  else
  (vd none h3 a0 [12, 194] fun m6 =>
  cI (call d m6 [.ref a0, .int (1 : Int32), .int a1] h3) fun x8 h7 =>
  vd none h7 a0 [12, 234] fun m9 =>
  cV (call d m9 [.ref a0, .int ((21 : Int32) + a1), .int x8, .int x4] h7) fun h10 =>
  ex d 235 69 [sv (.ref a0), sv (.int (a1 + (1 : Int32))), sv (.int x4)] [] h10))
  else
  (some (none, h))) :=
  (ex_unr p_235 o_235 [32, 69] 38 rfl _ _ h).trans rfl

theorem p_236 : prg 236 = (k_236, 2) := rfl
theorem o_236 : okc k_236 = true := by decide +kernel
set_option maxRecDepth 100000 in
theorem e_236 (d : Nat) (a0 : Nat) (a1 : Int32) (h : MHeap) : call (d + 1) 236 [.ref a0, .int a1] h = (
  cI (call d 166 [.int a1, .int (0 : Int32), .int (2 : Int32)] h) fun x2 h1 =>
  if x2 = (0 : Int32) then
  (some (some (.int (-2 : Int32)), h1))
  else
  (vd none h1 a0 [12, 235] fun m3 =>
  cV (call d m3 [.ref a0] h1) fun h4 =>
  if a1 = (0 : Int32) then
  (gfI none h4 a0 [12] 36 fun x5 =>
  some (some (.int x5), h4))
  else
  (if a1 = (1 : Int32) then
  (gfI none h4 a0 [12] 37 fun x6 =>
  some (some (.int x6), h4))
  else
  (gfI none h4 a0 [12] 38 fun x7 =>
  some (some (.int x7), h4))))) :=
  (call_unr p_236 rfl o_236 rfl [] 30 _ rfl h).trans rfl

theorem p_237 : prg 237 = (k_237, 11) := rfl
theorem o_237 : okc k_237 = true := by decide +kernel
set_option maxRecDepth 100000 in
theorem e_237 (d : Nat) (a0 : Int64) (a2 : Int64) (a4 : Int32) (h : MHeap) : call (d + 1) 237 [.long a0, .long a2, .int a4] h = (
  if (if a0 = (0 : Int64) then 0 else if a0 < (0 : Int64) then -1 else 1 : Int32) = (0 : Int32) then
  (some (some (.long (Int32.toInt64 a4)), h))
  else
  (ex d 237 16 [sy a0, none, sy a2, none, sv (.int a4), sy a0, none, sy a2, none, none, none] [] h)) :=
  (call_unr p_237 rfl o_237 rfl [16] 16 _ rfl h).trans rfl
set_option maxRecDepth 100000 in
theorem e_237_16 (d : Nat) (a0 : Int64) (a2 : Int64) (a4 : Int32) (a5 : Int64) (a7 : Int64) (a9 : MSl) (h : MHeap) : ex d 237 16 [sy a0, none, sy a2, none, sv (.int a4), sy a5, none, sy a7, none, a9, none] [] h = (
  if (if a7 = (0 : Int64) then 0 else if a7 < (0 : Int64) then -1 else 1 : Int32) = (0 : Int32) then
  (if a4 = (0 : Int32) then
  (dvL none a5 <|
  some (some (.long (a0 / a5)), h))
  else
  (dvL none a5 <|
  some (some (.long (a2 / a5)), h)))
  else
  (dvL none a7 <|
  ex d 237 16 [sy a0, none, sy a2, none, sv (.int a4), sy a7, none, sy (a5 - a5 / a7 * a7), none, sy (a5 - a5 / a7 * a7), none] [] h)) :=
  (ex_unr p_237 o_237 [16] 29 rfl _ _ h).trans rfl

theorem p_238 : prg 238 = (k_238, 2) := rfl
theorem o_238 : okc k_238 = true := by decide +kernel
set_option maxRecDepth 100000 in
theorem e_238 (d : Nat) (a0 : Nat) (a1 : Int32) (h : MHeap) : call (d + 1) 238 [.ref a0, .int a1] h = (
  cI (call d 166 [.int a1, .int (0 : Int32), .int (1 : Int32)] h) fun x2 h1 =>
  if x2 = (0 : Int32) then
  (some (some (.long (-4611686018427387904 : Int64)), h1))
  else
  (vd none h1 a0 [12, 235] fun m3 =>
  cV (call d m3 [.ref a0] h1) fun h4 =>
  gfI none h4 a0 [12] 38 fun x5 =>
  if x5 = (0 : Int32) then
  (some (some (.long (-4611686018427387904 : Int64)), h4))
  else
  (gfI none h4 a0 [12] 37 fun x6 =>
  gfI none h4 a0 [12] 38 fun x7 =>
  cJ (call d 237 [.long (Int32.toInt64 x6), .long (Int32.toInt64 x7), .int a1] h4) fun y9 h8 =>
  some (some (.long y9), h8)))) :=
  (call_unr p_238 rfl o_238 rfl [] 29 _ rfl h).trans rfl

theorem p_239 : prg 239 = (k_239, 6) := rfl
theorem o_239 : okc k_239 = true := by decide +kernel
set_option maxRecDepth 100000 in
theorem e_239 (d : Nat) (a0 : Nat) (a1 : Int32) (h : MHeap) : call (d + 1) 239 [.ref a0, .int a1] h = (
  cI (call d 166 [.int a1, .int (0 : Int32), .int (1 : Int32)] h) fun x2 h1 =>
  if x2 = (0 : Int32) then
  (some (some (.int (-2 : Int32)), h1))
  else
  (vd none h1 a0 [12, 211] fun m3 =>
  cI (call d m3 [.ref a0] h1) fun x5 h4 =>
  ex d 239 25 [sv (.ref a0), sv (.int a1), sv (.int x5), sv (.int (-1 : Int32)), sv (.int (0 : Int32)), sv (.int (0 : Int32))] [] h4)) :=
  (call_unr p_239 rfl o_239 rfl [25] 21 _ rfl h).trans rfl
set_option maxRecDepth 100000 in
theorem e_239_25 (d : Nat) (a0 : Nat) (a1 : Int32) (a2 : Int32) (a3 : Int32) (a4 : Int32) (a5 : Int32) (h : MHeap) : ex d 239 25 [sv (.ref a0), sv (.int a1), sv (.int a2), sv (.int a3), sv (.int a4), sv (.int a5)] [] h = (
  gfI none h a0 [12] 0 fun x1 =>
  if a5 < x1 then
  (if ((a2 >>> (a5 &&& 31)) &&& (1 : Int32)) = (1 : Int32) then
  (if a3 = (-1 : Int32) then
  (vd none h a0 [12, 194] fun m2 =>
  cI (call d m2 [.ref a0, .int (2 : Int32), .int a5] h) fun x4 h3 =>
  ex d 239 25 [sv (.ref a0), sv (.int a1), sv (.int a2), sv (.int a5), sv (.int (a4 + x4)), sv (.int (a5 + (1 : Int32)))] [] h3)
  else
  (vd none h a0 [12, 194] fun m5 =>
  cI (call d m5 [.ref a0, .int (2 : Int32), .int a5] h) fun x7 h6 =>
  vd none h6 a0 [12, 194] fun m8 =>
  cI (call d m8 [.ref a0, .int (2 : Int32), .int a3] h6) fun x10 h9 =>
  if x7 < x10 then
  (vd none h9 a0 [12, 194] fun m11 =>
  cI (call d m11 [.ref a0, .int (2 : Int32), .int a5] h9) fun x13 h12 =>
  ex d 239 25 [sv (.ref a0), sv (.int a1), sv (.int a2), sv (.int a5), sv (.int (a4 + x13)), sv (.int (a5 + (1 : Int32)))] [] h12)
  else
  (vd none h9 a0 [12, 194] fun m14 =>
  cI (call d m14 [.ref a0, .int (2 : Int32), .int a5] h9) fun x16 h15 =>
  ex d 239 25 [sv (.ref a0), sv (.int a1), sv (.int a2), sv (.int a3), sv (.int (a4 + x16)), sv (.int (a5 + (1 : Int32)))] [] h15)))
  else
  (ex d 239 25 [sv (.ref a0), sv (.int a1), sv (.int a2), sv (.int a3), sv (.int a4), sv (.int (a5 + (1 : Int32)))] [] h))
  else
  (if a1 = (0 : Int32) then
  (some (some (.int a3), h))
  else
  (some (some (.int a4), h)))) :=
  (ex_unr p_239 o_239 [25] 72 rfl _ _ h).trans rfl

theorem p_240 : prg 240 = (k_240, 6) := rfl
theorem o_240 : okc k_240 = true := by decide +kernel
set_option maxRecDepth 100000 in
theorem e_240 (d : Nat) (a0 : Nat) (h : MHeap) : call (d + 1) 240 [.ref a0] h = (
  vd none h a0 [12, 203] fun m1 =>
  cV (call d m1 [.ref a0] h) fun h2 =>
  ex d 240 8 [sv (.ref a0), sv (.int (0 : Int32)), sv (.int (0 : Int32)), none, none, none] [] h2) :=
  (call_unr p_240 rfl o_240 rfl [8, 48] 11 _ rfl h).trans rfl
set_option maxRecDepth 100000 in
theorem e_240_8 (d : Nat) (a0 : Nat) (a1 : Int32) (a2 : Int32) (a3 : MSl) (a4 : MSl) (a5 : MSl) (h : MHeap) : ex d 240 8 [sv (.ref a0), sv (.int a1), sv (.int a2), a3, a4, a5] [] h = (
  gfI none h a0 [12] 3 fun x1 =>
  if a2 < x1 then
  (gfI none h a0 [12] 2 fun x2 =>
  vd none h a0 [12, 204] fun m3 =>
  cI (call d m3 [.ref a0, .int x2] h) fun x5 h4 =>
  if (x5 &&& (((15 : Int32) <<< (((4 : Int32) * a2) &&& 31)) ^^^ (-1 : Int32))) = (0 : Int32) then
  (ex d 240 48 [sv (.ref a0), sv (.int a1), sv (.int a2), sv (.int (((15 : Int32) <<< (((4 : Int32) * a2) &&& 31)) ^^^ (-1 : Int32))), sv (.int (1 : Int32)), sv (.int (0 : Int32))] [] h4)
  else
  (ex d 240 48 [sv (.ref a0), sv (.int a1), sv (.int a2), sv (.int (((15 : Int32) <<< (((4 : Int32) * a2) &&& 31)) ^^^ (-1 : Int32))), sv (.int (0 : Int32)), sv (.int (0 : Int32))] [] h4))
  else
  (some (some (.int a1), h))) :=
  (ex_unr p_240 o_240 [8, 48] 35 rfl _ _ h).trans rfl
set_option maxRecDepth 100000 in
theorem e_240_48 (d : Nat) (a0 : Nat) (a1 : Int32) (a2 : Int32) (a3 : Int32) (a4 : Int32) (a5 : Int32) (h : MHeap) : ex d 240 48 [sv (.ref a0), sv (.int a1), sv (.int a2), sv (.int a3), sv (.int a4), sv (.int a5)] [] h = (
  gfI none h a0 [12] 0 fun x1 =>
  if a5 < x1 then
  (if a4 = (0 : Int32) then
  (gfI none h a0 [12] 2 fun x2 =>
  vd none h a0 [12, 204] fun m3 =>
  cI (call d m3 [.ref a0, .int (x2 ^^^ ((1 : Int32) <<< (a5 &&& 31)))] h) fun x5 h4 =>
  if (x5 &&& a3) = (0 : Int32) then
  (ex d 240 48 [sv (.ref a0), sv (.int a1), sv (.int a2), sv (.int a3), sv (.int (1 : Int32)), sv (.int (a5 + (1 : Int32)))] [] h4)
  else
  (ex d 240 48 [sv (.ref a0), sv (.int a1), sv (.int a2), sv (.int a3), sv (.int (0 : Int32)), sv (.int (a5 + (1 : Int32)))] [] h4))
  else
  (ex d 240 48 [sv (.ref a0), sv (.int a1), sv (.int a2), sv (.int a3), sv (.int (1 : Int32)), sv (.int (a5 + (1 : Int32)))] [] h))
  else
  (if a4 = (0 : Int32) then
  (ex d 240 8 [sv (.ref a0), sv (.int (a1 ||| (0 : Int32))), sv (.int (a2 + (1 : Int32))), sv (.int a3), sv (.int a4), sv (.int a5)] [] h)
  else
  (ex d 240 8 [sv (.ref a0), sv (.int (a1 ||| ((1 : Int32) <<< (a2 &&& 31)))), sv (.int (a2 + (1 : Int32))), sv (.int a3), sv (.int a4), sv (.int a5)] [] h))) :=
  (ex_unr p_240 o_240 [8, 48] 52 rfl _ _ h).trans rfl

theorem p_241 : prg 241 = (k_241, 7) := rfl
theorem o_241 : okc k_241 = true := by decide +kernel
set_option maxRecDepth 100000 in
theorem e_241 (d : Nat) (a0 : Nat) (h : MHeap) : call (d + 1) 241 [.ref a0] h = (
  vd none h a0 [12, 203] fun m1 =>
  cV (call d m1 [.ref a0] h) fun h2 =>
  gfI none h2 a0 [12] 2 fun x3 =>
  vd none h2 a0 [12, 204] fun m4 =>
  cI (call d m4 [.ref a0, .int x3] h2) fun x6 h5 =>
  gfI none h5 a0 [12] 3 fun x7 =>
  ex d 241 24 [sv (.ref a0), sv (.int x6), sv (.int (((1 : Int32) <<< (x7 &&& 31)) - (1 : Int32))), sv (.int (0 : Int32)), none, none, none] [] h5) :=
  (call_unr p_241 rfl o_241 rfl [24, 49] 21 _ rfl h).trans rfl
set_option maxRecDepth 100000 in
theorem e_241_24 (d : Nat) (a0 : Nat) (a1 : Int32) (a2 : Int32) (a3 : Int32) (a4 : MSl) (a5 : MSl) (a6 : MSl) (h : MHeap) : ex d 241 24 [sv (.ref a0), sv (.int a1), sv (.int a2), sv (.int a3), a4, a5, a6] [] h = (
  vd none h a0 [12, 171] fun m1 =>
  cI (call d m1 [.ref a0] h) fun x3 h2 =>
  if x3 < a3 then
  (some (some (.int a2), h2))
  else
  (gfI none h2 a0 [12] 2 fun x4 =>
  vd none h2 a0 [12, 204] fun m5 =>
  cI (call d m5 [.ref a0, .int (x4 ^^^ a3)] h2) fun x7 h6 =>
  ex d 241 49 [sv (.ref a0), sv (.int a1), sv (.int a2), sv (.int a3), sv (.int (x7 ^^^ a1)), sv (.int (0 : Int32)), a6] [] h6)) :=
  (ex_unr p_241 o_241 [24, 49] 22 rfl _ _ h).trans rfl
set_option maxRecDepth 100000 in
theorem e_241_49 (d : Nat) (a0 : Nat) (a1 : Int32) (a2 : Int32) (a3 : Int32) (a4 : Int32) (a5 : Int32) (a6 : MSl) (h : MHeap) : ex d 241 49 [sv (.ref a0), sv (.int a1), sv (.int a2), sv (.int a3), sv (.int a4), sv (.int a5), a6] [] h = (
  gfI none h a0 [12] 3 fun x1 =>
  if a5 < x1 then
  (if a4 = (0 : Int32) then
  (if (0 : Int32) = (0 : Int32) then
  (ex d 241 49 [sv (.ref a0), sv (.int a1), sv (.int (a2 &&& a2)), sv (.int a3), sv (.int a4), sv (.int (a5 + (1 : Int32))), sv (.int (0 : Int32))] [] h)
  else
  (ex d 241 49 [sv (.ref a0), sv (.int a1), sv (.int (a2 &&& (((1 : Int32) <<< (a5 &&& 31)) ^^^ (-1 : Int32)))), sv (.int a3), sv (.int a4), sv (.int (a5 + (1 : Int32))), sv (.int (0 : Int32))] [] h))
  else
  (if (a4 &&& (((15 : Int32) <<< (((4 : Int32) * a5) &&& 31)) ^^^ (-1 : Int32))) = (0 : Int32) then
  (if (1 : Int32) = (0 : Int32) then
  (ex d 241 49 [sv (.ref a0), sv (.int a1), sv (.int (a2 &&& a2)), sv (.int a3), sv (.int a4), sv (.int (a5 + (1 : Int32))), sv (.int (1 : Int32))] [] h)
  else
  (ex d 241 49 [sv (.ref a0), sv (.int a1), sv (.int (a2 &&& (((1 : Int32) <<< (a5 &&& 31)) ^^^ (-1 : Int32)))), sv (.int a3), sv (.int a4), sv (.int (a5 + (1 : Int32))), sv (.int (1 : Int32))] [] h))
  else
  (if (0 : Int32) = (0 : Int32) then
  (ex d 241 49 [sv (.ref a0), sv (.int a1), sv (.int (a2 &&& a2)), sv (.int a3), sv (.int a4), sv (.int (a5 + (1 : Int32))), sv (.int (0 : Int32))] [] h)
  else
  (ex d 241 49 [sv (.ref a0), sv (.int a1), sv (.int (a2 &&& (((1 : Int32) <<< (a5 &&& 31)) ^^^ (-1 : Int32)))), sv (.int a3), sv (.int a4), sv (.int (a5 + (1 : Int32))), sv (.int (0 : Int32))] [] h))))
  else
  (ex d 241 24 [sv (.ref a0), sv (.int a1), sv (.int a2), sv (.int (a3 + (1 : Int32))), sv (.int a4), sv (.int a5), a6] [] h)) :=
  (ex_unr p_241 o_241 [24, 49] 84 rfl _ _ h).trans rfl

theorem p_242 : prg 242 = (k_242, 2) := rfl
theorem o_242 : okc k_242 = true := by decide +kernel
set_option maxRecDepth 100000 in
theorem e_242 (d : Nat) (a0 : Nat) (a1 : Int32) (h : MHeap) : call (d + 1) 242 [.ref a0, .int a1] h = (
  cI (call d 166 [.int a1, .int (0 : Int32), .int (3 : Int32)] h) fun x2 h1 =>
  if x2 = (0 : Int32) then
  (some (some (.int (-2 : Int32)), h1))
  else
  (gfV none h1 a0 [12] 19 fun v3 =>
  dR none v3 fun o5 =>
  alI none h1 o5 a1 fun x4 =>
  if x4 = (-1 : Int32) then
  (some (some (.int (-11 : Int32)), h1))
  else
  (gfV none h1 a0 [12] 20 fun v6 =>
  dR none v6 fun o8 =>
  alI none h1 o8 a1 fun x7 =>
  gfI none h1 a0 [12] 3 fun x9 =>
  if x7 = x9 then
  (some (some (.int (0 : Int32)), h1))
  else
  (some (some (.int (-2 : Int32)), h1))))) :=
  (call_unr p_242 rfl o_242 rfl [] 32 _ rfl h).trans rfl

theorem p_243 : prg 243 = (k_243, 4) := rfl
theorem o_243 : okc k_243 = true := by decide +kernel
set_option maxRecDepth 100000 in
theorem e_243 (d : Nat) (a0 : Nat) (a1 : Int32) (h : MHeap) : call (d + 1) 243 [.ref a0, .int a1] h = (
  ex d 243 4 [sv (.ref a0), sv (.int a1), sv (.int (0 : Int32)), sv (.int (0 : Int32))] [] h) :=
  (call_unr p_243 rfl o_243 rfl [4] 9 _ rfl h).trans rfl
set_option maxRecDepth 100000 in
theorem e_243_4 (d : Nat) (a0 : Nat) (a1 : Int32) (a2 : Int32) (a3 : Int32) (h : MHeap) : ex d 243 4 [sv (.ref a0), sv (.int a1), sv (.int a2), sv (.int a3)] [] h = (
  gfI none h a0 [12] 3 fun x1 =>
  if a3 < x1 then
  (gfV none h a0 [12] 21 fun v2 =>
  dR none v2 fun o4 =>
  alI none h o4 (((40 : Int32) * a1) + a3) fun x3 =>
  cI (call d 166 [.int x3, .int (0 : Int32), .int (15 : Int32)] h) fun x6 h5 =>
  if x6 = (0 : Int32) then
  (some (some (.int (-1 : Int32)), h5))
  else
  (gfV none h5 a0 [12] 21 fun v7 =>
  dR none v7 fun o9 =>
  alI none h5 o9 (((40 : Int32) * a1) + a3) fun x8 =>
  ex d 243 4 [sv (.ref a0), sv (.int a1), sv (.int (a2 ||| (x8 <<< (((4 : Int32) * a3) &&& 31)))), sv (.int (a3 + (1 : Int32)))] [] h5))
  else
  (some (some (.int a2), h))) :=
  (ex_unr p_243 o_243 [4] 42 rfl _ _ h).trans rfl

theorem p_244 : prg 244 = (k_244, 5) := rfl
theorem o_244 : okc k_244 = true := by decide +kernel
set_option maxRecDepth 100000 in
theorem e_244 (d : Nat) (a0 : Nat) (a1 : Int32) (h : MHeap) : call (d + 1) 244 [.ref a0, .int a1] h = (
  vd none h a0 [12, 242] fun m1 =>
  cI (call d m1 [.ref a0, .int a1] h) fun x3 h2 =>
  if x3 = (0 : Int32) then
  (gfI none h2 a0 [12] 2 fun x4 =>
  vd none h2 a0 [12, 202] fun m5 =>
  cI (call d m5 [.ref a0, .int x4] h2) fun x7 h6 =>
  ex d 244 24 [sv (.ref a0), sv (.int a1), sv (.int x3), sv (.int x7), sv (.int (0 : Int32))] [] h6)
  else
  (some (some (.int x3), h2))) :=
  (call_unr p_244 rfl o_244 rfl [24] 20 _ rfl h).trans rfl
set_option maxRecDepth 100000 in
theorem e_244_24 (d : Nat) (a0 : Nat) (a1 : Int32) (a2 : Int32) (a3 : Int32) (a4 : Int32) (h : MHeap) : ex d 244 24 [sv (.ref a0), sv (.int a1), sv (.int a2), sv (.int a3), sv (.int a4)] [] h = (
  gfI none h a0 [12] 3 fun x1 =>
  if a4 < x1 then
  (gfV none h a0 [12] 21 fun v2 =>
  dR none v2 fun o4 =>
  alI none h o4 (((40 : Int32) * a1) + a4) fun x3 =>
  if x3 = ((a3 >>> (((4 : Int32) * a4) &&& 31)) &&& (15 : Int32)) then
  (ex d 244 24 [sv (.ref a0), sv (.int a1), sv (.int a2), sv (.int a3), sv (.int (a4 + (1 : Int32)))] [] h)
  else
  (some (some (.int a4), h)))
  else
  (some (some (.int (-1 : Int32)), h))) :=
  (ex_unr p_244 o_244 [24] 31 rfl _ _ h).trans rfl

theorem p_245 : prg 245 = (k_245, 10) := rfl
theorem o_245 : okc k_245 = true := by decide +kernel
set_option maxRecDepth 100000 in
theorem e_245 (d : Nat) (a0 : Nat) (a1 : Int32) (a2 : Int32) (h : MHeap) : call (d + 1) 245 [.ref a0, .int a1, .int a2] h = (
  vd none h a0 [12, 242] fun m1 =>
  cI (call d m1 [.ref a0, .int a1] h) fun x3 h2 =>
  if x3 = (0 : Int32) then
  (cI (call d 166 [.int a2, .int (0 : Int32), .int (3 : Int32)] h2) fun x5 h4 =>
  if x5 = (0 : Int32) then
  (if x3 = (0 : Int32) then
  (some (some (.int (-7 : Int32)), h4))
  else
  (some (some (.int x3), h4)))
  else
  (vd none h4 a0 [12, 203] fun m6 =>
  cV (call d m6 [.ref a0] h4) fun h7 =>
  vd none h7 a0 [12, 243] fun m8 =>
  cI (call d m8 [.ref a0, .int a1] h7) fun x10 h9 =>
  ex d 245 58 [sv (.ref a0), sv (.int a1), sv (.int a2), sv (.int x3), sv (.int x10), sv (.int (0 : Int32)), sv (.int (-1 : Int32)), sv (.int (4095 : Int32)), sv (.int (0 : Int32)), sv (.int (0 : Int32))] [] h9))
  else
  (if x3 = (0 : Int32) then
  (some (some (.int (-7 : Int32)), h2))
  else
  (some (some (.int x3), h2)))) :=
  (call_unr p_245 rfl o_245 rfl [58] 46 _ rfl h).trans rfl
set_option maxRecDepth 100000 in
theorem e_245_58 (d : Nat) (a0 : Nat) (a1 : Int32) (a2 : Int32) (a3 : Int32) (a4 : Int32) (a5 : Int32) (a6 : Int32) (a7 : Int32) (a8 : Int32) (a9 : Int32) (h : MHeap) : ex d 245 58 [sv (.ref a0), sv (.int a1), sv (.int a2), sv (.int a3), sv (.int a4), sv (.int a5), sv (.int a6), sv (.int a7), sv (.int a8), sv (.int a9)] [] h = (
  vd none h a0 [12, 171] fun m1 =>
  cI (call d m1 [.ref a0] h) fun x3 h2 =>
  if x3 < a9 then
  (if a2 = (0 : Int32) then
  (some (some (.int a5), h2))
  else
  (if a2 = (1 : Int32) then
  (some (some (.int a6), h2))
  else
  (if a2 = (3 : Int32) then
  (some (some (.int a8), h2))
  else
  (if a5 = (0 : Int32) then
  (some (some (.int (0 : Int32)), h2))
  else
  (some (some (.int a7), h2))))))
  else
  (vd none h2 a0 [12, 204] fun m4 =>
  cI (call d m4 [.ref a0, .int a9] h2) fun x6 h5 =>
  if x6 = a4 then
  (if a6 = (-1 : Int32) then
  (ex d 245 58 [sv (.ref a0), sv (.int a1), sv (.int a2), sv (.int a3), sv (.int a4), sv (.int (a5 + (1 : Int32))), sv (.int a9), sv (.int (a7 &&& a9)), sv (.int (a8 ||| a9)), sv (.int (a9 + (1 : Int32)))] [] h5)
  else
  (ex d 245 58 [sv (.ref a0), sv (.int a1), sv (.int a2), sv (.int a3), sv (.int a4), sv (.int (a5 + (1 : Int32))), sv (.int a6), sv (.int (a7 &&& a9)), sv (.int (a8 ||| a9)), sv (.int (a9 + (1 : Int32)))] [] h5))
  else
  (ex d 245 58 [sv (.ref a0), sv (.int a1), sv (.int a2), sv (.int a3), sv (.int a4), sv (.int a5), sv (.int a6), sv (.int a7), sv (.int a8), sv (.int (a9 + (1 : Int32)))] [] h5))) :=
  (ex_unr p_245 o_245 [58] 69 rfl _ _ h).trans rfl

theorem p_246 : prg 246 = (k_246, 7) := rfl
theorem o_246 : okc k_246 = true := by decide +kernel
set_option maxRecDepth 100000 in
theorem e_246 (d : Nat) (a0 : Nat) (a1 : Int32) (a2 : Int32) (a3 : Int32) (h : MHeap) : call (d + 1) 246 [.ref a0, .int a1, .int a2, .int a3] h = (
  vd none h a0 [12, 242] fun m1 =>
  cI (call d m1 [.ref a0, .int a1] h) fun x3 h2 =>
  if x3 = (0 : Int32) then
  (vd none h2 a0 [12, 172] fun m4 =>
  cI (call d m4 [.ref a0, .int a2] h2) fun x6 h5 =>
  if x6 = (0 : Int32) then
  (some (some (.int (-7 : Int32)), h5))
  else
  (cI (call d 166 [.int a3, .int (0 : Int32), .int (1 : Int32)] h5) fun x8 h7 =>
  if x8 = (0 : Int32) then
  (some (some (.int (-7 : Int32)), h7))
  else
  (vd none h7 a0 [12, 243] fun m9 =>
  cI (call d m9 [.ref a0, .int a1] h7) fun x11 h10 =>
  if x11 = (-1 : Int32) then
  (if a3 = (1 : Int32) then
  (some (some (.int (-1 : Int32)), h10))
  else
  (if (-1 : Int32) = (-1 : Int32) then
  (some (some (.int (-1 : Int32)), h10))
  else
  (cI (call d 168 [.int (-1 : Int32)] h10) fun x13 h12 =>
  some (some (.int x13), h12))))
  else
  (vd none h10 a0 [12, 217] fun m14 =>
  cI (call d m14 [.ref a0, .int a2, .int x11] h10) fun x16 h15 =>
  if a3 = (1 : Int32) then
  (some (some (.int x16), h15))
  else
  (if x16 = (-1 : Int32) then
  (some (some (.int x16), h15))
  else
  (cI (call d 168 [.int x16] h15) fun x18 h17 =>
  some (some (.int x18), h17)))))))
  else
  (some (some (.int x3), h2))) :=
  (call_unr p_246 rfl o_246 rfl [] 71 _ rfl h).trans rfl

theorem p_247 : prg 247 = (k_247, 4) := rfl
theorem o_247 : okc k_247 = true := by decide +kernel
set_option maxRecDepth 100000 in
theorem e_247 (d : Nat) (a0 : Nat) (a1 : Int32) (h : MHeap) : call (d + 1) 247 [.ref a0, .int a1] h = (
  cI (call d 166 [.int a1, .int (0 : Int32), .int (3 : Int32)] h) fun x2 h1 =>
  if x2 = (0 : Int32) then
  (some (some (.int (-2 : Int32)), h1))
  else
  (gfI none h1 a0 [12] 2 fun x3 =>
  vd none h1 a0 [12, 202] fun m4 =>
  cI (call d m4 [.ref a0, .int x3] h1) fun x6 h5 =>
  gfV none h5 a0 [12] 19 fun v7 =>
  dR none v7 fun o9 =>
  asI none h5 o9 a1 (2 : Int32) fun h8 =>
  gfV none h8 a0 [12] 20 fun v10 =>
  gfI none h8 a0 [12] 3 fun x11 =>
  dR none v10 fun o13 =>
  asI none h8 o13 a1 x11 fun h12 =>
  ex d 247 40 [sv (.ref a0), sv (.int a1), sv (.int x6), sv (.int (0 : Int32))] [] h12)) :=
  (call_unr p_247 rfl o_247 rfl [40] 30 _ rfl h).trans rfl
set_option maxRecDepth 100000 in
theorem e_247_40 (d : Nat) (a0 : Nat) (a1 : Int32) (a2 : Int32) (a3 : Int32) (h : MHeap) : ex d 247 40 [sv (.ref a0), sv (.int a1), sv (.int a2), sv (.int a3)] [] h = (
  if a3 < (40 : Int32) then
  (gfV none h a0 [12] 21 fun v1 =>
  gfI none h a0 [12] 3 fun x2 =>
  if a3 < x2 then
  (dR none v1 fun o4 =>
  asI none h o4 (((40 : Int32) * a1) + a3) ((a2 >>> (((4 : Int32) * a3) &&& 31)) &&& (15 : Int32)) fun h3 =>
  ex d 247 40 [sv (.ref a0), sv (.int a1), sv (.int a2), sv (.int (a3 + (1 : Int32)))] [] h3)
  else
  (dR none v1 fun o6 =>
  asI none h o6 (((40 : Int32) * a1) + a3) (0 : Int32) fun h5 =>
  ex d 247 40 [sv (.ref a0), sv (.int a1), sv (.int a2), sv (.int (a3 + (1 : Int32)))] [] h5))
  else
  (gfI none h a0 [12] 3 fun x7 =>
  some (some (.int x7), h))) :=
  (ex_unr p_247 o_247 [40] 37 rfl _ _ h).trans rfl

theorem p_248 : prg 248 = (k_248, 4) := rfl
theorem o_248 : okc k_248 = true := by decide +kernel
set_option maxRecDepth 100000 in
theorem e_248 (d : Nat) (a0 : Nat) (a1 : Int32) (h : MHeap) : call (d + 1) 248 [.ref a0, .int a1] h = (
  dvL none (2147483647 : Int64) <|
  gfI none h a0 [12] 0 fun x1 =>
  dvL none (Int32.toInt64 x1) <|
  some (some (.int (Int64.toInt32 (((((Int32.toInt64 a1) + (1 : Int64)) * (48271 : Int64)) - (((Int32.toInt64 a1) + (1 : Int64)) * (48271 : Int64)) / (2147483647 : Int64) * (2147483647 : Int64)) - ((((Int32.toInt64 a1) + (1 : Int64)) * (48271 : Int64)) - (((Int32.toInt64 a1) + (1 : Int64)) * (48271 : Int64)) / (2147483647 : Int64) * (2147483647 : Int64)) / (Int32.toInt64 x1) * (Int32.toInt64 x1)))), h)) :=
  (call_unr p_248 rfl o_248 rfl [] 21 _ rfl h).trans rfl

theorem p_249 : prg 249 = (k_249, 3) := rfl
theorem o_249 : okc k_249 = true := by decide +kernel
set_option maxRecDepth 100000 in
theorem e_249 (d : Nat) (a0 : Nat) (a1 : Int32) (h : MHeap) : call (d + 1) 249 [.ref a0, .int a1] h = (
  vd none h a0 [12, 248] fun m1 =>
  cI (call d m1 [.ref a0, .int a1] h) fun x3 h2 =>
  gfI none h2 a0 [12] 2 fun x4 =>
  vd none h2 a0 [12, 210] fun m5 =>
  cI (call d m5 [.ref a0, .int (x4 ^^^ ((1 : Int32) <<< (x3 &&& 31)))] h2) fun x7 h6 =>
  if x7 = ((1 : Int32) <<< (x3 &&& 31)) then
  (zr none (1 : Int32) (some (some (.int (1 : Int32)), h6)))
  else
  (zr none (0 : Int32) (some (some (.int (0 : Int32)), h6)))) :=
  (call_unr p_249 rfl o_249 rfl [] 26 _ rfl h).trans rfl

theorem p_250 : prg 250 = (k_250, 3) := rfl
theorem o_250 : okc k_250 = true := by decide +kernel
set_option maxRecDepth 100000 in
theorem e_250 (d : Nat) (a0 : Nat) (a1 : Int32) (a2 : Int32) (h : MHeap) : call (d + 1) 250 [.ref a0, .int a1, .int a2] h = (
  cI (call d 166 [.int a1, .int (0 : Int32), .int (99999 : Int32)] h) fun x2 h1 =>
  if x2 = (0 : Int32) then
  (some (some (.int (-2 : Int32)), h1))
  else
  (cI (call d 166 [.int a2, .int (0 : Int32), .int (1 : Int32)] h1) fun x4 h3 =>
  if x4 = (0 : Int32) then
  (some (some (.int (-2 : Int32)), h3))
  else
  (vd none h3 a0 [12, 203] fun m5 =>
  cV (call d m5 [.ref a0] h3) fun h6 =>
  if a2 = (0 : Int32) then
  (vd none h6 a0 [12, 248] fun m7 =>
  cI (call d m7 [.ref a0, .int a1] h6) fun x9 h8 =>
  some (some (.int x9), h8))
  else
  (vd none h6 a0 [12, 249] fun m10 =>
  cI (call d m10 [.ref a0, .int a1] h6) fun x12 h11 =>
  if x12 = (0 : Int32) then
  (some (some (.int (0 : Int32)), h11))
  else
  (some (some (.int (1 : Int32)), h11)))))) :=
  (call_unr p_250 rfl o_250 rfl [] 37 _ rfl h).trans rfl

theorem p_251 : prg 251 = (k_251, 7) := rfl
theorem o_251 : okc k_251 = true := by decide +kernel
set_option maxRecDepth 100000 in
theorem e_251 (d : Nat) (a0 : Nat) (a1 : Int32) (a2 : Int32) (a3 : Int32) (h : MHeap) : call (d + 1) 251 [.ref a0, .int a1, .int a2, .int a3] h = (
  cI (call d 166 [.int a1, .int (0 : Int32), .int (99999 : Int32)] h) fun x2 h1 =>
  if x2 = (0 : Int32) then
  (some (some (.long (-4611686018427387904 : Int64)), h1))
  else
  (cI (call d 166 [.int a2, .int (1 : Int32), .int (50 : Int32)] h1) fun x4 h3 =>
  if x4 = (0 : Int32) then
  (some (some (.long (-4611686018427387904 : Int64)), h3))
  else
  (cI (call d 166 [.int a3, .int (0 : Int32), .int (1 : Int32)] h3) fun x6 h5 =>
  if x6 = (0 : Int32) then
  (some (some (.long (-4611686018427387904 : Int64)), h5))
  else
  (vd none h5 a0 [12, 203] fun m7 =>
  cV (call d m7 [.ref a0] h5) fun h8 =>
  ex d 251 43 [sv (.ref a0), sv (.int a1), sv (.int a2), sv (.int a3), sy (0 : Int64), none, sv (.int (0 : Int32))] [] h8)))) :=
  (call_unr p_251 rfl o_251 rfl [43] 32 _ rfl h).trans rfl
set_option maxRecDepth 100000 in
theorem e_251_43 (d : Nat) (a0 : Nat) (a1 : Int32) (a2 : Int32) (a3 : Int32) (a4 : Int64) (a6 : Int32) (h : MHeap) : ex d 251 43 [sv (.ref a0), sv (.int a1), sv (.int a2), sv (.int a3), sy a4, none, sv (.int a6)] [] h = (
  if a6 < a2 then
  (vd none h a0 [12, 249] fun m1 =>
  cI (call d m1 [.ref a0, .int (a1 + a6)] h) fun x3 h2 =>
  if x3 = (0 : Int32) then
  (ex d 251 43 [sv (.ref a0), sv (.int a1), sv (.int a2), sv (.int a3), sy (a4 + (0 : Int64)), none, sv (.int (a6 + (1 : Int32)))] [] h2)
  else
  (ex d 251 43 [sv (.ref a0), sv (.int a1), sv (.int a2), sv (.int a3), sy (a4 + (1 : Int64)), none, sv (.int (a6 + (1 : Int32)))] [] h2))
  else
  (cJ (call d 237 [.long a4, .long (Int32.toInt64 a2), .int a3] h) fun y5 h4 =>
  some (some (.long y5), h4))) :=
  (ex_unr p_251 o_251 [43] 32 rfl _ _ h).trans rfl

theorem p_252 : prg 252 = (k_252, 1) := rfl
theorem o_252 : okc k_252 = true := by decide +kernel
set_option maxRecDepth 100000 in
theorem e_252 (d : Nat) (a0 : Nat) (h : MHeap) : call (d + 1) 252 [.ref a0] h = (
  zr none (1 : Int32) <|
  pfI none h a0 [12] 13 (1 : Int32) fun h1 =>
  gfI none h1 a0 [12] 0 fun x2 =>
  pfI none h1 a0 [12] 14 x2 fun h3 =>
  gfI none h3 a0 [12] 1 fun x4 =>
  pfI none h3 a0 [12] 15 x4 fun h5 =>
  gfI none h5 a0 [12] 2 fun x6 =>
  pfI none h5 a0 [12] 16 x6 fun h7 =>
  gfI none h7 a0 [12] 3 fun x8 =>
  pfI none h7 a0 [12] 17 x8 fun h9 =>
  gfI none h9 a0 [12] 12 fun x10 =>
  pfI none h9 a0 [12] 18 x10 fun h11 =>
  gfI none h11 a0 [12] 2 fun x12 =>
  some (some (.int x12), h11)) :=
  (call_unr p_252 rfl o_252 rfl [] 31 _ rfl h).trans rfl

theorem p_253 : prg 253 = (k_253, 1) := rfl
theorem o_253 : okc k_253 = true := by decide +kernel
set_option maxRecDepth 100000 in
theorem e_253 (d : Nat) (a0 : Nat) (h : MHeap) : call (d + 1) 253 [.ref a0] h = (
  gfI none h a0 [12] 13 fun x1 =>
  if x1 = (0 : Int32) then
  (some (some (.int (-3 : Int32)), h))
  else
  (gfI none h a0 [12] 14 fun x2 =>
  pfI none h a0 [12] 0 x2 fun h3 =>
  gfI none h3 a0 [12] 15 fun x4 =>
  pfI none h3 a0 [12] 1 x4 fun h5 =>
  gfI none h5 a0 [12] 16 fun x6 =>
  pfI none h5 a0 [12] 2 x6 fun h7 =>
  gfI none h7 a0 [12] 17 fun x8 =>
  pfI none h7 a0 [12] 3 x8 fun h9 =>
  gfI none h9 a0 [12] 18 fun x10 =>
  pfI none h9 a0 [12] 12 x10 fun h11 =>
  gfI none h11 a0 [12] 2 fun x12 =>
  some (some (.int x12), h11))) :=
  (call_unr p_253 rfl o_253 rfl [] 33 _ rfl h).trans rfl

theorem p_254 : prg 254 = (k_254, 5) := rfl
theorem o_254 : okc k_254 = true := by decide +kernel
set_option maxRecDepth 100000 in
theorem e_254 (d : Nat) (a0 : Nat) (a1 : Int32) (a2 : Int32) (a3 : Int32) (h : MHeap) : call (d + 1) 254 [.ref a0, .int a1, .int a2, .int a3] h = (
  cI (call d 166 [.int a1, .int (0 : Int32), .int (3 : Int32)] h) fun x2 h1 =>
  if x2 = (0 : Int32) then
  (some (some (.int (-2 : Int32)), h1))
  else
  (cI (call d 166 [.int a2, .int (-1 : Int32), .int (2 : Int32)] h1) fun x4 h3 =>
  if x4 = (0 : Int32) then
  (some (some (.int (-2 : Int32)), h3))
  else
  (if a2 = (-1 : Int32) then
  (if a2 = (-1 : Int32) then
  (gfV none h3 a0 [12] 19 fun v5 =>
  dR none v5 fun o7 =>
  asI none h3 o7 a1 a2 fun h6 =>
  gfV none h6 a0 [12] 20 fun v8 =>
  if a2 = (-1 : Int32) then
  (dR none v8 fun o10 =>
  asI none h6 o10 a1 (0 : Int32) fun h9 =>
  ex d 254 70 [sv (.ref a0), sv (.int a1), sv (.int a2), sv (.int a3), sv (.int (0 : Int32))] [] h9)
  else
  (dR none v8 fun o12 =>
  asI none h6 o12 a1 a3 fun h11 =>
  ex d 254 70 [sv (.ref a0), sv (.int a1), sv (.int a2), sv (.int a3), sv (.int (0 : Int32))] [] h11))
  else
  (if a3 < (0 : Int32) then
  (some (some (.int (-14 : Int32)), h3))
  else
  (gfV none h3 a0 [12] 19 fun v13 =>
  dR none v13 fun o15 =>
  asI none h3 o15 a1 a2 fun h14 =>
  gfV none h14 a0 [12] 20 fun v16 =>
  if a2 = (-1 : Int32) then
  (dR none v16 fun o18 =>
  asI none h14 o18 a1 (0 : Int32) fun h17 =>
  ex d 254 70 [sv (.ref a0), sv (.int a1), sv (.int a2), sv (.int a3), sv (.int (0 : Int32))] [] h17)
  else
  (dR none v16 fun o20 =>
  asI none h14 o20 a1 a3 fun h19 =>
  ex d 254 70 [sv (.ref a0), sv (.int a1), sv (.int a2), sv (.int a3), sv (.int (0 : Int32))] [] h19))))
  else
  (if (40 : Int32) < a3 then
  (some (some (.int (-2 : Int32)), h3))
  else
  (if a2 = (-1 : Int32) then
  (gfV none h3 a0 [12] 19 fun v21 =>
  dR none v21 fun o23 =>
  asI none h3 o23 a1 a2 fun h22 =>
  gfV none h22 a0 [12] 20 fun v24 =>
  if a2 = (-1 : Int32) then
  (dR none v24 fun o26 =>
  asI none h22 o26 a1 (0 : Int32) fun h25 =>
  ex d 254 70 [sv (.ref a0), sv (.int a1), sv (.int a2), sv (.int a3), sv (.int (0 : Int32))] [] h25)
  else
  (dR none v24 fun o28 =>
  asI none h22 o28 a1 a3 fun h27 =>
  ex d 254 70 [sv (.ref a0), sv (.int a1), sv (.int a2), sv (.int a3), sv (.int (0 : Int32))] [] h27))
  else
  (if a3 < (0 : Int32) then
  (some (some (.int (-14 : Int32)), h3))
  else
  (gfV none h3 a0 [12] 19 fun v29 =>
  dR none v29 fun o31 =>
  asI none h3 o31 a1 a2 fun h30 =>
  gfV none h30 a0 [12] 20 fun v32 =>
  if a2 = (-1 : Int32) then
  (dR none v32 fun o34 =>
  asI none h30 o34 a1 (0 : Int32) fun h33 =>
  ex d 254 70 [sv (.ref a0), sv (.int a1), sv (.int a2), sv (.int a3), sv (.int (0 : Int32))] [] h33)
  else
  (dR none v32 fun o36 =>
  asI none h30 o36 a1 a3 fun h35 =>
  ex d 254 70 [sv (.ref a0), sv (.int a1), sv (.int a2), sv (.int a3), sv (.int (0 : Int32))] [] h35)))))))) :=
  (call_unr p_254 rfl o_254 rfl [70] 121 _ rfl h).trans rfl
set_option maxRecDepth 100000 in
theorem e_254_70 (d : Nat) (a0 : Nat) (a1 : Int32) (a2 : Int32) (a3 : Int32) (a4 : Int32) (h : MHeap) : ex d 254 70 [sv (.ref a0), sv (.int a1), sv (.int a2), sv (.int a3), sv (.int a4)] [] h = (
  if a4 < (40 : Int32) then
  (gfV none h a0 [12] 21 fun v1 =>
  dR none v1 fun o3 =>
  asI none h o3 (((40 : Int32) * a1) + a4) (0 : Int32) fun h2 =>
  ex d 254 70 [sv (.ref a0), sv (.int a1), sv (.int a2), sv (.int a3), sv (.int (a4 + (1 : Int32)))] [] h2)
  else
  (some (some (.int (1 : Int32)), h))) :=
  (ex_unr p_254 o_254 [70] 21 rfl _ _ h).trans rfl

theorem p_255 : prg 255 = (k_255, 4) := rfl
theorem o_255 : okc k_255 = true := by decide +kernel
set_option maxRecDepth 100000 in
theorem e_255 (d : Nat) (a0 : Nat) (a1 : Int32) (a2 : Int32) (a3 : Int32) (h : MHeap) : call (d + 1) 255 [.ref a0, .int a1, .int a2, .int a3] h = (
  cI (call d 166 [.int a1, .int (0 : Int32), .int (3 : Int32)] h) fun x2 h1 =>
  if x2 = (0 : Int32) then
  (some (some (.int (-2 : Int32)), h1))
  else
  (gfV none h1 a0 [12] 19 fun v3 =>
  dR none v3 fun o5 =>
  alI none h1 o5 a1 fun x4 =>
  if x4 = (-1 : Int32) then
  (some (some (.int (-11 : Int32)), h1))
  else
  (gfV none h1 a0 [12] 20 fun v6 =>
  dR none v6 fun o8 =>
  alI none h1 o8 a1 fun x7 =>
  cI (call d 166 [.int a2, .int (0 : Int32), .int (x7 - (1 : Int32))] h1) fun x10 h9 =>
  if x10 = (0 : Int32) then
  (some (some (.int (-12 : Int32)), h9))
  else
  (gfV none h9 a0 [12] 21 fun v11 =>
  gfV none h9 a0 [12] 19 fun v12 =>
  dR none v12 fun o14 =>
  alI none h9 o14 a1 fun x13 =>
  if x13 = (0 : Int32) then
  (dR none v11 fun o16 =>
  asI none h9 o16 (((40 : Int32) * a1) + a2) (Int8.toInt32 (Int32.toInt8 a3)) fun h15 =>
  some (some (.int (1 : Int32)), h15))
  else
  (gfV none h9 a0 [12] 19 fun v17 =>
  dR none v17 fun o19 =>
  alI none h9 o19 a1 fun x18 =>
  if x18 = (1 : Int32) then
  (dR none v11 fun o21 =>
  asI none h9 o21 (((40 : Int32) * a1) + a2) (Int16.toInt32 (Int32.toInt16 a3)) fun h20 =>
  some (some (.int (1 : Int32)), h20))
  else
  (dR none v11 fun o23 =>
  asI none h9 o23 (((40 : Int32) * a1) + a2) a3 fun h22 =>
  some (some (.int (1 : Int32)), h22))))))) :=
  (call_unr p_255 rfl o_255 rfl [] 66 _ rfl h).trans rfl

theorem p_256 : prg 256 = (k_256, 10) := rfl
theorem o_256 : okc k_256 = true := by decide +kernel
set_option maxRecDepth 100000 in
theorem e_256 (d : Nat) (a0 : Nat) (a1 : Int32) (a2 : Int32) (a3 : Int32) (a4 : Int32) (a5 : Int32) (h : MHeap) : call (d + 1) 256 [.ref a0, .int a1, .int a2, .int a3, .int a4, .int a5] h = (
  cI (call d 166 [.int a1, .int (0 : Int32), .int (3 : Int32)] h) fun x2 h1 =>
  if x2 = (0 : Int32) then
  (some (some (.int (-2 : Int32)), h1))
  else
  (cI (call d 166 [.int a3, .int (0 : Int32), .int (3 : Int32)] h1) fun x4 h3 =>
  if x4 = (0 : Int32) then
  (some (some (.int (-2 : Int32)), h3))
  else
  (gfV none h3 a0 [12] 19 fun v5 =>
  dR none v5 fun o7 =>
  alI none h3 o7 a1 fun x6 =>
  if x6 = (-1 : Int32) then
  (some (some (.int (-11 : Int32)), h3))
  else
  (gfV none h3 a0 [12] 19 fun v8 =>
  dR none v8 fun o10 =>
  alI none h3 o10 a3 fun x9 =>
  if x9 = (-1 : Int32) then
  (some (some (.int (-11 : Int32)), h3))
  else
  (gfV none h3 a0 [12] 19 fun v11 =>
  dR none v11 fun o13 =>
  alI none h3 o13 a1 fun x12 =>
  gfV none h3 a0 [12] 19 fun v14 =>
  dR none v14 fun o16 =>
  alI none h3 o16 a3 fun x15 =>
  if x12 = x15 then
  (if a5 < (0 : Int32) then
  (some (some (.int (-12 : Int32)), h3))
  else
  (if a2 < (0 : Int32) then
  (some (some (.int (-12 : Int32)), h3))
  else
  (if a4 < (0 : Int32) then
  (some (some (.int (-12 : Int32)), h3))
  else
  (gfV none h3 a0 [12] 20 fun v17 =>
  dR none v17 fun o19 =>
  alI none h3 o19 a1 fun x18 =>
  if x18 < a2 then
  (some (some (.int (-12 : Int32)), h3))
  else
  (gfV none h3 a0 [12] 20 fun v20 =>
  dR none v20 fun o22 =>
  alI none h3 o22 a3 fun x21 =>
  if x21 < a4 then
  (some (some (.int (-12 : Int32)), h3))
  else
  (gfV none h3 a0 [12] 20 fun v23 =>
  dR none v23 fun o25 =>
  alI none h3 o25 a1 fun x24 =>
  if (x24 - a2) < a5 then
  (some (some (.int (-12 : Int32)), h3))
  else
  (gfV none h3 a0 [12] 20 fun v26 =>
  dR none v26 fun o28 =>
  alI none h3 o28 a3 fun x27 =>
  if (x27 - a4) < a5 then
  (some (some (.int (-12 : Int32)), h3))
  else
  (ex d 256 147 [sv (.ref a0), sv (.int a1), sv (.int a2), sv (.int a3), sv (.int a4), sv (.int a5), sv (.int (((40 : Int32) * a1) + a2)), sv (.int (((40 : Int32) * a3) + a4)), sv (.int (0 : Int32)), none] [] h3))))))))
  else
  (some (some (.int (-13 : Int32)), h3))))))) :=
  (call_unr p_256 rfl o_256 rfl [147] 108 _ rfl h).trans rfl
set_option maxRecDepth 100000 in
theorem e_256_147 (d : Nat) (a0 : Nat) (a1 : Int32) (a2 : Int32) (a3 : Int32) (a4 : Int32) (a5 : Int32) (a6 : Int32) (a7 : Int32) (a8 : Int32) (a9 : MSl) (h : MHeap) : ex d 256 147 [sv (.ref a0), sv (.int a1), sv (.int a2), sv (.int a3), sv (.int a4), sv (.int a5), sv (.int a6), sv (.int a7), sv (.int a8), a9] [] h = (
  if a8 < a5 then
  (if a6 < a7 then
  (gfV none h a0 [12] 21 fun v1 =>
  gfV none h a0 [12] 21 fun v2 =>
  dR none v2 fun o4 =>
  alI none h o4 (a6 + ((a5 - (1 : Int32)) - a8)) fun x3 =>
  dR none v1 fun o6 =>
  asI none h o6 (a7 + ((a5 - (1 : Int32)) - a8)) x3 fun h5 =>
  ex d 256 147 [sv (.ref a0), sv (.int a1), sv (.int a2), sv (.int a3), sv (.int a4), sv (.int a5), sv (.int a6), sv (.int a7), sv (.int (a8 + (1 : Int32))), sv (.int ((a5 - (1 : Int32)) - a8))] [] h5)
  else
  (gfV none h a0 [12] 21 fun v7 =>
  gfV none h a0 [12] 21 fun v8 =>
  dR none v8 fun o10 =>
  alI none h o10 (a6 + a8) fun x9 =>
  dR none v7 fun o12 =>
  asI none h o12 (a7 + a8) x9 fun h11 =>
  ex d 256 147 [sv (.ref a0), sv (.int a1), sv (.int a2), sv (.int a3), sv (.int a4), sv (.int a5), sv (.int a6), sv (.int a7), sv (.int (a8 + (1 : Int32))), sv (.int a8)] [] h11))
  else
  (some (some (.int a5), h))) :=
  (ex_unr p_256 o_256 [147] 50 rfl _ _ h).trans rfl

theorem p_257 : prg 257 = (k_257, 9) := rfl
theorem o_257 : okc k_257 = true := by decide +kernel
set_option maxRecDepth 100000 in
theorem e_257 (d : Nat) (a0 : Nat) (a1 : Int32) (a2 : Int32) (a3 : Int32) (a4 : Int32) (h : MHeap) : call (d + 1) 257 [.ref a0, .int a1, .int a2, .int a3, .int a4] h = (
  cI (call d 166 [.int a1, .int (0 : Int32), .int (3 : Int32)] h) fun x2 h1 =>
  if x2 = (0 : Int32) then
  (some (some (.int (-2 : Int32)), h1))
  else
  (cI (call d 166 [.int a2, .int (0 : Int32), .int (2 : Int32)] h1) fun x4 h3 =>
  if x4 = (0 : Int32) then
  (some (some (.int (-2 : Int32)), h3))
  else
  (cI (call d 166 [.int a4, .int (0 : Int32), .int (7 : Int32)] h3) fun x6 h5 =>
  if x6 = (0 : Int32) then
  (some (some (.int (-2 : Int32)), h5))
  else
  (gfV none h5 a0 [12] 19 fun v7 =>
  dR none v7 fun o9 =>
  alI none h5 o9 a1 fun x8 =>
  if x8 = (-1 : Int32) then
  (some (some (.int (-11 : Int32)), h5))
  else
  (gfV none h5 a0 [12] 19 fun v10 =>
  dR none v10 fun o12 =>
  alI none h5 o12 a1 fun x11 =>
  if x11 = a2 then
  (ex d 257 64 [sv (.ref a0), sv (.int a1), sv (.int a2), sv (.int a3), sv (.int a4), sv (.int (0 : Int32)), sv (.int (0 : Int32)), none, none] [] h5)
  else
  (some (some (.int (-13 : Int32)), h5))))))) :=
  (call_unr p_257 rfl o_257 rfl [64] 46 _ rfl h).trans rfl
set_option maxRecDepth 100000 in
theorem e_257_64 (d : Nat) (a0 : Nat) (a1 : Int32) (a2 : Int32) (a3 : Int32) (a4 : Int32) (a5 : Int32) (a6 : Int32) (a7 : MSl) (a8 : MSl) (h : MHeap) : ex d 257 64 [sv (.ref a0), sv (.int a1), sv (.int a2), sv (.int a3), sv (.int a4), sv (.int a5), sv (.int a6), a7, a8] [] h = (
  if a6 < a4 then
  (if a3 < (0 : Int32) then
  (some (some (.int (-12 : Int32)), h))
  else
  (if (a3 + ((3 : Int32) * a6)) < a3 then
  (some (some (.int (-12 : Int32)), h))
  else
  (gfV none h a0 [12] 20 fun v1 =>
  dR none v1 fun o3 =>
  alI none h o3 a1 fun x2 =>
  if (x2 - (3 : Int32)) < (a3 + ((3 : Int32) * a6)) then
  (some (some (.int (-12 : Int32)), h))
  else
  (gfV none h a0 [12] 21 fun v4 =>
  dR none v4 fun o6 =>
  alI none h o6 (((40 : Int32) * a1) + (a3 + ((3 : Int32) * a6))) fun x5 =>
  gfV none h a0 [12] 21 fun v7 =>
  dR none v7 fun o9 =>
  alI none h o9 ((((40 : Int32) * a1) + (a3 + ((3 : Int32) * a6))) + (1 : Int32)) fun x8 =>
  gfV none h a0 [12] 21 fun v10 =>
  dR none v10 fun o12 =>
  alI none h o12 ((((40 : Int32) * a1) + (a3 + ((3 : Int32) * a6))) + (2 : Int32)) fun x11 =>
  vd none h a0 [12, 197] fun m13 =>
  cI (call d m13 [.ref a0, .int x5, .int x8, .int x11] h) fun x15 h14 =>
  if x15 < (0 : Int32) then
  (ex d 257 64 [sv (.ref a0), sv (.int a1), sv (.int a2), sv (.int a3), sv (.int a4), sv (.int (a5 + (0 : Int32))), sv (.int (a6 + (1 : Int32))), sv (.int (a3 + ((3 : Int32) * a6))), sv (.int (((40 : Int32) * a1) + (a3 + ((3 : Int32) * a6))))] [] h14)
  else
  (ex d 257 64 [sv (.ref a0), sv (.int a1), sv (.int a2), sv (.int a3), sv (.int a4), sv (.int (a5 + (1 : Int32))), sv (.int (a6 + (1 : Int32))), sv (.int (a3 + ((3 : Int32) * a6))), sv (.int (((40 : Int32) * a1) + (a3 + ((3 : Int32) * a6))))] [] h14)))))
  else
  (some (some (.int a5), h))) :=
  (ex_unr p_257 o_257 [64] 72 rfl _ _ h).trans rfl

theorem p_258 : prg 258 = (k_258, 2) := rfl
theorem o_258 : okc k_258 = true := by decide +kernel
set_option maxRecDepth 100000 in
theorem e_258 (d : Nat) (a0 : Int32) (a1 : Int32) (h : MHeap) : call (d + 1) 258 [.int a0, .int a1] h = (
  if a1 = (0 : Int32) then
  (zr none (1 : Int32) (some (some (.int (1 : Int32)), h)))
  else
  (if a0 = a1 then
  (zr none (1 : Int32) (some (some (.int (1 : Int32)), h)))
  else
  (if a1 = (1 : Int32) then
  (if a0 = (3 : Int32) then
  (zr none (1 : Int32) (some (some (.int (1 : Int32)), h)))
  else
  (if a1 = (2 : Int32) then
  (if a0 = (5 : Int32) then
  (zr none (1 : Int32) (some (some (.int (1 : Int32)), h)))
  else
  (zr none (0 : Int32) (some (some (.int (0 : Int32)), h))))
  else
  (zr none (0 : Int32) (some (some (.int (0 : Int32)), h)))))
  else
  (if a1 = (2 : Int32) then
  (if a0 = (5 : Int32) then
  (zr none (1 : Int32) (some (some (.int (1 : Int32)), h)))
  else
  (zr none (0 : Int32) (some (some (.int (0 : Int32)), h))))
  else
  (zr none (0 : Int32) (some (some (.int (0 : Int32)), h))))))) :=
  (call_unr p_258 rfl o_258 rfl [] 51 _ rfl h).trans rfl

theorem p_259 : prg 259 = (k_259, 3) := rfl
theorem o_259 : okc k_259 = true := by decide +kernel
set_option maxRecDepth 100000 in
theorem e_259 (d : Nat) (a0 : Nat) (a1 : Int32) (a2 : Int32) (h : MHeap) : call (d + 1) 259 [.ref a0, .int a1, .int a2] h = (
  cI (call d 166 [.int a2, .int (0 : Int32), .int (6 : Int32)] h) fun x2 h1 =>
  if x2 = (0 : Int32) then
  (some (some (.int (-2 : Int32)), h1))
  else
  (cI (call d 166 [.int a1, .int (0 : Int32), .int (18 : Int32)] h1) fun x4 h3 =>
  if x4 = (0 : Int32) then
  (some (some (.int (-12 : Int32)), h3))
  else
  (if a1 < (12 : Int32) then
  (gfI none h3 a0 [12] 0 fun x5 =>
  if a1 < x5 then
  (if a2 = (6 : Int32) then
  (gfI none h3 a0 [12] 2 fun x6 =>
  some (some (.int ((x6 >>> (a1 &&& 31)) &&& (1 : Int32))), h3))
  else
  (some (some (.int (-13 : Int32)), h3)))
  else
  (some (some (.int (-11 : Int32)), h3)))
  else
  (gfI none h3 a0 [12] 3 fun x7 =>
  if (a1 - (12 : Int32)) < x7 then
  (if a2 < (6 : Int32) then
  (gfV none h3 a0 [12] 4 fun v8 =>
  dR none v8 fun o10 =>
  alI none h3 o10 (a1 - (12 : Int32)) fun x9 =>
  cI (call d 258 [.int x9, .int a2] h3) fun x12 h11 =>
  if x12 = (0 : Int32) then
  (some (some (.int (-13 : Int32)), h11))
  else
  (some (some (.int (a1 - (12 : Int32))), h11)))
  else
  (some (some (.int (-13 : Int32)), h3)))
  else
  (some (some (.int (-11 : Int32)), h3)))))) :=
  (call_unr p_259 rfl o_259 rfl [] 72 _ rfl h).trans rfl

theorem p_260 : prg 260 = (k_260, 1) := rfl
theorem o_260 : okc k_260 = true := by decide +kernel
set_option maxRecDepth 100000 in
theorem e_260 (d : Nat) (a0 : Int32) (h : MHeap) : call (d + 1) 260 [.int a0] h = (
  ex d 260 10 [sv (.int (a0 - ((Int32.toUInt32 a0 >>> (Int32.toUInt32 (1 : Int32) &&& Int32.toUInt32 31)).toInt32 &&& (1431655765 : Int32))))] [] h) :=
  (call_unr p_260 rfl o_260 rfl [10, 24, 34, 41, 48] 13 _ rfl h).trans rfl
set_option maxRecDepth 100000 in
theorem e_260_10 (d : Nat) (a0 : Int32) (h : MHeap) : ex d 260 10 [sv (.int a0)] [] h = (
  ex d 260 24 [sv (.int ((a0 &&& (858993459 : Int32)) + ((Int32.toUInt32 a0 >>> (Int32.toUInt32 (2 : Int32) &&& Int32.toUInt32 31)).toInt32 &&& (858993459 : Int32))))] [] h) :=
  (ex_unr p_260 o_260 [10, 24, 34, 41, 48] 15 rfl _ _ h).trans rfl
set_option maxRecDepth 100000 in
theorem e_260_24 (d : Nat) (a0 : Int32) (h : MHeap) : ex d 260 24 [sv (.int a0)] [] h = (
  ex d 260 34 [sv (.int ((a0 + (Int32.toUInt32 a0 >>> (Int32.toUInt32 (4 : Int32) &&& Int32.toUInt32 31)).toInt32) &&& (252645135 : Int32)))] [] h) :=
  (ex_unr p_260 o_260 [10, 24, 34, 41, 48] 13 rfl _ _ h).trans rfl
set_option maxRecDepth 100000 in
theorem e_260_34 (d : Nat) (a0 : Int32) (h : MHeap) : ex d 260 34 [sv (.int a0)] [] h = (
  ex d 260 41 [sv (.int (a0 + (Int32.toUInt32 a0 >>> (Int32.toUInt32 (8 : Int32) &&& Int32.toUInt32 31)).toInt32))] [] h) :=
  (ex_unr p_260 o_260 [10, 24, 34, 41, 48] 11 rfl _ _ h).trans rfl
set_option maxRecDepth 100000 in
theorem e_260_41 (d : Nat) (a0 : Int32) (h : MHeap) : ex d 260 41 [sv (.int a0)] [] h = (
  ex d 260 48 [sv (.int (a0 + (Int32.toUInt32 a0 >>> (Int32.toUInt32 (16 : Int32) &&& Int32.toUInt32 31)).toInt32))] [] h) :=
  (ex_unr p_260 o_260 [10, 24, 34, 41, 48] 11 rfl _ _ h).trans rfl
set_option maxRecDepth 100000 in
theorem e_260_48 (d : Nat) (a0 : Int32) (h : MHeap) : ex d 260 48 [sv (.int a0)] [] h = (
  some (some (.int (a0 &&& (63 : Int32))), h)) :=
  (ex_unr p_260 o_260 [10, 24, 34, 41, 48] 9 rfl _ _ h).trans rfl

theorem p_261 : prg 261 = (k_261, 4) := rfl
theorem o_261 : okc k_261 = true := by decide +kernel
set_option maxRecDepth 100000 in
theorem e_261 (d : Nat) (a0 : Nat) (a1 : Int32) (h : MHeap) : call (d + 1) 261 [.ref a0, .int a1] h = (
  aln none h a0 fun x1 =>
  ex d 261 5 [sv (.ref a0), sv (.int a1), sv (.int (0 : Int32)), sv (.int x1)] [] h) :=
  (call_unr p_261 rfl o_261 rfl [5] 10 _ rfl h).trans rfl
set_option maxRecDepth 100000 in
theorem e_261_5 (d : Nat) (a0 : Nat) (a1 : Int32) (a2 : Int32) (a3 : Int32) (h : MHeap) : ex d 261 5 [sv (.ref a0), sv (.int a1), sv (.int a2), sv (.int a3)] [] h = (
  if a2 < a3 then
  (asI none h a0 a2 a1 fun h1 =>
  ex d 261 5 [sv (.ref a0), sv (.int a1), sv (.int (a2 + (1 : Int32))), sv (.int a3)] [] h1)
  else
  (some (none, h))) :=
  (ex_unr p_261 o_261 [5] 15 rfl _ _ h).trans rfl

theorem p_262 : prg 262 = (k_262, 3) := rfl
theorem o_262 : okc k_262 = true := by decide +kernel
set_option maxRecDepth 100000 in
theorem e_262 (d : Nat) (a0 : Nat) (a1 : Int32) (h : MHeap) : call (d + 1) 262 [.ref a0, .int a1] h = (
  aln none h a0 fun x1 =>
  if a1 = x1 then
  (vd none h a0 [] fun m2 =>
  cR (call d m2 [.ref a0] h) fun v4 h3 =>
  none)
  else
  (nwA none h 100 a1 (.int 0) fun o5 h6 =>
  aln none h6 a0 fun x7 =>
  cI (call d 1001 [.int x7, .int a1] h6) fun x9 h8 =>
  cV (call d 1002 [.ref a0, .int (0 : Int32), .ref o5, .int (0 : Int32), .int x9] h8) fun h10 =>
  some (some (.ref o5), h10))) :=
  (call_unr p_262 rfl o_262 rfl [] 26 _ rfl h).trans rfl

theorem p_263 : prg 263 = (k_263, 4) := rfl
theorem o_263 : okc k_263 = true := by decide +kernel
set_option maxRecDepth 100000 in
theorem e_263 (d : Nat) (a0 : Nat) (h : MHeap) : call (d + 1) 263 [.ref a0] h = (
  nwO h 11 [.null, .null, .null, .null, .int 0, .int 0, .null, .null, .null, .null, .null] fun o1 h2 =>
  cV (call d 83 [.ref o1] h2) fun h3 =>
  nwO h3 12 [.int 0, .int 0, .int 0, .int 0, .null, .null, .null, .null, .int 0, .null, .null, .int 0, .int 0, .int 0, .int 0, .int 0, .int 0, .int 0, .int 0, .null, .null, .null, .null, .int 0, .int 0, .int 0, .int 0, .null, .null, .int 0, .int 0, .int 0, .null, .null, .null, .null, .int 0, .int 0, .int 0] fun o4 h5 =>
  cV (call d 165 [.ref o4] h5) fun h6 =>
  ex d 263 18 [sv (.ref a0), sv (.ref o1), sv (.ref o4), sv (.int (0 : Int32))] [] h6) :=
  (call_unr p_263 rfl o_263 rfl [18, 244, 277, 300, 333, 356, 431, 444, 467, 500, 543, 556, 589, 612, 635, 648, 671, 694, 717, 740, 763, 796, 819, 842, 865, 878, 901, 924, 957, 980, 1003, 1036, 1059, 1082, 1106, 1129, 1142, 1155, 1178, 1211, 1254, 1277, 1310, 1354, 1367, 1380, 1423, 1466, 1529, 1582, 1615] 15 _ rfl h).trans rfl
set_option maxRecDepth 100000 in
theorem e_263_18 (d : Nat) (a0 : Nat) (a1 : Nat) (a2 : Nat) (a3 : Int32) (h : MHeap) : ex d 263 18 [sv (.ref a0), sv (.ref a1), sv (.ref a2), sv (.int a3)] [] h = (
  aln none h a0 fun x1 =>
  if (x1 - (7 : Int32)) < a3 then
  (zr none (1 : Int32) (some (some (.int (1 : Int32)), h)))
  else
  (alI none h a0 a3 fun x2 =>
  if (x2 &&& (63 : Int32)) = (0 : Int32) then
  (ex d 263 244 [sv (.ref a0), sv (.ref a1), sv (.ref a2), sv (.int a3)] [] h)
  else
  (if (x2 &&& (63 : Int32)) = (1 : Int32) then
  (ex d 263 277 [sv (.ref a0), sv (.ref a1), sv (.ref a2), sv (.int a3)] [] h)
  else
  (if (x2 &&& (63 : Int32)) = (2 : Int32) then
  (ex d 263 300 [sv (.ref a0), sv (.ref a1), sv (.ref a2), sv (.int a3)] [] h)
  else
  (if (x2 &&& (63 : Int32)) = (3 : Int32) then
  (ex d 263 333 [sv (.ref a0), sv (.ref a1), sv (.ref a2), sv (.int a3)] [] h)
  else
  (if (x2 &&& (63 : Int32)) = (4 : Int32) then
  (ex d 263 356 [sv (.ref a0), sv (.ref a1), sv (.ref a2), sv (.int a3)] [] h)
  else
  (if (x2 &&& (63 : Int32)) = (5 : Int32) then
  (ex d 263 431 [sv (.ref a0), sv (.ref a1), sv (.ref a2), sv (.int a3)] [] h)
  else
  (if (x2 &&& (63 : Int32)) = (6 : Int32) then
  (ex d 263 444 [sv (.ref a0), sv (.ref a1), sv (.ref a2), sv (.int a3)] [] h)
  else
  (if (x2 &&& (63 : Int32)) = (7 : Int32) then
  (ex d 263 467 [sv (.ref a0), sv (.ref a1), sv (.ref a2), sv (.int a3)] [] h)
  else
  (if (x2 &&& (63 : Int32)) = (8 : Int32) then
  (ex d 263 500 [sv (.ref a0), sv (.ref a1), sv (.ref a2), sv (.int a3)] [] h)
  else
  (if (x2 &&& (63 : Int32)) = (9 : Int32) then
  (ex d 263 543 [sv (.ref a0), sv (.ref a1), sv (.ref a2), sv (.int a3)] [] h)
  else
  (if (x2 &&& (63 : Int32)) = (10 : Int32) then
  (ex d 263 556 [sv (.ref a0), sv (.ref a1), sv (.ref a2), sv (.int a3)] [] h)
  else
  (if (x2 &&& (63 : Int32)) = (11 : Int32) then
  (ex d 263 589 [sv (.ref a0), sv (.ref a1), sv (.ref a2), sv (.int a3)] [] h)
  else
  (if (x2 &&& (63 : Int32)) = (12 : Int32) then
  (ex d 263 612 [sv (.ref a0), sv (.ref a1), sv (.ref a2), sv (.int a3)] [] h)
  else
  (if (x2 &&& (63 : Int32)) = (13 : Int32) then
  (ex d 263 635 [sv (.ref a0), sv (.ref a1), sv (.ref a2), sv (.int a3)] [] h)
  else
  (if (x2 &&& (63 : Int32)) = (14 : Int32) then
  (ex d 263 648 [sv (.ref a0), sv (.ref a1), sv (.ref a2), sv (.int a3)] [] h)
  else
  (if (x2 &&& (63 : Int32)) = (15 : Int32) then
  (ex d 263 671 [sv (.ref a0), sv (.ref a1), sv (.ref a2), sv (.int a3)] [] h)
  else
  (if (x2 &&& (63 : Int32)) = (16 : Int32) then
  (ex d 263 694 [sv (.ref a0), sv (.ref a1), sv (.ref a2), sv (.int a3)] [] h)
  else
  (if (x2 &&& (63 : Int32)) = (17 : Int32) then
  (ex d 263 717 [sv (.ref a0), sv (.ref a1), sv (.ref a2), sv (.int a3)] [] h)
  else
  (if (x2 &&& (63 : Int32)) = (18 : Int32) then
  (ex d 263 740 [sv (.ref a0), sv (.ref a1), sv (.ref a2), sv (.int a3)] [] h)
  else
  (if (x2 &&& (63 : Int32)) = (19 : Int32) then
  (ex d 263 763 [sv (.ref a0), sv (.ref a1), sv (.ref a2), sv (.int a3)] [] h)
  else
  (if (x2 &&& (63 : Int32)) = (20 : Int32) then
  (ex d 263 796 [sv (.ref a0), sv (.ref a1), sv (.ref a2), sv (.int a3)] [] h)
  else
  (if (x2 &&& (63 : Int32)) = (21 : Int32) then
  (ex d 263 819 [sv (.ref a0), sv (.ref a1), sv (.ref a2), sv (.int a3)] [] h)
  else
  (if (x2 &&& (63 : Int32)) = (22 : Int32) then
  (ex d 263 842 [sv (.ref a0), sv (.ref a1), sv (.ref a2), sv (.int a3)] [] h)
  else
  (if (x2 &&& (63 : Int32)) = (23 : Int32) then
  (ex d 263 865 [sv (.ref a0), sv (.ref a1), sv (.ref a2), sv (.int a3)] [] h)
  else
  (if (x2 &&& (63 : Int32)) = (24 : Int32) then
  (ex d 263 878 [sv (.ref a0), sv (.ref a1), sv (.ref a2), sv (.int a3)] [] h)
  else
  (if (x2 &&& (63 : Int32)) = (25 : Int32) then
  (ex d 263 901 [sv (.ref a0), sv (.ref a1), sv (.ref a2), sv (.int a3)] [] h)
  else
  (if (x2 &&& (63 : Int32)) = (26 : Int32) then
  (ex d 263 924 [sv (.ref a0), sv (.ref a1), sv (.ref a2), sv (.int a3)] [] h)
  else
  (if (x2 &&& (63 : Int32)) = (27 : Int32) then
  (ex d 263 957 [sv (.ref a0), sv (.ref a1), sv (.ref a2), sv (.int a3)] [] h)
  else
  (if (x2 &&& (63 : Int32)) = (28 : Int32) then
  (ex d 263 980 [sv (.ref a0), sv (.ref a1), sv (.ref a2), sv (.int a3)] [] h)
  else
  (if (x2 &&& (63 : Int32)) = (29 : Int32) then
  (ex d 263 1003 [sv (.ref a0), sv (.ref a1), sv (.ref a2), sv (.int a3)] [] h)
  else
  (if (x2 &&& (63 : Int32)) = (30 : Int32) then
  (ex d 263 1036 [sv (.ref a0), sv (.ref a1), sv (.ref a2), sv (.int a3)] [] h)
  else
  (if (x2 &&& (63 : Int32)) = (31 : Int32) then
  (ex d 263 1059 [sv (.ref a0), sv (.ref a1), sv (.ref a2), sv (.int a3)] [] h)
  else
  (if (x2 &&& (63 : Int32)) = (32 : Int32) then
  (ex d 263 1082 [sv (.ref a0), sv (.ref a1), sv (.ref a2), sv (.int a3)] [] h)
  else
  (if (x2 &&& (63 : Int32)) = (33 : Int32) then
  (ex d 263 1106 [sv (.ref a0), sv (.ref a1), sv (.ref a2), sv (.int a3)] [] h)
  else
  (if (x2 &&& (63 : Int32)) = (34 : Int32) then
  (ex d 263 1129 [sv (.ref a0), sv (.ref a1), sv (.ref a2), sv (.int a3)] [] h)
  else
  (if (x2 &&& (63 : Int32)) = (35 : Int32) then
  (ex d 263 1142 [sv (.ref a0), sv (.ref a1), sv (.ref a2), sv (.int a3)] [] h)
  else
  (if (x2 &&& (63 : Int32)) = (36 : Int32) then
  (ex d 263 1155 [sv (.ref a0), sv (.ref a1), sv (.ref a2), sv (.int a3)] [] h)
  else
  (if (x2 &&& (63 : Int32)) = (37 : Int32) then
  (ex d 263 1178 [sv (.ref a0), sv (.ref a1), sv (.ref a2), sv (.int a3)] [] h)
  else
  (if (x2 &&& (63 : Int32)) = (38 : Int32) then
  (ex d 263 1211 [sv (.ref a0), sv (.ref a1), sv (.ref a2), sv (.int a3)] [] h)
  else
  (if (x2 &&& (63 : Int32)) = (39 : Int32) then
  (ex d 263 1254 [sv (.ref a0), sv (.ref a1), sv (.ref a2), sv (.int a3)] [] h)
  else
  (if (x2 &&& (63 : Int32)) = (40 : Int32) then
  (ex d 263 1277 [sv (.ref a0), sv (.ref a1), sv (.ref a2), sv (.int a3)] [] h)
  else
  (if (x2 &&& (63 : Int32)) = (41 : Int32) then
  (ex d 263 1310 [sv (.ref a0), sv (.ref a1), sv (.ref a2), sv (.int a3)] [] h)
  else
  (if (x2 &&& (63 : Int32)) = (42 : Int32) then
  (ex d 263 1354 [sv (.ref a0), sv (.ref a1), sv (.ref a2), sv (.int a3)] [] h)
  else
  (if (x2 &&& (63 : Int32)) = (43 : Int32) then
  (ex d 263 1367 [sv (.ref a0), sv (.ref a1), sv (.ref a2), sv (.int a3)] [] h)
  else
  (if (x2 &&& (63 : Int32)) = (44 : Int32) then
  (ex d 263 1380 [sv (.ref a0), sv (.ref a1), sv (.ref a2), sv (.int a3)] [] h)
  else
  (if (x2 &&& (63 : Int32)) = (45 : Int32) then
  (ex d 263 1423 [sv (.ref a0), sv (.ref a1), sv (.ref a2), sv (.int a3)] [] h)
  else
  (if (x2 &&& (63 : Int32)) = (46 : Int32) then
  (ex d 263 1466 [sv (.ref a0), sv (.ref a1), sv (.ref a2), sv (.int a3)] [] h)
  else
  (if (x2 &&& (63 : Int32)) = (47 : Int32) then
  (ex d 263 1529 [sv (.ref a0), sv (.ref a1), sv (.ref a2), sv (.int a3)] [] h)
  else
  (if (x2 &&& (63 : Int32)) = (48 : Int32) then
  (ex d 263 1582 [sv (.ref a0), sv (.ref a1), sv (.ref a2), sv (.int a3)] [] h)
  else
  (ex d 263 1615 [sv (.ref a0), sv (.ref a1), sv (.ref a2), sv (.int a3)] [] h))))))))))))))))))))))))))))))))))))))))))))))))))) :=
  (ex_unr p_263 o_263 [18, 244, 277, 300, 333, 356, 431, 444, 467, 500, 543, 556, 589, 612, 635, 648, 671, 694, 717, 740, 763, 796, 819, 842, 865, 878, 901, 924, 957, 980, 1003, 1036, 1059, 1082, 1106, 1129, 1142, 1155, 1178, 1211, 1254, 1277, 1310, 1354, 1367, 1380, 1423, 1466, 1529, 1582, 1615] 19 rfl _ _ h).trans rfl
set_option maxRecDepth 100000 in
theorem e_263_244 (d : Nat) (a0 : Nat) (a1 : Nat) (a2 : Nat) (a3 : Int32) (h : MHeap) : ex d 263 244 [sv (.ref a0), sv (.ref a1), sv (.ref a2), sv (.int a3)] [] h = (
  alI none h a0 (a3 + (1 : Int32)) fun x1 =>
  alI none h a0 (a3 + (2 : Int32)) fun x2 =>
  vd none h a1 [11, 84] fun m3 =>
  cI (call d m3 [.ref a1, .int x1, .int x2] h) fun x5 h4 =>
  alI none h4 a0 (a3 + (1 : Int32)) fun x6 =>
  alI none h4 a0 (a3 + (2 : Int32)) fun x7 =>
  vd none h4 a2 [12, 173] fun m8 =>
  cI (call d m8 [.ref a2, .int x6, .int x7] h4) fun x10 h9 =>
  if x5 = x10 then
  (ex d 263 1615 [sv (.ref a0), sv (.ref a1), sv (.ref a2), sv (.int a3)] [] h9)
  else
  (zr none (0 : Int32) (some (some (.int (0 : Int32)), h9)))) :=
  (ex_unr p_263 o_263 [18, 244, 277, 300, 333, 356, 431, 444, 467, 500, 543, 556, 589, 612, 635, 648, 671, 694, 717, 740, 763, 796, 819, 842, 865, 878, 901, 924, 957, 980, 1003, 1036, 1059, 1082, 1106, 1129, 1142, 1155, 1178, 1211, 1254, 1277, 1310, 1354, 1367, 1380, 1423, 1466, 1529, 1582, 1615] 32 rfl _ _ h).trans rfl
set_option maxRecDepth 100000 in
theorem e_263_277 (d : Nat) (a0 : Nat) (a1 : Nat) (a2 : Nat) (a3 : Int32) (h : MHeap) : ex d 263 277 [sv (.ref a0), sv (.ref a1), sv (.ref a2), sv (.int a3)] [] h = (
  alI none h a0 (a3 + (1 : Int32)) fun x1 =>
  vd none h a1 [11, 85] fun m2 =>
  cI (call d m2 [.ref a1, .int x1] h) fun x4 h3 =>
  alI none h3 a0 (a3 + (1 : Int32)) fun x5 =>
  vd none h3 a2 [12, 174] fun m6 =>
  cI (call d m6 [.ref a2, .int x5] h3) fun x8 h7 =>
  if x4 = x8 then
  (ex d 263 1615 [sv (.ref a0), sv (.ref a1), sv (.ref a2), sv (.int a3)] [] h7)
  else
  (zr none (0 : Int32) (some (some (.int (0 : Int32)), h7)))) :=
  (ex_unr p_263 o_263 [18, 244, 277, 300, 333, 356, 431, 444, 467, 500, 543, 556, 589, 612, 635, 648, 671, 694, 717, 740, 763, 796, 819, 842, 865, 878, 901, 924, 957, 980, 1003, 1036, 1059, 1082, 1106, 1129, 1142, 1155, 1178, 1211, 1254, 1277, 1310, 1354, 1367, 1380, 1423, 1466, 1529, 1582, 1615] 22 rfl _ _ h).trans rfl
set_option maxRecDepth 100000 in
theorem e_263_300 (d : Nat) (a0 : Nat) (a1 : Nat) (a2 : Nat) (a3 : Int32) (h : MHeap) : ex d 263 300 [sv (.ref a0), sv (.ref a1), sv (.ref a2), sv (.int a3)] [] h = (
  alI none h a0 (a3 + (1 : Int32)) fun x1 =>
  alI none h a0 (a3 + (2 : Int32)) fun x2 =>
  vd none h a1 [11, 86] fun m3 =>
  cI (call d m3 [.ref a1, .int x1, .int x2] h) fun x5 h4 =>
  alI none h4 a0 (a3 + (1 : Int32)) fun x6 =>
  alI none h4 a0 (a3 + (2 : Int32)) fun x7 =>
  vd none h4 a2 [12, 176] fun m8 =>
  cI (call d m8 [.ref a2, .int x6, .int x7] h4) fun x10 h9 =>
  if x5 = x10 then
  (ex d 263 1615 [sv (.ref a0), sv (.ref a1), sv (.ref a2), sv (.int a3)] [] h9)
  else
  (zr none (0 : Int32) (some (some (.int (0 : Int32)), h9)))) :=
  (ex_unr p_263 o_263 [18, 244, 277, 300, 333, 356, 431, 444, 467, 500, 543, 556, 589, 612, 635, 648, 671, 694, 717, 740, 763, 796, 819, 842, 865, 878, 901, 924, 957, 980, 1003, 1036, 1059, 1082, 1106, 1129, 1142, 1155, 1178, 1211, 1254, 1277, 1310, 1354, 1367, 1380, 1423, 1466, 1529, 1582, 1615] 32 rfl _ _ h).trans rfl
set_option maxRecDepth 100000 in
theorem e_263_333 (d : Nat) (a0 : Nat) (a1 : Nat) (a2 : Nat) (a3 : Int32) (h : MHeap) : ex d 263 333 [sv (.ref a0), sv (.ref a1), sv (.ref a2), sv (.int a3)] [] h = (
  alI none h a0 (a3 + (1 : Int32)) fun x1 =>
  vd none h a1 [11, 87] fun m2 =>
  cI (call d m2 [.ref a1, .int x1] h) fun x4 h3 =>
  alI none h3 a0 (a3 + (1 : Int32)) fun x5 =>
  vd none h3 a2 [12, 177] fun m6 =>
  cI (call d m6 [.ref a2, .int x5] h3) fun x8 h7 =>
  if x4 = x8 then
  (ex d 263 1615 [sv (.ref a0), sv (.ref a1), sv (.ref a2), sv (.int a3)] [] h7)
  else
  (zr none (0 : Int32) (some (some (.int (0 : Int32)), h7)))) :=
  (ex_unr p_263 o_263 [18, 244, 277, 300, 333, 356, 431, 444, 467, 500, 543, 556, 589, 612, 635, 648, 671, 694, 717, 740, 763, 796, 819, 842, 865, 878, 901, 924, 957, 980, 1003, 1036, 1059, 1082, 1106, 1129, 1142, 1155, 1178, 1211, 1254, 1277, 1310, 1354, 1367, 1380, 1423, 1466, 1529, 1582, 1615] 22 rfl _ _ h).trans rfl
set_option maxRecDepth 100000 in
theorem e_263_356 (d : Nat) (a0 : Nat) (a1 : Nat) (a2 : Nat) (a3 : Int32) (h : MHeap) : ex d 263 356 [sv (.ref a0), sv (.ref a1), sv (.ref a2), sv (.int a3)] [] h = (
  alI none h a0 (a3 + (1 : Int32)) fun x1 =>
  alI none h a0 (a3 + (2 : Int32)) fun x2 =>
  alI none h a0 (a3 + (3 : Int32)) fun x3 =>
  alI none h a0 (a3 + (4 : Int32)) fun x4 =>
  alI none h a0 (a3 + (5 : Int32)) fun x5 =>
  alI none h a0 (a3 + (6 : Int32)) fun x6 =>
  vd none h a1 [11, 88] fun m7 =>
  cI (call d m7 [.ref a1, .int x1, .int x2, .int x3, .int x4, .int x5, .int x6] h) fun x9 h8 =>
  alI none h8 a0 (a3 + (1 : Int32)) fun x10 =>
  alI none h8 a0 (a3 + (2 : Int32)) fun x11 =>
  alI none h8 a0 (a3 + (3 : Int32)) fun x12 =>
  alI none h8 a0 (a3 + (4 : Int32)) fun x13 =>
  alI none h8 a0 (a3 + (5 : Int32)) fun x14 =>
  alI none h8 a0 (a3 + (6 : Int32)) fun x15 =>
  vd none h8 a2 [12, 179] fun m16 =>
  cI (call d m16 [.ref a2, .int x10, .int x11, .int x12, .int x13, .int x14, .int x15] h8) fun x18 h17 =>
  if x9 = x18 then
  (ex d 263 1615 [sv (.ref a0), sv (.ref a1), sv (.ref a2), sv (.int a3)] [] h17)
  else
  (zr none (0 : Int32) (some (some (.int (0 : Int32)), h17)))) :=
  (ex_unr p_263 o_263 [18, 244, 277, 300, 333, 356, 431, 444, 467, 500, 543, 556, 589, 612, 635, 648, 671, 694, 717, 740, 763, 796, 819, 842, 865, 878, 901, 924, 957, 980, 1003, 1036, 1059, 1082, 1106, 1129, 1142, 1155, 1178, 1211, 1254, 1277, 1310, 1354, 1367, 1380, 1423, 1466, 1529, 1582, 1615] 72 rfl _ _ h).trans rfl
set_option maxRecDepth 100000 in
theorem e_263_431 (d : Nat) (a0 : Nat) (a1 : Nat) (a2 : Nat) (a3 : Int32) (h : MHeap) : ex d 263 431 [sv (.ref a0), sv (.ref a1), sv (.ref a2), sv (.int a3)] [] h = (
  vd none h a1 [11, 89] fun m1 =>
  cI (call d m1 [.ref a1] h) fun x3 h2 =>
  vd none h2 a2 [12, 190] fun m4 =>
  cI (call d m4 [.ref a2] h2) fun x6 h5 =>
  if x3 = x6 then
  (ex d 263 1615 [sv (.ref a0), sv (.ref a1), sv (.ref a2), sv (.int a3)] [] h5)
  else
  (zr none (0 : Int32) (some (some (.int (0 : Int32)), h5)))) :=
  (ex_unr p_263 o_263 [18, 244, 277, 300, 333, 356, 431, 444, 467, 500, 543, 556, 589, 612, 635, 648, 671, 694, 717, 740, 763, 796, 819, 842, 865, 878, 901, 924, 957, 980, 1003, 1036, 1059, 1082, 1106, 1129, 1142, 1155, 1178, 1211, 1254, 1277, 1310, 1354, 1367, 1380, 1423, 1466, 1529, 1582, 1615] 12 rfl _ _ h).trans rfl
set_option maxRecDepth 100000 in
theorem e_263_444 (d : Nat) (a0 : Nat) (a1 : Nat) (a2 : Nat) (a3 : Int32) (h : MHeap) : ex d 263 444 [sv (.ref a0), sv (.ref a1), sv (.ref a2), sv (.int a3)] [] h = (
  alI none h a0 (a3 + (1 : Int32)) fun x1 =>
  vd none h a1 [11, 90] fun m2 =>
  cI (call d m2 [.ref a1, .int x1] h) fun x4 h3 =>
  alI none h3 a0 (a3 + (1 : Int32)) fun x5 =>
  vd none h3 a2 [12, 193] fun m6 =>
  cI (call d m6 [.ref a2, .int x5] h3) fun x8 h7 =>
  if x4 = x8 then
  (ex d 263 1615 [sv (.ref a0), sv (.ref a1), sv (.ref a2), sv (.int a3)] [] h7)
  else
  (zr none (0 : Int32) (some (some (.int (0 : Int32)), h7)))) :=
  (ex_unr p_263 o_263 [18, 244, 277, 300, 333, 356, 431, 444, 467, 500, 543, 556, 589, 612, 635, 648, 671, 694, 717, 740, 763, 796, 819, 842, 865, 878, 901, 924, 957, 980, 1003, 1036, 1059, 1082, 1106, 1129, 1142, 1155, 1178, 1211, 1254, 1277, 1310, 1354, 1367, 1380, 1423, 1466, 1529, 1582, 1615] 22 rfl _ _ h).trans rfl
set_option maxRecDepth 100000 in
theorem e_263_467 (d : Nat) (a0 : Nat) (a1 : Nat) (a2 : Nat) (a3 : Int32) (h : MHeap) : ex d 263 467 [sv (.ref a0), sv (.ref a1), sv (.ref a2), sv (.int a3)] [] h = (
  alI none h a0 (a3 + (1 : Int32)) fun x1 =>
  alI none h a0 (a3 + (2 : Int32)) fun x2 =>
  vd none h a1 [11, 91] fun m3 =>
  cI (call d m3 [.ref a1, .int x1, .int x2] h) fun x5 h4 =>
  alI none h4 a0 (a3 + (1 : Int32)) fun x6 =>
  alI none h4 a0 (a3 + (2 : Int32)) fun x7 =>
  vd none h4 a2 [12, 195] fun m8 =>
  cI (call d m8 [.ref a2, .int x6, .int x7] h4) fun x10 h9 =>
  if x5 = x10 then
  (ex d 263 1615 [sv (.ref a0), sv (.ref a1), sv (.ref a2), sv (.int a3)] [] h9)
  else
  (zr none (0 : Int32) (some (some (.int (0 : Int32)), h9)))) :=
  (ex_unr p_263 o_263 [18, 244, 277, 300, 333, 356, 431, 444, 467, 500, 543, 556, 589, 612, 635, 648, 671, 694, 717, 740, 763, 796, 819, 842, 865, 878, 901, 924, 957, 980, 1003, 1036, 1059, 1082, 1106, 1129, 1142, 1155, 1178, 1211, 1254, 1277, 1310, 1354, 1367, 1380, 1423, 1466, 1529, 1582, 1615] 32 rfl _ _ h).trans rfl
set_option maxRecDepth 100000 in
theorem e_263_500 (d : Nat) (a0 : Nat) (a1 : Nat) (a2 : Nat) (a3 : Int32) (h : MHeap) : ex d 263 500 [sv (.ref a0), sv (.ref a1), sv (.ref a2), sv (.int a3)] [] h = (
  alI none h a0 (a3 + (1 : Int32)) fun x1 =>
  alI none h a0 (a3 + (2 : Int32)) fun x2 =>
  alI none h a0 (a3 + (3 : Int32)) fun x3 =>
  vd none h a1 [11, 92] fun m4 =>
  cI (call d m4 [.ref a1, .int x1, .int x2, .int x3] h) fun x6 h5 =>
  alI none h5 a0 (a3 + (1 : Int32)) fun x7 =>
  alI none h5 a0 (a3 + (2 : Int32)) fun x8 =>
  alI none h5 a0 (a3 + (3 : Int32)) fun x9 =>
  vd none h5 a2 [12, 197] fun m10 =>
  cI (call d m10 [.ref a2, .int x7, .int x8, .int x9] h5) fun x12 h11 =>
  if x6 = x12 then
  (ex d 263 1615 [sv (.ref a0), sv (.ref a1), sv (.ref a2), sv (.int a3)] [] h11)
  else
  (zr none (0 : Int32) (some (some (.int (0 : Int32)), h11)))) :=
  (ex_unr p_263 o_263 [18, 244, 277, 300, 333, 356, 431, 444, 467, 500, 543, 556, 589, 612, 635, 648, 671, 694, 717, 740, 763, 796, 819, 842, 865, 878, 901, 924, 957, 980, 1003, 1036, 1059, 1082, 1106, 1129, 1142, 1155, 1178, 1211, 1254, 1277, 1310, 1354, 1367, 1380, 1423, 1466, 1529, 1582, 1615] 42 rfl _ _ h).trans rfl
set_option maxRecDepth 100000 in
theorem e_263_543 (d : Nat) (a0 : Nat) (a1 : Nat) (a2 : Nat) (a3 : Int32) (h : MHeap) : ex d 263 543 [sv (.ref a0), sv (.ref a1), sv (.ref a2), sv (.int a3)] [] h = (
  vd none h a1 [11, 93] fun m1 =>
  cI (call d m1 [.ref a1] h) fun x3 h2 =>
  vd none h2 a2 [12, 198] fun m4 =>
  cI (call d m4 [.ref a2] h2) fun x6 h5 =>
  if x3 = x6 then
  (ex d 263 1615 [sv (.ref a0), sv (.ref a1), sv (.ref a2), sv (.int a3)] [] h5)
  else
  (zr none (0 : Int32) (some (some (.int (0 : Int32)), h5)))) :=
  (ex_unr p_263 o_263 [18, 244, 277, 300, 333, 356, 431, 444, 467, 500, 543, 556, 589, 612, 635, 648, 671, 694, 717, 740, 763, 796, 819, 842, 865, 878, 901, 924, 957, 980, 1003, 1036, 1059, 1082, 1106, 1129, 1142, 1155, 1178, 1211, 1254, 1277, 1310, 1354, 1367, 1380, 1423, 1466, 1529, 1582, 1615] 12 rfl _ _ h).trans rfl
set_option maxRecDepth 100000 in
theorem e_263_556 (d : Nat) (a0 : Nat) (a1 : Nat) (a2 : Nat) (a3 : Int32) (h : MHeap) : ex d 263 556 [sv (.ref a0), sv (.ref a1), sv (.ref a2), sv (.int a3)] [] h = (
  alI none h a0 (a3 + (1 : Int32)) fun x1 =>
  alI none h a0 (a3 + (2 : Int32)) fun x2 =>
  vd none h a1 [11, 94] fun m3 =>
  cI (call d m3 [.ref a1, .int x1, .int x2] h) fun x5 h4 =>
  alI none h4 a0 (a3 + (1 : Int32)) fun x6 =>
  alI none h4 a0 (a3 + (2 : Int32)) fun x7 =>
  vd none h4 a2 [12, 206] fun m8 =>
  cI (call d m8 [.ref a2, .int x6, .int x7] h4) fun x10 h9 =>
  if x5 = x10 then
  (ex d 263 1615 [sv (.ref a0), sv (.ref a1), sv (.ref a2), sv (.int a3)] [] h9)
  else
  (zr none (0 : Int32) (some (some (.int (0 : Int32)), h9)))) :=
  (ex_unr p_263 o_263 [18, 244, 277, 300, 333, 356, 431, 444, 467, 500, 543, 556, 589, 612, 635, 648, 671, 694, 717, 740, 763, 796, 819, 842, 865, 878, 901, 924, 957, 980, 1003, 1036, 1059, 1082, 1106, 1129, 1142, 1155, 1178, 1211, 1254, 1277, 1310, 1354, 1367, 1380, 1423, 1466, 1529, 1582, 1615] 32 rfl _ _ h).trans rfl
set_option maxRecDepth 100000 in
theorem e_263_589 (d : Nat) (a0 : Nat) (a1 : Nat) (a2 : Nat) (a3 : Int32) (h : MHeap) : ex d 263 589 [sv (.ref a0), sv (.ref a1), sv (.ref a2), sv (.int a3)] [] h = (
  alI none h a0 (a3 + (1 : Int32)) fun x1 =>
  vd none h a1 [11, 95] fun m2 =>
  cI (call d m2 [.ref a1, .int x1] h) fun x4 h3 =>
  alI none h3 a0 (a3 + (1 : Int32)) fun x5 =>
  vd none h3 a2 [12, 207] fun m6 =>
  cI (call d m6 [.ref a2, .int x5] h3) fun x8 h7 =>
  if x4 = x8 then
  (ex d 263 1615 [sv (.ref a0), sv (.ref a1), sv (.ref a2), sv (.int a3)] [] h7)
  else
  (zr none (0 : Int32) (some (some (.int (0 : Int32)), h7)))) :=
  (ex_unr p_263 o_263 [18, 244, 277, 300, 333, 356, 431, 444, 467, 500, 543, 556, 589, 612, 635, 648, 671, 694, 717, 740, 763, 796, 819, 842, 865, 878, 901, 924, 957, 980, 1003, 1036, 1059, 1082, 1106, 1129, 1142, 1155, 1178, 1211, 1254, 1277, 1310, 1354, 1367, 1380, 1423, 1466, 1529, 1582, 1615] 22 rfl _ _ h).trans rfl
set_option maxRecDepth 100000 in
theorem e_263_612 (d : Nat) (a0 : Nat) (a1 : Nat) (a2 : Nat) (a3 : Int32) (h : MHeap) : ex d 263 612 [sv (.ref a0), sv (.ref a1), sv (.ref a2), sv (.int a3)] [] h = (
  alI none h a0 (a3 + (1 : Int32)) fun x1 =>
  vd none h a1 [11, 96] fun m2 =>
  cI (call d m2 [.ref a1, .int x1] h) fun x4 h3 =>
  alI none h3 a0 (a3 + (1 : Int32)) fun x5 =>
  vd none h3 a2 [12, 208] fun m6 =>
  cI (call d m6 [.ref a2, .int x5] h3) fun x8 h7 =>
  if x4 = x8 then
  (ex d 263 1615 [sv (.ref a0), sv (.ref a1), sv (.ref a2), sv (.int a3)] [] h7)
  else
  (zr none (0 : Int32) (some (some (.int (0 : Int32)), h7)))) :=
  (ex_unr p_263 o_263 [18, 244, 277, 300, 333, 356, 431, 444, 467, 500, 543, 556, 589, 612, 635, 648, 671, 694, 717, 740, 763, 796, 819, 842, 865, 878, 901, 924, 957, 980, 1003, 1036, 1059, 1082, 1106, 1129, 1142, 1155, 1178, 1211, 1254, 1277, 1310, 1354, 1367, 1380, 1423, 1466, 1529, 1582, 1615] 22 rfl _ _ h).trans rfl
set_option maxRecDepth 100000 in
theorem e_263_635 (d : Nat) (a0 : Nat) (a1 : Nat) (a2 : Nat) (a3 : Int32) (h : MHeap) : ex d 263 635 [sv (.ref a0), sv (.ref a1), sv (.ref a2), sv (.int a3)] [] h = (
  vd none h a1 [11, 97] fun m1 =>
  cI (call d m1 [.ref a1] h) fun x3 h2 =>
  vd none h2 a2 [12, 211] fun m4 =>
  cI (call d m4 [.ref a2] h2) fun x6 h5 =>
  if x3 = x6 then
  (ex d 263 1615 [sv (.ref a0), sv (.ref a1), sv (.ref a2), sv (.int a3)] [] h5)
  else
  (zr none (0 : Int32) (some (some (.int (0 : Int32)), h5)))) :=
  (ex_unr p_263 o_263 [18, 244, 277, 300, 333, 356, 431, 444, 467, 500, 543, 556, 589, 612, 635, 648, 671, 694, 717, 740, 763, 796, 819, 842, 865, 878, 901, 924, 957, 980, 1003, 1036, 1059, 1082, 1106, 1129, 1142, 1155, 1178, 1211, 1254, 1277, 1310, 1354, 1367, 1380, 1423, 1466, 1529, 1582, 1615] 12 rfl _ _ h).trans rfl
set_option maxRecDepth 100000 in
theorem e_263_648 (d : Nat) (a0 : Nat) (a1 : Nat) (a2 : Nat) (a3 : Int32) (h : MHeap) : ex d 263 648 [sv (.ref a0), sv (.ref a1), sv (.ref a2), sv (.int a3)] [] h = (
  alI none h a0 (a3 + (1 : Int32)) fun x1 =>
  vd none h a1 [11, 98] fun m2 =>
  cI (call d m2 [.ref a1, .int x1] h) fun x4 h3 =>
  alI none h3 a0 (a3 + (1 : Int32)) fun x5 =>
  vd none h3 a2 [12, 212] fun m6 =>
  cI (call d m6 [.ref a2, .int x5] h3) fun x8 h7 =>
  if x4 = x8 then
  (ex d 263 1615 [sv (.ref a0), sv (.ref a1), sv (.ref a2), sv (.int a3)] [] h7)
  else
  (zr none (0 : Int32) (some (some (.int (0 : Int32)), h7)))) :=
  (ex_unr p_263 o_263 [18, 244, 277, 300, 333, 356, 431, 444, 467, 500, 543, 556, 589, 612, 635, 648, 671, 694, 717, 740, 763, 796, 819, 842, 865, 878, 901, 924, 957, 980, 1003, 1036, 1059, 1082, 1106, 1129, 1142, 1155, 1178, 1211, 1254, 1277, 1310, 1354, 1367, 1380, 1423, 1466, 1529, 1582, 1615] 22 rfl _ _ h).trans rfl
set_option maxRecDepth 100000 in
theorem e_263_671 (d : Nat) (a0 : Nat) (a1 : Nat) (a2 : Nat) (a3 : Int32) (h : MHeap) : ex d 263 671 [sv (.ref a0), sv (.ref a1), sv (.ref a2), sv (.int a3)] [] h = (
  alI none h a0 (a3 + (1 : Int32)) fun x1 =>
  vd none h a1 [11, 99] fun m2 =>
  cI (call d m2 [.ref a1, .int x1] h) fun x4 h3 =>
  alI none h3 a0 (a3 + (1 : Int32)) fun x5 =>
  vd none h3 a2 [12, 213] fun m6 =>
  cI (call d m6 [.ref a2, .int x5] h3) fun x8 h7 =>
  if x4 = x8 then
  (ex d 263 1615 [sv (.ref a0), sv (.ref a1), sv (.ref a2), sv (.int a3)] [] h7)
  else
  (zr none (0 : Int32) (some (some (.int (0 : Int32)), h7)))) :=
  (ex_unr p_263 o_263 [18, 244, 277, 300, 333, 356, 431, 444, 467, 500, 543, 556, 589, 612, 635, 648, 671, 694, 717, 740, 763, 796, 819, 842, 865, 878, 901, 924, 957, 980, 1003, 1036, 1059, 1082, 1106, 1129, 1142, 1155, 1178, 1211, 1254, 1277, 1310, 1354, 1367, 1380, 1423, 1466, 1529, 1582, 1615] 22 rfl _ _ h).trans rfl
set_option maxRecDepth 100000 in
theorem e_263_694 (d : Nat) (a0 : Nat) (a1 : Nat) (a2 : Nat) (a3 : Int32) (h : MHeap) : ex d 263 694 [sv (.ref a0), sv (.ref a1), sv (.ref a2), sv (.int a3)] [] h = (
  alI none h a0 (a3 + (1 : Int32)) fun x1 =>
  vd none h a1 [11, 100] fun m2 =>
  cI (call d m2 [.ref a1, .int x1] h) fun x4 h3 =>
  alI none h3 a0 (a3 + (1 : Int32)) fun x5 =>
  vd none h3 a2 [12, 214] fun m6 =>
  cI (call d m6 [.ref a2, .int x5] h3) fun x8 h7 =>
  if x4 = x8 then
  (ex d 263 1615 [sv (.ref a0), sv (.ref a1), sv (.ref a2), sv (.int a3)] [] h7)
  else
  (zr none (0 : Int32) (some (some (.int (0 : Int32)), h7)))) :=
  (ex_unr p_263 o_263 [18, 244, 277, 300, 333, 356, 431, 444, 467, 500, 543, 556, 589, 612, 635, 648, 671, 694, 717, 740, 763, 796, 819, 842, 865, 878, 901, 924, 957, 980, 1003, 1036, 1059, 1082, 1106, 1129, 1142, 1155, 1178, 1211, 1254, 1277, 1310, 1354, 1367, 1380, 1423, 1466, 1529, 1582, 1615] 22 rfl _ _ h).trans rfl
set_option maxRecDepth 100000 in
theorem e_263_717 (d : Nat) (a0 : Nat) (a1 : Nat) (a2 : Nat) (a3 : Int32) (h : MHeap) : ex d 263 717 [sv (.ref a0), sv (.ref a1), sv (.ref a2), sv (.int a3)] [] h = (
  alI none h a0 (a3 + (1 : Int32)) fun x1 =>
  vd none h a1 [11, 101] fun m2 =>
  cI (call d m2 [.ref a1, .int x1] h) fun x4 h3 =>
  alI none h3 a0 (a3 + (1 : Int32)) fun x5 =>
  vd none h3 a2 [12, 215] fun m6 =>
  cI (call d m6 [.ref a2, .int x5] h3) fun x8 h7 =>
  if x4 = x8 then
  (ex d 263 1615 [sv (.ref a0), sv (.ref a1), sv (.ref a2), sv (.int a3)] [] h7)
  else
  (zr none (0 : Int32) (some (some (.int (0 : Int32)), h7)))) :=
  (ex_unr p_263 o_263 [18, 244, 277, 300, 333, 356, 431, 444, 467, 500, 543, 556, 589, 612, 635, 648, 671, 694, 717, 740, 763, 796, 819, 842, 865, 878, 901, 924, 957, 980, 1003, 1036, 1059, 1082, 1106, 1129, 1142, 1155, 1178, 1211, 1254, 1277, 1310, 1354, 1367, 1380, 1423, 1466, 1529, 1582, 1615] 22 rfl _ _ h).trans rfl
set_option maxRecDepth 100000 in
theorem e_263_740 (d : Nat) (a0 : Nat) (a1 : Nat) (a2 : Nat) (a3 : Int32) (h : MHeap) : ex d 263 740 [sv (.ref a0), sv (.ref a1), sv (.ref a2), sv (.int a3)] [] h = (
  alI none h a0 (a3 + (1 : Int32)) fun x1 =>
  vd none h a1 [11, 102] fun m2 =>
  cI (call d m2 [.ref a1, .int x1] h) fun x4 h3 =>
  alI none h3 a0 (a3 + (1 : Int32)) fun x5 =>
  vd none h3 a2 [12, 216] fun m6 =>
  cI (call d m6 [.ref a2, .int x5] h3) fun x8 h7 =>
  if x4 = x8 then
  (ex d 263 1615 [sv (.ref a0), sv (.ref a1), sv (.ref a2), sv (.int a3)] [] h7)
  else
  (zr none (0 : Int32) (some (some (.int (0 : Int32)), h7)))) :=
  (ex_unr p_263 o_263 [18, 244, 277, 300, 333, 356, 431, 444, 467, 500, 543, 556, 589, 612, 635, 648, 671, 694, 717, 740, 763, 796, 819, 842, 865, 878, 901, 924, 957, 980, 1003, 1036, 1059, 1082, 1106, 1129, 1142, 1155, 1178, 1211, 1254, 1277, 1310, 1354, 1367, 1380, 1423, 1466, 1529, 1582, 1615] 22 rfl _ _ h).trans rfl
set_option maxRecDepth 100000 in
theorem e_263_763 (d : Nat) (a0 : Nat) (a1 : Nat) (a2 : Nat) (a3 : Int32) (h : MHeap) : ex d 263 763 [sv (.ref a0), sv (.ref a1), sv (.ref a2), sv (.int a3)] [] h = (
  alI none h a0 (a3 + (1 : Int32)) fun x1 =>
  alI none h a0 (a3 + (2 : Int32)) fun x2 =>
  vd none h a1 [11, 103] fun m3 =>
  cI (call d m3 [.ref a1, .int x1, .int x2] h) fun x5 h4 =>
  alI none h4 a0 (a3 + (1 : Int32)) fun x6 =>
  alI none h4 a0 (a3 + (2 : Int32)) fun x7 =>
  vd none h4 a2 [12, 218] fun m8 =>
  cI (call d m8 [.ref a2, .int x6, .int x7] h4) fun x10 h9 =>
  if x5 = x10 then
  (ex d 263 1615 [sv (.ref a0), sv (.ref a1), sv (.ref a2), sv (.int a3)] [] h9)
  else
  (zr none (0 : Int32) (some (some (.int (0 : Int32)), h9)))) :=
  (ex_unr p_263 o_263 [18, 244, 277, 300, 333, 356, 431, 444, 467, 500, 543, 556, 589, 612, 635, 648, 671, 694, 717, 740, 763, 796, 819, 842, 865, 878, 901, 924, 957, 980, 1003, 1036, 1059, 1082, 1106, 1129, 1142, 1155, 1178, 1211, 1254, 1277, 1310, 1354, 1367, 1380, 1423, 1466, 1529, 1582, 1615] 32 rfl _ _ h).trans rfl
set_option maxRecDepth 100000 in
theorem e_263_796 (d : Nat) (a0 : Nat) (a1 : Nat) (a2 : Nat) (a3 : Int32) (h : MHeap) : ex d 263 796 [sv (.ref a0), sv (.ref a1), sv (.ref a2), sv (.int a3)] [] h = (
  alI none h a0 (a3 + (1 : Int32)) fun x1 =>
  vd none h a1 [11, 104] fun m2 =>
  cI (call d m2 [.ref a1, .int x1] h) fun x4 h3 =>
  alI none h3 a0 (a3 + (1 : Int32)) fun x5 =>
  vd none h3 a2 [12, 219] fun m6 =>
  cI (call d m6 [.ref a2, .int x5] h3) fun x8 h7 =>
  if x4 = x8 then
  (ex d 263 1615 [sv (.ref a0), sv (.ref a1), sv (.ref a2), sv (.int a3)] [] h7)
  else
  (zr none (0 : Int32) (some (some (.int (0 : Int32)), h7)))) :=
  (ex_unr p_263 o_263 [18, 244, 277, 300, 333, 356, 431, 444, 467, 500, 543, 556, 589, 612, 635, 648, 671, 694, 717, 740, 763, 796, 819, 842, 865, 878, 901, 924, 957, 980, 1003, 1036, 1059, 1082, 1106, 1129, 1142, 1155, 1178, 1211, 1254, 1277, 1310, 1354, 1367, 1380, 1423, 1466, 1529, 1582, 1615] 22 rfl _ _ h).trans rfl
set_option maxRecDepth 100000 in
theorem e_263_819 (d : Nat) (a0 : Nat) (a1 : Nat) (a2 : Nat) (a3 : Int32) (h : MHeap) : ex d 263 819 [sv (.ref a0), sv (.ref a1), sv (.ref a2), sv (.int a3)] [] h = (
  alI none h a0 (a3 + (1 : Int32)) fun x1 =>
  vd none h a1 [11, 105] fun m2 =>
  cI (call d m2 [.ref a1, .int x1] h) fun x4 h3 =>
  alI none h3 a0 (a3 + (1 : Int32)) fun x5 =>
  vd none h3 a2 [12, 220] fun m6 =>
  cI (call d m6 [.ref a2, .int x5] h3) fun x8 h7 =>
  if x4 = x8 then
  (ex d 263 1615 [sv (.ref a0), sv (.ref a1), sv (.ref a2), sv (.int a3)] [] h7)
  else
  (zr none (0 : Int32) (some (some (.int (0 : Int32)), h7)))) :=
  (ex_unr p_263 o_263 [18, 244, 277, 300, 333, 356, 431, 444, 467, 500, 543, 556, 589, 612, 635, 648, 671, 694, 717, 740, 763, 796, 819, 842, 865, 878, 901, 924, 957, 980, 1003, 1036, 1059, 1082, 1106, 1129, 1142, 1155, 1178, 1211, 1254, 1277, 1310, 1354, 1367, 1380, 1423, 1466, 1529, 1582, 1615] 22 rfl _ _ h).trans rfl
set_option maxRecDepth 100000 in
theorem e_263_842 (d : Nat) (a0 : Nat) (a1 : Nat) (a2 : Nat) (a3 : Int32) (h : MHeap) : ex d 263 842 [sv (.ref a0), sv (.ref a1), sv (.ref a2), sv (.int a3)] [] h = (
  alI none h a0 (a3 + (1 : Int32)) fun x1 =>
  vd none h a1 [11, 106] fun m2 =>
  cI (call d m2 [.ref a1, .int x1] h) fun x4 h3 =>
  alI none h3 a0 (a3 + (1 : Int32)) fun x5 =>
  vd none h3 a2 [12, 222] fun m6 =>
  cI (call d m6 [.ref a2, .int x5] h3) fun x8 h7 =>
  if x4 = x8 then
  (ex d 263 1615 [sv (.ref a0), sv (.ref a1), sv (.ref a2), sv (.int a3)] [] h7)
  else
  (zr none (0 : Int32) (some (some (.int (0 : Int32)), h7)))) :=
  (ex_unr p_263 o_263 [18, 244, 277, 300, 333, 356, 431, 444, 467, 500, 543, 556, 589, 612, 635, 648, 671, 694, 717, 740, 763, 796, 819, 842, 865, 878, 901, 924, 957, 980, 1003, 1036, 1059, 1082, 1106, 1129, 1142, 1155, 1178, 1211, 1254, 1277, 1310, 1354, 1367, 1380, 1423, 1466, 1529, 1582, 1615] 22 rfl _ _ h).trans rfl
set_option maxRecDepth 100000 in
theorem e_263_865 (d : Nat) (a0 : Nat) (a1 : Nat) (a2 : Nat) (a3 : Int32) (h : MHeap) : ex d 263 865 [sv (.ref a0), sv (.ref a1), sv (.ref a2), sv (.int a3)] [] h = (
  vd none h a1 [11, 107] fun m1 =>
  cI (call d m1 [.ref a1] h) fun x3 h2 =>
  vd none h2 a2 [12, 224] fun m4 =>
  cI (call d m4 [.ref a2] h2) fun x6 h5 =>
  if x3 = x6 then
  (ex d 263 1615 [sv (.ref a0), sv (.ref a1), sv (.ref a2), sv (.int a3)] [] h5)
  else
  (zr none (0 : Int32) (some (some (.int (0 : Int32)), h5)))) :=
  (ex_unr p_263 o_263 [18, 244, 277, 300, 333, 356, 431, 444, 467, 500, 543, 556, 589, 612, 635, 648, 671, 694, 717, 740, 763, 796, 819, 842, 865, 878, 901, 924, 957, 980, 1003, 1036, 1059, 1082, 1106, 1129, 1142, 1155, 1178, 1211, 1254, 1277, 1310, 1354, 1367, 1380, 1423, 1466, 1529, 1582, 1615] 12 rfl _ _ h).trans rfl
set_option maxRecDepth 100000 in
theorem e_263_878 (d : Nat) (a0 : Nat) (a1 : Nat) (a2 : Nat) (a3 : Int32) (h : MHeap) : ex d 263 878 [sv (.ref a0), sv (.ref a1), sv (.ref a2), sv (.int a3)] [] h = (
  alI none h a0 (a3 + (1 : Int32)) fun x1 =>
  vd none h a1 [11, 108] fun m2 =>
  cI (call d m2 [.ref a1, .int x1] h) fun x4 h3 =>
  alI none h3 a0 (a3 + (1 : Int32)) fun x5 =>
  vd none h3 a2 [12, 225] fun m6 =>
  cI (call d m6 [.ref a2, .int x5] h3) fun x8 h7 =>
  if x4 = x8 then
  (ex d 263 1615 [sv (.ref a0), sv (.ref a1), sv (.ref a2), sv (.int a3)] [] h7)
  else
  (zr none (0 : Int32) (some (some (.int (0 : Int32)), h7)))) :=
  (ex_unr p_263 o_263 [18, 244, 277, 300, 333, 356, 431, 444, 467, 500, 543, 556, 589, 612, 635, 648, 671, 694, 717, 740, 763, 796, 819, 842, 865, 878, 901, 924, 957, 980, 1003, 1036, 1059, 1082, 1106, 1129, 1142, 1155, 1178, 1211, 1254, 1277, 1310, 1354, 1367, 1380, 1423, 1466, 1529, 1582, 1615] 22 rfl _ _ h).trans rfl
set_option maxRecDepth 100000 in
theorem e_263_901 (d : Nat) (a0 : Nat) (a1 : Nat) (a2 : Nat) (a3 : Int32) (h : MHeap) : ex d 263 901 [sv (.ref a0), sv (.ref a1), sv (.ref a2), sv (.int a3)] [] h = (
  alI none h a0 (a3 + (1 : Int32)) fun x1 =>
  vd none h a1 [11, 109] fun m2 =>
  cI (call d m2 [.ref a1, .int x1] h) fun x4 h3 =>
  alI none h3 a0 (a3 + (1 : Int32)) fun x5 =>
  vd none h3 a2 [12, 226] fun m6 =>
  cI (call d m6 [.ref a2, .int x5] h3) fun x8 h7 =>
  if x4 = x8 then
  (ex d 263 1615 [sv (.ref a0), sv (.ref a1), sv (.ref a2), sv (.int a3)] [] h7)
  else
  (zr none (0 : Int32) (some (some (.int (0 : Int32)), h7)))) :=
  (ex_unr p_263 o_263 [18, 244, 277, 300, 333, 356, 431, 444, 467, 500, 543, 556, 589, 612, 635, 648, 671, 694, 717, 740, 763, 796, 819, 842, 865, 878, 901, 924, 957, 980, 1003, 1036, 1059, 1082, 1106, 1129, 1142, 1155, 1178, 1211, 1254, 1277, 1310, 1354, 1367, 1380, 1423, 1466, 1529, 1582, 1615] 22 rfl _ _ h).trans rfl
set_option maxRecDepth 100000 in
theorem e_263_924 (d : Nat) (a0 : Nat) (a1 : Nat) (a2 : Nat) (a3 : Int32) (h : MHeap) : ex d 263 924 [sv (.ref a0), sv (.ref a1), sv (.ref a2), sv (.int a3)] [] h = (
  alI none h a0 (a3 + (1 : Int32)) fun x1 =>
  alI none h a0 (a3 + (2 : Int32)) fun x2 =>
  vd none h a1 [11, 110] fun m3 =>
  cI (call d m3 [.ref a1, .int x1, .int x2] h) fun x5 h4 =>
  alI none h4 a0 (a3 + (1 : Int32)) fun x6 =>
  alI none h4 a0 (a3 + (2 : Int32)) fun x7 =>
  vd none h4 a2 [12, 227] fun m8 =>
  cI (call d m8 [.ref a2, .int x6, .int x7] h4) fun x10 h9 =>
  if x5 = x10 then
  (ex d 263 1615 [sv (.ref a0), sv (.ref a1), sv (.ref a2), sv (.int a3)] [] h9)
  else
  (zr none (0 : Int32) (some (some (.int (0 : Int32)), h9)))) :=
  (ex_unr p_263 o_263 [18, 244, 277, 300, 333, 356, 431, 444, 467, 500, 543, 556, 589, 612, 635, 648, 671, 694, 717, 740, 763, 796, 819, 842, 865, 878, 901, 924, 957, 980, 1003, 1036, 1059, 1082, 1106, 1129, 1142, 1155, 1178, 1211, 1254, 1277, 1310, 1354, 1367, 1380, 1423, 1466, 1529, 1582, 1615] 32 rfl _ _ h).trans rfl
set_option maxRecDepth 100000 in
theorem e_263_957 (d : Nat) (a0 : Nat) (a1 : Nat) (a2 : Nat) (a3 : Int32) (h : MHeap) : ex d 263 957 [sv (.ref a0), sv (.ref a1), sv (.ref a2), sv (.int a3)] [] h = (
  alI none h a0 (a3 + (1 : Int32)) fun x1 =>
  vd none h a1 [11, 111] fun m2 =>
  cI (call d m2 [.ref a1, .int x1] h) fun x4 h3 =>
  alI none h3 a0 (a3 + (1 : Int32)) fun x5 =>
  vd none h3 a2 [12, 229] fun m6 =>
  cI (call d m6 [.ref a2, .int x5] h3) fun x8 h7 =>
  if x4 = x8 then
  (ex d 263 1615 [sv (.ref a0), sv (.ref a1), sv (.ref a2), sv (.int a3)] [] h7)
  else
  (zr none (0 : Int32) (some (some (.int (0 : Int32)), h7)))) :=
  (ex_unr p_263 o_263 [18, 244, 277, 300, 333, 356, 431, 444, 467, 500, 543, 556, 589, 612, 635, 648, 671, 694, 717, 740, 763, 796, 819, 842, 865, 878, 901, 924, 957, 980, 1003, 1036, 1059, 1082, 1106, 1129, 1142, 1155, 1178, 1211, 1254, 1277, 1310, 1354, 1367, 1380, 1423, 1466, 1529, 1582, 1615] 22 rfl _ _ h).trans rfl
set_option maxRecDepth 100000 in
theorem e_263_980 (d : Nat) (a0 : Nat) (a1 : Nat) (a2 : Nat) (a3 : Int32) (h : MHeap) : ex d 263 980 [sv (.ref a0), sv (.ref a1), sv (.ref a2), sv (.int a3)] [] h = (
  alI none h a0 (a3 + (1 : Int32)) fun x1 =>
  vd none h a1 [11, 112] fun m2 =>
  cI (call d m2 [.ref a1, .int x1] h) fun x4 h3 =>
  alI none h3 a0 (a3 + (1 : Int32)) fun x5 =>
  vd none h3 a2 [12, 230] fun m6 =>
  cI (call d m6 [.ref a2, .int x5] h3) fun x8 h7 =>
  if x4 = x8 then
  (ex d 263 1615 [sv (.ref a0), sv (.ref a1), sv (.ref a2), sv (.int a3)] [] h7)
  else
  (zr none (0 : Int32) (some (some (.int (0 : Int32)), h7)))) :=
  (ex_unr p_263 o_263 [18, 244, 277, 300, 333, 356, 431, 444, 467, 500, 543, 556, 589, 612, 635, 648, 671, 694, 717, 740, 763, 796, 819, 842, 865, 878, 901, 924, 957, 980, 1003, 1036, 1059, 1082, 1106, 1129, 1142, 1155, 1178, 1211, 1254, 1277, 1310, 1354, 1367, 1380, 1423, 1466, 1529, 1582, 1615] 22 rfl _ _ h).trans rfl
set_option maxRecDepth 100000 in
theorem e_263_1003 (d : Nat) (a0 : Nat) (a1 : Nat) (a2 : Nat) (a3 : Int32) (h : MHeap) : ex d 263 1003 [sv (.ref a0), sv (.ref a1), sv (.ref a2), sv (.int a3)] [] h = (
  alI none h a0 (a3 + (1 : Int32)) fun x1 =>
  alI none h a0 (a3 + (2 : Int32)) fun x2 =>
  vd none h a1 [11, 113] fun m3 =>
  cI (call d m3 [.ref a1, .int x1, .int x2] h) fun x5 h4 =>
  alI none h4 a0 (a3 + (1 : Int32)) fun x6 =>
  alI none h4 a0 (a3 + (2 : Int32)) fun x7 =>
  vd none h4 a2 [12, 232] fun m8 =>
  cI (call d m8 [.ref a2, .int x6, .int x7] h4) fun x10 h9 =>
  if x5 = x10 then
  (ex d 263 1615 [sv (.ref a0), sv (.ref a1), sv (.ref a2), sv (.int a3)] [] h9)
  else
  (zr none (0 : Int32) (some (some (.int (0 : Int32)), h9)))) :=
  (ex_unr p_263 o_263 [18, 244, 277, 300, 333, 356, 431, 444, 467, 500, 543, 556, 589, 612, 635, 648, 671, 694, 717, 740, 763, 796, 819, 842, 865, 878, 901, 924, 957, 980, 1003, 1036, 1059, 1082, 1106, 1129, 1142, 1155, 1178, 1211, 1254, 1277, 1310, 1354, 1367, 1380, 1423, 1466, 1529, 1582, 1615] 32 rfl _ _ h).trans rfl
set_option maxRecDepth 100000 in
theorem e_263_1036 (d : Nat) (a0 : Nat) (a1 : Nat) (a2 : Nat) (a3 : Int32) (h : MHeap) : ex d 263 1036 [sv (.ref a0), sv (.ref a1), sv (.ref a2), sv (.int a3)] [] h = (
  alI none h a0 (a3 + (1 : Int32)) fun x1 =>
  vd none h a1 [11, 114] fun m2 =>
  cI (call d m2 [.ref a1, .int x1] h) fun x4 h3 =>
  alI none h3 a0 (a3 + (1 : Int32)) fun x5 =>
  vd none h3 a2 [12, 233] fun m6 =>
  cI (call d m6 [.ref a2, .int x5] h3) fun x8 h7 =>
  if x4 = x8 then
  (ex d 263 1615 [sv (.ref a0), sv (.ref a1), sv (.ref a2), sv (.int a3)] [] h7)
  else
  (zr none (0 : Int32) (some (some (.int (0 : Int32)), h7)))) :=
  (ex_unr p_263 o_263 [18, 244, 277, 300, 333, 356, 431, 444, 467, 500, 543, 556, 589, 612, 635, 648, 671, 694, 717, 740, 763, 796, 819, 842, 865, 878, 901, 924, 957, 980, 1003, 1036, 1059, 1082, 1106, 1129, 1142, 1155, 1178, 1211, 1254, 1277, 1310, 1354, 1367, 1380, 1423, 1466, 1529, 1582, 1615] 22 rfl _ _ h).trans rfl
set_option maxRecDepth 100000 in
theorem e_263_1059 (d : Nat) (a0 : Nat) (a1 : Nat) (a2 : Nat) (a3 : Int32) (h : MHeap) : ex d 263 1059 [sv (.ref a0), sv (.ref a1), sv (.ref a2), sv (.int a3)] [] h = (
  alI none h a0 (a3 + (1 : Int32)) fun x1 =>
  vd none h a1 [11, 115] fun m2 =>
  cI (call d m2 [.ref a1, .int x1] h) fun x4 h3 =>
  alI none h3 a0 (a3 + (1 : Int32)) fun x5 =>
  vd none h3 a2 [12, 236] fun m6 =>
  cI (call d m6 [.ref a2, .int x5] h3) fun x8 h7 =>
  if x4 = x8 then
  (ex d 263 1615 [sv (.ref a0), sv (.ref a1), sv (.ref a2), sv (.int a3)] [] h7)
  else
  (zr none (0 : Int32) (some (some (.int (0 : Int32)), h7)))) :=
  (ex_unr p_263 o_263 [18, 244, 277, 300, 333, 356, 431, 444, 467, 500, 543, 556, 589, 612, 635, 648, 671, 694, 717, 740, 763, 796, 819, 842, 865, 878, 901, 924, 957, 980, 1003, 1036, 1059, 1082, 1106, 1129, 1142, 1155, 1178, 1211, 1254, 1277, 1310, 1354, 1367, 1380, 1423, 1466, 1529, 1582, 1615] 22 rfl _ _ h).trans rfl
set_option maxRecDepth 100000 in
theorem e_263_1082 (d : Nat) (a0 : Nat) (a1 : Nat) (a2 : Nat) (a3 : Int32) (h : MHeap) : ex d 263 1082 [sv (.ref a0), sv (.ref a1), sv (.ref a2), sv (.int a3)] [] h = (
  alI none h a0 (a3 + (1 : Int32)) fun x1 =>
  vd none h a1 [11, 116] fun m2 =>
  cJ (call d m2 [.ref a1, .int x1] h) fun y4 h3 =>
  alI none h3 a0 (a3 + (1 : Int32)) fun x5 =>
  vd none h3 a2 [12, 238] fun m6 =>
  cJ (call d m6 [.ref a2, .int x5] h3) fun y8 h7 =>
  if (if y4 = y8 then 0 else if y4 < y8 then -1 else 1 : Int32) = (0 : Int32) then
  (ex d 263 1615 [sv (.ref a0), sv (.ref a1), sv (.ref a2), sv (.int a3)] [] h7)
  else
  (zr none (0 : Int32) (some (some (.int (0 : Int32)), h7)))) :=
  (ex_unr p_263 o_263 [18, 244, 277, 300, 333, 356, 431, 444, 467, 500, 543, 556, 589, 612, 635, 648, 671, 694, 717, 740, 763, 796, 819, 842, 865, 878, 901, 924, 957, 980, 1003, 1036, 1059, 1082, 1106, 1129, 1142, 1155, 1178, 1211, 1254, 1277, 1310, 1354, 1367, 1380, 1423, 1466, 1529, 1582, 1615] 23 rfl _ _ h).trans rfl
set_option maxRecDepth 100000 in
theorem e_263_1106 (d : Nat) (a0 : Nat) (a1 : Nat) (a2 : Nat) (a3 : Int32) (h : MHeap) : ex d 263 1106 [sv (.ref a0), sv (.ref a1), sv (.ref a2), sv (.int a3)] [] h = (
  alI none h a0 (a3 + (1 : Int32)) fun x1 =>
  vd none h a1 [11, 117] fun m2 =>
  cI (call d m2 [.ref a1, .int x1] h) fun x4 h3 =>
  alI none h3 a0 (a3 + (1 : Int32)) fun x5 =>
  vd none h3 a2 [12, 239] fun m6 =>
  cI (call d m6 [.ref a2, .int x5] h3) fun x8 h7 =>
  if x4 = x8 then
  (ex d 263 1615 [sv (.ref a0), sv (.ref a1), sv (.ref a2), sv (.int a3)] [] h7)
  else
  (zr none (0 : Int32) (some (some (.int (0 : Int32)), h7)))) :=
  (ex_unr p_263 o_263 [18, 244, 277, 300, 333, 356, 431, 444, 467, 500, 543, 556, 589, 612, 635, 648, 671, 694, 717, 740, 763, 796, 819, 842, 865, 878, 901, 924, 957, 980, 1003, 1036, 1059, 1082, 1106, 1129, 1142, 1155, 1178, 1211, 1254, 1277, 1310, 1354, 1367, 1380, 1423, 1466, 1529, 1582, 1615] 22 rfl _ _ h).trans rfl
set_option maxRecDepth 100000 in
theorem e_263_1129 (d : Nat) (a0 : Nat) (a1 : Nat) (a2 : Nat) (a3 : Int32) (h : MHeap) : ex d 263 1129 [sv (.ref a0), sv (.ref a1), sv (.ref a2), sv (.int a3)] [] h = (
  vd none h a1 [11, 118] fun m1 =>
  cI (call d m1 [.ref a1] h) fun x3 h2 =>
  vd none h2 a2 [12, 240] fun m4 =>
  cI (call d m4 [.ref a2] h2) fun x6 h5 =>
  if x3 = x6 then
  (ex d 263 1615 [sv (.ref a0), sv (.ref a1), sv (.ref a2), sv (.int a3)] [] h5)
  else
  (zr none (0 : Int32) (some (some (.int (0 : Int32)), h5)))) :=
  (ex_unr p_263 o_263 [18, 244, 277, 300, 333, 356, 431, 444, 467, 500, 543, 556, 589, 612, 635, 648, 671, 694, 717, 740, 763, 796, 819, 842, 865, 878, 901, 924, 957, 980, 1003, 1036, 1059, 1082, 1106, 1129, 1142, 1155, 1178, 1211, 1254, 1277, 1310, 1354, 1367, 1380, 1423, 1466, 1529, 1582, 1615] 12 rfl _ _ h).trans rfl
set_option maxRecDepth 100000 in
theorem e_263_1142 (d : Nat) (a0 : Nat) (a1 : Nat) (a2 : Nat) (a3 : Int32) (h : MHeap) : ex d 263 1142 [sv (.ref a0), sv (.ref a1), sv (.ref a2), sv (.int a3)] [] h = (
  vd none h a1 [11, 119] fun m1 =>
  cI (call d m1 [.ref a1] h) fun x3 h2 =>
  vd none h2 a2 [12, 241] fun m4 =>
  cI (call d m4 [.ref a2] h2) fun x6 h5 =>
  if x3 = x6 then
  (ex d 263 1615 [sv (.ref a0), sv (.ref a1), sv (.ref a2), sv (.int a3)] [] h5)
  else
  (zr none (0 : Int32) (some (some (.int (0 : Int32)), h5)))) :=
  (ex_unr p_263 o_263 [18, 244, 277, 300, 333, 356, 431, 444, 467, 500, 543, 556, 589, 612, 635, 648, 671, 694, 717, 740, 763, 796, 819, 842, 865, 878, 901, 924, 957, 980, 1003, 1036, 1059, 1082, 1106, 1129, 1142, 1155, 1178, 1211, 1254, 1277, 1310, 1354, 1367, 1380, 1423, 1466, 1529, 1582, 1615] 12 rfl _ _ h).trans rfl
set_option maxRecDepth 100000 in
theorem e_263_1155 (d : Nat) (a0 : Nat) (a1 : Nat) (a2 : Nat) (a3 : Int32) (h : MHeap) : ex d 263 1155 [sv (.ref a0), sv (.ref a1), sv (.ref a2), sv (.int a3)] [] h = (
  alI none h a0 (a3 + (1 : Int32)) fun x1 =>
  vd none h a1 [11, 120] fun m2 =>
  cI (call d m2 [.ref a1, .int x1] h) fun x4 h3 =>
  alI none h3 a0 (a3 + (1 : Int32)) fun x5 =>
  vd none h3 a2 [12, 244] fun m6 =>
  cI (call d m6 [.ref a2, .int x5] h3) fun x8 h7 =>
  if x4 = x8 then
  (ex d 263 1615 [sv (.ref a0), sv (.ref a1), sv (.ref a2), sv (.int a3)] [] h7)
  else
  (zr none (0 : Int32) (some (some (.int (0 : Int32)), h7)))) :=
  (ex_unr p_263 o_263 [18, 244, 277, 300, 333, 356, 431, 444, 467, 500, 543, 556, 589, 612, 635, 648, 671, 694, 717, 740, 763, 796, 819, 842, 865, 878, 901, 924, 957, 980, 1003, 1036, 1059, 1082, 1106, 1129, 1142, 1155, 1178, 1211, 1254, 1277, 1310, 1354, 1367, 1380, 1423, 1466, 1529, 1582, 1615] 22 rfl _ _ h).trans rfl
set_option maxRecDepth 100000 in
theorem e_263_1178 (d : Nat) (a0 : Nat) (a1 : Nat) (a2 : Nat) (a3 : Int32) (h : MHeap) : ex d 263 1178 [sv (.ref a0), sv (.ref a1), sv (.ref a2), sv (.int a3)] [] h = (
  alI none h a0 (a3 + (1 : Int32)) fun x1 =>
  alI none h a0 (a3 + (2 : Int32)) fun x2 =>
  vd none h a1 [11, 121] fun m3 =>
  cI (call d m3 [.ref a1, .int x1, .int x2] h) fun x5 h4 =>
  alI none h4 a0 (a3 + (1 : Int32)) fun x6 =>
  alI none h4 a0 (a3 + (2 : Int32)) fun x7 =>
  vd none h4 a2 [12, 245] fun m8 =>
  cI (call d m8 [.ref a2, .int x6, .int x7] h4) fun x10 h9 =>
  if x5 = x10 then
  (ex d 263 1615 [sv (.ref a0), sv (.ref a1), sv (.ref a2), sv (.int a3)] [] h9)
  else
  (zr none (0 : Int32) (some (some (.int (0 : Int32)), h9)))) :=
  (ex_unr p_263 o_263 [18, 244, 277, 300, 333, 356, 431, 444, 467, 500, 543, 556, 589, 612, 635, 648, 671, 694, 717, 740, 763, 796, 819, 842, 865, 878, 901, 924, 957, 980, 1003, 1036, 1059, 1082, 1106, 1129, 1142, 1155, 1178, 1211, 1254, 1277, 1310, 1354, 1367, 1380, 1423, 1466, 1529, 1582, 1615] 32 rfl _ _ h).trans rfl
set_option maxRecDepth 100000 in
theorem e_263_1211 (d : Nat) (a0 : Nat) (a1 : Nat) (a2 : Nat) (a3 : Int32) (h : MHeap) : ex d 263 1211 [sv (.ref a0), sv (.ref a1), sv (.ref a2), sv (.int a3)] [] h = (
  alI none h a0 (a3 + (1 : Int32)) fun x1 =>
  alI none h a0 (a3 + (2 : Int32)) fun x2 =>
  alI none h a0 (a3 + (3 : Int32)) fun x3 =>
  vd none h a1 [11, 122] fun m4 =>
  cI (call d m4 [.ref a1, .int x1, .int x2, .int x3] h) fun x6 h5 =>
  alI none h5 a0 (a3 + (1 : Int32)) fun x7 =>
  alI none h5 a0 (a3 + (2 : Int32)) fun x8 =>
  alI none h5 a0 (a3 + (3 : Int32)) fun x9 =>
  vd none h5 a2 [12, 246] fun m10 =>
  cI (call d m10 [.ref a2, .int x7, .int x8, .int x9] h5) fun x12 h11 =>
  if x6 = x12 then
  (ex d 263 1615 [sv (.ref a0), sv (.ref a1), sv (.ref a2), sv (.int a3)] [] h11)
  else
  (zr none (0 : Int32) (some (some (.int (0 : Int32)), h11)))) :=
  (ex_unr p_263 o_263 [18, 244, 277, 300, 333, 356, 431, 444, 467, 500, 543, 556, 589, 612, 635, 648, 671, 694, 717, 740, 763, 796, 819, 842, 865, 878, 901, 924, 957, 980, 1003, 1036, 1059, 1082, 1106, 1129, 1142, 1155, 1178, 1211, 1254, 1277, 1310, 1354, 1367, 1380, 1423, 1466, 1529, 1582, 1615] 42 rfl _ _ h).trans rfl
set_option maxRecDepth 100000 in
theorem e_263_1254 (d : Nat) (a0 : Nat) (a1 : Nat) (a2 : Nat) (a3 : Int32) (h : MHeap) : ex d 263 1254 [sv (.ref a0), sv (.ref a1), sv (.ref a2), sv (.int a3)] [] h = (
  alI none h a0 (a3 + (1 : Int32)) fun x1 =>
  vd none h a1 [11, 123] fun m2 =>
  cI (call d m2 [.ref a1, .int x1] h) fun x4 h3 =>
  alI none h3 a0 (a3 + (1 : Int32)) fun x5 =>
  vd none h3 a2 [12, 247] fun m6 =>
  cI (call d m6 [.ref a2, .int x5] h3) fun x8 h7 =>
  if x4 = x8 then
  (ex d 263 1615 [sv (.ref a0), sv (.ref a1), sv (.ref a2), sv (.int a3)] [] h7)
  else
  (zr none (0 : Int32) (some (some (.int (0 : Int32)), h7)))) :=
  (ex_unr p_263 o_263 [18, 244, 277, 300, 333, 356, 431, 444, 467, 500, 543, 556, 589, 612, 635, 648, 671, 694, 717, 740, 763, 796, 819, 842, 865, 878, 901, 924, 957, 980, 1003, 1036, 1059, 1082, 1106, 1129, 1142, 1155, 1178, 1211, 1254, 1277, 1310, 1354, 1367, 1380, 1423, 1466, 1529, 1582, 1615] 22 rfl _ _ h).trans rfl
set_option maxRecDepth 100000 in
theorem e_263_1277 (d : Nat) (a0 : Nat) (a1 : Nat) (a2 : Nat) (a3 : Int32) (h : MHeap) : ex d 263 1277 [sv (.ref a0), sv (.ref a1), sv (.ref a2), sv (.int a3)] [] h = (
  alI none h a0 (a3 + (1 : Int32)) fun x1 =>
  alI none h a0 (a3 + (2 : Int32)) fun x2 =>
  vd none h a1 [11, 124] fun m3 =>
  cI (call d m3 [.ref a1, .int x1, .int x2] h) fun x5 h4 =>
  alI none h4 a0 (a3 + (1 : Int32)) fun x6 =>
  alI none h4 a0 (a3 + (2 : Int32)) fun x7 =>
  vd none h4 a2 [12, 250] fun m8 =>
  cI (call d m8 [.ref a2, .int x6, .int x7] h4) fun x10 h9 =>
  if x5 = x10 then
  (ex d 263 1615 [sv (.ref a0), sv (.ref a1), sv (.ref a2), sv (.int a3)] [] h9)
  else
  (zr none (0 : Int32) (some (some (.int (0 : Int32)), h9)))) :=
  (ex_unr p_263 o_263 [18, 244, 277, 300, 333, 356, 431, 444, 467, 500, 543, 556, 589, 612, 635, 648, 671, 694, 717, 740, 763, 796, 819, 842, 865, 878, 901, 924, 957, 980, 1003, 1036, 1059, 1082, 1106, 1129, 1142, 1155, 1178, 1211, 1254, 1277, 1310, 1354, 1367, 1380, 1423, 1466, 1529, 1582, 1615] 32 rfl _ _ h).trans rfl
set_option maxRecDepth 100000 in
theorem e_263_1310 (d : Nat) (a0 : Nat) (a1 : Nat) (a2 : Nat) (a3 : Int32) (h : MHeap) : ex d 263 1310 [sv (.ref a0), sv (.ref a1), sv (.ref a2), sv (.int a3)] [] h = (
  alI none h a0 (a3 + (1 : Int32)) fun x1 =>
  alI none h a0 (a3 + (2 : Int32)) fun x2 =>
  alI none h a0 (a3 + (3 : Int32)) fun x3 =>
  vd none h a1 [11, 125] fun m4 =>
  cJ (call d m4 [.ref a1, .int x1, .int x2, .int x3] h) fun y6 h5 =>
  alI none h5 a0 (a3 + (1 : Int32)) fun x7 =>
  alI none h5 a0 (a3 + (2 : Int32)) fun x8 =>
  alI none h5 a0 (a3 + (3 : Int32)) fun x9 =>
  vd none h5 a2 [12, 251] fun m10 =>
  cJ (call d m10 [.ref a2, .int x7, .int x8, .int x9] h5) fun y12 h11 =>
  if (if y6 = y12 then 0 else if y6 < y12 then -1 else 1 : Int32) = (0 : Int32) then
  (ex d 263 1615 [sv (.ref a0), sv (.ref a1), sv (.ref a2), sv (.int a3)] [] h11)
  else
  (zr none (0 : Int32) (some (some (.int (0 : Int32)), h11)))) :=
  (ex_unr p_263 o_263 [18, 244, 277, 300, 333, 356, 431, 444, 467, 500, 543, 556, 589, 612, 635, 648, 671, 694, 717, 740, 763, 796, 819, 842, 865, 878, 901, 924, 957, 980, 1003, 1036, 1059, 1082, 1106, 1129, 1142, 1155, 1178, 1211, 1254, 1277, 1310, 1354, 1367, 1380, 1423, 1466, 1529, 1582, 1615] 43 rfl _ _ h).trans rfl
set_option maxRecDepth 100000 in
theorem e_263_1354 (d : Nat) (a0 : Nat) (a1 : Nat) (a2 : Nat) (a3 : Int32) (h : MHeap) : ex d 263 1354 [sv (.ref a0), sv (.ref a1), sv (.ref a2), sv (.int a3)] [] h = (
  vd none h a1 [11, 126] fun m1 =>
  cI (call d m1 [.ref a1] h) fun x3 h2 =>
  vd none h2 a2 [12, 252] fun m4 =>
  cI (call d m4 [.ref a2] h2) fun x6 h5 =>
  if x3 = x6 then
  (ex d 263 1615 [sv (.ref a0), sv (.ref a1), sv (.ref a2), sv (.int a3)] [] h5)
  else
  (zr none (0 : Int32) (some (some (.int (0 : Int32)), h5)))) :=
  (ex_unr p_263 o_263 [18, 244, 277, 300, 333, 356, 431, 444, 467, 500, 543, 556, 589, 612, 635, 648, 671, 694, 717, 740, 763, 796, 819, 842, 865, 878, 901, 924, 957, 980, 1003, 1036, 1059, 1082, 1106, 1129, 1142, 1155, 1178, 1211, 1254, 1277, 1310, 1354, 1367, 1380, 1423, 1466, 1529, 1582, 1615] 12 rfl _ _ h).trans rfl
set_option maxRecDepth 100000 in
theorem e_263_1367 (d : Nat) (a0 : Nat) (a1 : Nat) (a2 : Nat) (a3 : Int32) (h : MHeap) : ex d 263 1367 [sv (.ref a0), sv (.ref a1), sv (.ref a2), sv (.int a3)] [] h = (
  vd none h a1 [11, 127] fun m1 =>
  cI (call d m1 [.ref a1] h) fun x3 h2 =>
  vd none h2 a2 [12, 253] fun m4 =>
  cI (call d m4 [.ref a2] h2) fun x6 h5 =>
  if x3 = x6 then
  (ex d 263 1615 [sv (.ref a0), sv (.ref a1), sv (.ref a2), sv (.int a3)] [] h5)
  else
  (zr none (0 : Int32) (some (some (.int (0 : Int32)), h5)))) :=
  (ex_unr p_263 o_263 [18, 244, 277, 300, 333, 356, 431, 444, 467, 500, 543, 556, 589, 612, 635, 648, 671, 694, 717, 740, 763, 796, 819, 842, 865, 878, 901, 924, 957, 980, 1003, 1036, 1059, 1082, 1106, 1129, 1142, 1155, 1178, 1211, 1254, 1277, 1310, 1354, 1367, 1380, 1423, 1466, 1529, 1582, 1615] 12 rfl _ _ h).trans rfl
set_option maxRecDepth 100000 in
theorem e_263_1380 (d : Nat) (a0 : Nat) (a1 : Nat) (a2 : Nat) (a3 : Int32) (h : MHeap) : ex d 263 1380 [sv (.ref a0), sv (.ref a1), sv (.ref a2), sv (.int a3)] [] h = (
  alI none h a0 (a3 + (1 : Int32)) fun x1 =>
  alI none h a0 (a3 + (2 : Int32)) fun x2 =>
  alI none h a0 (a3 + (3 : Int32)) fun x3 =>
  vd none h a1 [11, 128] fun m4 =>
  cI (call d m4 [.ref a1, .int x1, .int x2, .int x3] h) fun x6 h5 =>
  alI none h5 a0 (a3 + (1 : Int32)) fun x7 =>
  alI none h5 a0 (a3 + (2 : Int32)) fun x8 =>
  alI none h5 a0 (a3 + (3 : Int32)) fun x9 =>
  vd none h5 a2 [12, 254] fun m10 =>
  cI (call d m10 [.ref a2, .int x7, .int x8, .int x9] h5) fun x12 h11 =>
  if x6 = x12 then
  (ex d 263 1615 [sv (.ref a0), sv (.ref a1), sv (.ref a2), sv (.int a3)] [] h11)
  else
  (zr none (0 : Int32) (some (some (.int (0 : Int32)), h11)))) :=
  (ex_unr p_263 o_263 [18, 244, 277, 300, 333, 356, 431, 444, 467, 500, 543, 556, 589, 612, 635, 648, 671, 694, 717, 740, 763, 796, 819, 842, 865, 878, 901, 924, 957, 980, 1003, 1036, 1059, 1082, 1106, 1129, 1142, 1155, 1178, 1211, 1254, 1277, 1310, 1354, 1367, 1380, 1423, 1466, 1529, 1582, 1615] 42 rfl _ _ h).trans rfl
set_option maxRecDepth 100000 in
theorem e_263_1423 (d : Nat) (a0 : Nat) (a1 : Nat) (a2 : Nat) (a3 : Int32) (h : MHeap) : ex d 263 1423 [sv (.ref a0), sv (.ref a1), sv (.ref a2), sv (.int a3)] [] h = (
  alI none h a0 (a3 + (1 : Int32)) fun x1 =>
  alI none h a0 (a3 + (2 : Int32)) fun x2 =>
  alI none h a0 (a3 + (3 : Int32)) fun x3 =>
  vd none h a1 [11, 129] fun m4 =>
  cI (call d m4 [.ref a1, .int x1, .int x2, .int x3] h) fun x6 h5 =>
  alI none h5 a0 (a3 + (1 : Int32)) fun x7 =>
  alI none h5 a0 (a3 + (2 : Int32)) fun x8 =>
  alI none h5 a0 (a3 + (3 : Int32)) fun x9 =>
  vd none h5 a2 [12, 255] fun m10 =>
  cI (call d m10 [.ref a2, .int x7, .int x8, .int x9] h5) fun x12 h11 =>
  if x6 = x12 then
  (ex d 263 1615 [sv (.ref a0), sv (.ref a1), sv (.ref a2), sv (.int a3)] [] h11)
  else
  (zr none (0 : Int32) (some (some (.int (0 : Int32)), h11)))) :=
  (ex_unr p_263 o_263 [18, 244, 277, 300, 333, 356, 431, 444, 467, 500, 543, 556, 589, 612, 635, 648, 671, 694, 717, 740, 763, 796, 819, 842, 865, 878, 901, 924, 957, 980, 1003, 1036, 1059, 1082, 1106, 1129, 1142, 1155, 1178, 1211, 1254, 1277, 1310, 1354, 1367, 1380, 1423, 1466, 1529, 1582, 1615] 42 rfl _ _ h).trans rfl
set_option maxRecDepth 100000 in
theorem e_263_1466 (d : Nat) (a0 : Nat) (a1 : Nat) (a2 : Nat) (a3 : Int32) (h : MHeap) : ex d 263 1466 [sv (.ref a0), sv (.ref a1), sv (.ref a2), sv (.int a3)] [] h = (
  alI none h a0 (a3 + (1 : Int32)) fun x1 =>
  alI none h a0 (a3 + (2 : Int32)) fun x2 =>
  alI none h a0 (a3 + (3 : Int32)) fun x3 =>
  alI none h a0 (a3 + (4 : Int32)) fun x4 =>
  alI none h a0 (a3 + (5 : Int32)) fun x5 =>
  vd none h a1 [11, 130] fun m6 =>
  cI (call d m6 [.ref a1, .int x1, .int x2, .int x3, .int x4, .int x5] h) fun x8 h7 =>
  alI none h7 a0 (a3 + (1 : Int32)) fun x9 =>
  alI none h7 a0 (a3 + (2 : Int32)) fun x10 =>
  alI none h7 a0 (a3 + (3 : Int32)) fun x11 =>
  alI none h7 a0 (a3 + (4 : Int32)) fun x12 =>
  alI none h7 a0 (a3 + (5 : Int32)) fun x13 =>
  vd none h7 a2 [12, 256] fun m14 =>
  cI (call d m14 [.ref a2, .int x9, .int x10, .int x11, .int x12, .int x13] h7) fun x16 h15 =>
  if x8 = x16 then
  (ex d 263 1615 [sv (.ref a0), sv (.ref a1), sv (.ref a2), sv (.int a3)] [] h15)
  else
  (zr none (0 : Int32) (some (some (.int (0 : Int32)), h15)))) :=
  (ex_unr p_263 o_263 [18, 244, 277, 300, 333, 356, 431, 444, 467, 500, 543, 556, 589, 612, 635, 648, 671, 694, 717, 740, 763, 796, 819, 842, 865, 878, 901, 924, 957, 980, 1003, 1036, 1059, 1082, 1106, 1129, 1142, 1155, 1178, 1211, 1254, 1277, 1310, 1354, 1367, 1380, 1423, 1466, 1529, 1582, 1615] 62 rfl _ _ h).trans rfl
set_option maxRecDepth 100000 in
theorem e_263_1529 (d : Nat) (a0 : Nat) (a1 : Nat) (a2 : Nat) (a3 : Int32) (h : MHeap) : ex d 263 1529 [sv (.ref a0), sv (.ref a1), sv (.ref a2), sv (.int a3)] [] h = (
  alI none h a0 (a3 + (1 : Int32)) fun x1 =>
  alI none h a0 (a3 + (2 : Int32)) fun x2 =>
  alI none h a0 (a3 + (3 : Int32)) fun x3 =>
  alI none h a0 (a3 + (4 : Int32)) fun x4 =>
  vd none h a1 [11, 131] fun m5 =>
  cI (call d m5 [.ref a1, .int x1, .int x2, .int x3, .int x4] h) fun x7 h6 =>
  alI none h6 a0 (a3 + (1 : Int32)) fun x8 =>
  alI none h6 a0 (a3 + (2 : Int32)) fun x9 =>
  alI none h6 a0 (a3 + (3 : Int32)) fun x10 =>
  alI none h6 a0 (a3 + (4 : Int32)) fun x11 =>
  vd none h6 a2 [12, 257] fun m12 =>
  cI (call d m12 [.ref a2, .int x8, .int x9, .int x10, .int x11] h6) fun x14 h13 =>
  if x7 = x14 then
  (ex d 263 1615 [sv (.ref a0), sv (.ref a1), sv (.ref a2), sv (.int a3)] [] h13)
  else
  (zr none (0 : Int32) (some (some (.int (0 : Int32)), h13)))) :=
  (ex_unr p_263 o_263 [18, 244, 277, 300, 333, 356, 431, 444, 467, 500, 543, 556, 589, 612, 635, 648, 671, 694, 717, 740, 763, 796, 819, 842, 865, 878, 901, 924, 957, 980, 1003, 1036, 1059, 1082, 1106, 1129, 1142, 1155, 1178, 1211, 1254, 1277, 1310, 1354, 1367, 1380, 1423, 1466, 1529, 1582, 1615] 52 rfl _ _ h).trans rfl
set_option maxRecDepth 100000 in
theorem e_263_1582 (d : Nat) (a0 : Nat) (a1 : Nat) (a2 : Nat) (a3 : Int32) (h : MHeap) : ex d 263 1582 [sv (.ref a0), sv (.ref a1), sv (.ref a2), sv (.int a3)] [] h = (
  alI none h a0 (a3 + (1 : Int32)) fun x1 =>
  alI none h a0 (a3 + (2 : Int32)) fun x2 =>
  vd none h a1 [11, 132] fun m3 =>
  cI (call d m3 [.ref a1, .int x1, .int x2] h) fun x5 h4 =>
  alI none h4 a0 (a3 + (1 : Int32)) fun x6 =>
  alI none h4 a0 (a3 + (2 : Int32)) fun x7 =>
  vd none h4 a2 [12, 259] fun m8 =>
  cI (call d m8 [.ref a2, .int x6, .int x7] h4) fun x10 h9 =>
  if x5 = x10 then
  (ex d 263 1615 [sv (.ref a0), sv (.ref a1), sv (.ref a2), sv (.int a3)] [] h9)
  else
  (zr none (0 : Int32) (some (some (.int (0 : Int32)), h9)))) :=
  (ex_unr p_263 o_263 [18, 244, 277, 300, 333, 356, 431, 444, 467, 500, 543, 556, 589, 612, 635, 648, 671, 694, 717, 740, 763, 796, 819, 842, 865, 878, 901, 924, 957, 980, 1003, 1036, 1059, 1082, 1106, 1129, 1142, 1155, 1178, 1211, 1254, 1277, 1310, 1354, 1367, 1380, 1423, 1466, 1529, 1582, 1615] 32 rfl _ _ h).trans rfl
set_option maxRecDepth 100000 in
theorem e_263_1615 (d : Nat) (a0 : Nat) (a1 : Nat) (a2 : Nat) (a3 : Int32) (h : MHeap) : ex d 263 1615 [sv (.ref a0), sv (.ref a1), sv (.ref a2), sv (.int a3)] [] h = (
  ex d 263 18 [sv (.ref a0), sv (.ref a1), sv (.ref a2), sv (.int (a3 + (7 : Int32)))] [] h) :=
  (ex_unr p_263 o_263 [18, 244, 277, 300, 333, 356, 431, 444, 467, 500, 543, 556, 589, 612, 635, 648, 671, 694, 717, 740, 763, 796, 819, 842, 865, 878, 901, 924, 957, 980, 1003, 1036, 1059, 1082, 1106, 1129, 1142, 1155, 1178, 1211, 1254, 1277, 1310, 1354, 1367, 1380, 1423, 1466, 1529, 1582, 1615] 7 rfl _ _ h).trans rfl
