/-! the methods 215 to 263, unrolled up to the heads of their loops -/
theorem p_215 : prg 215 = (k_215, 8) := rfl
theorem o_215 : okc k_215 = true := by decide +kernel
set_option maxRecDepth 100000 in
theorem e_215 (d : Nat) (a0 : Nat) (a1 : Int32) (h : MHeap) : call (d + 1) 215 [.ref a0, .int a1] h = (
  cI (call d 166 [.int a1, .int 0, .int 1] h) fun x2 h1 =>
  if x2 = 0 then
  (some (some (.int (-2)), h1))
  else
  (vd none h1 a0 [12, 203] fun m3 =>
  cV (call d m3 [.ref a0] h1) fun h4 =>
  ex d 215 23 [sv (.ref a0), sv (.int a1), sv (.int 0), sv (.int (-1)), sv (.int 0), none, none, none] [] h4)) :=
  (call_unr p_215 o_215 rfl [23, 38, 120, 132] 20 _ h).trans rfl
set_option maxRecDepth 100000 in
theorem e_215_23 (d : Nat) (a0 : Nat) (a1 : Int32) (a2 : Int32) (a3 : Int32) (a4 : Int32) (a5 : MSl) (a6 : MSl) (a7 : MSl) (h : MHeap) : ex d 215 23 [sv (.ref a0), sv (.int a1), sv (.int a2), sv (.int a3), sv (.int a4), a5, a6, a7] [] h = (
  gfI none h a0 [12] 0 fun x1 =>
  if a4 < x1 then
  (ex d 215 38 [sv (.ref a0), sv (.int a1), sv (.int a2), sv (.int a3), sv (.int a4), sv (.int 1), sv (.int 0), a7] [] h)
  else
  (if a1 = 0 then
  (some (some (.int a2), h))
  else
  (some (some (.int a3), h)))) :=
  (ex_unr p_215 o_215 [23, 38, 120, 132] 20 rfl _ _ h).trans rfl
set_option maxRecDepth 100000 in
theorem e_215_38 (d : Nat) (a0 : Nat) (a1 : Int32) (a2 : Int32) (a3 : Int32) (a4 : Int32) (a5 : Int32) (a6 : Int32) (a7 : MSl) (h : MHeap) : ex d 215 38 [sv (.ref a0), sv (.int a1), sv (.int a2), sv (.int a3), sv (.int a4), sv (.int a5), sv (.int a6), a7] [] h = (
  if a6 < a4 then
  (gfI none h a0 [12] 2 fun x1 =>
  vd none h a0 [12, 204] fun m2 =>
  cI (call d m2 [.ref a0, .int (x1 ^^^ (1 <<< (a6 &&& 31)))] h) fun x4 h3 =>
  gfI none h3 a0 [12] 2 fun x5 =>
  vd none h3 a0 [12, 204] fun m6 =>
  cI (call d m6 [.ref a0, .int (x5 ^^^ (1 <<< (a4 &&& 31)))] h3) fun x8 h7 =>
  if x4 = x8 then
  (if a5 = 0 then
  (if 1 = 0 then
  (ex d 215 132 [sv (.ref a0), sv (.int a1), sv (.int a2), sv (.int a3), sv (.int a4), sv (.int 0), sv (.int a6), sv (.int 1)] [.int a3] h7)
  else
  (if a3 = (-1) then
  (ex d 215 120 [sv (.ref a0), sv (.int a1), sv (.int a2), sv (.int a3), sv (.int a4), sv (.int 0), sv (.int a6), sv (.int 1)] [] h7)
  else
  (if ((100 * a6) + a4) < a3 then
  (ex d 215 120 [sv (.ref a0), sv (.int a1), sv (.int a2), sv (.int a3), sv (.int a4), sv (.int 0), sv (.int a6), sv (.int 1)] [] h7)
  else
  (ex d 215 132 [sv (.ref a0), sv (.int a1), sv (.int a2), sv (.int a3), sv (.int a4), sv (.int 0), sv (.int a6), sv (.int 1)] [.int a3] h7))))
  else
  (if 1 = 0 then
  (if 1 = 0 then
  (ex d 215 132 [sv (.ref a0), sv (.int a1), sv (.int a2), sv (.int a3), sv (.int a4), sv (.int 1), sv (.int a6), sv (.int 1)] [.int a3] h7)
  else
  (if a3 = (-1) then
  (ex d 215 120 [sv (.ref a0), sv (.int a1), sv (.int a2), sv (.int a3), sv (.int a4), sv (.int 1), sv (.int a6), sv (.int 1)] [] h7)
  else
  (if ((100 * a6) + a4) < a3 then
  (ex d 215 120 [sv (.ref a0), sv (.int a1), sv (.int a2), sv (.int a3), sv (.int a4), sv (.int 1), sv (.int a6), sv (.int 1)] [] h7)
  else
  (ex d 215 132 [sv (.ref a0), sv (.int a1), sv (.int a2), sv (.int a3), sv (.int a4), sv (.int 1), sv (.int a6), sv (.int 1)] [.int a3] h7))))
  else
  (if 1 = 0 then
  (ex d 215 132 [sv (.ref a0), sv (.int a1), sv (.int a2), sv (.int a3), sv (.int a4), sv (.int 0), sv (.int a6), sv (.int 1)] [.int a3] h7)
  else
  (if a3 = (-1) then
  (ex d 215 120 [sv (.ref a0), sv (.int a1), sv (.int a2), sv (.int a3), sv (.int a4), sv (.int 0), sv (.int a6), sv (.int 1)] [] h7)
  else
  (if ((100 * a6) + a4) < a3 then
  (ex d 215 120 [sv (.ref a0), sv (.int a1), sv (.int a2), sv (.int a3), sv (.int a4), sv (.int 0), sv (.int a6), sv (.int 1)] [] h7)
  else
  (ex d 215 132 [sv (.ref a0), sv (.int a1), sv (.int a2), sv (.int a3), sv (.int a4), sv (.int 0), sv (.int a6), sv (.int 1)] [.int a3] h7))))))
  else
  (if a5 = 0 then
  (if 0 = 0 then
  (ex d 215 132 [sv (.ref a0), sv (.int a1), sv (.int a2), sv (.int a3), sv (.int a4), sv (.int 0), sv (.int a6), sv (.int 0)] [.int a3] h7)
  else
  (if a3 = (-1) then
  (ex d 215 120 [sv (.ref a0), sv (.int a1), sv (.int a2), sv (.int a3), sv (.int a4), sv (.int 0), sv (.int a6), sv (.int 0)] [] h7)
  else
  (if ((100 * a6) + a4) < a3 then
  (ex d 215 120 [sv (.ref a0), sv (.int a1), sv (.int a2), sv (.int a3), sv (.int a4), sv (.int 0), sv (.int a6), sv (.int 0)] [] h7)
  else
  (ex d 215 132 [sv (.ref a0), sv (.int a1), sv (.int a2), sv (.int a3), sv (.int a4), sv (.int 0), sv (.int a6), sv (.int 0)] [.int a3] h7))))
  else
  (if 0 = 0 then
  (if 0 = 0 then
  (ex d 215 132 [sv (.ref a0), sv (.int a1), sv (.int a2), sv (.int a3), sv (.int a4), sv (.int 1), sv (.int a6), sv (.int 0)] [.int a3] h7)
  else
  (if a3 = (-1) then
  (ex d 215 120 [sv (.ref a0), sv (.int a1), sv (.int a2), sv (.int a3), sv (.int a4), sv (.int 1), sv (.int a6), sv (.int 0)] [] h7)
  else
  (if ((100 * a6) + a4) < a3 then
  (ex d 215 120 [sv (.ref a0), sv (.int a1), sv (.int a2), sv (.int a3), sv (.int a4), sv (.int 1), sv (.int a6), sv (.int 0)] [] h7)
  else
  (ex d 215 132 [sv (.ref a0), sv (.int a1), sv (.int a2), sv (.int a3), sv (.int a4), sv (.int 1), sv (.int a6), sv (.int 0)] [.int a3] h7))))
  else
  (if 0 = 0 then
  (ex d 215 132 [sv (.ref a0), sv (.int a1), sv (.int a2), sv (.int a3), sv (.int a4), sv (.int 0), sv (.int a6), sv (.int 0)] [.int a3] h7)
  else
  (if a3 = (-1) then
  (ex d 215 120 [sv (.ref a0), sv (.int a1), sv (.int a2), sv (.int a3), sv (.int a4), sv (.int 0), sv (.int a6), sv (.int 0)] [] h7)
  else
  (if ((100 * a6) + a4) < a3 then
  (ex d 215 120 [sv (.ref a0), sv (.int a1), sv (.int a2), sv (.int a3), sv (.int a4), sv (.int 0), sv (.int a6), sv (.int 0)] [] h7)
  else
  (ex d 215 132 [sv (.ref a0), sv (.int a1), sv (.int a2), sv (.int a3), sv (.int a4), sv (.int 0), sv (.int a6), sv (.int 0)] [.int a3] h7)))))))
  else
  (if a5 = 0 then
  (ex d 215 23 [sv (.ref a0), sv (.int a1), sv (.int (a2 + 0)), sv (.int a3), sv (.int (a4 + 1)), sv (.int a5), sv (.int a6), a7] [] h)
  else
  (ex d 215 23 [sv (.ref a0), sv (.int a1), sv (.int (a2 + 1)), sv (.int a3), sv (.int (a4 + 1)), sv (.int a5), sv (.int a6), a7] [] h))) :=
  (ex_unr p_215 o_215 [23, 38, 120, 132] 150 rfl _ _ h).trans rfl
set_option maxRecDepth 100000 in
theorem e_215_120 (d : Nat) (a0 : Nat) (a1 : Int32) (a2 : Int32) (a3 : Int32) (a4 : Int32) (a5 : Int32) (a6 : Int32) (a7 : Int32) (h : MHeap) : ex d 215 120 [sv (.ref a0), sv (.int a1), sv (.int a2), sv (.int a3), sv (.int a4), sv (.int a5), sv (.int a6), sv (.int a7)] [] h = (
  ex d 215 132 [sv (.ref a0), sv (.int a1), sv (.int a2), sv (.int a3), sv (.int a4), sv (.int a5), sv (.int a6), sv (.int a7)] [.int ((100 * a6) + a4)] h) :=
  (ex_unr p_215 o_215 [23, 38, 120, 132] 11 rfl _ _ h).trans rfl
set_option maxRecDepth 100000 in
theorem e_215_132 (d : Nat) (a0 : Nat) (a1 : Int32) (a2 : Int32) (a3 : Int32) (a4 : Int32) (a5 : Int32) (a6 : Int32) (a7 : Int32) (s0 : Int32) (h : MHeap) : ex d 215 132 [sv (.ref a0), sv (.int a1), sv (.int a2), sv (.int a3), sv (.int a4), sv (.int a5), sv (.int a6), sv (.int a7)] [.int s0] h = (
  ex d 215 38 [sv (.ref a0), sv (.int a1), sv (.int a2), sv (.int s0), sv (.int a4), sv (.int a5), sv (.int (a6 + 1)), sv (.int a7)] [] h) :=
  (ex_unr p_215 o_215 [23, 38, 120, 132] 8 rfl _ _ h).trans rfl

theorem p_216 : prg 216 = (k_216, 5) := rfl
theorem o_216 : okc k_216 = true := by decide +kernel
set_option maxRecDepth 100000 in
theorem e_216 (d : Nat) (a0 : Nat) (a1 : Int32) (h : MHeap) : call (d + 1) 216 [.ref a0, .int a1] h = (
  cI (call d 166 [.int a1, .int 0, .int 3] h) fun x2 h1 =>
  if x2 = 0 then
  (some (some (.int (-2)), h1))
  else
  (vd none h1 a0 [12, 203] fun m3 =>
  cV (call d m3 [.ref a0] h1) fun h4 =>
  ex d 216 20 [sv (.ref a0), sv (.int a1), sv (.int 0), sv (.int 0), none] [] h4)) :=
  (call_unr p_216 o_216 rfl [20, 55] 18 _ h).trans rfl
set_option maxRecDepth 100000 in
theorem e_216_20 (d : Nat) (a0 : Nat) (a1 : Int32) (a2 : Int32) (a3 : Int32) (a4 : MSl) (h : MHeap) : ex d 216 20 [sv (.ref a0), sv (.int a1), sv (.int a2), sv (.int a3), a4] [] h = (
  vd none h a0 [12, 171] fun m1 =>
  cI (call d m1 [.ref a0] h) fun x3 h2 =>
  if x3 < a3 then
  (some (some (.int a2), h2))
  else
  (cI (call d 168 [.int a3] h2) fun x5 h4 =>
  if a1 < x5 then
  (ex d 216 20 [sv (.ref a0), sv (.int a1), sv (.int a2), sv (.int (a3 + 1)), a4] [] h4)
  else
  (gfV none h4 a0 [12] 35 fun v6 =>
  gfI none h4 a0 [12] 2 fun x7 =>
  vd none h4 a0 [12, 204] fun m8 =>
  cI (call d m8 [.ref a0, .int (x7 ^^^ a3)] h4) fun x10 h9 =>
  dR none v6 fun o12 =>
  asI none h9 o12 a2 x10 fun h11 =>
  ex d 216 55 [sv (.ref a0), sv (.int a1), sv (.int a2), sv (.int a3), sv (.int 0)] [] h11))) :=
  (ex_unr p_216 o_216 [20, 55] 29 rfl _ _ h).trans rfl
set_option maxRecDepth 100000 in
theorem e_216_55 (d : Nat) (a0 : Nat) (a1 : Int32) (a2 : Int32) (a3 : Int32) (a4 : Int32) (h : MHeap) : ex d 216 55 [sv (.ref a0), sv (.int a1), sv (.int a2), sv (.int a3), sv (.int a4)] [] h = (
  gfV none h a0 [12] 35 fun v1 =>
  dR none v1 fun o3 =>
  alI none h o3 a4 fun x2 =>
  gfV none h a0 [12] 35 fun v4 =>
  dR none v4 fun o6 =>
  alI none h o6 a2 fun x5 =>
  if x2 = x5 then
  (if a4 = a2 then
  (ex d 216 20 [sv (.ref a0), sv (.int a1), sv (.int (a2 + 1)), sv (.int (a3 + 1)), sv (.int a4)] [] h)
  else
  (ex d 216 20 [sv (.ref a0), sv (.int a1), sv (.int (a2 + 0)), sv (.int (a3 + 1)), sv (.int a4)] [] h))
  else
  (ex d 216 55 [sv (.ref a0), sv (.int a1), sv (.int a2), sv (.int a3), sv (.int (a4 + 1))] [] h)) :=
  (ex_unr p_216 o_216 [20, 55] 31 rfl _ _ h).trans rfl

theorem p_217 : prg 217 = (k_217, 6) := rfl
theorem o_217 : okc k_217 = true := by decide +kernel
set_option maxRecDepth 100000 in
theorem e_217 (d : Nat) (a0 : Nat) (a1 : Int32) (a2 : Int32) (h : MHeap) : call (d + 1) 217 [.ref a0, .int a1, .int a2] h = (
  vd none h a0 [12, 203] fun m1 =>
  cV (call d m1 [.ref a0] h) fun h2 =>
  ex d 217 9 [sv (.ref a0), sv (.int a1), sv (.int a2), sv (.int (-1)), sv (.int 0), none] [] h2) :=
  (call_unr p_217 o_217 rfl [9] 11 _ h).trans rfl
set_option maxRecDepth 100000 in
theorem e_217_9 (d : Nat) (a0 : Nat) (a1 : Int32) (a2 : Int32) (a3 : Int32) (a4 : Int32) (a5 : MSl) (h : MHeap) : ex d 217 9 [sv (.ref a0), sv (.int a1), sv (.int a2), sv (.int a3), sv (.int a4), a5] [] h = (
  vd none h a0 [12, 171] fun m1 =>
  cI (call d m1 [.ref a0] h) fun x3 h2 =>
  if x3 < a4 then
  (some (some (.int a3), h2))
  else
  (if (a4 &&& (a1 ^^^ (-1))) = 0 then
  (if a3 = (-1) then
  (if 1 = 0 then
  (ex d 217 9 [sv (.ref a0), sv (.int a1), sv (.int a2), sv (.int a3), sv (.int (a4 + 1)), sv (.int 1)] [] h2)
  else
  (gfI none h2 a0 [12] 2 fun x4 =>
  vd none h2 a0 [12, 204] fun m5 =>
  cI (call d m5 [.ref a0, .int (x4 ^^^ a4)] h2) fun x7 h6 =>
  if x7 = a2 then
  (ex d 217 9 [sv (.ref a0), sv (.int a1), sv (.int a2), sv (.int a4), sv (.int (a4 + 1)), sv (.int 1)] [] h6)
  else
  (ex d 217 9 [sv (.ref a0), sv (.int a1), sv (.int a2), sv (.int a3), sv (.int (a4 + 1)), sv (.int 1)] [] h6)))
  else
  (cI (call d 168 [.int a4] h2) fun x9 h8 =>
  cI (call d 168 [.int a3] h8) fun x11 h10 =>
  if x9 < x11 then
  (if 1 = 0 then
  (ex d 217 9 [sv (.ref a0), sv (.int a1), sv (.int a2), sv (.int a3), sv (.int (a4 + 1)), sv (.int 1)] [] h10)
  else
  (gfI none h10 a0 [12] 2 fun x12 =>
  vd none h10 a0 [12, 204] fun m13 =>
  cI (call d m13 [.ref a0, .int (x12 ^^^ a4)] h10) fun x15 h14 =>
  if x15 = a2 then
  (ex d 217 9 [sv (.ref a0), sv (.int a1), sv (.int a2), sv (.int a4), sv (.int (a4 + 1)), sv (.int 1)] [] h14)
  else
  (ex d 217 9 [sv (.ref a0), sv (.int a1), sv (.int a2), sv (.int a3), sv (.int (a4 + 1)), sv (.int 1)] [] h14)))
  else
  (if 0 = 0 then
  (ex d 217 9 [sv (.ref a0), sv (.int a1), sv (.int a2), sv (.int a3), sv (.int (a4 + 1)), sv (.int 0)] [] h10)
  else
  (gfI none h10 a0 [12] 2 fun x16 =>
  vd none h10 a0 [12, 204] fun m17 =>
  cI (call d m17 [.ref a0, .int (x16 ^^^ a4)] h10) fun x19 h18 =>
  if x19 = a2 then
  (ex d 217 9 [sv (.ref a0), sv (.int a1), sv (.int a2), sv (.int a4), sv (.int (a4 + 1)), sv (.int 0)] [] h18)
  else
  (ex d 217 9 [sv (.ref a0), sv (.int a1), sv (.int a2), sv (.int a3), sv (.int (a4 + 1)), sv (.int 0)] [] h18)))))
  else
  (if 0 = 0 then
  (ex d 217 9 [sv (.ref a0), sv (.int a1), sv (.int a2), sv (.int a3), sv (.int (a4 + 1)), sv (.int 0)] [] h2)
  else
  (gfI none h2 a0 [12] 2 fun x20 =>
  vd none h2 a0 [12, 204] fun m21 =>
  cI (call d m21 [.ref a0, .int (x20 ^^^ a4)] h2) fun x23 h22 =>
  if x23 = a2 then
  (ex d 217 9 [sv (.ref a0), sv (.int a1), sv (.int a2), sv (.int a4), sv (.int (a4 + 1)), sv (.int 0)] [] h22)
  else
  (ex d 217 9 [sv (.ref a0), sv (.int a1), sv (.int a2), sv (.int a3), sv (.int (a4 + 1)), sv (.int 0)] [] h22))))) :=
  (ex_unr p_217 o_217 [9] 127 rfl _ _ h).trans rfl

theorem p_218 : prg 218 = (k_218, 4) := rfl
theorem o_218 : okc k_218 = true := by decide +kernel
set_option maxRecDepth 100000 in
theorem e_218 (d : Nat) (a0 : Nat) (a1 : Int32) (a2 : Int32) (h : MHeap) : call (d + 1) 218 [.ref a0, .int a1, .int a2] h = (
  vd none h a0 [12, 172] fun m1 =>
  cI (call d m1 [.ref a0, .int a1] h) fun x3 h2 =>
  if x3 = 0 then
  (some (some (.int (-2)), h2))
  else
  (cI (call d 166 [.int a2, .int 0, .int 1] h2) fun x5 h4 =>
  if x5 = 0 then
  (some (some (.int (-7)), h4))
  else
  (vd none h4 a0 [12, 217] fun m6 =>
  cI (call d m6 [.ref a0, .int a1, .int 0] h4) fun x8 h7 =>
  if a2 = 1 then
  (some (some (.int x8), h7))
  else
  (if x8 = (-1) then
  (some (some (.int x8), h7))
  else
  (cI (call d 168 [.int x8] h7) fun x10 h9 =>
  some (some (.int x10), h9)))))) :=
  (call_unr p_218 o_218 rfl [] 38 _ h).trans rfl

theorem p_219 : prg 219 = (k_219, 3) := rfl
theorem o_219 : okc k_219 = true := by decide +kernel
set_option maxRecDepth 100000 in
theorem e_219 (d : Nat) (a0 : Nat) (a1 : Int32) (h : MHeap) : call (d + 1) 219 [.ref a0, .int a1] h = (
  vd none h a0 [12, 172] fun m1 =>
  cI (call d m1 [.ref a0, .int a1] h) fun x3 h2 =>
  if x3 = 0 then
  (some (some (.int (-2)), h2))
  else
  (vd none h2 a0 [12, 217] fun m4 =>
  cI (call d m4 [.ref a0, .int a1, .int 0] h2) fun x6 h5 =>
  gfI none h5 a0 [12] 2 fun x7 =>
  if x6 = (-1) then
  (pfI none h5 a0 [12] 2 (x7 ^^^ 0) fun h8 =>
  if x6 = (-1) then
  (some (some (.int (-1)), h8))
  else
  (cI (call d 168 [.int x6] h8) fun x10 h9 =>
  some (some (.int x10), h9)))
  else
  (pfI none h5 a0 [12] 2 (x7 ^^^ x6) fun h11 =>
  if x6 = (-1) then
  (some (some (.int (-1)), h11))
  else
  (cI (call d 168 [.int x6] h11) fun x13 h12 =>
  some (some (.int x13), h12))))) :=
  (call_unr p_219 o_219 rfl [] 47 _ h).trans rfl

theorem p_220 : prg 220 = (k_220, 3) := rfl
theorem o_220 : okc k_220 = true := by decide +kernel
set_option maxRecDepth 100000 in
theorem e_220 (d : Nat) (a0 : Nat) (a1 : Int32) (h : MHeap) : call (d + 1) 220 [.ref a0, .int a1] h = (
  cI (call d 166 [.int a1, .int 0, .int 9999] h) fun x2 h1 =>
  if x2 = 0 then
  (some (some (.int (-2)), h1))
  else
  (ex d 220 16 [sv (.ref a0), sv (.int a1), sv (.int 0)] [] h1)) :=
  (call_unr p_220 o_220 rfl [16] 14 _ h).trans rfl
set_option maxRecDepth 100000 in
theorem e_220_16 (d : Nat) (a0 : Nat) (a1 : Int32) (a2 : Int32) (h : MHeap) : ex d 220 16 [sv (.ref a0), sv (.int a1), sv (.int a2)] [] h = (
  if (1 <<< (a2 &&& 31)) < ((a1 + a2) + 1) then
  (ex d 220 16 [sv (.ref a0), sv (.int a1), sv (.int (a2 + 1))] [] h)
  else
  (some (some (.int a2), h))) :=
  (ex_unr p_220 o_220 [16] 18 rfl _ _ h).trans rfl

theorem p_221 : prg 221 = (k_221, 1) := rfl
theorem o_221 : okc k_221 = true := by decide +kernel
set_option maxRecDepth 100000 in
theorem e_221 (d : Nat) (a0 : Int32) (h : MHeap) : call (d + 1) 221 [.int a0] h = (
  if (a0 &&& (a0 - 1)) = 0 then
  (zr none 1 (some (some (.int 1), h)))
  else
  (zr none 0 (some (some (.int 0), h)))) :=
  (call_unr p_221 o_221 rfl [] 16 _ h).trans rfl

theorem p_222 : prg 222 = (k_222, 2) := rfl
theorem o_222 : okc k_222 = true := by decide +kernel
set_option maxRecDepth 100000 in
theorem e_222 (d : Nat) (a0 : Nat) (a1 : Int32) (h : MHeap) : call (d + 1) 222 [.ref a0, .int a1] h = (
  cI (call d 166 [.int a1, .int 1, .int 99999] h) fun x2 h1 =>
  if x2 = 0 then
  (some (some (.int (-2)), h1))
  else
  (cI (call d 221 [.int a1] h1) fun x4 h3 =>
  if x4 = 0 then
  (some (some (.int 0), h3))
  else
  (some (some (.int 1), h3)))) :=
  (call_unr p_222 o_222 rfl [] 21 _ h).trans rfl

theorem p_223 : prg 223 = (k_223, 3) := rfl
theorem o_223 : okc k_223 = true := by decide +kernel
set_option maxRecDepth 100000 in
theorem e_223 (d : Nat) (a0 : Nat) (h : MHeap) : call (d + 1) 223 [.ref a0] h = (
  ex d 223 4 [sv (.ref a0), sv (.int 0), sv (.int 0)] [] h) :=
  (call_unr p_223 o_223 rfl [4] 9 _ h).trans rfl
set_option maxRecDepth 100000 in
theorem e_223_4 (d : Nat) (a0 : Nat) (a1 : Int32) (a2 : Int32) (h : MHeap) : ex d 223 4 [sv (.ref a0), sv (.int a1), sv (.int a2)] [] h = (
  gfI none h a0 [12] 0 fun x1 =>
  if a2 < x1 then
  (gfI none h a0 [12] 2 fun x2 =>
  if ((x2 >>> (a2 &&& 31)) &&& 1) = 1 then
  (ex d 223 4 [sv (.ref a0), sv (.int (a1 ^^^ a2)), sv (.int (a2 + 1))] [] h)
  else
  (ex d 223 4 [sv (.ref a0), sv (.int (a1 ^^^ 0)), sv (.int (a2 + 1))] [] h))
  else
  (some (some (.int a1), h))) :=
  (ex_unr p_223 o_223 [4] 31 rfl _ _ h).trans rfl

theorem p_224 : prg 224 = (k_224, 1) := rfl
theorem o_224 : okc k_224 = true := by decide +kernel
set_option maxRecDepth 100000 in
theorem e_224 (d : Nat) (a0 : Nat) (h : MHeap) : call (d + 1) 224 [.ref a0] h = (
  gfI none h a0 [12] 0 fun x1 =>
  cI (call d 221 [.int x1] h) fun x3 h2 =>
  if x3 = 0 then
  (some (some (.int (-3)), h2))
  else
  (vd none h2 a0 [12, 223] fun m4 =>
  cI (call d m4 [.ref a0] h2) fun x6 h5 =>
  some (some (.int x6), h5))) :=
  (call_unr p_224 o_224 rfl [] 15 _ h).trans rfl

theorem p_225 : prg 225 = (k_225, 2) := rfl
theorem o_225 : okc k_225 = true := by decide +kernel
set_option maxRecDepth 100000 in
theorem e_225 (d : Nat) (a0 : Nat) (a1 : Int32) (h : MHeap) : call (d + 1) 225 [.ref a0, .int a1] h = (
  vd none h a0 [12, 169] fun m1 =>
  cI (call d m1 [.ref a0, .int a1] h) fun x3 h2 =>
  if x3 = 0 then
  (some (some (.int (-2)), h2))
  else
  (gfI none h2 a0 [12] 0 fun x4 =>
  cI (call d 221 [.int x4] h2) fun x6 h5 =>
  if x6 = 0 then
  (some (some (.int (-3)), h5))
  else
  (vd none h5 a0 [12, 223] fun m7 =>
  cI (call d m7 [.ref a0] h5) fun x9 h8 =>
  some (some (.int (x9 ^^^ a1)), h8)))) :=
  (call_unr p_225 o_225 rfl [] 23 _ h).trans rfl

theorem p_226 : prg 226 = (k_226, 8) := rfl
theorem o_226 : okc k_226 = true := by decide +kernel
set_option maxRecDepth 100000 in
theorem e_226 (d : Nat) (a0 : Nat) (a1 : Int32) (h : MHeap) : call (d + 1) 226 [.ref a0, .int a1] h = (
  cI (call d 166 [.int a1, .int 0, .int 2] h) fun x2 h1 =>
  if x2 = 0 then
  (some (some (.int (-2)), h1))
  else
  (vd none h1 a0 [12, 203] fun m3 =>
  cV (call d m3 [.ref a0] h1) fun h4 =>
  gfI none h4 a0 [12] 2 fun x5 =>
  vd none h4 a0 [12, 204] fun m6 =>
  cI (call d m6 [.ref a0, .int x5] h4) fun x8 h7 =>
  ex d 226 30 [sv (.ref a0), sv (.int a1), sv (.int x8), sv (.int 0), sv (.int 0), none, none, none] [] h7)) :=
  (call_unr p_226 o_226 rfl [30, 126] 23 _ h).trans rfl
set_option maxRecDepth 100000 in
theorem e_226_30 (d : Nat) (a0 : Nat) (a1 : Int32) (a2 : Int32) (a3 : Int32) (a4 : Int32) (a5 : MSl) (a6 : MSl) (a7 : MSl) (h : MHeap) : ex d 226 30 [sv (.ref a0), sv (.int a1), sv (.int a2), sv (.int a3), sv (.int a4), a5, a6, a7] [] h = (
  gfI none h a0 [12] 0 fun x1 =>
  if (a4 + 1) < x1 then
  (gfI none h a0 [12] 2 fun x2 =>
  cI (call d 175 [.int x2, .int a4, .int (a4 + 1)] h) fun x4 h3 =>
  vd none h3 a0 [12, 204] fun m5 =>
  cI (call d m5 [.ref a0, .int x4] h3) fun x7 h6 =>
  gfI none h6 a0 [12] 2 fun x8 =>
  if x4 = x8 then
  (if 0 = 0 then
  (ex d 226 126 [sv (.ref a0), sv (.int a1), sv (.int a2), sv (.int a3), sv (.int a4), sv (.int x4), sv (.int x7), sv (.int 0)] [.int 0, .int a3] h6)
  else
  (ex d 226 126 [sv (.ref a0), sv (.int a1), sv (.int a2), sv (.int a3), sv (.int a4), sv (.int x4), sv (.int x7), sv (.int 0)] [.int (1 <<< (a4 &&& 31)), .int a3] h6))
  else
  (if a1 = 0 then
  (if x7 = a2 then
  (if 1 = 0 then
  (ex d 226 126 [sv (.ref a0), sv (.int a1), sv (.int a2), sv (.int a3), sv (.int a4), sv (.int x4), sv (.int x7), sv (.int 1)] [.int 0, .int a3] h6)
  else
  (ex d 226 126 [sv (.ref a0), sv (.int a1), sv (.int a2), sv (.int a3), sv (.int a4), sv (.int x4), sv (.int x7), sv (.int 1)] [.int (1 <<< (a4 &&& 31)), .int a3] h6))
  else
  (if 0 = 0 then
  (ex d 226 126 [sv (.ref a0), sv (.int a1), sv (.int a2), sv (.int a3), sv (.int a4), sv (.int x4), sv (.int x7), sv (.int 0)] [.int 0, .int a3] h6)
  else
  (ex d 226 126 [sv (.ref a0), sv (.int a1), sv (.int a2), sv (.int a3), sv (.int a4), sv (.int x4), sv (.int x7), sv (.int 0)] [.int (1 <<< (a4 &&& 31)), .int a3] h6)))
  else
  (if a1 = 1 then
  (if x7 = a2 then
  (if 0 = 0 then
  (ex d 226 126 [sv (.ref a0), sv (.int a1), sv (.int a2), sv (.int a3), sv (.int a4), sv (.int x4), sv (.int x7), sv (.int 0)] [.int 0, .int a3] h6)
  else
  (ex d 226 126 [sv (.ref a0), sv (.int a1), sv (.int a2), sv (.int a3), sv (.int a4), sv (.int x4), sv (.int x7), sv (.int 0)] [.int (1 <<< (a4 &&& 31)), .int a3] h6))
  else
  (if 1 = 0 then
  (ex d 226 126 [sv (.ref a0), sv (.int a1), sv (.int a2), sv (.int a3), sv (.int a4), sv (.int x4), sv (.int x7), sv (.int 1)] [.int 0, .int a3] h6)
  else
  (ex d 226 126 [sv (.ref a0), sv (.int a1), sv (.int a2), sv (.int a3), sv (.int a4), sv (.int x4), sv (.int x7), sv (.int 1)] [.int (1 <<< (a4 &&& 31)), .int a3] h6)))
  else
  (if x7 = 0 then
  (if 1 = 0 then
  (ex d 226 126 [sv (.ref a0), sv (.int a1), sv (.int a2), sv (.int a3), sv (.int a4), sv (.int x4), sv (.int x7), sv (.int 1)] [.int 0, .int a3] h6)
  else
  (ex d 226 126 [sv (.ref a0), sv (.int a1), sv (.int a2), sv (.int a3), sv (.int a4), sv (.int x4), sv (.int x7), sv (.int 1)] [.int (1 <<< (a4 &&& 31)), .int a3] h6))
  else
  (if 0 = 0 then
  (ex d 226 126 [sv (.ref a0), sv (.int a1), sv (.int a2), sv (.int a3), sv (.int a4), sv (.int x4), sv (.int x7), sv (.int 0)] [.int 0, .int a3] h6)
  else
  (ex d 226 126 [sv (.ref a0), sv (.int a1), sv (.int a2), sv (.int a3), sv (.int a4), sv (.int x4), sv (.int x7), sv (.int 0)] [.int (1 <<< (a4 &&& 31)), .int a3] h6))))))
  else
  (some (some (.int a3), h))) :=
  (ex_unr p_226 o_226 [30, 126] 117 rfl _ _ h).trans rfl
set_option maxRecDepth 100000 in
theorem e_226_126 (d : Nat) (a0 : Nat) (a1 : Int32) (a2 : Int32) (a3 : Int32) (a4 : Int32) (a5 : Int32) (a6 : Int32) (a7 : Int32) (s0 : Int32) (s1 : Int32) (h : MHeap) : ex d 226 126 [sv (.ref a0), sv (.int a1), sv (.int a2), sv (.int a3), sv (.int a4), sv (.int a5), sv (.int a6), sv (.int a7)] [.int s0, .int s1] h = (
  ex d 226 30 [sv (.ref a0), sv (.int a1), sv (.int a2), sv (.int (s1 ||| s0)), sv (.int (a4 + 1)), sv (.int a5), sv (.int a6), sv (.int a7)] [] h) :=
  (ex_unr p_226 o_226 [30, 126] 9 rfl _ _ h).trans rfl

theorem p_227 : prg 227 = (k_227, 7) := rfl
theorem o_227 : okc k_227 = true := by decide +kernel
set_option maxRecDepth 100000 in
theorem e_227 (d : Nat) (a0 : Nat) (a1 : Int32) (a2 : Int32) (h : MHeap) : call (d + 1) 227 [.ref a0, .int a1, .int a2] h = (
  gfI none h a0 [12] 0 fun x1 =>
  gfI none h a0 [12] 1 fun x2 =>
  dv none x2 <|
  cI (call d 166 [.int a1, .int 0, .int ((x1 - 1) / x2)] h) fun x4 h3 =>
  if x4 = 0 then
  (some (some (.int (-5)), h3))
  else
  (cI (call d 166 [.int a2, .int 0, .int 2] h3) fun x6 h5 =>
  if x6 = 0 then
  (some (some (.int (-7)), h5))
  else
  (vd none h5 a0 [12, 203] fun m7 =>
  cV (call d m7 [.ref a0] h5) fun h8 =>
  ex d 227 43 [sv (.ref a0), sv (.int a1), sv (.int a2), sv (.int 0), sv (.int 0), none, none] [] h8))) :=
  (call_unr p_227 o_227 rfl [43, 89] 31 _ h).trans rfl
set_option maxRecDepth 100000 in
theorem e_227_43 (d : Nat) (a0 : Nat) (a1 : Int32) (a2 : Int32) (a3 : Int32) (a4 : Int32) (h : MHeap) : ex d 227 43 [sv (.ref a0), sv (.int a1), sv (.int a2), sv (.int a3), sv (.int a4), none, none] [] h = (
  gfI none h a0 [12] 0 fun x1 =>
  if a4 < x1 then
  (gfI none h a0 [12] 1 fun x2 =>
  dv none x2 <|
  if (a4 / x2) = a1 then
  (ex d 227 43 [sv (.ref a0), sv (.int a1), sv (.int a2), sv (.int (a3 ||| (1 <<< (a4 &&& 31)))), sv (.int (a4 + 1)), none, none] [] h)
  else
  (ex d 227 43 [sv (.ref a0), sv (.int a1), sv (.int a2), sv (.int (a3 ||| 0)), sv (.int (a4 + 1)), none, none] [] h))
  else
  (ex d 227 89 [sv (.ref a0), sv (.int a1), sv (.int a2), sv (.int a3), sv (.int 0), sv (.int (-1)), sv (.int 0)] [] h)) :=
  (ex_unr p_227 o_227 [43, 89] 35 rfl _ _ h).trans rfl
set_option maxRecDepth 100000 in
theorem e_227_89 (d : Nat) (a0 : Nat) (a1 : Int32) (a2 : Int32) (a3 : Int32) (a4 : Int32) (a5 : Int32) (a6 : Int32) (h : MHeap) : ex d 227 89 [sv (.ref a0), sv (.int a1), sv (.int a2), sv (.int a3), sv (.int a4), sv (.int a5), sv (.int a6)] [] h = (
  vd none h a0 [12, 171] fun m1 =>
  cI (call d m1 [.ref a0] h) fun x3 h2 =>
  if x3 < a6 then
  (if a2 = 0 then
  (some (some (.int a4), h2))
  else
  (if a2 = 1 then
  (some (some (.int a5), h2))
  else
  (if a4 = 1 then
  (gfI none h2 a0 [12] 2 fun x4 =>
  if a5 = (x4 &&& a3) then
  (some (some (.int 1), h2))
  else
  (some (some (.int 0), h2)))
  else
  (some (some (.int 0), h2)))))
  else
  (if (a6 &&& (a3 ^^^ (-1))) = 0 then
  (gfI none h2 a0 [12] 2 fun x5 =>
  vd none h2 a0 [12, 209] fun m6 =>
  cI (call d m6 [.ref a0, .int ((x5 &&& (a3 ^^^ (-1))) ||| a6)] h2) fun x8 h7 =>
  if x8 = 0 then
  (ex d 227 89 [sv (.ref a0), sv (.int a1), sv (.int a2), sv (.int a3), sv (.int a4), sv (.int a5), sv (.int (a6 + 1))] [] h7)
  else
  (if a5 = (-1) then
  (ex d 227 89 [sv (.ref a0), sv (.int a1), sv (.int a2), sv (.int a3), sv (.int (a4 + 1)), sv (.int a6), sv (.int (a6 + 1))] [] h7)
  else
  (ex d 227 89 [sv (.ref a0), sv (.int a1), sv (.int a2), sv (.int a3), sv (.int (a4 + 1)), sv (.int a5), sv (.int (a6 + 1))] [] h7)))
  else
  (ex d 227 89 [sv (.ref a0), sv (.int a1), sv (.int a2), sv (.int a3), sv (.int a4), sv (.int a5), sv (.int (a6 + 1))] [] h2))) :=
  (ex_unr p_227 o_227 [43, 89] 70 rfl _ _ h).trans rfl

theorem p_228 : prg 228 = (k_228, 2) := rfl
theorem o_228 : okc k_228 = true := by decide +kernel
set_option maxRecDepth 100000 in
theorem e_228 (d : Nat) (a0 : Nat) (a1 : Int32) (h : MHeap) : call (d + 1) 228 [.ref a0, .int a1] h = (
  gfI none h a0 [12] 2 fun x1 =>
  gfI none h a0 [12] 2 fun x2 =>
  gfI none h a0 [12] 0 fun x3 =>
  vd none h a0 [12, 171] fun m4 =>
  cI (call d m4 [.ref a0] h) fun x6 h5 =>
  some (some (.int (((x1 >>> (a1 &&& 31)) ||| (x2 <<< ((x3 - a1) &&& 31))) &&& x6)), h5)) :=
  (call_unr p_228 o_228 rfl [] 21 _ h).trans rfl

theorem p_229 : prg 229 = (k_229, 2) := rfl
theorem o_229 : okc k_229 = true := by decide +kernel
set_option maxRecDepth 100000 in
theorem e_229 (d : Nat) (a0 : Nat) (a1 : Int32) (h : MHeap) : call (d + 1) 229 [.ref a0, .int a1] h = (
  vd none h a0 [12, 169] fun m1 =>
  cI (call d m1 [.ref a0, .int a1] h) fun x3 h2 =>
  if x3 = 0 then
  (some (some (.int (-2)), h2))
  else
  (vd none h2 a0 [12, 228] fun m4 =>
  cI (call d m4 [.ref a0, .int a1] h2) fun x6 h5 =>
  pfI none h5 a0 [12] 2 x6 fun h7 =>
  gfI none h7 a0 [12] 2 fun x8 =>
  some (some (.int x8), h7))) :=
  (call_unr p_229 o_229 rfl [] 19 _ h).trans rfl

theorem p_230 : prg 230 = (k_230, 7) := rfl
theorem o_230 : okc k_230 = true := by decide +kernel
set_option maxRecDepth 100000 in
theorem e_230 (d : Nat) (a0 : Nat) (a1 : Int32) (h : MHeap) : call (d + 1) 230 [.ref a0, .int a1] h = (
  cI (call d 166 [.int a1, .int 0, .int 2] h) fun x2 h1 =>
  if x2 = 0 then
  (some (some (.int (-2)), h1))
  else
  (vd none h1 a0 [12, 203] fun m3 =>
  cV (call d m3 [.ref a0] h1) fun h4 =>
  gfI none h4 a0 [12] 2 fun x5 =>
  vd none h4 a0 [12, 204] fun m6 =>
  cI (call d m6 [.ref a0, .int x5] h4) fun x8 h7 =>
  ex d 230 30 [sv (.ref a0), sv (.int a1), sv (.int x8), sv (.int 0), sv (.int 1), none, none] [] h7)) :=
  (call_unr p_230 o_230 rfl [30] 23 _ h).trans rfl
set_option maxRecDepth 100000 in
theorem e_230_30 (d : Nat) (a0 : Nat) (a1 : Int32) (a2 : Int32) (a3 : Int32) (a4 : Int32) (a5 : MSl) (a6 : MSl) (h : MHeap) : ex d 230 30 [sv (.ref a0), sv (.int a1), sv (.int a2), sv (.int a3), sv (.int a4), a5, a6] [] h = (
  gfI none h a0 [12] 0 fun x1 =>
  if a4 < x1 then
  (vd none h a0 [12, 228] fun m2 =>
  cI (call d m2 [.ref a0, .int a4] h) fun x4 h3 =>
  if a1 = 0 then
  (vd none h3 a0 [12, 204] fun m5 =>
  cI (call d m5 [.ref a0, .int x4] h3) fun x7 h6 =>
  if x7 = a2 then
  (if 1 = 0 then
  (ex d 230 30 [sv (.ref a0), sv (.int a1), sv (.int a2), sv (.int (a3 ||| 0)), sv (.int (a4 + 1)), sv (.int x4), sv (.int 1)] [] h6)
  else
  (ex d 230 30 [sv (.ref a0), sv (.int a1), sv (.int a2), sv (.int (a3 ||| (1 <<< (a4 &&& 31)))), sv (.int (a4 + 1)), sv (.int x4), sv (.int 1)] [] h6))
  else
  (if 0 = 0 then
  (ex d 230 30 [sv (.ref a0), sv (.int a1), sv (.int a2), sv (.int (a3 ||| 0)), sv (.int (a4 + 1)), sv (.int x4), sv (.int 0)] [] h6)
  else
  (ex d 230 30 [sv (.ref a0), sv (.int a1), sv (.int a2), sv (.int (a3 ||| (1 <<< (a4 &&& 31)))), sv (.int (a4 + 1)), sv (.int x4), sv (.int 0)] [] h6)))
  else
  (if a1 = 1 then
  (vd none h3 a0 [12, 209] fun m8 =>
  cI (call d m8 [.ref a0, .int x4] h3) fun x10 h9 =>
  if x10 = 0 then
  (ex d 230 30 [sv (.ref a0), sv (.int a1), sv (.int a2), sv (.int (a3 ||| 0)), sv (.int (a4 + 1)), sv (.int x4), sv (.int x10)] [] h9)
  else
  (ex d 230 30 [sv (.ref a0), sv (.int a1), sv (.int a2), sv (.int (a3 ||| (1 <<< (a4 &&& 31)))), sv (.int (a4 + 1)), sv (.int x4), sv (.int x10)] [] h9))
  else
  (gfI none h3 a0 [12] 2 fun x11 =>
  if x4 = x11 then
  (if 1 = 0 then
  (ex d 230 30 [sv (.ref a0), sv (.int a1), sv (.int a2), sv (.int (a3 ||| 0)), sv (.int (a4 + 1)), sv (.int x4), sv (.int 1)] [] h3)
  else
  (ex d 230 30 [sv (.ref a0), sv (.int a1), sv (.int a2), sv (.int (a3 ||| (1 <<< (a4 &&& 31)))), sv (.int (a4 + 1)), sv (.int x4), sv (.int 1)] [] h3))
  else
  (if 0 = 0 then
  (ex d 230 30 [sv (.ref a0), sv (.int a1), sv (.int a2), sv (.int (a3 ||| 0)), sv (.int (a4 + 1)), sv (.int x4), sv (.int 0)] [] h3)
  else
  (ex d 230 30 [sv (.ref a0), sv (.int a1), sv (.int a2), sv (.int (a3 ||| (1 <<< (a4 &&& 31)))), sv (.int (a4 + 1)), sv (.int x4), sv (.int 0)] [] h3)))))
  else
  (some (some (.int a3), h))) :=
  (ex_unr p_230 o_230 [30] 125 rfl _ _ h).trans rfl

theorem p_231 : prg 231 = (k_231, 5) := rfl
theorem o_231 : okc k_231 = true := by decide +kernel
set_option maxRecDepth 100000 in
theorem e_231 (d : Nat) (a0 : Nat) (a1 : Int32) (a2 : Int32) (h : MHeap) : call (d + 1) 231 [.ref a0, .int a1, .int a2] h = (
  gfI none h a0 [12] 2 fun x1 =>
  gfI none h a0 [12] 2 fun x2 =>
  gfI none h a0 [12] 2 fun x3 =>
  some (some (.int (((((x2 &&& ((1 <<< (a1 &&& 31)) - 1)) ||| ((x3 >>> ((a1 + 1) &&& 31)) <<< (a1 &&& 31))) &&& ((1 <<< (a2 &&& 31)) - 1)) ||| (((x1 >>> (a1 &&& 31)) &&& 1) <<< (a2 &&& 31))) ||| ((((x2 &&& ((1 <<< (a1 &&& 31)) - 1)) ||| ((x3 >>> ((a1 + 1) &&& 31)) <<< (a1 &&& 31))) >>> (a2 &&& 31)) <<< ((a2 + 1) &&& 31)))), h)) :=
  (call_unr p_231 o_231 rfl [] 50 _ h).trans rfl

theorem p_232 : prg 232 = (k_232, 3) := rfl
theorem o_232 : okc k_232 = true := by decide +kernel
set_option maxRecDepth 100000 in
theorem e_232 (d : Nat) (a0 : Nat) (a1 : Int32) (a2 : Int32) (h : MHeap) : call (d + 1) 232 [.ref a0, .int a1, .int a2] h = (
  vd none h a0 [12, 169] fun m1 =>
  cI (call d m1 [.ref a0, .int a1] h) fun x3 h2 =>
  if x3 = 0 then
  (some (some (.int (-5)), h2))
  else
  (vd none h2 a0 [12, 169] fun m4 =>
  cI (call d m4 [.ref a0, .int a2] h2) fun x6 h5 =>
  if x6 = 0 then
  (some (some (.int (-5)), h5))
  else
  (vd none h5 a0 [12, 231] fun m7 =>
  cI (call d m7 [.ref a0, .int a1, .int a2] h5) fun x9 h8 =>
  pfI none h8 a0 [12] 2 x9 fun h10 =>
  gfI none h10 a0 [12] 2 fun x11 =>
  some (some (.int x11), h10)))) :=
  (call_unr p_232 o_232 rfl [] 26 _ h).trans rfl

theorem p_233 : prg 233 = (k_233, 8) := rfl
theorem o_233 : okc k_233 = true := by decide +kernel
set_option maxRecDepth 100000 in
theorem e_233 (d : Nat) (a0 : Nat) (a1 : Int32) (h : MHeap) : call (d + 1) 233 [.ref a0, .int a1] h = (
  cI (call d 166 [.int a1, .int 0, .int 1] h) fun x2 h1 =>
  if x2 = 0 then
  (some (some (.int (-2)), h1))
  else
  (vd none h1 a0 [12, 203] fun m3 =>
  cV (call d m3 [.ref a0] h1) fun h4 =>
  gfI none h4 a0 [12] 2 fun x5 =>
  vd none h4 a0 [12, 204] fun m6 =>
  cI (call d m6 [.ref a0, .int x5] h4) fun x8 h7 =>
  ex d 233 30 [sv (.ref a0), sv (.int a1), sv (.int x8), sv (.int 0), sv (.int 0), none, none, none] [] h7)) :=
  (call_unr p_233 o_233 rfl [30, 42] 23 _ h).trans rfl
set_option maxRecDepth 100000 in
theorem e_233_30 (d : Nat) (a0 : Nat) (a1 : Int32) (a2 : Int32) (a3 : Int32) (a4 : Int32) (a5 : MSl) (a6 : MSl) (a7 : MSl) (h : MHeap) : ex d 233 30 [sv (.ref a0), sv (.int a1), sv (.int a2), sv (.int a3), sv (.int a4), a5, a6, a7] [] h = (
  gfI none h a0 [12] 0 fun x1 =>
  if a4 < x1 then
  (ex d 233 42 [sv (.ref a0), sv (.int a1), sv (.int a2), sv (.int a3), sv (.int a4), sv (.int 0), a6, a7] [] h)
  else
  (some (some (.int a3), h))) :=
  (ex_unr p_233 o_233 [30, 42] 13 rfl _ _ h).trans rfl
set_option maxRecDepth 100000 in
theorem e_233_42 (d : Nat) (a0 : Nat) (a1 : Int32) (a2 : Int32) (a3 : Int32) (a4 : Int32) (a5 : Int32) (a6 : MSl) (a7 : MSl) (h : MHeap) : ex d 233 42 [sv (.ref a0), sv (.int a1), sv (.int a2), sv (.int a3), sv (.int a4), sv (.int a5), a6, a7] [] h = (
  gfI none h a0 [12] 0 fun x1 =>
  if a5 < x1 then
  (vd none h a0 [12, 231] fun m2 =>
  cI (call d m2 [.ref a0, .int a4, .int a5] h) fun x4 h3 =>
  vd none h3 a0 [12, 204] fun m5 =>
  cI (call d m5 [.ref a0, .int x4] h3) fun x7 h6 =>
  if x7 = a2 then
  (if a1 = 0 then
  (if 1 = 0 then
  (ex d 233 42 [sv (.ref a0), sv (.int a1), sv (.int a2), sv (.int (a3 + 1)), sv (.int a4), sv (.int (a5 + 1)), sv (.int x4), sv (.int 1)] [] h6)
  else
  (ex d 233 42 [sv (.ref a0), sv (.int a1), sv (.int a2), sv (.int (a3 + 0)), sv (.int a4), sv (.int (a5 + 1)), sv (.int x4), sv (.int 1)] [] h6))
  else
  (if 1 = 0 then
  (ex d 233 42 [sv (.ref a0), sv (.int a1), sv (.int a2), sv (.int (a3 + 0)), sv (.int a4), sv (.int (a5 + 1)), sv (.int x4), sv (.int 1)] [] h6)
  else
  (gfI none h6 a0 [12] 2 fun x8 =>
  if x4 = x8 then
  (ex d 233 42 [sv (.ref a0), sv (.int a1), sv (.int a2), sv (.int (a3 + 0)), sv (.int a4), sv (.int (a5 + 1)), sv (.int x4), sv (.int 1)] [] h6)
  else
  (ex d 233 42 [sv (.ref a0), sv (.int a1), sv (.int a2), sv (.int (a3 + 1)), sv (.int a4), sv (.int (a5 + 1)), sv (.int x4), sv (.int 1)] [] h6))))
  else
  (if a1 = 0 then
  (if 0 = 0 then
  (ex d 233 42 [sv (.ref a0), sv (.int a1), sv (.int a2), sv (.int (a3 + 1)), sv (.int a4), sv (.int (a5 + 1)), sv (.int x4), sv (.int 0)] [] h6)
  else
  (ex d 233 42 [sv (.ref a0), sv (.int a1), sv (.int a2), sv (.int (a3 + 0)), sv (.int a4), sv (.int (a5 + 1)), sv (.int x4), sv (.int 0)] [] h6))
  else
  (if 0 = 0 then
  (ex d 233 42 [sv (.ref a0), sv (.int a1), sv (.int a2), sv (.int (a3 + 0)), sv (.int a4), sv (.int (a5 + 1)), sv (.int x4), sv (.int 0)] [] h6)
  else
  (gfI none h6 a0 [12] 2 fun x9 =>
  if x4 = x9 then
  (ex d 233 42 [sv (.ref a0), sv (.int a1), sv (.int a2), sv (.int (a3 + 0)), sv (.int a4), sv (.int (a5 + 1)), sv (.int x4), sv (.int 0)] [] h6)
  else
  (ex d 233 42 [sv (.ref a0), sv (.int a1), sv (.int a2), sv (.int (a3 + 1)), sv (.int a4), sv (.int (a5 + 1)), sv (.int x4), sv (.int 0)] [] h6)))))
  else
  (ex d 233 30 [sv (.ref a0), sv (.int a1), sv (.int a2), sv (.int a3), sv (.int (a4 + 1)), sv (.int a5), a6, a7] [] h)) :=
  (ex_unr p_233 o_233 [30, 42] 104 rfl _ _ h).trans rfl

theorem p_234 : prg 234 = (k_234, 4) := rfl
theorem o_234 : okc k_234 = true := by decide +kernel
set_option maxRecDepth 100000 in
theorem e_234 (d : Nat) (a0 : Nat) (a1 : Int32) (a2 : Int32) (a3 : Int32) (h : MHeap) : call (d + 1) 234 [.ref a0, .int a1, .int a2, .int a3] h = (
  if 0 < a2 then
  (vd none h a0 [12, 209] fun m1 =>
  cI (call d m1 [.ref a0, .int a3] h) fun x3 h2 =>
  if x3 = 0 then
  (some (none, h2))
  else
  (gfI none h2 a0 [12] 37 fun x4 =>
  if x4 < a2 then
  (pfI none h2 a0 [12] 36 a1 fun h5 =>
  gfI none h5 a0 [12] 37 fun x6 =>
  if x6 < a2 then
  (pfI none h5 a0 [12] 37 a2 fun h7 =>
  gfI none h7 a0 [12] 38 fun x8 =>
  pfI none h7 a0 [12] 38 (x8 + a2) fun h9 =>
  some (none, h9))
  else
  (gfI none h5 a0 [12] 37 fun x10 =>
  pfI none h5 a0 [12] 37 x10 fun h11 =>
  gfI none h11 a0 [12] 38 fun x12 =>
  pfI none h11 a0 [12] 38 (x12 + a2) fun h13 =>
  some (none, h13)))
  else
  (gfI none h2 a0 [12] 36 fun x14 =>
  pfI none h2 a0 [12] 36 x14 fun h15 =>
  gfI none h15 a0 [12] 37 fun x16 =>
  if x16 < a2 then
  (pfI none h15 a0 [12] 37 a2 fun h17 =>
  gfI none h17 a0 [12] 38 fun x18 =>
  pfI none h17 a0 [12] 38 (x18 + a2) fun h19 =>
  some (none, h19))
  else
  (gfI none h15 a0 [12] 37 fun x20 =>
  pfI none h15 a0 [12] 37 x20 fun h21 =>
  gfI none h21 a0 [12] 38 fun x22 =>
  pfI none h21 a0 [12] 38 (x22 + a2) fun h23 =>
  some (none, h23)))))
  else
  (some (none, h))) :=
  (call_unr p_234 o_234 rfl [] 74 _ h).trans rfl

theorem p_235 : prg 235 = (k_235, 3) := rfl
theorem o_235 : okc k_235 = true := by decide +kernel
set_option maxRecDepth 100000 in
theorem e_235 (d : Nat) (a0 : Nat) (h : MHeap) : call (d + 1) 235 [.ref a0] h = (
  vd none h a0 [12, 203] fun m1 =>
  cV (call d m1 [.ref a0] h) fun h2 =>
  pfI none h2 a0 [12] 36 (-1) fun h3 =>
  pfI none h3 a0 [12] 37 0 fun h4 =>
  pfI none h4 a0 [12] 38 0 fun h5 =>
  gfI none h5 a0 [12] 2 fun x6 =>
  vd none h5 a0 [12, 234] fun m7 =>
  cV (call d m7 [.ref a0, .int 0, .int 100, .int x6] h5) fun h8 =>
  ex d 235 32 [sv (.ref a0), sv (.int 0), none] [] h8) :=
  (call_unr p_235 o_235 rfl [32, 69] 24 _ h).trans rfl
set_option maxRecDepth 100000 in
theorem e_235_32 (d : Nat) (a0 : Nat) (a1 : Int32) (h : MHeap) : ex d 235 32 [sv (.ref a0), sv (.int a1), none] [] h = (
  gfI none h a0 [12] 0 fun x1 =>
  if a1 < x1 then
  (vd none h a0 [12, 194] fun m2 =>
  cI (call d m2 [.ref a0, .int 0, .int a1] h) fun x4 h3 =>
  gfI none h3 a0 [12] 2 fun x5 =>
  vd none h3 a0 [12, 234] fun m6 =>
  cV (call d m6 [.ref a0, .int (1 + a1), .int x4, .int (x5 ^^^ (1 <<< (a1 &&& 31)))] h3) fun h7 =>
  ex d 235 32 [sv (.ref a0), sv (.int (a1 + 1)), none] [] h7)
  else
  (ex d 235 69 [sv (.ref a0), sv (.int 0), none] [] h)) :=
  (ex_unr p_235 o_235 [32, 69] 28 rfl _ _ h).trans rfl
set_option maxRecDepth 100000 in
theorem e_235_69 (d : Nat) (a0 : Nat) (a1 : Int32) (a2 : MSl) (h : MHeap) : ex d 235 69 [sv (.ref a0), sv (.int a1), a2] [] h = (
  gfI none h a0 [12] 0 fun x1 =>
  if (a1 + 1) < x1 then
  (gfI none h a0 [12] 2 fun x2 =>
  cI (call d 175 [.int x2, .int a1, .int (a1 + 1)] h) fun x4 h3 =>
  gfI none h3 a0 [12] 2 fun x5 =>
  if x4 = x5 then
  (ex d 235 69 [sv (.ref a0), sv (.int (a1 + 1)), sv (.int x4)] [] h3)
  else
  (vd none h3 a0 [12, 194] fun m6 =>
  cI (call d m6 [.ref a0, .int 1, .int a1] h3) fun x8 h7 =>
  vd none h7 a0 [12, 234] fun m9 =>
  cV (call d m9 [.ref a0, .int (21 + a1), .int x8, .int x4] h7) fun h10 =>
  ex d 235 69 [sv (.ref a0), sv (.int (a1 + 1)), sv (.int x4)] [] h10))
  else
  (some (none, h))) :=
  (ex_unr p_235 o_235 [32, 69] 38 rfl _ _ h).trans rfl

theorem p_236 : prg 236 = (k_236, 2) := rfl
theorem o_236 : okc k_236 = true := by decide +kernel
set_option maxRecDepth 100000 in
theorem e_236 (d : Nat) (a0 : Nat) (a1 : Int32) (h : MHeap) : call (d + 1) 236 [.ref a0, .int a1] h = (
  cI (call d 166 [.int a1, .int 0, .int 2] h) fun x2 h1 =>
  if x2 = 0 then
  (some (some (.int (-2)), h1))
  else
  (vd none h1 a0 [12, 235] fun m3 =>
  cV (call d m3 [.ref a0] h1) fun h4 =>
  if a1 = 0 then
  (gfI none h4 a0 [12] 36 fun x5 =>
  some (some (.int x5), h4))
  else
  (if a1 = 1 then
  (gfI none h4 a0 [12] 37 fun x6 =>
  some (some (.int x6), h4))
  else
  (gfI none h4 a0 [12] 38 fun x7 =>
  some (some (.int x7), h4))))) :=
  (call_unr p_236 o_236 rfl [] 30 _ h).trans rfl

theorem p_237 : prg 237 = (k_237, 11) := rfl
theorem o_237 : okc k_237 = true := by decide +kernel
set_option maxRecDepth 100000 in
theorem e_237 (d : Nat) (a0 : Int64) (a2 : Int64) (a4 : Int32) (h : MHeap) : call (d + 1) 237 [.long a0, .long a2, .int a4] h = (
  if (if a0 = 0 then 0 else if a0 < 0 then -1 else 1) = 0 then
  (some (some (.long (Int32.toInt64 a4)), h))
  else
  (ex d 237 16 [sy a0, none, sy a2, none, sv (.int a4), sy a0, none, sy a2, none, none, none] [] h)) :=
  (call_unr p_237 o_237 rfl [16] 16 _ h).trans rfl
set_option maxRecDepth 100000 in
theorem e_237_16 (d : Nat) (a0 : Int64) (a2 : Int64) (a4 : Int32) (a5 : Int64) (a7 : Int64) (a9 : MSl) (h : MHeap) : ex d 237 16 [sy a0, none, sy a2, none, sv (.int a4), sy a5, none, sy a7, none, a9, none] [] h = (
  if (if a7 = 0 then 0 else if a7 < 0 then -1 else 1) = 0 then
  (if a4 = 0 then
  (dvL none a5 <|
  some (some (.long (a0 / a5)), h))
  else
  (dvL none a5 <|
  some (some (.long (a2 / a5)), h)))
  else
  (dvL none a7 <|
  ex d 237 16 [sy a0, none, sy a2, none, sv (.int a4), sy a7, none, sy (a5 % a7), none, sy (a5 % a7), none] [] h)) :=
  (ex_unr p_237 o_237 [16] 29 rfl _ _ h).trans rfl

theorem p_238 : prg 238 = (k_238, 2) := rfl
theorem o_238 : okc k_238 = true := by decide +kernel
set_option maxRecDepth 100000 in
theorem e_238 (d : Nat) (a0 : Nat) (a1 : Int32) (h : MHeap) : call (d + 1) 238 [.ref a0, .int a1] h = (
  cI (call d 166 [.int a1, .int 0, .int 1] h) fun x2 h1 =>
  if x2 = 0 then
  (some (some (.long (-4611686018427387904)), h1))
  else
  (vd none h1 a0 [12, 235] fun m3 =>
  cV (call d m3 [.ref a0] h1) fun h4 =>
  gfI none h4 a0 [12] 38 fun x5 =>
  if x5 = 0 then
  (some (some (.long (-4611686018427387904)), h4))
  else
  (gfI none h4 a0 [12] 37 fun x6 =>
  gfI none h4 a0 [12] 38 fun x7 =>
  cJ (call d 237 [.long (Int32.toInt64 x6), .long (Int32.toInt64 x7), .int a1] h4) fun y9 h8 =>
  some (some (.long y9), h8)))) :=
  (call_unr p_238 o_238 rfl [] 29 _ h).trans rfl

theorem p_239 : prg 239 = (k_239, 6) := rfl
theorem o_239 : okc k_239 = true := by decide +kernel
set_option maxRecDepth 100000 in
theorem e_239 (d : Nat) (a0 : Nat) (a1 : Int32) (h : MHeap) : call (d + 1) 239 [.ref a0, .int a1] h = (
  cI (call d 166 [.int a1, .int 0, .int 1] h) fun x2 h1 =>
  if x2 = 0 then
  (some (some (.int (-2)), h1))
  else
  (vd none h1 a0 [12, 211] fun m3 =>
  cI (call d m3 [.ref a0] h1) fun x5 h4 =>
  ex d 239 25 [sv (.ref a0), sv (.int a1), sv (.int x5), sv (.int (-1)), sv (.int 0), sv (.int 0)] [] h4)) :=
  (call_unr p_239 o_239 rfl [25] 21 _ h).trans rfl
set_option maxRecDepth 100000 in
theorem e_239_25 (d : Nat) (a0 : Nat) (a1 : Int32) (a2 : Int32) (a3 : Int32) (a4 : Int32) (a5 : Int32) (h : MHeap) : ex d 239 25 [sv (.ref a0), sv (.int a1), sv (.int a2), sv (.int a3), sv (.int a4), sv (.int a5)] [] h = (
  gfI none h a0 [12] 0 fun x1 =>
  if a5 < x1 then
  (if ((a2 >>> (a5 &&& 31)) &&& 1) = 1 then
  (if a3 = (-1) then
  (vd none h a0 [12, 194] fun m2 =>
  cI (call d m2 [.ref a0, .int 2, .int a5] h) fun x4 h3 =>
  ex d 239 25 [sv (.ref a0), sv (.int a1), sv (.int a2), sv (.int a5), sv (.int (a4 + x4)), sv (.int (a5 + 1))] [] h3)
  else
  (vd none h a0 [12, 194] fun m5 =>
  cI (call d m5 [.ref a0, .int 2, .int a5] h) fun x7 h6 =>
  vd none h6 a0 [12, 194] fun m8 =>
  cI (call d m8 [.ref a0, .int 2, .int a3] h6) fun x10 h9 =>
  if x7 < x10 then
  (vd none h9 a0 [12, 194] fun m11 =>
  cI (call d m11 [.ref a0, .int 2, .int a5] h9) fun x13 h12 =>
  ex d 239 25 [sv (.ref a0), sv (.int a1), sv (.int a2), sv (.int a5), sv (.int (a4 + x13)), sv (.int (a5 + 1))] [] h12)
  else
  (vd none h9 a0 [12, 194] fun m14 =>
  cI (call d m14 [.ref a0, .int 2, .int a5] h9) fun x16 h15 =>
  ex d 239 25 [sv (.ref a0), sv (.int a1), sv (.int a2), sv (.int a3), sv (.int (a4 + x16)), sv (.int (a5 + 1))] [] h15)))
  else
  (ex d 239 25 [sv (.ref a0), sv (.int a1), sv (.int a2), sv (.int a3), sv (.int a4), sv (.int (a5 + 1))] [] h))
  else
  (if a1 = 0 then
  (some (some (.int a3), h))
  else
  (some (some (.int a4), h)))) :=
  (ex_unr p_239 o_239 [25] 72 rfl _ _ h).trans rfl

theorem p_240 : prg 240 = (k_240, 6) := rfl
theorem o_240 : okc k_240 = true := by decide +kernel
set_option maxRecDepth 100000 in
theorem e_240 (d : Nat) (a0 : Nat) (h : MHeap) : call (d + 1) 240 [.ref a0] h = (
  vd none h a0 [12, 203] fun m1 =>
  cV (call d m1 [.ref a0] h) fun h2 =>
  ex d 240 8 [sv (.ref a0), sv (.int 0), sv (.int 0), none, none, none] [] h2) :=
  (call_unr p_240 o_240 rfl [8, 48] 11 _ h).trans rfl
set_option maxRecDepth 100000 in
theorem e_240_8 (d : Nat) (a0 : Nat) (a1 : Int32) (a2 : Int32) (a3 : MSl) (a4 : MSl) (a5 : MSl) (h : MHeap) : ex d 240 8 [sv (.ref a0), sv (.int a1), sv (.int a2), a3, a4, a5] [] h = (
  gfI none h a0 [12] 3 fun x1 =>
  if a2 < x1 then
  (gfI none h a0 [12] 2 fun x2 =>
  vd none h a0 [12, 204] fun m3 =>
  cI (call d m3 [.ref a0, .int x2] h) fun x5 h4 =>
  if (x5 &&& ((15 <<< ((4 * a2) &&& 31)) ^^^ (-1))) = 0 then
  (ex d 240 48 [sv (.ref a0), sv (.int a1), sv (.int a2), sv (.int ((15 <<< ((4 * a2) &&& 31)) ^^^ (-1))), sv (.int 1), sv (.int 0)] [] h4)
  else
  (ex d 240 48 [sv (.ref a0), sv (.int a1), sv (.int a2), sv (.int ((15 <<< ((4 * a2) &&& 31)) ^^^ (-1))), sv (.int 0), sv (.int 0)] [] h4))
  else
  (some (some (.int a1), h))) :=
  (ex_unr p_240 o_240 [8, 48] 35 rfl _ _ h).trans rfl
set_option maxRecDepth 100000 in
theorem e_240_48 (d : Nat) (a0 : Nat) (a1 : Int32) (a2 : Int32) (a3 : Int32) (a4 : Int32) (a5 : Int32) (h : MHeap) : ex d 240 48 [sv (.ref a0), sv (.int a1), sv (.int a2), sv (.int a3), sv (.int a4), sv (.int a5)] [] h = (
  gfI none h a0 [12] 0 fun x1 =>
  if a5 < x1 then
  (if a4 = 0 then
  (gfI none h a0 [12] 2 fun x2 =>
  vd none h a0 [12, 204] fun m3 =>
  cI (call d m3 [.ref a0, .int (x2 ^^^ (1 <<< (a5 &&& 31)))] h) fun x5 h4 =>
  if (x5 &&& a3) = 0 then
  (ex d 240 48 [sv (.ref a0), sv (.int a1), sv (.int a2), sv (.int a3), sv (.int 1), sv (.int (a5 + 1))] [] h4)
  else
  (ex d 240 48 [sv (.ref a0), sv (.int a1), sv (.int a2), sv (.int a3), sv (.int 0), sv (.int (a5 + 1))] [] h4))
  else
  (ex d 240 48 [sv (.ref a0), sv (.int a1), sv (.int a2), sv (.int a3), sv (.int 1), sv (.int (a5 + 1))] [] h))
  else
  (if a4 = 0 then
  (ex d 240 8 [sv (.ref a0), sv (.int (a1 ||| 0)), sv (.int (a2 + 1)), sv (.int a3), sv (.int a4), sv (.int a5)] [] h)
  else
  (ex d 240 8 [sv (.ref a0), sv (.int (a1 ||| (1 <<< (a2 &&& 31)))), sv (.int (a2 + 1)), sv (.int a3), sv (.int a4), sv (.int a5)] [] h))) :=
  (ex_unr p_240 o_240 [8, 48] 52 rfl _ _ h).trans rfl

theorem p_241 : prg 241 = (k_241, 7) := rfl
theorem o_241 : okc k_241 = true := by decide +kernel
set_option maxRecDepth 100000 in
theorem e_241 (d : Nat) (a0 : Nat) (h : MHeap) : call (d + 1) 241 [.ref a0] h = (
  vd none h a0 [12, 203] fun m1 =>
  cV (call d m1 [.ref a0] h) fun h2 =>
  gfI none h2 a0 [12] 2 fun x3 =>
  vd none h2 a0 [12, 204] fun m4 =>
  cI (call d m4 [.ref a0, .int x3] h2) fun x6 h5 =>
  gfI none h5 a0 [12] 3 fun x7 =>
  ex d 241 24 [sv (.ref a0), sv (.int x6), sv (.int ((1 <<< (x7 &&& 31)) - 1)), sv (.int 0), none, none, none] [] h5) :=
  (call_unr p_241 o_241 rfl [24, 49] 21 _ h).trans rfl
set_option maxRecDepth 100000 in
theorem e_241_24 (d : Nat) (a0 : Nat) (a1 : Int32) (a2 : Int32) (a3 : Int32) (a4 : MSl) (a5 : MSl) (a6 : MSl) (h : MHeap) : ex d 241 24 [sv (.ref a0), sv (.int a1), sv (.int a2), sv (.int a3), a4, a5, a6] [] h = (
  vd none h a0 [12, 171] fun m1 =>
  cI (call d m1 [.ref a0] h) fun x3 h2 =>
  if x3 < a3 then
  (some (some (.int a2), h2))
  else
  (gfI none h2 a0 [12] 2 fun x4 =>
  vd none h2 a0 [12, 204] fun m5 =>
  cI (call d m5 [.ref a0, .int (x4 ^^^ a3)] h2) fun x7 h6 =>
  ex d 241 49 [sv (.ref a0), sv (.int a1), sv (.int a2), sv (.int a3), sv (.int (x7 ^^^ a1)), sv (.int 0), a6] [] h6)) :=
  (ex_unr p_241 o_241 [24, 49] 22 rfl _ _ h).trans rfl
set_option maxRecDepth 100000 in
theorem e_241_49 (d : Nat) (a0 : Nat) (a1 : Int32) (a2 : Int32) (a3 : Int32) (a4 : Int32) (a5 : Int32) (a6 : MSl) (h : MHeap) : ex d 241 49 [sv (.ref a0), sv (.int a1), sv (.int a2), sv (.int a3), sv (.int a4), sv (.int a5), a6] [] h = (
  gfI none h a0 [12] 3 fun x1 =>
  if a5 < x1 then
  (if a4 = 0 then
  (if 0 = 0 then
  (ex d 241 49 [sv (.ref a0), sv (.int a1), sv (.int (a2 &&& a2)), sv (.int a3), sv (.int a4), sv (.int (a5 + 1)), sv (.int 0)] [] h)
  else
  (ex d 241 49 [sv (.ref a0), sv (.int a1), sv (.int (a2 &&& ((1 <<< (a5 &&& 31)) ^^^ (-1)))), sv (.int a3), sv (.int a4), sv (.int (a5 + 1)), sv (.int 0)] [] h))
  else
  (if (a4 &&& ((15 <<< ((4 * a5) &&& 31)) ^^^ (-1))) = 0 then
  (if 1 = 0 then
  (ex d 241 49 [sv (.ref a0), sv (.int a1), sv (.int (a2 &&& a2)), sv (.int a3), sv (.int a4), sv (.int (a5 + 1)), sv (.int 1)] [] h)
  else
  (ex d 241 49 [sv (.ref a0), sv (.int a1), sv (.int (a2 &&& ((1 <<< (a5 &&& 31)) ^^^ (-1)))), sv (.int a3), sv (.int a4), sv (.int (a5 + 1)), sv (.int 1)] [] h))
  else
  (if 0 = 0 then
  (ex d 241 49 [sv (.ref a0), sv (.int a1), sv (.int (a2 &&& a2)), sv (.int a3), sv (.int a4), sv (.int (a5 + 1)), sv (.int 0)] [] h)
  else
  (ex d 241 49 [sv (.ref a0), sv (.int a1), sv (.int (a2 &&& ((1 <<< (a5 &&& 31)) ^^^ (-1)))), sv (.int a3), sv (.int a4), sv (.int (a5 + 1)), sv (.int 0)] [] h))))
  else
  (ex d 241 24 [sv (.ref a0), sv (.int a1), sv (.int a2), sv (.int (a3 + 1)), sv (.int a4), sv (.int a5), a6] [] h)) :=
  (ex_unr p_241 o_241 [24, 49] 84 rfl _ _ h).trans rfl

theorem p_242 : prg 242 = (k_242, 2) := rfl
theorem o_242 : okc k_242 = true := by decide +kernel
set_option maxRecDepth 100000 in
theorem e_242 (d : Nat) (a0 : Nat) (a1 : Int32) (h : MHeap) : call (d + 1) 242 [.ref a0, .int a1] h = (
  cI (call d 166 [.int a1, .int 0, .int 3] h) fun x2 h1 =>
  if x2 = 0 then
  (some (some (.int (-2)), h1))
  else
  (gfV none h1 a0 [12] 19 fun v3 =>
  dR none v3 fun o5 =>
  alI none h1 o5 a1 fun x4 =>
  if x4 = (-1) then
  (some (some (.int (-11)), h1))
  else
  (gfV none h1 a0 [12] 20 fun v6 =>
  dR none v6 fun o8 =>
  alI none h1 o8 a1 fun x7 =>
  gfI none h1 a0 [12] 3 fun x9 =>
  if x7 = x9 then
  (some (some (.int 0), h1))
  else
  (some (some (.int (-2)), h1))))) :=
  (call_unr p_242 o_242 rfl [] 32 _ h).trans rfl

theorem p_243 : prg 243 = (k_243, 4) := rfl
theorem o_243 : okc k_243 = true := by decide +kernel
set_option maxRecDepth 100000 in
theorem e_243 (d : Nat) (a0 : Nat) (a1 : Int32) (h : MHeap) : call (d + 1) 243 [.ref a0, .int a1] h = (
  ex d 243 4 [sv (.ref a0), sv (.int a1), sv (.int 0), sv (.int 0)] [] h) :=
  (call_unr p_243 o_243 rfl [4] 9 _ h).trans rfl
set_option maxRecDepth 100000 in
theorem e_243_4 (d : Nat) (a0 : Nat) (a1 : Int32) (a2 : Int32) (a3 : Int32) (h : MHeap) : ex d 243 4 [sv (.ref a0), sv (.int a1), sv (.int a2), sv (.int a3)] [] h = (
  gfI none h a0 [12] 3 fun x1 =>
  if a3 < x1 then
  (gfV none h a0 [12] 21 fun v2 =>
  dR none v2 fun o4 =>
  alI none h o4 ((40 * a1) + a3) fun x3 =>
  cI (call d 166 [.int x3, .int 0, .int 15] h) fun x6 h5 =>
  if x6 = 0 then
  (some (some (.int (-1)), h5))
  else
  (gfV none h5 a0 [12] 21 fun v7 =>
  dR none v7 fun o9 =>
  alI none h5 o9 ((40 * a1) + a3) fun x8 =>
  ex d 243 4 [sv (.ref a0), sv (.int a1), sv (.int (a2 ||| (x8 <<< ((4 * a3) &&& 31)))), sv (.int (a3 + 1))] [] h5))
  else
  (some (some (.int a2), h))) :=
  (ex_unr p_243 o_243 [4] 42 rfl _ _ h).trans rfl

theorem p_244 : prg 244 = (k_244, 5) := rfl
theorem o_244 : okc k_244 = true := by decide +kernel
set_option maxRecDepth 100000 in
theorem e_244 (d : Nat) (a0 : Nat) (a1 : Int32) (h : MHeap) : call (d + 1) 244 [.ref a0, .int a1] h = (
  vd none h a0 [12, 242] fun m1 =>
  cI (call d m1 [.ref a0, .int a1] h) fun x3 h2 =>
  if x3 = 0 then
  (gfI none h2 a0 [12] 2 fun x4 =>
  vd none h2 a0 [12, 202] fun m5 =>
  cI (call d m5 [.ref a0, .int x4] h2) fun x7 h6 =>
  ex d 244 24 [sv (.ref a0), sv (.int a1), sv (.int x3), sv (.int x7), sv (.int 0)] [] h6)
  else
  (some (some (.int x3), h2))) :=
  (call_unr p_244 o_244 rfl [24] 20 _ h).trans rfl
set_option maxRecDepth 100000 in
theorem e_244_24 (d : Nat) (a0 : Nat) (a1 : Int32) (a2 : Int32) (a3 : Int32) (a4 : Int32) (h : MHeap) : ex d 244 24 [sv (.ref a0), sv (.int a1), sv (.int a2), sv (.int a3), sv (.int a4)] [] h = (
  gfI none h a0 [12] 3 fun x1 =>
  if a4 < x1 then
  (gfV none h a0 [12] 21 fun v2 =>
  dR none v2 fun o4 =>
  alI none h o4 ((40 * a1) + a4) fun x3 =>
  if x3 = ((a3 >>> ((4 * a4) &&& 31)) &&& 15) then
  (ex d 244 24 [sv (.ref a0), sv (.int a1), sv (.int a2), sv (.int a3), sv (.int (a4 + 1))] [] h)
  else
  (some (some (.int a4), h)))
  else
  (some (some (.int (-1)), h))) :=
  (ex_unr p_244 o_244 [24] 31 rfl _ _ h).trans rfl

theorem p_245 : prg 245 = (k_245, 10) := rfl
theorem o_245 : okc k_245 = true := by decide +kernel
set_option maxRecDepth 100000 in
theorem e_245 (d : Nat) (a0 : Nat) (a1 : Int32) (a2 : Int32) (h : MHeap) : call (d + 1) 245 [.ref a0, .int a1, .int a2] h = (
  vd none h a0 [12, 242] fun m1 =>
  cI (call d m1 [.ref a0, .int a1] h) fun x3 h2 =>
  if x3 = 0 then
  (cI (call d 166 [.int a2, .int 0, .int 3] h2) fun x5 h4 =>
  if x5 = 0 then
  (if x3 = 0 then
  (some (some (.int (-7)), h4))
  else
  (some (some (.int x3), h4)))
  else
  (vd none h4 a0 [12, 203] fun m6 =>
  cV (call d m6 [.ref a0] h4) fun h7 =>
  vd none h7 a0 [12, 243] fun m8 =>
  cI (call d m8 [.ref a0, .int a1] h7) fun x10 h9 =>
  ex d 245 58 [sv (.ref a0), sv (.int a1), sv (.int a2), sv (.int x3), sv (.int x10), sv (.int 0), sv (.int (-1)), sv (.int 4095), sv (.int 0), sv (.int 0)] [] h9))
  else
  (if x3 = 0 then
  (some (some (.int (-7)), h2))
  else
  (some (some (.int x3), h2)))) :=
  (call_unr p_245 o_245 rfl [58] 46 _ h).trans rfl
set_option maxRecDepth 100000 in
theorem e_245_58 (d : Nat) (a0 : Nat) (a1 : Int32) (a2 : Int32) (a3 : Int32) (a4 : Int32) (a5 : Int32) (a6 : Int32) (a7 : Int32) (a8 : Int32) (a9 : Int32) (h : MHeap) : ex d 245 58 [sv (.ref a0), sv (.int a1), sv (.int a2), sv (.int a3), sv (.int a4), sv (.int a5), sv (.int a6), sv (.int a7), sv (.int a8), sv (.int a9)] [] h = (
  vd none h a0 [12, 171] fun m1 =>
  cI (call d m1 [.ref a0] h) fun x3 h2 =>
  if x3 < a9 then
  (if a2 = 0 then
  (some (some (.int a5), h2))
  else
  (if a2 = 1 then
  (some (some (.int a6), h2))
  else
  (if a2 = 3 then
  (some (some (.int a8), h2))
  else
  (if a5 = 0 then
  (some (some (.int 0), h2))
  else
  (some (some (.int a7), h2))))))
  else
  (vd none h2 a0 [12, 204] fun m4 =>
  cI (call d m4 [.ref a0, .int a9] h2) fun x6 h5 =>
  if x6 = a4 then
  (if a6 = (-1) then
  (ex d 245 58 [sv (.ref a0), sv (.int a1), sv (.int a2), sv (.int a3), sv (.int a4), sv (.int (a5 + 1)), sv (.int a9), sv (.int (a7 &&& a9)), sv (.int (a8 ||| a9)), sv (.int (a9 + 1))] [] h5)
  else
  (ex d 245 58 [sv (.ref a0), sv (.int a1), sv (.int a2), sv (.int a3), sv (.int a4), sv (.int (a5 + 1)), sv (.int a6), sv (.int (a7 &&& a9)), sv (.int (a8 ||| a9)), sv (.int (a9 + 1))] [] h5))
  else
  (ex d 245 58 [sv (.ref a0), sv (.int a1), sv (.int a2), sv (.int a3), sv (.int a4), sv (.int a5), sv (.int a6), sv (.int a7), sv (.int a8), sv (.int (a9 + 1))] [] h5))) :=
  (ex_unr p_245 o_245 [58] 69 rfl _ _ h).trans rfl

theorem p_246 : prg 246 = (k_246, 7) := rfl
theorem o_246 : okc k_246 = true := by decide +kernel
set_option maxRecDepth 100000 in
theorem e_246 (d : Nat) (a0 : Nat) (a1 : Int32) (a2 : Int32) (a3 : Int32) (h : MHeap) : call (d + 1) 246 [.ref a0, .int a1, .int a2, .int a3] h = (
  vd none h a0 [12, 242] fun m1 =>
  cI (call d m1 [.ref a0, .int a1] h) fun x3 h2 =>
  if x3 = 0 then
  (vd none h2 a0 [12, 172] fun m4 =>
  cI (call d m4 [.ref a0, .int a2] h2) fun x6 h5 =>
  if x6 = 0 then
  (some (some (.int (-7)), h5))
  else
  (cI (call d 166 [.int a3, .int 0, .int 1] h5) fun x8 h7 =>
  if x8 = 0 then
  (some (some (.int (-7)), h7))
  else
  (vd none h7 a0 [12, 243] fun m9 =>
  cI (call d m9 [.ref a0, .int a1] h7) fun x11 h10 =>
  if x11 = (-1) then
  (if a3 = 1 then
  (some (some (.int (-1)), h10))
  else
  (if (-1) = (-1) then
  (some (some (.int (-1)), h10))
  else
  (cI (call d 168 [.int (-1)] h10) fun x13 h12 =>
  some (some (.int x13), h12))))
  else
  (vd none h10 a0 [12, 217] fun m14 =>
  cI (call d m14 [.ref a0, .int a2, .int x11] h10) fun x16 h15 =>
  if a3 = 1 then
  (some (some (.int x16), h15))
  else
  (if x16 = (-1) then
  (some (some (.int x16), h15))
  else
  (cI (call d 168 [.int x16] h15) fun x18 h17 =>
  some (some (.int x18), h17)))))))
  else
  (some (some (.int x3), h2))) :=
  (call_unr p_246 o_246 rfl [] 71 _ h).trans rfl

theorem p_247 : prg 247 = (k_247, 4) := rfl
theorem o_247 : okc k_247 = true := by decide +kernel
set_option maxRecDepth 100000 in
theorem e_247 (d : Nat) (a0 : Nat) (a1 : Int32) (h : MHeap) : call (d + 1) 247 [.ref a0, .int a1] h = (
  cI (call d 166 [.int a1, .int 0, .int 3] h) fun x2 h1 =>
  if x2 = 0 then
  (some (some (.int (-2)), h1))
  else
  (gfI none h1 a0 [12] 2 fun x3 =>
  vd none h1 a0 [12, 202] fun m4 =>
  cI (call d m4 [.ref a0, .int x3] h1) fun x6 h5 =>
  gfV none h5 a0 [12] 19 fun v7 =>
  dR none v7 fun o9 =>
  asI none h5 o9 a1 2 fun h8 =>
  gfV none h8 a0 [12] 20 fun v10 =>
  gfI none h8 a0 [12] 3 fun x11 =>
  dR none v10 fun o13 =>
  asI none h8 o13 a1 x11 fun h12 =>
  ex d 247 40 [sv (.ref a0), sv (.int a1), sv (.int x6), sv (.int 0)] [] h12)) :=
  (call_unr p_247 o_247 rfl [40] 30 _ h).trans rfl
set_option maxRecDepth 100000 in
theorem e_247_40 (d : Nat) (a0 : Nat) (a1 : Int32) (a2 : Int32) (a3 : Int32) (h : MHeap) : ex d 247 40 [sv (.ref a0), sv (.int a1), sv (.int a2), sv (.int a3)] [] h = (
  if a3 < 40 then
  (gfV none h a0 [12] 21 fun v1 =>
  gfI none h a0 [12] 3 fun x2 =>
  if a3 < x2 then
  (dR none v1 fun o4 =>
  asI none h o4 ((40 * a1) + a3) ((a2 >>> ((4 * a3) &&& 31)) &&& 15) fun h3 =>
  ex d 247 40 [sv (.ref a0), sv (.int a1), sv (.int a2), sv (.int (a3 + 1))] [] h3)
  else
  (dR none v1 fun o6 =>
  asI none h o6 ((40 * a1) + a3) 0 fun h5 =>
  ex d 247 40 [sv (.ref a0), sv (.int a1), sv (.int a2), sv (.int (a3 + 1))] [] h5))
  else
  (gfI none h a0 [12] 3 fun x7 =>
  some (some (.int x7), h))) :=
  (ex_unr p_247 o_247 [40] 37 rfl _ _ h).trans rfl

theorem p_248 : prg 248 = (k_248, 4) := rfl
theorem o_248 : okc k_248 = true := by decide +kernel
set_option maxRecDepth 100000 in
theorem e_248 (d : Nat) (a0 : Nat) (a1 : Int32) (h : MHeap) : call (d + 1) 248 [.ref a0, .int a1] h = (
  dvL none 2147483647 <|
  gfI none h a0 [12] 0 fun x1 =>
  dvL none (Int32.toInt64 x1) <|
  some (some (.int (Int64.toInt32 (((((Int32.toInt64 a1) + 1) * 48271) % 2147483647) % (Int32.toInt64 x1)))), h)) :=
  (call_unr p_248 o_248 rfl [] 21 _ h).trans rfl

theorem p_249 : prg 249 = (k_249, 3) := rfl
theorem o_249 : okc k_249 = true := by decide +kernel
set_option maxRecDepth 100000 in
theorem e_249 (d : Nat) (a0 : Nat) (a1 : Int32) (h : MHeap) : call (d + 1) 249 [.ref a0, .int a1] h = (
  vd none h a0 [12, 248] fun m1 =>
  cI (call d m1 [.ref a0, .int a1] h) fun x3 h2 =>
  gfI none h2 a0 [12] 2 fun x4 =>
  vd none h2 a0 [12, 210] fun m5 =>
  cI (call d m5 [.ref a0, .int (x4 ^^^ (1 <<< (x3 &&& 31)))] h2) fun x7 h6 =>
  if x7 = (1 <<< (x3 &&& 31)) then
  (zr none 1 (some (some (.int 1), h6)))
  else
  (zr none 0 (some (some (.int 0), h6)))) :=
  (call_unr p_249 o_249 rfl [] 26 _ h).trans rfl

theorem p_250 : prg 250 = (k_250, 3) := rfl
theorem o_250 : okc k_250 = true := by decide +kernel
set_option maxRecDepth 100000 in
theorem e_250 (d : Nat) (a0 : Nat) (a1 : Int32) (a2 : Int32) (h : MHeap) : call (d + 1) 250 [.ref a0, .int a1, .int a2] h = (
  cI (call d 166 [.int a1, .int 0, .int 99999] h) fun x2 h1 =>
  if x2 = 0 then
  (some (some (.int (-2)), h1))
  else
  (cI (call d 166 [.int a2, .int 0, .int 1] h1) fun x4 h3 =>
  if x4 = 0 then
  (some (some (.int (-2)), h3))
  else
  (vd none h3 a0 [12, 203] fun m5 =>
  cV (call d m5 [.ref a0] h3) fun h6 =>
  if a2 = 0 then
  (vd none h6 a0 [12, 248] fun m7 =>
  cI (call d m7 [.ref a0, .int a1] h6) fun x9 h8 =>
  some (some (.int x9), h8))
  else
  (vd none h6 a0 [12, 249] fun m10 =>
  cI (call d m10 [.ref a0, .int a1] h6) fun x12 h11 =>
  if x12 = 0 then
  (some (some (.int 0), h11))
  else
  (some (some (.int 1), h11)))))) :=
  (call_unr p_250 o_250 rfl [] 37 _ h).trans rfl

theorem p_251 : prg 251 = (k_251, 7) := rfl
theorem o_251 : okc k_251 = true := by decide +kernel
set_option maxRecDepth 100000 in
theorem e_251 (d : Nat) (a0 : Nat) (a1 : Int32) (a2 : Int32) (a3 : Int32) (h : MHeap) : call (d + 1) 251 [.ref a0, .int a1, .int a2, .int a3] h = (
  cI (call d 166 [.int a1, .int 0, .int 99999] h) fun x2 h1 =>
  if x2 = 0 then
  (some (some (.long (-4611686018427387904)), h1))
  else
  (cI (call d 166 [.int a2, .int 1, .int 50] h1) fun x4 h3 =>
  if x4 = 0 then
  (some (some (.long (-4611686018427387904)), h3))
  else
  (cI (call d 166 [.int a3, .int 0, .int 1] h3) fun x6 h5 =>
  if x6 = 0 then
  (some (some (.long (-4611686018427387904)), h5))
  else
  (vd none h5 a0 [12, 203] fun m7 =>
  cV (call d m7 [.ref a0] h5) fun h8 =>
  ex d 251 43 [sv (.ref a0), sv (.int a1), sv (.int a2), sv (.int a3), sy 0, none, sv (.int 0)] [] h8)))) :=
  (call_unr p_251 o_251 rfl [43] 32 _ h).trans rfl
set_option maxRecDepth 100000 in
theorem e_251_43 (d : Nat) (a0 : Nat) (a1 : Int32) (a2 : Int32) (a3 : Int32) (a4 : Int64) (a6 : Int32) (h : MHeap) : ex d 251 43 [sv (.ref a0), sv (.int a1), sv (.int a2), sv (.int a3), sy a4, none, sv (.int a6)] [] h = (
  if a6 < a2 then
  (vd none h a0 [12, 249] fun m1 =>
  cI (call d m1 [.ref a0, .int (a1 + a6)] h) fun x3 h2 =>
  if x3 = 0 then
  (ex d 251 43 [sv (.ref a0), sv (.int a1), sv (.int a2), sv (.int a3), sy (a4 + 0), none, sv (.int (a6 + 1))] [] h2)
  else
  (ex d 251 43 [sv (.ref a0), sv (.int a1), sv (.int a2), sv (.int a3), sy (a4 + 1), none, sv (.int (a6 + 1))] [] h2))
  else
  (cJ (call d 237 [.long a4, .long (Int32.toInt64 a2), .int a3] h) fun y5 h4 =>
  some (some (.long y5), h4))) :=
  (ex_unr p_251 o_251 [43] 32 rfl _ _ h).trans rfl

theorem p_252 : prg 252 = (k_252, 1) := rfl
theorem o_252 : okc k_252 = true := by decide +kernel
set_option maxRecDepth 100000 in
theorem e_252 (d : Nat) (a0 : Nat) (h : MHeap) : call (d + 1) 252 [.ref a0] h = (
  zr none 1 <|
  pfI none h a0 [12] 13 1 fun h1 =>
  gfI none h1 a0 [12] 0 fun x2 =>
  pfI none h1 a0 [12] 14 x2 fun h3 =>
  gfI none h3 a0 [12] 1 fun x4 =>
  pfI none h3 a0 [12] 15 x4 fun h5 =>
  gfI none h5 a0 [12] 2 fun x6 =>
  pfI none h5 a0 [12] 16 x6 fun h7 =>
  gfI none h7 a0 [12] 3 fun x8 =>
  pfI none h7 a0 [12] 17 x8 fun h9 =>
  gfI none h9 a0 [12] 12 fun x10 =>
  pfI none h9 a0 [12] 18 x10 fun h11 =>
  gfI none h11 a0 [12] 2 fun x12 =>
  some (some (.int x12), h11)) :=
  (call_unr p_252 o_252 rfl [] 31 _ h).trans rfl

theorem p_253 : prg 253 = (k_253, 1) := rfl
theorem o_253 : okc k_253 = true := by decide +kernel
set_option maxRecDepth 100000 in
theorem e_253 (d : Nat) (a0 : Nat) (h : MHeap) : call (d + 1) 253 [.ref a0] h = (
  gfI none h a0 [12] 13 fun x1 =>
  if x1 = 0 then
  (some (some (.int (-3)), h))
  else
  (gfI none h a0 [12] 14 fun x2 =>
  pfI none h a0 [12] 0 x2 fun h3 =>
  gfI none h3 a0 [12] 15 fun x4 =>
  pfI none h3 a0 [12] 1 x4 fun h5 =>
  gfI none h5 a0 [12] 16 fun x6 =>
  pfI none h5 a0 [12] 2 x6 fun h7 =>
  gfI none h7 a0 [12] 17 fun x8 =>
  pfI none h7 a0 [12] 3 x8 fun h9 =>
  gfI none h9 a0 [12] 18 fun x10 =>
  pfI none h9 a0 [12] 12 x10 fun h11 =>
  gfI none h11 a0 [12] 2 fun x12 =>
  some (some (.int x12), h11))) :=
  (call_unr p_253 o_253 rfl [] 33 _ h).trans rfl

theorem p_254 : prg 254 = (k_254, 5) := rfl
theorem o_254 : okc k_254 = true := by decide +kernel
set_option maxRecDepth 100000 in
theorem e_254 (d : Nat) (a0 : Nat) (a1 : Int32) (a2 : Int32) (a3 : Int32) (h : MHeap) : call (d + 1) 254 [.ref a0, .int a1, .int a2, .int a3] h = (
  cI (call d 166 [.int a1, .int 0, .int 3] h) fun x2 h1 =>
  if x2 = 0 then
  (some (some (.int (-2)), h1))
  else
  (cI (call d 166 [.int a2, .int (-1), .int 2] h1) fun x4 h3 =>
  if x4 = 0 then
  (some (some (.int (-2)), h3))
  else
  (if a2 = (-1) then
  (if a2 = (-1) then
  (gfV none h3 a0 [12] 19 fun v5 =>
  dR none v5 fun o7 =>
  asI none h3 o7 a1 a2 fun h6 =>
  gfV none h6 a0 [12] 20 fun v8 =>
  if a2 = (-1) then
  (dR none v8 fun o10 =>
  asI none h6 o10 a1 0 fun h9 =>
  ex d 254 70 [sv (.ref a0), sv (.int a1), sv (.int a2), sv (.int a3), sv (.int 0)] [] h9)
  else
  (dR none v8 fun o12 =>
  asI none h6 o12 a1 a3 fun h11 =>
  ex d 254 70 [sv (.ref a0), sv (.int a1), sv (.int a2), sv (.int a3), sv (.int 0)] [] h11))
  else
  (if a3 < 0 then
  (some (some (.int (-14)), h3))
  else
  (gfV none h3 a0 [12] 19 fun v13 =>
  dR none v13 fun o15 =>
  asI none h3 o15 a1 a2 fun h14 =>
  gfV none h14 a0 [12] 20 fun v16 =>
  if a2 = (-1) then
  (dR none v16 fun o18 =>
  asI none h14 o18 a1 0 fun h17 =>
  ex d 254 70 [sv (.ref a0), sv (.int a1), sv (.int a2), sv (.int a3), sv (.int 0)] [] h17)
  else
  (dR none v16 fun o20 =>
  asI none h14 o20 a1 a3 fun h19 =>
  ex d 254 70 [sv (.ref a0), sv (.int a1), sv (.int a2), sv (.int a3), sv (.int 0)] [] h19))))
  else
  (if 40 < a3 then
  (some (some (.int (-2)), h3))
  else
  (if a2 = (-1) then
  (gfV none h3 a0 [12] 19 fun v21 =>
  dR none v21 fun o23 =>
  asI none h3 o23 a1 a2 fun h22 =>
  gfV none h22 a0 [12] 20 fun v24 =>
  if a2 = (-1) then
  (dR none v24 fun o26 =>
  asI none h22 o26 a1 0 fun h25 =>
  ex d 254 70 [sv (.ref a0), sv (.int a1), sv (.int a2), sv (.int a3), sv (.int 0)] [] h25)
  else
  (dR none v24 fun o28 =>
  asI none h22 o28 a1 a3 fun h27 =>
  ex d 254 70 [sv (.ref a0), sv (.int a1), sv (.int a2), sv (.int a3), sv (.int 0)] [] h27))
  else
  (if a3 < 0 then
  (some (some (.int (-14)), h3))
  else
  (gfV none h3 a0 [12] 19 fun v29 =>
  dR none v29 fun o31 =>
  asI none h3 o31 a1 a2 fun h30 =>
  gfV none h30 a0 [12] 20 fun v32 =>
  if a2 = (-1) then
  (dR none v32 fun o34 =>
  asI none h30 o34 a1 0 fun h33 =>
  ex d 254 70 [sv (.ref a0), sv (.int a1), sv (.int a2), sv (.int a3), sv (.int 0)] [] h33)
  else
  (dR none v32 fun o36 =>
  asI none h30 o36 a1 a3 fun h35 =>
  ex d 254 70 [sv (.ref a0), sv (.int a1), sv (.int a2), sv (.int a3), sv (.int 0)] [] h35)))))))) :=
  (call_unr p_254 o_254 rfl [70] 121 _ h).trans rfl
set_option maxRecDepth 100000 in
theorem e_254_70 (d : Nat) (a0 : Nat) (a1 : Int32) (a2 : Int32) (a3 : Int32) (a4 : Int32) (h : MHeap) : ex d 254 70 [sv (.ref a0), sv (.int a1), sv (.int a2), sv (.int a3), sv (.int a4)] [] h = (
  if a4 < 40 then
  (gfV none h a0 [12] 21 fun v1 =>
  dR none v1 fun o3 =>
  asI none h o3 ((40 * a1) + a4) 0 fun h2 =>
  ex d 254 70 [sv (.ref a0), sv (.int a1), sv (.int a2), sv (.int a3), sv (.int (a4 + 1))] [] h2)
  else
  (some (some (.int 1), h))) :=
  (ex_unr p_254 o_254 [70] 21 rfl _ _ h).trans rfl

theorem p_255 : prg 255 = (k_255, 4) := rfl
theorem o_255 : okc k_255 = true := by decide +kernel
set_option maxRecDepth 100000 in
theorem e_255 (d : Nat) (a0 : Nat) (a1 : Int32) (a2 : Int32) (a3 : Int32) (h : MHeap) : call (d + 1) 255 [.ref a0, .int a1, .int a2, .int a3] h = (
  cI (call d 166 [.int a1, .int 0, .int 3] h) fun x2 h1 =>
  if x2 = 0 then
  (some (some (.int (-2)), h1))
  else
  (gfV none h1 a0 [12] 19 fun v3 =>
  dR none v3 fun o5 =>
  alI none h1 o5 a1 fun x4 =>
  if x4 = (-1) then
  (some (some (.int (-11)), h1))
  else
  (gfV none h1 a0 [12] 20 fun v6 =>
  dR none v6 fun o8 =>
  alI none h1 o8 a1 fun x7 =>
  cI (call d 166 [.int a2, .int 0, .int (x7 - 1)] h1) fun x10 h9 =>
  if x10 = 0 then
  (some (some (.int (-12)), h9))
  else
  (gfV none h9 a0 [12] 21 fun v11 =>
  gfV none h9 a0 [12] 19 fun v12 =>
  dR none v12 fun o14 =>
  alI none h9 o14 a1 fun x13 =>
  if x13 = 0 then
  (dR none v11 fun o16 =>
  asI none h9 o16 ((40 * a1) + a2) (Int8.toInt32 (Int32.toInt8 a3)) fun h15 =>
  some (some (.int 1), h15))
  else
  (gfV none h9 a0 [12] 19 fun v17 =>
  dR none v17 fun o19 =>
  alI none h9 o19 a1 fun x18 =>
  if x18 = 1 then
  (dR none v11 fun o21 =>
  asI none h9 o21 ((40 * a1) + a2) (Int16.toInt32 (Int32.toInt16 a3)) fun h20 =>
  some (some (.int 1), h20))
  else
  (dR none v11 fun o23 =>
  asI none h9 o23 ((40 * a1) + a2) a3 fun h22 =>
  some (some (.int 1), h22))))))) :=
  (call_unr p_255 o_255 rfl [] 66 _ h).trans rfl

theorem p_256 : prg 256 = (k_256, 10) := rfl
theorem o_256 : okc k_256 = true := by decide +kernel
set_option maxRecDepth 100000 in
theorem e_256 (d : Nat) (a0 : Nat) (a1 : Int32) (a2 : Int32) (a3 : Int32) (a4 : Int32) (a5 : Int32) (h : MHeap) : call (d + 1) 256 [.ref a0, .int a1, .int a2, .int a3, .int a4, .int a5] h = (
  cI (call d 166 [.int a1, .int 0, .int 3] h) fun x2 h1 =>
  if x2 = 0 then
  (some (some (.int (-2)), h1))
  else
  (cI (call d 166 [.int a3, .int 0, .int 3] h1) fun x4 h3 =>
  if x4 = 0 then
  (some (some (.int (-2)), h3))
  else
  (gfV none h3 a0 [12] 19 fun v5 =>
  dR none v5 fun o7 =>
  alI none h3 o7 a1 fun x6 =>
  if x6 = (-1) then
  (some (some (.int (-11)), h3))
  else
  (gfV none h3 a0 [12] 19 fun v8 =>
  dR none v8 fun o10 =>
  alI none h3 o10 a3 fun x9 =>
  if x9 = (-1) then
  (some (some (.int (-11)), h3))
  else
  (gfV none h3 a0 [12] 19 fun v11 =>
  dR none v11 fun o13 =>
  alI none h3 o13 a1 fun x12 =>
  gfV none h3 a0 [12] 19 fun v14 =>
  dR none v14 fun o16 =>
  alI none h3 o16 a3 fun x15 =>
  if x12 = x15 then
  (if a5 < 0 then
  (some (some (.int (-12)), h3))
  else
  (if a2 < 0 then
  (some (some (.int (-12)), h3))
  else
  (if a4 < 0 then
  (some (some (.int (-12)), h3))
  else
  (gfV none h3 a0 [12] 20 fun v17 =>
  dR none v17 fun o19 =>
  alI none h3 o19 a1 fun x18 =>
  if x18 < a2 then
  (some (some (.int (-12)), h3))
  else
  (gfV none h3 a0 [12] 20 fun v20 =>
  dR none v20 fun o22 =>
  alI none h3 o22 a3 fun x21 =>
  if x21 < a4 then
  (some (some (.int (-12)), h3))
  else
  (gfV none h3 a0 [12] 20 fun v23 =>
  dR none v23 fun o25 =>
  alI none h3 o25 a1 fun x24 =>
  if (x24 - a2) < a5 then
  (some (some (.int (-12)), h3))
  else
  (gfV none h3 a0 [12] 20 fun v26 =>
  dR none v26 fun o28 =>
  alI none h3 o28 a3 fun x27 =>
  if (x27 - a4) < a5 then
  (some (some (.int (-12)), h3))
  else
  (ex d 256 147 [sv (.ref a0), sv (.int a1), sv (.int a2), sv (.int a3), sv (.int a4), sv (.int a5), sv (.int ((40 * a1) + a2)), sv (.int ((40 * a3) + a4)), sv (.int 0), none] [] h3))))))))
  else
  (some (some (.int (-13)), h3))))))) :=
  (call_unr p_256 o_256 rfl [147] 108 _ h).trans rfl
set_option maxRecDepth 100000 in
theorem e_256_147 (d : Nat) (a0 : Nat) (a1 : Int32) (a2 : Int32) (a3 : Int32) (a4 : Int32) (a5 : Int32) (a6 : Int32) (a7 : Int32) (a8 : Int32) (a9 : MSl) (h : MHeap) : ex d 256 147 [sv (.ref a0), sv (.int a1), sv (.int a2), sv (.int a3), sv (.int a4), sv (.int a5), sv (.int a6), sv (.int a7), sv (.int a8), a9] [] h = (
  if a8 < a5 then
  (if a6 < a7 then
  (gfV none h a0 [12] 21 fun v1 =>
  gfV none h a0 [12] 21 fun v2 =>
  dR none v2 fun o4 =>
  alI none h o4 (a6 + ((a5 - 1) - a8)) fun x3 =>
  dR none v1 fun o6 =>
  asI none h o6 (a7 + ((a5 - 1) - a8)) x3 fun h5 =>
  ex d 256 147 [sv (.ref a0), sv (.int a1), sv (.int a2), sv (.int a3), sv (.int a4), sv (.int a5), sv (.int a6), sv (.int a7), sv (.int (a8 + 1)), sv (.int ((a5 - 1) - a8))] [] h5)
  else
  (gfV none h a0 [12] 21 fun v7 =>
  gfV none h a0 [12] 21 fun v8 =>
  dR none v8 fun o10 =>
  alI none h o10 (a6 + a8) fun x9 =>
  dR none v7 fun o12 =>
  asI none h o12 (a7 + a8) x9 fun h11 =>
  ex d 256 147 [sv (.ref a0), sv (.int a1), sv (.int a2), sv (.int a3), sv (.int a4), sv (.int a5), sv (.int a6), sv (.int a7), sv (.int (a8 + 1)), sv (.int a8)] [] h11))
  else
  (some (some (.int a5), h))) :=
  (ex_unr p_256 o_256 [147] 50 rfl _ _ h).trans rfl

theorem p_257 : prg 257 = (k_257, 9) := rfl
theorem o_257 : okc k_257 = true := by decide +kernel
set_option maxRecDepth 100000 in
theorem e_257 (d : Nat) (a0 : Nat) (a1 : Int32) (a2 : Int32) (a3 : Int32) (a4 : Int32) (h : MHeap) : call (d + 1) 257 [.ref a0, .int a1, .int a2, .int a3, .int a4] h = (
  cI (call d 166 [.int a1, .int 0, .int 3] h) fun x2 h1 =>
  if x2 = 0 then
  (some (some (.int (-2)), h1))
  else
  (cI (call d 166 [.int a2, .int 0, .int 2] h1) fun x4 h3 =>
  if x4 = 0 then
  (some (some (.int (-2)), h3))
  else
  (cI (call d 166 [.int a4, .int 0, .int 7] h3) fun x6 h5 =>
  if x6 = 0 then
  (some (some (.int (-2)), h5))
  else
  (gfV none h5 a0 [12] 19 fun v7 =>
  dR none v7 fun o9 =>
  alI none h5 o9 a1 fun x8 =>
  if x8 = (-1) then
  (some (some (.int (-11)), h5))
  else
  (gfV none h5 a0 [12] 19 fun v10 =>
  dR none v10 fun o12 =>
  alI none h5 o12 a1 fun x11 =>
  if x11 = a2 then
  (ex d 257 64 [sv (.ref a0), sv (.int a1), sv (.int a2), sv (.int a3), sv (.int a4), sv (.int 0), sv (.int 0), none, none] [] h5)
  else
  (some (some (.int (-13)), h5))))))) :=
  (call_unr p_257 o_257 rfl [64] 46 _ h).trans rfl
set_option maxRecDepth 100000 in
theorem e_257_64 (d : Nat) (a0 : Nat) (a1 : Int32) (a2 : Int32) (a3 : Int32) (a4 : Int32) (a5 : Int32) (a6 : Int32) (a7 : MSl) (a8 : MSl) (h : MHeap) : ex d 257 64 [sv (.ref a0), sv (.int a1), sv (.int a2), sv (.int a3), sv (.int a4), sv (.int a5), sv (.int a6), a7, a8] [] h = (
  if a6 < a4 then
  (if a3 < 0 then
  (some (some (.int (-12)), h))
  else
  (if (a3 + (3 * a6)) < a3 then
  (some (some (.int (-12)), h))
  else
  (gfV none h a0 [12] 20 fun v1 =>
  dR none v1 fun o3 =>
  alI none h o3 a1 fun x2 =>
  if (x2 - 3) < (a3 + (3 * a6)) then
  (some (some (.int (-12)), h))
  else
  (gfV none h a0 [12] 21 fun v4 =>
  dR none v4 fun o6 =>
  alI none h o6 ((40 * a1) + (a3 + (3 * a6))) fun x5 =>
  gfV none h a0 [12] 21 fun v7 =>
  dR none v7 fun o9 =>
  alI none h o9 (((40 * a1) + (a3 + (3 * a6))) + 1) fun x8 =>
  gfV none h a0 [12] 21 fun v10 =>
  dR none v10 fun o12 =>
  alI none h o12 (((40 * a1) + (a3 + (3 * a6))) + 2) fun x11 =>
  vd none h a0 [12, 197] fun m13 =>
  cI (call d m13 [.ref a0, .int x5, .int x8, .int x11] h) fun x15 h14 =>
  if x15 < 0 then
  (ex d 257 64 [sv (.ref a0), sv (.int a1), sv (.int a2), sv (.int a3), sv (.int a4), sv (.int (a5 + 0)), sv (.int (a6 + 1)), sv (.int (a3 + (3 * a6))), sv (.int ((40 * a1) + (a3 + (3 * a6))))] [] h14)
  else
  (ex d 257 64 [sv (.ref a0), sv (.int a1), sv (.int a2), sv (.int a3), sv (.int a4), sv (.int (a5 + 1)), sv (.int (a6 + 1)), sv (.int (a3 + (3 * a6))), sv (.int ((40 * a1) + (a3 + (3 * a6))))] [] h14)))))
  else
  (some (some (.int a5), h))) :=
  (ex_unr p_257 o_257 [64] 72 rfl _ _ h).trans rfl

theorem p_258 : prg 258 = (k_258, 2) := rfl
theorem o_258 : okc k_258 = true := by decide +kernel
set_option maxRecDepth 100000 in
theorem e_258 (d : Nat) (a0 : Int32) (a1 : Int32) (h : MHeap) : call (d + 1) 258 [.int a0, .int a1] h = (
  if a1 = 0 then
  (zr none 1 (some (some (.int 1), h)))
  else
  (if a0 = a1 then
  (zr none 1 (some (some (.int 1), h)))
  else
  (if a1 = 1 then
  (if a0 = 3 then
  (zr none 1 (some (some (.int 1), h)))
  else
  (if a1 = 2 then
  (if a0 = 5 then
  (zr none 1 (some (some (.int 1), h)))
  else
  (zr none 0 (some (some (.int 0), h))))
  else
  (zr none 0 (some (some (.int 0), h)))))
  else
  (if a1 = 2 then
  (if a0 = 5 then
  (zr none 1 (some (some (.int 1), h)))
  else
  (zr none 0 (some (some (.int 0), h))))
  else
  (zr none 0 (some (some (.int 0), h))))))) :=
  (call_unr p_258 o_258 rfl [] 51 _ h).trans rfl

theorem p_259 : prg 259 = (k_259, 3) := rfl
theorem o_259 : okc k_259 = true := by decide +kernel
set_option maxRecDepth 100000 in
theorem e_259 (d : Nat) (a0 : Nat) (a1 : Int32) (a2 : Int32) (h : MHeap) : call (d + 1) 259 [.ref a0, .int a1, .int a2] h = (
  cI (call d 166 [.int a2, .int 0, .int 6] h) fun x2 h1 =>
  if x2 = 0 then
  (some (some (.int (-2)), h1))
  else
  (cI (call d 166 [.int a1, .int 0, .int 18] h1) fun x4 h3 =>
  if x4 = 0 then
  (some (some (.int (-12)), h3))
  else
  (if a1 < 12 then
  (gfI none h3 a0 [12] 0 fun x5 =>
  if a1 < x5 then
  (if a2 = 6 then
  (gfI none h3 a0 [12] 2 fun x6 =>
  some (some (.int ((x6 >>> (a1 &&& 31)) &&& 1)), h3))
  else
  (some (some (.int (-13)), h3)))
  else
  (some (some (.int (-11)), h3)))
  else
  (gfI none h3 a0 [12] 3 fun x7 =>
  if (a1 - 12) < x7 then
  (if a2 < 6 then
  (gfV none h3 a0 [12] 4 fun v8 =>
  dR none v8 fun o10 =>
  alI none h3 o10 (a1 - 12) fun x9 =>
  cI (call d 258 [.int x9, .int a2] h3) fun x12 h11 =>
  if x12 = 0 then
  (some (some (.int (-13)), h11))
  else
  (some (some (.int (a1 - 12)), h11)))
  else
  (some (some (.int (-13)), h3)))
  else
  (some (some (.int (-11)), h3)))))) :=
  (call_unr p_259 o_259 rfl [] 72 _ h).trans rfl

theorem p_260 : prg 260 = (k_260, 1) := rfl
theorem o_260 : okc k_260 = true := by decide +kernel
set_option maxRecDepth 100000 in
theorem e_260 (d : Nat) (a0 : Int32) (h : MHeap) : call (d + 1) 260 [.int a0] h = (
  ex d 260 10 [sv (.int (a0 - (((a0).toUInt32 >>> (1 &&& 31 : Int32).toUInt32).toInt32 &&& 1431655765)))] [] h) :=
  (call_unr p_260 o_260 rfl [10, 24, 34, 41, 48] 13 _ h).trans rfl
set_option maxRecDepth 100000 in
theorem e_260_10 (d : Nat) (a0 : Int32) (h : MHeap) : ex d 260 10 [sv (.int a0)] [] h = (
  ex d 260 24 [sv (.int ((a0 &&& 858993459) + (((a0).toUInt32 >>> (2 &&& 31 : Int32).toUInt32).toInt32 &&& 858993459)))] [] h) :=
  (ex_unr p_260 o_260 [10, 24, 34, 41, 48] 15 rfl _ _ h).trans rfl
set_option maxRecDepth 100000 in
theorem e_260_24 (d : Nat) (a0 : Int32) (h : MHeap) : ex d 260 24 [sv (.int a0)] [] h = (
  ex d 260 34 [sv (.int ((a0 + ((a0).toUInt32 >>> (4 &&& 31 : Int32).toUInt32).toInt32) &&& 252645135))] [] h) :=
  (ex_unr p_260 o_260 [10, 24, 34, 41, 48] 13 rfl _ _ h).trans rfl
set_option maxRecDepth 100000 in
theorem e_260_34 (d : Nat) (a0 : Int32) (h : MHeap) : ex d 260 34 [sv (.int a0)] [] h = (
  ex d 260 41 [sv (.int (a0 + ((a0).toUInt32 >>> (8 &&& 31 : Int32).toUInt32).toInt32))] [] h) :=
  (ex_unr p_260 o_260 [10, 24, 34, 41, 48] 11 rfl _ _ h).trans rfl
set_option maxRecDepth 100000 in
theorem e_260_41 (d : Nat) (a0 : Int32) (h : MHeap) : ex d 260 41 [sv (.int a0)] [] h = (
  ex d 260 48 [sv (.int (a0 + ((a0).toUInt32 >>> (16 &&& 31 : Int32).toUInt32).toInt32))] [] h) :=
  (ex_unr p_260 o_260 [10, 24, 34, 41, 48] 11 rfl _ _ h).trans rfl
set_option maxRecDepth 100000 in
theorem e_260_48 (d : Nat) (a0 : Int32) (h : MHeap) : ex d 260 48 [sv (.int a0)] [] h = (
  some (some (.int (a0 &&& 63)), h)) :=
  (ex_unr p_260 o_260 [10, 24, 34, 41, 48] 9 rfl _ _ h).trans rfl

theorem p_261 : prg 261 = (k_261, 4) := rfl
theorem o_261 : okc k_261 = true := by decide +kernel
set_option maxRecDepth 100000 in
theorem e_261 (d : Nat) (a0 : Nat) (a1 : Int32) (h : MHeap) : call (d + 1) 261 [.ref a0, .int a1] h = (
  aln none h a0 fun x1 =>
  ex d 261 5 [sv (.ref a0), sv (.int a1), sv (.int 0), sv (.int x1)] [] h) :=
  (call_unr p_261 o_261 rfl [5] 10 _ h).trans rfl
set_option maxRecDepth 100000 in
theorem e_261_5 (d : Nat) (a0 : Nat) (a1 : Int32) (a2 : Int32) (a3 : Int32) (h : MHeap) : ex d 261 5 [sv (.ref a0), sv (.int a1), sv (.int a2), sv (.int a3)] [] h = (
  if a2 < a3 then
  (asI none h a0 a2 a1 fun h1 =>
  ex d 261 5 [sv (.ref a0), sv (.int a1), sv (.int (a2 + 1)), sv (.int a3)] [] h1)
  else
  (some (none, h))) :=
  (ex_unr p_261 o_261 [5] 15 rfl _ _ h).trans rfl

theorem p_262 : prg 262 = (k_262, 3) := rfl
theorem o_262 : okc k_262 = true := by decide +kernel
set_option maxRecDepth 100000 in
theorem e_262 (d : Nat) (a0 : Nat) (a1 : Int32) (h : MHeap) : call (d + 1) 262 [.ref a0, .int a1] h = (
  aln none h a0 fun x1 =>
  if a1 = x1 then
  (none)
  else
  (nwA none h 100 a1 (.int 0) fun o2 h3 =>
  aln none h3 a0 fun x4 =>
  acp none h3 a0 0 o2 0 (if a1 < x4 then a1 else x4) fun h5 =>
  some (some (.ref o2), h5))) :=
  (call_unr p_262 o_262 rfl [] 25 _ h).trans rfl

theorem p_263 : prg 263 = (k_263, 4) := rfl
theorem o_263 : okc k_263 = true := by decide +kernel
set_option maxRecDepth 100000 in
theorem e_263 (d : Nat) (a0 : Nat) (h : MHeap) : call (d + 1) 263 [.ref a0] h = (
  nwO h 11 [.null, .null, .null, .null, .int 0, .int 0, .null, .null, .null, .null, .null] fun o1 h2 =>
  cV (call d 83 [.ref o1] h2) fun h3 =>
  nwO h3 12 [.int 0, .int 0, .int 0, .int 0, .null, .null, .null, .null, .int 0, .null, .null, .int 0, .int 0, .int 0, .int 0, .int 0, .int 0, .int 0, .int 0, .null, .null, .null, .null, .int 0, .int 0, .int 0, .int 0, .null, .null, .int 0, .int 0, .int 0, .null, .null, .null, .null, .int 0, .int 0, .int 0] fun o4 h5 =>
  cV (call d 165 [.ref o4] h5) fun h6 =>
  ex d 263 18 [sv (.ref a0), sv (.ref o1), sv (.ref o4), sv (.int 0)] [] h6) :=
  (call_unr p_263 o_263 rfl [18, 1615] 15 _ h).trans rfl
set_option maxRecDepth 100000 in
theorem e_263_18 (d : Nat) (a0 : Nat) (a1 : Nat) (a2 : Nat) (a3 : Int32) (h : MHeap) : ex d 263 18 [sv (.ref a0), sv (.ref a1), sv (.ref a2), sv (.int a3)] [] h = (
  aln none h a0 fun x1 =>
  if (x1 - 7) < a3 then
  (zr none 1 (some (some (.int 1), h)))
  else
  (alI none h a0 a3 fun x2 =>
  if (x2 &&& 63) = 0 then
  (alI none h a0 (a3 + 1) fun x3 =>
  alI none h a0 (a3 + 2) fun x4 =>
  vd none h a1 [11, 84] fun m5 =>
  cI (call d m5 [.ref a1, .int x3, .int x4] h) fun x7 h6 =>
  alI none h6 a0 (a3 + 1) fun x8 =>
  alI none h6 a0 (a3 + 2) fun x9 =>
  vd none h6 a2 [12, 173] fun m10 =>
  cI (call d m10 [.ref a2, .int x8, .int x9] h6) fun x12 h11 =>
  if x7 = x12 then
  (ex d 263 1615 [sv (.ref a0), sv (.ref a1), sv (.ref a2), sv (.int a3)] [] h11)
  else
  (zr none 0 (some (some (.int 0), h11))))
  else
  (if (x2 &&& 63) = 1 then
  (alI none h a0 (a3 + 1) fun x13 =>
  vd none h a1 [11, 85] fun m14 =>
  cI (call d m14 [.ref a1, .int x13] h) fun x16 h15 =>
  alI none h15 a0 (a3 + 1) fun x17 =>
  vd none h15 a2 [12, 174] fun m18 =>
  cI (call d m18 [.ref a2, .int x17] h15) fun x20 h19 =>
  if x16 = x20 then
  (ex d 263 1615 [sv (.ref a0), sv (.ref a1), sv (.ref a2), sv (.int a3)] [] h19)
  else
  (zr none 0 (some (some (.int 0), h19))))
  else
  (if (x2 &&& 63) = 2 then
  (alI none h a0 (a3 + 1) fun x21 =>
  alI none h a0 (a3 + 2) fun x22 =>
  vd none h a1 [11, 86] fun m23 =>
  cI (call d m23 [.ref a1, .int x21, .int x22] h) fun x25 h24 =>
  alI none h24 a0 (a3 + 1) fun x26 =>
  alI none h24 a0 (a3 + 2) fun x27 =>
  vd none h24 a2 [12, 176] fun m28 =>
  cI (call d m28 [.ref a2, .int x26, .int x27] h24) fun x30 h29 =>
  if x25 = x30 then
  (ex d 263 1615 [sv (.ref a0), sv (.ref a1), sv (.ref a2), sv (.int a3)] [] h29)
  else
  (zr none 0 (some (some (.int 0), h29))))
  else
  (if (x2 &&& 63) = 3 then
  (alI none h a0 (a3 + 1) fun x31 =>
  vd none h a1 [11, 87] fun m32 =>
  cI (call d m32 [.ref a1, .int x31] h) fun x34 h33 =>
  alI none h33 a0 (a3 + 1) fun x35 =>
  vd none h33 a2 [12, 177] fun m36 =>
  cI (call d m36 [.ref a2, .int x35] h33) fun x38 h37 =>
  if x34 = x38 then
  (ex d 263 1615 [sv (.ref a0), sv (.ref a1), sv (.ref a2), sv (.int a3)] [] h37)
  else
  (zr none 0 (some (some (.int 0), h37))))
  else
  (if (x2 &&& 63) = 4 then
  (alI none h a0 (a3 + 1) fun x39 =>
  alI none h a0 (a3 + 2) fun x40 =>
  alI none h a0 (a3 + 3) fun x41 =>
  alI none h a0 (a3 + 4) fun x42 =>
  alI none h a0 (a3 + 5) fun x43 =>
  alI none h a0 (a3 + 6) fun x44 =>
  vd none h a1 [11, 88] fun m45 =>
  cI (call d m45 [.ref a1, .int x39, .int x40, .int x41, .int x42, .int x43, .int x44] h) fun x47 h46 =>
  alI none h46 a0 (a3 + 1) fun x48 =>
  alI none h46 a0 (a3 + 2) fun x49 =>
  alI none h46 a0 (a3 + 3) fun x50 =>
  alI none h46 a0 (a3 + 4) fun x51 =>
  alI none h46 a0 (a3 + 5) fun x52 =>
  alI none h46 a0 (a3 + 6) fun x53 =>
  vd none h46 a2 [12, 179] fun m54 =>
  cI (call d m54 [.ref a2, .int x48, .int x49, .int x50, .int x51, .int x52, .int x53] h46) fun x56 h55 =>
  if x47 = x56 then
  (ex d 263 1615 [sv (.ref a0), sv (.ref a1), sv (.ref a2), sv (.int a3)] [] h55)
  else
  (zr none 0 (some (some (.int 0), h55))))
  else
  (if (x2 &&& 63) = 5 then
  (vd none h a1 [11, 89] fun m57 =>
  cI (call d m57 [.ref a1] h) fun x59 h58 =>
  vd none h58 a2 [12, 190] fun m60 =>
  cI (call d m60 [.ref a2] h58) fun x62 h61 =>
  if x59 = x62 then
  (ex d 263 1615 [sv (.ref a0), sv (.ref a1), sv (.ref a2), sv (.int a3)] [] h61)
  else
  (zr none 0 (some (some (.int 0), h61))))
  else
  (if (x2 &&& 63) = 6 then
  (alI none h a0 (a3 + 1) fun x63 =>
  vd none h a1 [11, 90] fun m64 =>
  cI (call d m64 [.ref a1, .int x63] h) fun x66 h65 =>
  alI none h65 a0 (a3 + 1) fun x67 =>
  vd none h65 a2 [12, 193] fun m68 =>
  cI (call d m68 [.ref a2, .int x67] h65) fun x70 h69 =>
  if x66 = x70 then
  (ex d 263 1615 [sv (.ref a0), sv (.ref a1), sv (.ref a2), sv (.int a3)] [] h69)
  else
  (zr none 0 (some (some (.int 0), h69))))
  else
  (if (x2 &&& 63) = 7 then
  (alI none h a0 (a3 + 1) fun x71 =>
  alI none h a0 (a3 + 2) fun x72 =>
  vd none h a1 [11, 91] fun m73 =>
  cI (call d m73 [.ref a1, .int x71, .int x72] h) fun x75 h74 =>
  alI none h74 a0 (a3 + 1) fun x76 =>
  alI none h74 a0 (a3 + 2) fun x77 =>
  vd none h74 a2 [12, 195] fun m78 =>
  cI (call d m78 [.ref a2, .int x76, .int x77] h74) fun x80 h79 =>
  if x75 = x80 then
  (ex d 263 1615 [sv (.ref a0), sv (.ref a1), sv (.ref a2), sv (.int a3)] [] h79)
  else
  (zr none 0 (some (some (.int 0), h79))))
  else
  (if (x2 &&& 63) = 8 then
  (alI none h a0 (a3 + 1) fun x81 =>
  alI none h a0 (a3 + 2) fun x82 =>
  alI none h a0 (a3 + 3) fun x83 =>
  vd none h a1 [11, 92] fun m84 =>
  cI (call d m84 [.ref a1, .int x81, .int x82, .int x83] h) fun x86 h85 =>
  alI none h85 a0 (a3 + 1) fun x87 =>
  alI none h85 a0 (a3 + 2) fun x88 =>
  alI none h85 a0 (a3 + 3) fun x89 =>
  vd none h85 a2 [12, 197] fun m90 =>
  cI (call d m90 [.ref a2, .int x87, .int x88, .int x89] h85) fun x92 h91 =>
  if x86 = x92 then
  (ex d 263 1615 [sv (.ref a0), sv (.ref a1), sv (.ref a2), sv (.int a3)] [] h91)
  else
  (zr none 0 (some (some (.int 0), h91))))
  else
  (if (x2 &&& 63) = 9 then
  (vd none h a1 [11, 93] fun m93 =>
  cI (call d m93 [.ref a1] h) fun x95 h94 =>
  vd none h94 a2 [12, 198] fun m96 =>
  cI (call d m96 [.ref a2] h94) fun x98 h97 =>
  if x95 = x98 then
  (ex d 263 1615 [sv (.ref a0), sv (.ref a1), sv (.ref a2), sv (.int a3)] [] h97)
  else
  (zr none 0 (some (some (.int 0), h97))))
  else
  (if (x2 &&& 63) = 10 then
  (alI none h a0 (a3 + 1) fun x99 =>
  alI none h a0 (a3 + 2) fun x100 =>
  vd none h a1 [11, 94] fun m101 =>
  cI (call d m101 [.ref a1, .int x99, .int x100] h) fun x103 h102 =>
  alI none h102 a0 (a3 + 1) fun x104 =>
  alI none h102 a0 (a3 + 2) fun x105 =>
  vd none h102 a2 [12, 206] fun m106 =>
  cI (call d m106 [.ref a2, .int x104, .int x105] h102) fun x108 h107 =>
  if x103 = x108 then
  (ex d 263 1615 [sv (.ref a0), sv (.ref a1), sv (.ref a2), sv (.int a3)] [] h107)
  else
  (zr none 0 (some (some (.int 0), h107))))
  else
  (if (x2 &&& 63) = 11 then
  (alI none h a0 (a3 + 1) fun x109 =>
  vd none h a1 [11, 95] fun m110 =>
  cI (call d m110 [.ref a1, .int x109] h) fun x112 h111 =>
  alI none h111 a0 (a3 + 1) fun x113 =>
  vd none h111 a2 [12, 207] fun m114 =>
  cI (call d m114 [.ref a2, .int x113] h111) fun x116 h115 =>
  if x112 = x116 then
  (ex d 263 1615 [sv (.ref a0), sv (.ref a1), sv (.ref a2), sv (.int a3)] [] h115)
  else
  (zr none 0 (some (some (.int 0), h115))))
  else
  (if (x2 &&& 63) = 12 then
  (alI none h a0 (a3 + 1) fun x117 =>
  vd none h a1 [11, 96] fun m118 =>
  cI (call d m118 [.ref a1, .int x117] h) fun x120 h119 =>
  alI none h119 a0 (a3 + 1) fun x121 =>
  vd none h119 a2 [12, 208] fun m122 =>
  cI (call d m122 [.ref a2, .int x121] h119) fun x124 h123 =>
  if x120 = x124 then
  (ex d 263 1615 [sv (.ref a0), sv (.ref a1), sv (.ref a2), sv (.int a3)] [] h123)
  else
  (zr none 0 (some (some (.int 0), h123))))
  else
  (if (x2 &&& 63) = 13 then
  (vd none h a1 [11, 97] fun m125 =>
  cI (call d m125 [.ref a1] h) fun x127 h126 =>
  vd none h126 a2 [12, 211] fun m128 =>
  cI (call d m128 [.ref a2] h126) fun x130 h129 =>
  if x127 = x130 then
  (ex d 263 1615 [sv (.ref a0), sv (.ref a1), sv (.ref a2), sv (.int a3)] [] h129)
  else
  (zr none 0 (some (some (.int 0), h129))))
  else
  (if (x2 &&& 63) = 14 then
  (alI none h a0 (a3 + 1) fun x131 =>
  vd none h a1 [11, 98] fun m132 =>
  cI (call d m132 [.ref a1, .int x131] h) fun x134 h133 =>
  alI none h133 a0 (a3 + 1) fun x135 =>
  vd none h133 a2 [12, 212] fun m136 =>
  cI (call d m136 [.ref a2, .int x135] h133) fun x138 h137 =>
  if x134 = x138 then
  (ex d 263 1615 [sv (.ref a0), sv (.ref a1), sv (.ref a2), sv (.int a3)] [] h137)
  else
  (zr none 0 (some (some (.int 0), h137))))
  else
  (if (x2 &&& 63) = 15 then
  (alI none h a0 (a3 + 1) fun x139 =>
  vd none h a1 [11, 99] fun m140 =>
  cI (call d m140 [.ref a1, .int x139] h) fun x142 h141 =>
  alI none h141 a0 (a3 + 1) fun x143 =>
  vd none h141 a2 [12, 213] fun m144 =>
  cI (call d m144 [.ref a2, .int x143] h141) fun x146 h145 =>
  if x142 = x146 then
  (ex d 263 1615 [sv (.ref a0), sv (.ref a1), sv (.ref a2), sv (.int a3)] [] h145)
  else
  (zr none 0 (some (some (.int 0), h145))))
  else
  (if (x2 &&& 63) = 16 then
  (alI none h a0 (a3 + 1) fun x147 =>
  vd none h a1 [11, 100] fun m148 =>
  cI (call d m148 [.ref a1, .int x147] h) fun x150 h149 =>
  alI none h149 a0 (a3 + 1) fun x151 =>
  vd none h149 a2 [12, 214] fun m152 =>
  cI (call d m152 [.ref a2, .int x151] h149) fun x154 h153 =>
  if x150 = x154 then
  (ex d 263 1615 [sv (.ref a0), sv (.ref a1), sv (.ref a2), sv (.int a3)] [] h153)
  else
  (zr none 0 (some (some (.int 0), h153))))
  else
  (if (x2 &&& 63) = 17 then
  (alI none h a0 (a3 + 1) fun x155 =>
  vd none h a1 [11, 101] fun m156 =>
  cI (call d m156 [.ref a1, .int x155] h) fun x158 h157 =>
  alI none h157 a0 (a3 + 1) fun x159 =>
  vd none h157 a2 [12, 215] fun m160 =>
  cI (call d m160 [.ref a2, .int x159] h157) fun x162 h161 =>
  if x158 = x162 then
  (ex d 263 1615 [sv (.ref a0), sv (.ref a1), sv (.ref a2), sv (.int a3)] [] h161)
  else
  (zr none 0 (some (some (.int 0), h161))))
  else
  (if (x2 &&& 63) = 18 then
  (alI none h a0 (a3 + 1) fun x163 =>
  vd none h a1 [11, 102] fun m164 =>
  cI (call d m164 [.ref a1, .int x163] h) fun x166 h165 =>
  alI none h165 a0 (a3 + 1) fun x167 =>
  vd none h165 a2 [12, 216] fun m168 =>
  cI (call d m168 [.ref a2, .int x167] h165) fun x170 h169 =>
  if x166 = x170 then
  (ex d 263 1615 [sv (.ref a0), sv (.ref a1), sv (.ref a2), sv (.int a3)] [] h169)
  else
  (zr none 0 (some (some (.int 0), h169))))
  else
  (if (x2 &&& 63) = 19 then
  (alI none h a0 (a3 + 1) fun x171 =>
  alI none h a0 (a3 + 2) fun x172 =>
  vd none h a1 [11, 103] fun m173 =>
  cI (call d m173 [.ref a1, .int x171, .int x172] h) fun x175 h174 =>
  alI none h174 a0 (a3 + 1) fun x176 =>
  alI none h174 a0 (a3 + 2) fun x177 =>
  vd none h174 a2 [12, 218] fun m178 =>
  cI (call d m178 [.ref a2, .int x176, .int x177] h174) fun x180 h179 =>
  if x175 = x180 then
  (ex d 263 1615 [sv (.ref a0), sv (.ref a1), sv (.ref a2), sv (.int a3)] [] h179)
  else
  (zr none 0 (some (some (.int 0), h179))))
  else
  (if (x2 &&& 63) = 20 then
  (alI none h a0 (a3 + 1) fun x181 =>
  vd none h a1 [11, 104] fun m182 =>
  cI (call d m182 [.ref a1, .int x181] h) fun x184 h183 =>
  alI none h183 a0 (a3 + 1) fun x185 =>
  vd none h183 a2 [12, 219] fun m186 =>
  cI (call d m186 [.ref a2, .int x185] h183) fun x188 h187 =>
  if x184 = x188 then
  (ex d 263 1615 [sv (.ref a0), sv (.ref a1), sv (.ref a2), sv (.int a3)] [] h187)
  else
  (zr none 0 (some (some (.int 0), h187))))
  else
  (if (x2 &&& 63) = 21 then
  (alI none h a0 (a3 + 1) fun x189 =>
  vd none h a1 [11, 105] fun m190 =>
  cI (call d m190 [.ref a1, .int x189] h) fun x192 h191 =>
  alI none h191 a0 (a3 + 1) fun x193 =>
  vd none h191 a2 [12, 220] fun m194 =>
  cI (call d m194 [.ref a2, .int x193] h191) fun x196 h195 =>
  if x192 = x196 then
  (ex d 263 1615 [sv (.ref a0), sv (.ref a1), sv (.ref a2), sv (.int a3)] [] h195)
  else
  (zr none 0 (some (some (.int 0), h195))))
  else
  (if (x2 &&& 63) = 22 then
  (alI none h a0 (a3 + 1) fun x197 =>
  vd none h a1 [11, 106] fun m198 =>
  cI (call d m198 [.ref a1, .int x197] h) fun x200 h199 =>
  alI none h199 a0 (a3 + 1) fun x201 =>
  vd none h199 a2 [12, 222] fun m202 =>
  cI (call d m202 [.ref a2, .int x201] h199) fun x204 h203 =>
  if x200 = x204 then
  (ex d 263 1615 [sv (.ref a0), sv (.ref a1), sv (.ref a2), sv (.int a3)] [] h203)
  else
  (zr none 0 (some (some (.int 0), h203))))
  else
  (if (x2 &&& 63) = 23 then
  (vd none h a1 [11, 107] fun m205 =>
  cI (call d m205 [.ref a1] h) fun x207 h206 =>
  vd none h206 a2 [12, 224] fun m208 =>
  cI (call d m208 [.ref a2] h206) fun x210 h209 =>
  if x207 = x210 then
  (ex d 263 1615 [sv (.ref a0), sv (.ref a1), sv (.ref a2), sv (.int a3)] [] h209)
  else
  (zr none 0 (some (some (.int 0), h209))))
  else
  (if (x2 &&& 63) = 24 then
  (alI none h a0 (a3 + 1) fun x211 =>
  vd none h a1 [11, 108] fun m212 =>
  cI (call d m212 [.ref a1, .int x211] h) fun x214 h213 =>
  alI none h213 a0 (a3 + 1) fun x215 =>
  vd none h213 a2 [12, 225] fun m216 =>
  cI (call d m216 [.ref a2, .int x215] h213) fun x218 h217 =>
  if x214 = x218 then
  (ex d 263 1615 [sv (.ref a0), sv (.ref a1), sv (.ref a2), sv (.int a3)] [] h217)
  else
  (zr none 0 (some (some (.int 0), h217))))
  else
  (if (x2 &&& 63) = 25 then
  (alI none h a0 (a3 + 1) fun x219 =>
  vd none h a1 [11, 109] fun m220 =>
  cI (call d m220 [.ref a1, .int x219] h) fun x222 h221 =>
  alI none h221 a0 (a3 + 1) fun x223 =>
  vd none h221 a2 [12, 226] fun m224 =>
  cI (call d m224 [.ref a2, .int x223] h221) fun x226 h225 =>
  if x222 = x226 then
  (ex d 263 1615 [sv (.ref a0), sv (.ref a1), sv (.ref a2), sv (.int a3)] [] h225)
  else
  (zr none 0 (some (some (.int 0), h225))))
  else
  (if (x2 &&& 63) = 26 then
  (alI none h a0 (a3 + 1) fun x227 =>
  alI none h a0 (a3 + 2) fun x228 =>
  vd none h a1 [11, 110] fun m229 =>
  cI (call d m229 [.ref a1, .int x227, .int x228] h) fun x231 h230 =>
  alI none h230 a0 (a3 + 1) fun x232 =>
  alI none h230 a0 (a3 + 2) fun x233 =>
  vd none h230 a2 [12, 227] fun m234 =>
  cI (call d m234 [.ref a2, .int x232, .int x233] h230) fun x236 h235 =>
  if x231 = x236 then
  (ex d 263 1615 [sv (.ref a0), sv (.ref a1), sv (.ref a2), sv (.int a3)] [] h235)
  else
  (zr none 0 (some (some (.int 0), h235))))
  else
  (if (x2 &&& 63) = 27 then
  (alI none h a0 (a3 + 1) fun x237 =>
  vd none h a1 [11, 111] fun m238 =>
  cI (call d m238 [.ref a1, .int x237] h) fun x240 h239 =>
  alI none h239 a0 (a3 + 1) fun x241 =>
  vd none h239 a2 [12, 229] fun m242 =>
  cI (call d m242 [.ref a2, .int x241] h239) fun x244 h243 =>
  if x240 = x244 then
  (ex d 263 1615 [sv (.ref a0), sv (.ref a1), sv (.ref a2), sv (.int a3)] [] h243)
  else
  (zr none 0 (some (some (.int 0), h243))))
  else
  (if (x2 &&& 63) = 28 then
  (alI none h a0 (a3 + 1) fun x245 =>
  vd none h a1 [11, 112] fun m246 =>
  cI (call d m246 [.ref a1, .int x245] h) fun x248 h247 =>
  alI none h247 a0 (a3 + 1) fun x249 =>
  vd none h247 a2 [12, 230] fun m250 =>
  cI (call d m250 [.ref a2, .int x249] h247) fun x252 h251 =>
  if x248 = x252 then
  (ex d 263 1615 [sv (.ref a0), sv (.ref a1), sv (.ref a2), sv (.int a3)] [] h251)
  else
  (zr none 0 (some (some (.int 0), h251))))
  else
  (if (x2 &&& 63) = 29 then
  (alI none h a0 (a3 + 1) fun x253 =>
  alI none h a0 (a3 + 2) fun x254 =>
  vd none h a1 [11, 113] fun m255 =>
  cI (call d m255 [.ref a1, .int x253, .int x254] h) fun x257 h256 =>
  alI none h256 a0 (a3 + 1) fun x258 =>
  alI none h256 a0 (a3 + 2) fun x259 =>
  vd none h256 a2 [12, 232] fun m260 =>
  cI (call d m260 [.ref a2, .int x258, .int x259] h256) fun x262 h261 =>
  if x257 = x262 then
  (ex d 263 1615 [sv (.ref a0), sv (.ref a1), sv (.ref a2), sv (.int a3)] [] h261)
  else
  (zr none 0 (some (some (.int 0), h261))))
  else
  (if (x2 &&& 63) = 30 then
  (alI none h a0 (a3 + 1) fun x263 =>
  vd none h a1 [11, 114] fun m264 =>
  cI (call d m264 [.ref a1, .int x263] h) fun x266 h265 =>
  alI none h265 a0 (a3 + 1) fun x267 =>
  vd none h265 a2 [12, 233] fun m268 =>
  cI (call d m268 [.ref a2, .int x267] h265) fun x270 h269 =>
  if x266 = x270 then
  (ex d 263 1615 [sv (.ref a0), sv (.ref a1), sv (.ref a2), sv (.int a3)] [] h269)
  else
  (zr none 0 (some (some (.int 0), h269))))
  else
  (if (x2 &&& 63) = 31 then
  (alI none h a0 (a3 + 1) fun x271 =>
  vd none h a1 [11, 115] fun m272 =>
  cI (call d m272 [.ref a1, .int x271] h) fun x274 h273 =>
  alI none h273 a0 (a3 + 1) fun x275 =>
  vd none h273 a2 [12, 236] fun m276 =>
  cI (call d m276 [.ref a2, .int x275] h273) fun x278 h277 =>
  if x274 = x278 then
  (ex d 263 1615 [sv (.ref a0), sv (.ref a1), sv (.ref a2), sv (.int a3)] [] h277)
  else
  (zr none 0 (some (some (.int 0), h277))))
  else
  (if (x2 &&& 63) = 32 then
  (alI none h a0 (a3 + 1) fun x279 =>
  vd none h a1 [11, 116] fun m280 =>
  cJ (call d m280 [.ref a1, .int x279] h) fun y282 h281 =>
  alI none h281 a0 (a3 + 1) fun x283 =>
  vd none h281 a2 [12, 238] fun m284 =>
  cJ (call d m284 [.ref a2, .int x283] h281) fun y286 h285 =>
  if (if y282 = y286 then 0 else if y282 < y286 then -1 else 1) = 0 then
  (ex d 263 1615 [sv (.ref a0), sv (.ref a1), sv (.ref a2), sv (.int a3)] [] h285)
  else
  (zr none 0 (some (some (.int 0), h285))))
  else
  (if (x2 &&& 63) = 33 then
  (alI none h a0 (a3 + 1) fun x287 =>
  vd none h a1 [11, 117] fun m288 =>
  cI (call d m288 [.ref a1, .int x287] h) fun x290 h289 =>
  alI none h289 a0 (a3 + 1) fun x291 =>
  vd none h289 a2 [12, 239] fun m292 =>
  cI (call d m292 [.ref a2, .int x291] h289) fun x294 h293 =>
  if x290 = x294 then
  (ex d 263 1615 [sv (.ref a0), sv (.ref a1), sv (.ref a2), sv (.int a3)] [] h293)
  else
  (zr none 0 (some (some (.int 0), h293))))
  else
  (if (x2 &&& 63) = 34 then
  (vd none h a1 [11, 118] fun m295 =>
  cI (call d m295 [.ref a1] h) fun x297 h296 =>
  vd none h296 a2 [12, 240] fun m298 =>
  cI (call d m298 [.ref a2] h296) fun x300 h299 =>
  if x297 = x300 then
  (ex d 263 1615 [sv (.ref a0), sv (.ref a1), sv (.ref a2), sv (.int a3)] [] h299)
  else
  (zr none 0 (some (some (.int 0), h299))))
  else
  (if (x2 &&& 63) = 35 then
  (vd none h a1 [11, 119] fun m301 =>
  cI (call d m301 [.ref a1] h) fun x303 h302 =>
  vd none h302 a2 [12, 241] fun m304 =>
  cI (call d m304 [.ref a2] h302) fun x306 h305 =>
  if x303 = x306 then
  (ex d 263 1615 [sv (.ref a0), sv (.ref a1), sv (.ref a2), sv (.int a3)] [] h305)
  else
  (zr none 0 (some (some (.int 0), h305))))
  else
  (if (x2 &&& 63) = 36 then
  (alI none h a0 (a3 + 1) fun x307 =>
  vd none h a1 [11, 120] fun m308 =>
  cI (call d m308 [.ref a1, .int x307] h) fun x310 h309 =>
  alI none h309 a0 (a3 + 1) fun x311 =>
  vd none h309 a2 [12, 244] fun m312 =>
  cI (call d m312 [.ref a2, .int x311] h309) fun x314 h313 =>
  if x310 = x314 then
  (ex d 263 1615 [sv (.ref a0), sv (.ref a1), sv (.ref a2), sv (.int a3)] [] h313)
  else
  (zr none 0 (some (some (.int 0), h313))))
  else
  (if (x2 &&& 63) = 37 then
  (alI none h a0 (a3 + 1) fun x315 =>
  alI none h a0 (a3 + 2) fun x316 =>
  vd none h a1 [11, 121] fun m317 =>
  cI (call d m317 [.ref a1, .int x315, .int x316] h) fun x319 h318 =>
  alI none h318 a0 (a3 + 1) fun x320 =>
  alI none h318 a0 (a3 + 2) fun x321 =>
  vd none h318 a2 [12, 245] fun m322 =>
  cI (call d m322 [.ref a2, .int x320, .int x321] h318) fun x324 h323 =>
  if x319 = x324 then
  (ex d 263 1615 [sv (.ref a0), sv (.ref a1), sv (.ref a2), sv (.int a3)] [] h323)
  else
  (zr none 0 (some (some (.int 0), h323))))
  else
  (if (x2 &&& 63) = 38 then
  (alI none h a0 (a3 + 1) fun x325 =>
  alI none h a0 (a3 + 2) fun x326 =>
  alI none h a0 (a3 + 3) fun x327 =>
  vd none h a1 [11, 122] fun m328 =>
  cI (call d m328 [.ref a1, .int x325, .int x326, .int x327] h) fun x330 h329 =>
  alI none h329 a0 (a3 + 1) fun x331 =>
  alI none h329 a0 (a3 + 2) fun x332 =>
  alI none h329 a0 (a3 + 3) fun x333 =>
  vd none h329 a2 [12, 246] fun m334 =>
  cI (call d m334 [.ref a2, .int x331, .int x332, .int x333] h329) fun x336 h335 =>
  if x330 = x336 then
  (ex d 263 1615 [sv (.ref a0), sv (.ref a1), sv (.ref a2), sv (.int a3)] [] h335)
  else
  (zr none 0 (some (some (.int 0), h335))))
  else
  (if (x2 &&& 63) = 39 then
  (alI none h a0 (a3 + 1) fun x337 =>
  vd none h a1 [11, 123] fun m338 =>
  cI (call d m338 [.ref a1, .int x337] h) fun x340 h339 =>
  alI none h339 a0 (a3 + 1) fun x341 =>
  vd none h339 a2 [12, 247] fun m342 =>
  cI (call d m342 [.ref a2, .int x341] h339) fun x344 h343 =>
  if x340 = x344 then
  (ex d 263 1615 [sv (.ref a0), sv (.ref a1), sv (.ref a2), sv (.int a3)] [] h343)
  else
  (zr none 0 (some (some (.int 0), h343))))
  else
  (if (x2 &&& 63) = 40 then
  (alI none h a0 (a3 + 1) fun x345 =>
  alI none h a0 (a3 + 2) fun x346 =>
  vd none h a1 [11, 124] fun m347 =>
  cI (call d m347 [.ref a1, .int x345, .int x346] h) fun x349 h348 =>
  alI none h348 a0 (a3 + 1) fun x350 =>
  alI none h348 a0 (a3 + 2) fun x351 =>
  vd none h348 a2 [12, 250] fun m352 =>
  cI (call d m352 [.ref a2, .int x350, .int x351] h348) fun x354 h353 =>
  if x349 = x354 then
  (ex d 263 1615 [sv (.ref a0), sv (.ref a1), sv (.ref a2), sv (.int a3)] [] h353)
  else
  (zr none 0 (some (some (.int 0), h353))))
  else
  (if (x2 &&& 63) = 41 then
  (alI none h a0 (a3 + 1) fun x355 =>
  alI none h a0 (a3 + 2) fun x356 =>
  alI none h a0 (a3 + 3) fun x357 =>
  vd none h a1 [11, 125] fun m358 =>
  cJ (call d m358 [.ref a1, .int x355, .int x356, .int x357] h) fun y360 h359 =>
  alI none h359 a0 (a3 + 1) fun x361 =>
  alI none h359 a0 (a3 + 2) fun x362 =>
  alI none h359 a0 (a3 + 3) fun x363 =>
  vd none h359 a2 [12, 251] fun m364 =>
  cJ (call d m364 [.ref a2, .int x361, .int x362, .int x363] h359) fun y366 h365 =>
  if (if y360 = y366 then 0 else if y360 < y366 then -1 else 1) = 0 then
  (ex d 263 1615 [sv (.ref a0), sv (.ref a1), sv (.ref a2), sv (.int a3)] [] h365)
  else
  (zr none 0 (some (some (.int 0), h365))))
  else
  (if (x2 &&& 63) = 42 then
  (vd none h a1 [11, 126] fun m367 =>
  cI (call d m367 [.ref a1] h) fun x369 h368 =>
  vd none h368 a2 [12, 252] fun m370 =>
  cI (call d m370 [.ref a2] h368) fun x372 h371 =>
  if x369 = x372 then
  (ex d 263 1615 [sv (.ref a0), sv (.ref a1), sv (.ref a2), sv (.int a3)] [] h371)
  else
  (zr none 0 (some (some (.int 0), h371))))
  else
  (if (x2 &&& 63) = 43 then
  (vd none h a1 [11, 127] fun m373 =>
  cI (call d m373 [.ref a1] h) fun x375 h374 =>
  vd none h374 a2 [12, 253] fun m376 =>
  cI (call d m376 [.ref a2] h374) fun x378 h377 =>
  if x375 = x378 then
  (ex d 263 1615 [sv (.ref a0), sv (.ref a1), sv (.ref a2), sv (.int a3)] [] h377)
  else
  (zr none 0 (some (some (.int 0), h377))))
  else
  (if (x2 &&& 63) = 44 then
  (alI none h a0 (a3 + 1) fun x379 =>
  alI none h a0 (a3 + 2) fun x380 =>
  alI none h a0 (a3 + 3) fun x381 =>
  vd none h a1 [11, 128] fun m382 =>
  cI (call d m382 [.ref a1, .int x379, .int x380, .int x381] h) fun x384 h383 =>
  alI none h383 a0 (a3 + 1) fun x385 =>
  alI none h383 a0 (a3 + 2) fun x386 =>
  alI none h383 a0 (a3 + 3) fun x387 =>
  vd none h383 a2 [12, 254] fun m388 =>
  cI (call d m388 [.ref a2, .int x385, .int x386, .int x387] h383) fun x390 h389 =>
  if x384 = x390 then
  (ex d 263 1615 [sv (.ref a0), sv (.ref a1), sv (.ref a2), sv (.int a3)] [] h389)
  else
  (zr none 0 (some (some (.int 0), h389))))
  else
  (if (x2 &&& 63) = 45 then
  (alI none h a0 (a3 + 1) fun x391 =>
  alI none h a0 (a3 + 2) fun x392 =>
  alI none h a0 (a3 + 3) fun x393 =>
  vd none h a1 [11, 129] fun m394 =>
  cI (call d m394 [.ref a1, .int x391, .int x392, .int x393] h) fun x396 h395 =>
  alI none h395 a0 (a3 + 1) fun x397 =>
  alI none h395 a0 (a3 + 2) fun x398 =>
  alI none h395 a0 (a3 + 3) fun x399 =>
  vd none h395 a2 [12, 255] fun m400 =>
  cI (call d m400 [.ref a2, .int x397, .int x398, .int x399] h395) fun x402 h401 =>
  if x396 = x402 then
  (ex d 263 1615 [sv (.ref a0), sv (.ref a1), sv (.ref a2), sv (.int a3)] [] h401)
  else
  (zr none 0 (some (some (.int 0), h401))))
  else
  (if (x2 &&& 63) = 46 then
  (alI none h a0 (a3 + 1) fun x403 =>
  alI none h a0 (a3 + 2) fun x404 =>
  alI none h a0 (a3 + 3) fun x405 =>
  alI none h a0 (a3 + 4) fun x406 =>
  alI none h a0 (a3 + 5) fun x407 =>
  vd none h a1 [11, 130] fun m408 =>
  cI (call d m408 [.ref a1, .int x403, .int x404, .int x405, .int x406, .int x407] h) fun x410 h409 =>
  alI none h409 a0 (a3 + 1) fun x411 =>
  alI none h409 a0 (a3 + 2) fun x412 =>
  alI none h409 a0 (a3 + 3) fun x413 =>
  alI none h409 a0 (a3 + 4) fun x414 =>
  alI none h409 a0 (a3 + 5) fun x415 =>
  vd none h409 a2 [12, 256] fun m416 =>
  cI (call d m416 [.ref a2, .int x411, .int x412, .int x413, .int x414, .int x415] h409) fun x418 h417 =>
  if x410 = x418 then
  (ex d 263 1615 [sv (.ref a0), sv (.ref a1), sv (.ref a2), sv (.int a3)] [] h417)
  else
  (zr none 0 (some (some (.int 0), h417))))
  else
  (if (x2 &&& 63) = 47 then
  (alI none h a0 (a3 + 1) fun x419 =>
  alI none h a0 (a3 + 2) fun x420 =>
  alI none h a0 (a3 + 3) fun x421 =>
  alI none h a0 (a3 + 4) fun x422 =>
  vd none h a1 [11, 131] fun m423 =>
  cI (call d m423 [.ref a1, .int x419, .int x420, .int x421, .int x422] h) fun x425 h424 =>
  alI none h424 a0 (a3 + 1) fun x426 =>
  alI none h424 a0 (a3 + 2) fun x427 =>
  alI none h424 a0 (a3 + 3) fun x428 =>
  alI none h424 a0 (a3 + 4) fun x429 =>
  vd none h424 a2 [12, 257] fun m430 =>
  cI (call d m430 [.ref a2, .int x426, .int x427, .int x428, .int x429] h424) fun x432 h431 =>
  if x425 = x432 then
  (ex d 263 1615 [sv (.ref a0), sv (.ref a1), sv (.ref a2), sv (.int a3)] [] h431)
  else
  (zr none 0 (some (some (.int 0), h431))))
  else
  (if (x2 &&& 63) = 48 then
  (alI none h a0 (a3 + 1) fun x433 =>
  alI none h a0 (a3 + 2) fun x434 =>
  vd none h a1 [11, 132] fun m435 =>
  cI (call d m435 [.ref a1, .int x433, .int x434] h) fun x437 h436 =>
  alI none h436 a0 (a3 + 1) fun x438 =>
  alI none h436 a0 (a3 + 2) fun x439 =>
  vd none h436 a2 [12, 259] fun m440 =>
  cI (call d m440 [.ref a2, .int x438, .int x439] h436) fun x442 h441 =>
  if x437 = x442 then
  (ex d 263 1615 [sv (.ref a0), sv (.ref a1), sv (.ref a2), sv (.int a3)] [] h441)
  else
  (zr none 0 (some (some (.int 0), h441))))
  else
  (ex d 263 1615 [sv (.ref a0), sv (.ref a1), sv (.ref a2), sv (.int a3)] [] h))))))))))))))))))))))))))))))))))))))))))))))))))) :=
  (ex_unr p_263 o_263 [18, 1615] 1094 rfl _ _ h).trans rfl
set_option maxRecDepth 100000 in
theorem e_263_1615 (d : Nat) (a0 : Nat) (a1 : Nat) (a2 : Nat) (a3 : Int32) (h : MHeap) : ex d 263 1615 [sv (.ref a0), sv (.ref a1), sv (.ref a2), sv (.int a3)] [] h = (
  ex d 263 18 [sv (.ref a0), sv (.ref a1), sv (.ref a2), sv (.int (a3 + 7))] [] h) :=
  (ex_unr p_263 o_263 [18, 1615] 7 rfl _ _ h).trans rfl
