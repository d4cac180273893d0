/-! the methods 165 to 214, unrolled up to the heads of their loops -/
theorem p_165 : prg 165 = (k_165, 2) := rfl
theorem o_165 : okc k_165 = true := by decide +kernel
set_option maxRecDepth 100000 in
theorem e_165 (d : Nat) (a0 : Nat) (h : MHeap) : call (d + 1) 165 [.ref a0] h = (
  cV (call d 1003 [.ref a0] h) fun h1 =>
  pfI none h1 a0 [12] 0 (9 : Int32) fun h2 =>
  pfI none h2 a0 [12] 1 (3 : Int32) fun h3 =>
  nwA none h3 100 (7 : Int32) (.int 0) fun o4 h5 =>
  pfV none h5 a0 [12] 4 (.ref o4) fun h6 =>
  nwA none h6 100 (7 : Int32) (.int 0) fun o7 h8 =>
  pfV none h8 a0 [12] 5 (.ref o7) fun h9 =>
  nwA none h9 100 (7 : Int32) (.int 0) fun o10 h11 =>
  pfV none h11 a0 [12] 6 (.ref o10) fun h12 =>
  nwA none h12 100 (160 : Int32) (.int 0) fun o13 h14 =>
  pfV none h14 a0 [12] 7 (.ref o13) fun h15 =>
  ex d 165 48 [sv (.ref a0), none] [] h15) :=
  (call_unr p_165 rfl o_165 rfl [48, 85, 124, 157, 193, 229, 265, 301, 338, 369, 405, 441, 477, 513, 549, 585, 621, 657, 693, 729, 765, 801, 837, 873, 915, 951, 969] 29 _ rfl h).trans rfl
set_option maxRecDepth 100000 in
theorem e_165_48 (d : Nat) (a0 : Nat) (h : MHeap) : ex d 165 48 [sv (.ref a0), none] [] h = (
  nwA none h 100 (1200 : Int32) (.int 0) fun o1 h2 =>
  pfV none h2 a0 [12] 9 (.ref o1) fun h3 =>
  nwA none h3 100 (24 : Int32) (.int 0) fun o4 h5 =>
  pfV none h5 a0 [12] 10 (.ref o4) fun h6 =>
  nwA none h6 100 (4 : Int32) (.int 0) fun o7 h8 =>
  asI none h8 o7 (0 : Int32) (-1 : Int32) fun h9 =>
  asI none h9 o7 (1 : Int32) (-1 : Int32) fun h10 =>
  asI none h10 o7 (2 : Int32) (-1 : Int32) fun h11 =>
  asI none h11 o7 (3 : Int32) (-1 : Int32) fun h12 =>
  ex d 165 85 [sv (.ref a0), none] [.ref o7, .ref a0] h12) :=
  (ex_unr p_165 o_165 [48, 85, 124, 157, 193, 229, 265, 301, 338, 369, 405, 441, 477, 513, 549, 585, 621, 657, 693, 729, 765, 801, 837, 873, 915, 951, 969] 32 rfl _ _ h).trans rfl
set_option maxRecDepth 100000 in
theorem e_165_85 (d : Nat) (a0 : Nat) (s0 : Nat) (s1 : Nat) (h : MHeap) : ex d 165 85 [sv (.ref a0), none] [.ref s0, .ref s1] h = (
  pfV none h s1 [12] 19 (.ref s0) fun h1 =>
  nwA none h1 100 (4 : Int32) (.int 0) fun o2 h3 =>
  pfV none h3 a0 [12] 20 (.ref o2) fun h4 =>
  nwA none h4 100 (160 : Int32) (.int 0) fun o5 h6 =>
  pfV none h6 a0 [12] 21 (.ref o5) fun h7 =>
  nwA none h7 100 (37 : Int32) (.int 0) fun o8 h9 =>
  asI none h9 o8 (0 : Int32) (116 : Int32) fun h10 =>
  asI none h10 o8 (1 : Int32) (117 : Int32) fun h11 =>
  asI none h11 o8 (2 : Int32) (114 : Int32) fun h12 =>
  ex d 165 124 [sv (.ref a0), none] [.ref o8, .ref a0] h12) :=
  (ex_unr p_165 o_165 [48, 85, 124, 157, 193, 229, 265, 301, 338, 369, 405, 441, 477, 513, 549, 585, 621, 657, 693, 729, 765, 801, 837, 873, 915, 951, 969] 29 rfl _ _ h).trans rfl
set_option maxRecDepth 100000 in
theorem e_165_124 (d : Nat) (a0 : Nat) (s0 : Nat) (s1 : Nat) (h : MHeap) : ex d 165 124 [sv (.ref a0), none] [.ref s0, .ref s1] h = (
  asI none h s0 (3 : Int32) (110 : Int32) fun h1 =>
  asI none h1 s0 (4 : Int32) (115 : Int32) fun h2 =>
  asI none h2 s0 (5 : Int32) (32 : Int32) fun h3 =>
  asI none h3 s0 (6 : Int32) (49 : Int32) fun h4 =>
  asI none h4 s0 (7 : Int32) (48 : Int32) fun h5 =>
  asI none h5 s0 (8 : Int32) (32 : Int32) fun h6 =>
  ex d 165 157 [sv (.ref a0), none] [.ref s0, .ref s1] h6) :=
  (ex_unr p_165 o_165 [48, 85, 124, 157, 193, 229, 265, 301, 338, 369, 405, 441, 477, 513, 549, 585, 621, 657, 693, 729, 765, 801, 837, 873, 915, 951, 969] 29 rfl _ _ h).trans rfl
set_option maxRecDepth 100000 in
theorem e_165_157 (d : Nat) (a0 : Nat) (s0 : Nat) (s1 : Nat) (h : MHeap) : ex d 165 157 [sv (.ref a0), none] [.ref s0, .ref s1] h = (
  asI none h s0 (9 : Int32) (59 : Int32) fun h1 =>
  asI none h1 s0 (10 : Int32) (32 : Int32) fun h2 =>
  asI none h2 s0 (11 : Int32) (115 : Int32) fun h3 =>
  asI none h3 s0 (12 : Int32) (119 : Int32) fun h4 =>
  asI none h4 s0 (13 : Int32) (97 : Int32) fun h5 =>
  asI none h5 s0 (14 : Int32) (112 : Int32) fun h6 =>
  ex d 165 193 [sv (.ref a0), none] [.ref s0, .ref s1] h6) :=
  (ex_unr p_165 o_165 [48, 85, 124, 157, 193, 229, 265, 301, 338, 369, 405, 441, 477, 513, 549, 585, 621, 657, 693, 729, 765, 801, 837, 873, 915, 951, 969] 29 rfl _ _ h).trans rfl
set_option maxRecDepth 100000 in
theorem e_165_193 (d : Nat) (a0 : Nat) (s0 : Nat) (s1 : Nat) (h : MHeap) : ex d 165 193 [sv (.ref a0), none] [.ref s0, .ref s1] h = (
  asI none h s0 (15 : Int32) (115 : Int32) fun h1 =>
  asI none h1 s0 (16 : Int32) (32 : Int32) fun h2 =>
  asI none h2 s0 (17 : Int32) (53 : Int32) fun h3 =>
  asI none h3 s0 (18 : Int32) (32 : Int32) fun h4 =>
  asI none h4 s0 (19 : Int32) (59 : Int32) fun h5 =>
  asI none h5 s0 (20 : Int32) (32 : Int32) fun h6 =>
  ex d 165 229 [sv (.ref a0), none] [.ref s0, .ref s1] h6) :=
  (ex_unr p_165 o_165 [48, 85, 124, 157, 193, 229, 265, 301, 338, 369, 405, 441, 477, 513, 549, 585, 621, 657, 693, 729, 765, 801, 837, 873, 915, 951, 969] 29 rfl _ _ h).trans rfl
set_option maxRecDepth 100000 in
theorem e_165_229 (d : Nat) (a0 : Nat) (s0 : Nat) (s1 : Nat) (h : MHeap) : ex d 165 229 [sv (.ref a0), none] [.ref s0, .ref s1] h = (
  asI none h s0 (21 : Int32) (108 : Int32) fun h1 =>
  asI none h1 s0 (22 : Int32) (111 : Int32) fun h2 =>
  asI none h2 s0 (23 : Int32) (111 : Int32) fun h3 =>
  asI none h3 s0 (24 : Int32) (107 : Int32) fun h4 =>
  asI none h4 s0 (25 : Int32) (115 : Int32) fun h5 =>
  asI none h5 s0 (26 : Int32) (32 : Int32) fun h6 =>
  ex d 165 265 [sv (.ref a0), none] [.ref s0, .ref s1] h6) :=
  (ex_unr p_165 o_165 [48, 85, 124, 157, 193, 229, 265, 301, 338, 369, 405, 441, 477, 513, 549, 585, 621, 657, 693, 729, 765, 801, 837, 873, 915, 951, 969] 29 rfl _ _ h).trans rfl
set_option maxRecDepth 100000 in
theorem e_165_265 (d : Nat) (a0 : Nat) (s0 : Nat) (s1 : Nat) (h : MHeap) : ex d 165 265 [sv (.ref a0), none] [.ref s0, .ref s1] h = (
  asI none h s0 (27 : Int32) (49 : Int32) fun h1 =>
  asI none h1 s0 (28 : Int32) (32 : Int32) fun h2 =>
  asI none h2 s0 (29 : Int32) (43 : Int32) fun h3 =>
  asI none h3 s0 (30 : Int32) (32 : Int32) fun h4 =>
  asI none h4 s0 (31 : Int32) (109 : Int32) fun h5 =>
  asI none h5 s0 (32 : Int32) (97 : Int32) fun h6 =>
  ex d 165 301 [sv (.ref a0), none] [.ref s0, .ref s1] h6) :=
  (ex_unr p_165 o_165 [48, 85, 124, 157, 193, 229, 265, 301, 338, 369, 405, 441, 477, 513, 549, 585, 621, 657, 693, 729, 765, 801, 837, 873, 915, 951, 969] 29 rfl _ _ h).trans rfl
set_option maxRecDepth 100000 in
theorem e_165_301 (d : Nat) (a0 : Nat) (s0 : Nat) (s1 : Nat) (h : MHeap) : ex d 165 301 [sv (.ref a0), none] [.ref s0, .ref s1] h = (
  asI none h s0 (33 : Int32) (110 : Int32) fun h1 =>
  asI none h1 s0 (34 : Int32) (121 : Int32) fun h2 =>
  asI none h2 s0 (35 : Int32) (32 : Int32) fun h3 =>
  asI none h3 s0 (36 : Int32) (59 : Int32) fun h4 =>
  pfV none h4 s1 [12] 22 (.ref s0) fun h5 =>
  nwA none h5 100 (96 : Int32) (.int 0) fun o6 h7 =>
  asI none h7 o6 (0 : Int32) (116 : Int32) fun h8 =>
  ex d 165 338 [sv (.ref a0), none] [.ref o6, .ref a0] h8) :=
  (ex_unr p_165 o_165 [48, 85, 124, 157, 193, 229, 265, 301, 338, 369, 405, 441, 477, 513, 549, 585, 621, 657, 693, 729, 765, 801, 837, 873, 915, 951, 969] 29 rfl _ _ h).trans rfl
set_option maxRecDepth 100000 in
theorem e_165_338 (d : Nat) (a0 : Nat) (s0 : Nat) (s1 : Nat) (h : MHeap) : ex d 165 338 [sv (.ref a0), none] [.ref s0, .ref s1] h = (
  asI none h s0 (1 : Int32) (117 : Int32) fun h1 =>
  asI none h1 s0 (2 : Int32) (114 : Int32) fun h2 =>
  asI none h2 s0 (3 : Int32) (110 : Int32) fun h3 =>
  asI none h3 s0 (4 : Int32) (115 : Int32) fun h4 =>
  asI none h4 s0 (5 : Int32) (32 : Int32) fun h5 =>
  asI none h5 s0 (6 : Int32) (32 : Int32) fun h6 =>
  ex d 165 369 [sv (.ref a0), none] [.ref s0, .ref s1] h6) :=
  (ex_unr p_165 o_165 [48, 85, 124, 157, 193, 229, 265, 301, 338, 369, 405, 441, 477, 513, 549, 585, 621, 657, 693, 729, 765, 801, 837, 873, 915, 951, 969] 29 rfl _ _ h).trans rfl
set_option maxRecDepth 100000 in
theorem e_165_369 (d : Nat) (a0 : Nat) (s0 : Nat) (s1 : Nat) (h : MHeap) : ex d 165 369 [sv (.ref a0), none] [.ref s0, .ref s1] h = (
  asI none h s0 (7 : Int32) (32 : Int32) fun h1 =>
  asI none h1 s0 (8 : Int32) (115 : Int32) fun h2 =>
  asI none h2 s0 (9 : Int32) (119 : Int32) fun h3 =>
  asI none h3 s0 (10 : Int32) (97 : Int32) fun h4 =>
  asI none h4 s0 (11 : Int32) (112 : Int32) fun h5 =>
  asI none h5 s0 (12 : Int32) (115 : Int32) fun h6 =>
  ex d 165 405 [sv (.ref a0), none] [.ref s0, .ref s1] h6) :=
  (ex_unr p_165 o_165 [48, 85, 124, 157, 193, 229, 265, 301, 338, 369, 405, 441, 477, 513, 549, 585, 621, 657, 693, 729, 765, 801, 837, 873, 915, 951, 969] 29 rfl _ _ h).trans rfl
set_option maxRecDepth 100000 in
theorem e_165_405 (d : Nat) (a0 : Nat) (s0 : Nat) (s1 : Nat) (h : MHeap) : ex d 165 405 [sv (.ref a0), none] [.ref s0, .ref s1] h = (
  asI none h s0 (13 : Int32) (32 : Int32) fun h1 =>
  asI none h1 s0 (14 : Int32) (32 : Int32) fun h2 =>
  asI none h2 s0 (15 : Int32) (32 : Int32) fun h3 =>
  asI none h3 s0 (16 : Int32) (108 : Int32) fun h4 =>
  asI none h4 s0 (17 : Int32) (111 : Int32) fun h5 =>
  asI none h5 s0 (18 : Int32) (111 : Int32) fun h6 =>
  ex d 165 441 [sv (.ref a0), none] [.ref s0, .ref s1] h6) :=
  (ex_unr p_165 o_165 [48, 85, 124, 157, 193, 229, 265, 301, 338, 369, 405, 441, 477, 513, 549, 585, 621, 657, 693, 729, 765, 801, 837, 873, 915, 951, 969] 29 rfl _ _ h).trans rfl
set_option maxRecDepth 100000 in
theorem e_165_441 (d : Nat) (a0 : Nat) (s0 : Nat) (s1 : Nat) (h : MHeap) : ex d 165 441 [sv (.ref a0), none] [.ref s0, .ref s1] h = (
  asI none h s0 (19 : Int32) (107 : Int32) fun h1 =>
  asI none h1 s0 (20 : Int32) (115 : Int32) fun h2 =>
  asI none h2 s0 (21 : Int32) (32 : Int32) fun h3 =>
  asI none h3 s0 (22 : Int32) (32 : Int32) fun h4 =>
  asI none h4 s0 (23 : Int32) (32 : Int32) fun h5 =>
  asI none h5 s0 (24 : Int32) (99 : Int32) fun h6 =>
  ex d 165 477 [sv (.ref a0), none] [.ref s0, .ref s1] h6) :=
  (ex_unr p_165 o_165 [48, 85, 124, 157, 193, 229, 265, 301, 338, 369, 405, 441, 477, 513, 549, 585, 621, 657, 693, 729, 765, 801, 837, 873, 915, 951, 969] 29 rfl _ _ h).trans rfl
set_option maxRecDepth 100000 in
theorem e_165_477 (d : Nat) (a0 : Nat) (s0 : Nat) (s1 : Nat) (h : MHeap) : ex d 165 477 [sv (.ref a0), none] [.ref s0, .ref s1] h = (
  asI none h s0 (25 : Int32) (97 : Int32) fun h1 =>
  asI none h1 s0 (26 : Int32) (114 : Int32) fun h2 =>
  asI none h2 s0 (27 : Int32) (100 : Int32) fun h3 =>
  asI none h3 s0 (28 : Int32) (32 : Int32) fun h4 =>
  asI none h4 s0 (29 : Int32) (32 : Int32) fun h5 =>
  asI none h5 s0 (30 : Int32) (32 : Int32) fun h6 =>
  ex d 165 513 [sv (.ref a0), none] [.ref s0, .ref s1] h6) :=
  (ex_unr p_165 o_165 [48, 85, 124, 157, 193, 229, 265, 301, 338, 369, 405, 441, 477, 513, 549, 585, 621, 657, 693, 729, 765, 801, 837, 873, 915, 951, 969] 29 rfl _ _ h).trans rfl
set_option maxRecDepth 100000 in
theorem e_165_513 (d : Nat) (a0 : Nat) (s0 : Nat) (s1 : Nat) (h : MHeap) : ex d 165 513 [sv (.ref a0), none] [.ref s0, .ref s1] h = (
  asI none h s0 (31 : Int32) (32 : Int32) fun h1 =>
  asI none h1 s0 (32 : Int32) (114 : Int32) fun h2 =>
  asI none h2 s0 (33 : Int32) (111 : Int32) fun h3 =>
  asI none h3 s0 (34 : Int32) (119 : Int32) fun h4 =>
  asI none h4 s0 (35 : Int32) (32 : Int32) fun h5 =>
  asI none h5 s0 (36 : Int32) (32 : Int32) fun h6 =>
  ex d 165 549 [sv (.ref a0), none] [.ref s0, .ref s1] h6) :=
  (ex_unr p_165 o_165 [48, 85, 124, 157, 193, 229, 265, 301, 338, 369, 405, 441, 477, 513, 549, 585, 621, 657, 693, 729, 765, 801, 837, 873, 915, 951, 969] 29 rfl _ _ h).trans rfl
set_option maxRecDepth 100000 in
theorem e_165_549 (d : Nat) (a0 : Nat) (s0 : Nat) (s1 : Nat) (h : MHeap) : ex d 165 549 [sv (.ref a0), none] [.ref s0, .ref s1] h = (
  asI none h s0 (37 : Int32) (32 : Int32) fun h1 =>
  asI none h1 s0 (38 : Int32) (32 : Int32) fun h2 =>
  asI none h2 s0 (39 : Int32) (32 : Int32) fun h3 =>
  asI none h3 s0 (40 : Int32) (99 : Int32) fun h4 =>
  asI none h4 s0 (41 : Int32) (111 : Int32) fun h5 =>
  asI none h5 s0 (42 : Int32) (108 : Int32) fun h6 =>
  ex d 165 585 [sv (.ref a0), none] [.ref s0, .ref s1] h6) :=
  (ex_unr p_165 o_165 [48, 85, 124, 157, 193, 229, 265, 301, 338, 369, 405, 441, 477, 513, 549, 585, 621, 657, 693, 729, 765, 801, 837, 873, 915, 951, 969] 29 rfl _ _ h).trans rfl
set_option maxRecDepth 100000 in
theorem e_165_585 (d : Nat) (a0 : Nat) (s0 : Nat) (s1 : Nat) (h : MHeap) : ex d 165 585 [sv (.ref a0), none] [.ref s0, .ref s1] h = (
  asI none h s0 (43 : Int32) (117 : Int32) fun h1 =>
  asI none h1 s0 (44 : Int32) (109 : Int32) fun h2 =>
  asI none h2 s0 (45 : Int32) (110 : Int32) fun h3 =>
  asI none h3 s0 (46 : Int32) (32 : Int32) fun h4 =>
  asI none h4 s0 (47 : Int32) (32 : Int32) fun h5 =>
  asI none h5 s0 (48 : Int32) (98 : Int32) fun h6 =>
  ex d 165 621 [sv (.ref a0), none] [.ref s0, .ref s1] h6) :=
  (ex_unr p_165 o_165 [48, 85, 124, 157, 193, 229, 265, 301, 338, 369, 405, 441, 477, 513, 549, 585, 621, 657, 693, 729, 765, 801, 837, 873, 915, 951, 969] 29 rfl _ _ h).trans rfl
set_option maxRecDepth 100000 in
theorem e_165_621 (d : Nat) (a0 : Nat) (s0 : Nat) (s1 : Nat) (h : MHeap) : ex d 165 621 [sv (.ref a0), none] [.ref s0, .ref s1] h = (
  asI none h s0 (49 : Int32) (97 : Int32) fun h1 =>
  asI none h1 s0 (50 : Int32) (99 : Int32) fun h2 =>
  asI none h2 s0 (51 : Int32) (107 : Int32) fun h3 =>
  asI none h3 s0 (52 : Int32) (32 : Int32) fun h4 =>
  asI none h4 s0 (53 : Int32) (32 : Int32) fun h5 =>
  asI none h5 s0 (54 : Int32) (32 : Int32) fun h6 =>
  ex d 165 657 [sv (.ref a0), none] [.ref s0, .ref s1] h6) :=
  (ex_unr p_165 o_165 [48, 85, 124, 157, 193, 229, 265, 301, 338, 369, 405, 441, 477, 513, 549, 585, 621, 657, 693, 729, 765, 801, 837, 873, 915, 951, 969] 29 rfl _ _ h).trans rfl
set_option maxRecDepth 100000 in
theorem e_165_657 (d : Nat) (a0 : Nat) (s0 : Nat) (s1 : Nat) (h : MHeap) : ex d 165 657 [sv (.ref a0), none] [.ref s0, .ref s1] h = (
  asI none h s0 (55 : Int32) (32 : Int32) fun h1 =>
  asI none h1 s0 (56 : Int32) (109 : Int32) fun h2 =>
  asI none h2 s0 (57 : Int32) (97 : Int32) fun h3 =>
  asI none h3 s0 (58 : Int32) (110 : Int32) fun h4 =>
  asI none h4 s0 (59 : Int32) (121 : Int32) fun h5 =>
  asI none h5 s0 (60 : Int32) (32 : Int32) fun h6 =>
  ex d 165 693 [sv (.ref a0), none] [.ref s0, .ref s1] h6) :=
  (ex_unr p_165 o_165 [48, 85, 124, 157, 193, 229, 265, 301, 338, 369, 405, 441, 477, 513, 549, 585, 621, 657, 693, 729, 765, 801, 837, 873, 915, 951, 969] 29 rfl _ _ h).trans rfl
set_option maxRecDepth 100000 in
theorem e_165_693 (d : Nat) (a0 : Nat) (s0 : Nat) (s1 : Nat) (h : MHeap) : ex d 165 693 [sv (.ref a0), none] [.ref s0, .ref s1] h = (
  asI none h s0 (61 : Int32) (32 : Int32) fun h1 =>
  asI none h1 s0 (62 : Int32) (32 : Int32) fun h2 =>
  asI none h2 s0 (63 : Int32) (32 : Int32) fun h3 =>
  asI none h3 s0 (64 : Int32) (102 : Int32) fun h4 =>
  asI none h4 s0 (65 : Int32) (97 : Int32) fun h5 =>
  asI none h5 s0 (66 : Int32) (105 : Int32) fun h6 =>
  ex d 165 729 [sv (.ref a0), none] [.ref s0, .ref s1] h6) :=
  (ex_unr p_165 o_165 [48, 85, 124, 157, 193, 229, 265, 301, 338, 369, 405, 441, 477, 513, 549, 585, 621, 657, 693, 729, 765, 801, 837, 873, 915, 951, 969] 29 rfl _ _ h).trans rfl
set_option maxRecDepth 100000 in
theorem e_165_729 (d : Nat) (a0 : Nat) (s0 : Nat) (s1 : Nat) (h : MHeap) : ex d 165 729 [sv (.ref a0), none] [.ref s0, .ref s1] h = (
  asI none h s0 (67 : Int32) (108 : Int32) fun h1 =>
  asI none h1 s0 (68 : Int32) (115 : Int32) fun h2 =>
  asI none h2 s0 (69 : Int32) (32 : Int32) fun h3 =>
  asI none h3 s0 (70 : Int32) (32 : Int32) fun h4 =>
  asI none h4 s0 (71 : Int32) (32 : Int32) fun h5 =>
  asI none h5 s0 (72 : Int32) (111 : Int32) fun h6 =>
  ex d 165 765 [sv (.ref a0), none] [.ref s0, .ref s1] h6) :=
  (ex_unr p_165 o_165 [48, 85, 124, 157, 193, 229, 265, 301, 338, 369, 405, 441, 477, 513, 549, 585, 621, 657, 693, 729, 765, 801, 837, 873, 915, 951, 969] 29 rfl _ _ h).trans rfl
set_option maxRecDepth 100000 in
theorem e_165_765 (d : Nat) (a0 : Nat) (s0 : Nat) (s1 : Nat) (h : MHeap) : ex d 165 765 [sv (.ref a0), none] [.ref s0, .ref s1] h = (
  asI none h s0 (73 : Int32) (114 : Int32) fun h1 =>
  asI none h1 s0 (74 : Int32) (32 : Int32) fun h2 =>
  asI none h2 s0 (75 : Int32) (32 : Int32) fun h3 =>
  asI none h3 s0 (76 : Int32) (32 : Int32) fun h4 =>
  asI none h4 s0 (77 : Int32) (32 : Int32) fun h5 =>
  asI none h5 s0 (78 : Int32) (32 : Int32) fun h6 =>
  ex d 165 801 [sv (.ref a0), none] [.ref s0, .ref s1] h6) :=
  (ex_unr p_165 o_165 [48, 85, 124, 157, 193, 229, 265, 301, 338, 369, 405, 441, 477, 513, 549, 585, 621, 657, 693, 729, 765, 801, 837, 873, 915, 951, 969] 29 rfl _ _ h).trans rfl
set_option maxRecDepth 100000 in
theorem e_165_801 (d : Nat) (a0 : Nat) (s0 : Nat) (s1 : Nat) (h : MHeap) : ex d 165 801 [sv (.ref a0), none] [.ref s0, .ref s1] h = (
  asI none h s0 (79 : Int32) (32 : Int32) fun h1 =>
  asI none h1 s0 (80 : Int32) (97 : Int32) fun h2 =>
  asI none h2 s0 (81 : Int32) (110 : Int32) fun h3 =>
  asI none h3 s0 (82 : Int32) (100 : Int32) fun h4 =>
  asI none h4 s0 (83 : Int32) (32 : Int32) fun h5 =>
  asI none h5 s0 (84 : Int32) (32 : Int32) fun h6 =>
  ex d 165 837 [sv (.ref a0), none] [.ref s0, .ref s1] h6) :=
  (ex_unr p_165 o_165 [48, 85, 124, 157, 193, 229, 265, 301, 338, 369, 405, 441, 477, 513, 549, 585, 621, 657, 693, 729, 765, 801, 837, 873, 915, 951, 969] 29 rfl _ _ h).trans rfl
set_option maxRecDepth 100000 in
theorem e_165_837 (d : Nat) (a0 : Nat) (s0 : Nat) (s1 : Nat) (h : MHeap) : ex d 165 837 [sv (.ref a0), none] [.ref s0, .ref s1] h = (
  asI none h s0 (85 : Int32) (32 : Int32) fun h1 =>
  asI none h1 s0 (86 : Int32) (32 : Int32) fun h2 =>
  asI none h2 s0 (87 : Int32) (32 : Int32) fun h3 =>
  asI none h3 s0 (88 : Int32) (110 : Int32) fun h4 =>
  asI none h4 s0 (89 : Int32) (111 : Int32) fun h5 =>
  asI none h5 s0 (90 : Int32) (116 : Int32) fun h6 =>
  ex d 165 873 [sv (.ref a0), none] [.ref s0, .ref s1] h6) :=
  (ex_unr p_165 o_165 [48, 85, 124, 157, 193, 229, 265, 301, 338, 369, 405, 441, 477, 513, 549, 585, 621, 657, 693, 729, 765, 801, 837, 873, 915, 951, 969] 29 rfl _ _ h).trans rfl
set_option maxRecDepth 100000 in
theorem e_165_873 (d : Nat) (a0 : Nat) (s0 : Nat) (s1 : Nat) (h : MHeap) : ex d 165 873 [sv (.ref a0), none] [.ref s0, .ref s1] h = (
  asI none h s0 (91 : Int32) (32 : Int32) fun h1 =>
  asI none h1 s0 (92 : Int32) (32 : Int32) fun h2 =>
  asI none h2 s0 (93 : Int32) (32 : Int32) fun h3 =>
  asI none h3 s0 (94 : Int32) (32 : Int32) fun h4 =>
  asI none h4 s0 (95 : Int32) (32 : Int32) fun h5 =>
  pfV none h5 s1 [12] 27 (.ref s0) fun h6 =>
  nwA none h6 100 (200 : Int32) (.int 0) fun o7 h8 =>
  pfV none h8 a0 [12] 28 (.ref o7) fun h9 =>
  ex d 165 915 [sv (.ref a0), none] [] h9) :=
  (ex_unr p_165 o_165 [48, 85, 124, 157, 193, 229, 265, 301, 338, 369, 405, 441, 477, 513, 549, 585, 621, 657, 693, 729, 765, 801, 837, 873, 915, 951, 969] 30 rfl _ _ h).trans rfl
set_option maxRecDepth 100000 in
theorem e_165_915 (d : Nat) (a0 : Nat) (h : MHeap) : ex d 165 915 [sv (.ref a0), none] [] h = (
  nwA none h 100 (200 : Int32) (.int 0) fun o1 h2 =>
  pfV none h2 a0 [12] 32 (.ref o1) fun h3 =>
  nwA none h3 100 (6 : Int32) (.int 0) fun o4 h5 =>
  pfV none h5 a0 [12] 33 (.ref o4) fun h6 =>
  nwA none h6 100 (7 : Int32) (.int 0) fun o7 h8 =>
  pfV none h8 a0 [12] 34 (.ref o7) fun h9 =>
  nwA none h9 100 (300 : Int32) (.int 0) fun o10 h11 =>
  pfV none h11 a0 [12] 35 (.ref o10) fun h12 =>
  ex d 165 951 [sv (.ref a0), sv (.int (0 : Int32))] [] h12) :=
  (ex_unr p_165 o_165 [48, 85, 124, 157, 193, 229, 265, 301, 338, 369, 405, 441, 477, 513, 549, 585, 621, 657, 693, 729, 765, 801, 837, 873, 915, 951, 969] 23 rfl _ _ h).trans rfl
set_option maxRecDepth 100000 in
theorem e_165_951 (d : Nat) (a0 : Nat) (a1 : Int32) (h : MHeap) : ex d 165 951 [sv (.ref a0), sv (.int a1)] [] h = (
  if a1 < (37 : Int32) then
  (gfV none h a0 [12] 7 fun v1 =>
  gfV none h a0 [12] 22 fun v2 =>
  dR none v2 fun o4 =>
  alI none h o4 a1 fun x3 =>
  dR none v1 fun o6 =>
  asI none h o6 a1 x3 fun h5 =>
  ex d 165 969 [sv (.ref a0), sv (.int a1)] [] h5)
  else
  (pfI none h a0 [12] 8 (37 : Int32) fun h7 =>
  vd none h7 a0 [12, 190] fun m8 =>
  cI (call d m8 [.ref a0] h7) fun x10 h9 =>
  some (none, h9))) :=
  (ex_unr p_165 o_165 [48, 85, 124, 157, 193, 229, 265, 301, 338, 369, 405, 441, 477, 513, 549, 585, 621, 657, 693, 729, 765, 801, 837, 873, 915, 951, 969] 23 rfl _ _ h).trans rfl
set_option maxRecDepth 100000 in
theorem e_165_969 (d : Nat) (a0 : Nat) (a1 : Int32) (h : MHeap) : ex d 165 969 [sv (.ref a0), sv (.int a1)] [] h = (
  ex d 165 951 [sv (.ref a0), sv (.int (a1 + (1 : Int32)))] [] h) :=
  (ex_unr p_165 o_165 [48, 85, 124, 157, 193, 229, 265, 301, 338, 369, 405, 441, 477, 513, 549, 585, 621, 657, 693, 729, 765, 801, 837, 873, 915, 951, 969] 7 rfl _ _ h).trans rfl

theorem p_166 : prg 166 = (k_166, 3) := rfl
theorem o_166 : okc k_166 = true := by decide +kernel
set_option maxRecDepth 100000 in
theorem e_166 (d : Nat) (a0 : Int32) (a1 : Int32) (a2 : Int32) (h : MHeap) : call (d + 1) 166 [.int a0, .int a1, .int a2] h = (
  if a0 < a1 then
  (zr none (0 : Int32) (some (some (.int (0 : Int32)), h)))
  else
  (if a2 < a0 then
  (zr none (0 : Int32) (some (some (.int (0 : Int32)), h)))
  else
  (zr none (1 : Int32) (some (some (.int (1 : Int32)), h))))) :=
  (call_unr p_166 rfl o_166 rfl [] 18 _ rfl h).trans rfl

theorem p_167 : prg 167 = (k_167, 3) := rfl
theorem o_167 : okc k_167 = true := by decide +kernel
set_option maxRecDepth 100000 in
theorem e_167 (d : Nat) (a0 : Int32) (a1 : Int32) (a2 : Int32) (h : MHeap) : call (d + 1) 167 [.int a0, .int a1, .int a2] h = (
  if a0 < a1 then
  (some (some (.int a1), h))
  else
  (if a2 < a0 then
  (some (some (.int a2), h))
  else
  (some (some (.int a0), h)))) :=
  (call_unr p_167 rfl o_167 rfl [] 19 _ rfl h).trans rfl

theorem p_168 : prg 168 = (k_168, 3) := rfl
theorem o_168 : okc k_168 = true := by decide +kernel
set_option maxRecDepth 100000 in
theorem e_168 (d : Nat) (a0 : Int32) (h : MHeap) : call (d + 1) 168 [.int a0] h = (
  ex d 168 4 [sv (.int a0), sv (.int (0 : Int32)), sv (.int (0 : Int32))] [] h) :=
  (call_unr p_168 rfl o_168 rfl [4] 9 _ rfl h).trans rfl
set_option maxRecDepth 100000 in
theorem e_168_4 (d : Nat) (a0 : Int32) (a1 : Int32) (a2 : Int32) (h : MHeap) : ex d 168 4 [sv (.int a0), sv (.int a1), sv (.int a2)] [] h = (
  if a2 < (12 : Int32) then
  (ex d 168 4 [sv (.int a0), sv (.int (a1 + ((a0 >>> (a2 &&& 31)) &&& (1 : Int32)))), sv (.int (a2 + (1 : Int32)))] [] h)
  else
  (some (some (.int a1), h))) :=
  (ex_unr p_168 o_168 [4] 20 rfl _ _ h).trans rfl

theorem p_169 : prg 169 = (k_169, 2) := rfl
theorem o_169 : okc k_169 = true := by decide +kernel
set_option maxRecDepth 100000 in
theorem e_169 (d : Nat) (a0 : Nat) (a1 : Int32) (h : MHeap) : call (d + 1) 169 [.ref a0, .int a1] h = (
  gfI none h a0 [12] 0 fun x1 =>
  cI (call d 166 [.int a1, .int (0 : Int32), .int (x1 - (1 : Int32))] h) fun x3 h2 =>
  zr none x3 (some (some (.int x3), h2))) :=
  (call_unr p_169 rfl o_169 rfl [] 13 _ rfl h).trans rfl

theorem p_170 : prg 170 = (k_170, 2) := rfl
theorem o_170 : okc k_170 = true := by decide +kernel
set_option maxRecDepth 100000 in
theorem e_170 (d : Nat) (a0 : Nat) (a1 : Int32) (h : MHeap) : call (d + 1) 170 [.ref a0, .int a1] h = (
  gfI none h a0 [12] 3 fun x1 =>
  cI (call d 166 [.int a1, .int (0 : Int32), .int (x1 - (1 : Int32))] h) fun x3 h2 =>
  zr none x3 (some (some (.int x3), h2))) :=
  (call_unr p_170 rfl o_170 rfl [] 13 _ rfl h).trans rfl

theorem p_171 : prg 171 = (k_171, 1) := rfl
theorem o_171 : okc k_171 = true := by decide +kernel
set_option maxRecDepth 100000 in
theorem e_171 (d : Nat) (a0 : Nat) (h : MHeap) : call (d + 1) 171 [.ref a0] h = (
  gfI none h a0 [12] 0 fun x1 =>
  some (some (.int (((1 : Int32) <<< (x1 &&& 31)) - (1 : Int32))), h)) :=
  (call_unr p_171 rfl o_171 rfl [] 12 _ rfl h).trans rfl

theorem p_172 : prg 172 = (k_172, 2) := rfl
theorem o_172 : okc k_172 = true := by decide +kernel
set_option maxRecDepth 100000 in
theorem e_172 (d : Nat) (a0 : Nat) (a1 : Int32) (h : MHeap) : call (d + 1) 172 [.ref a0, .int a1] h = (
  vd none h a0 [12, 171] fun m1 =>
  cI (call d m1 [.ref a0] h) fun x3 h2 =>
  cI (call d 166 [.int a1, .int (0 : Int32), .int x3] h2) fun x5 h4 =>
  zr none x5 (some (some (.int x5), h4))) :=
  (call_unr p_172 rfl o_172 rfl [] 11 _ rfl h).trans rfl

theorem p_173 : prg 173 = (k_173, 4) := rfl
theorem o_173 : okc k_173 = true := by decide +kernel
set_option maxRecDepth 100000 in
theorem e_173 (d : Nat) (a0 : Nat) (a1 : Int32) (a2 : Int32) (h : MHeap) : call (d + 1) 173 [.ref a0, .int a1, .int a2] h = (
  cI (call d 166 [.int a1, .int (1 : Int32), .int (12 : Int32)] h) fun x2 h1 =>
  if x2 = (0 : Int32) then
  (some (some (.int (-2 : Int32)), h1))
  else
  (cI (call d 166 [.int a2, .int (1 : Int32), .int (12 : Int32)] h1) fun x4 h3 =>
  if x4 = (0 : Int32) then
  (some (some (.int (-2 : Int32)), h3))
  else
  (gfI none h3 a0 [12] 0 fun x5 =>
  pfI none h3 a0 [12] 0 a1 fun h6 =>
  pfI none h6 a0 [12] 1 a2 fun h7 =>
  pfI none h7 a0 [12] 2 (0 : Int32) fun h8 =>
  some (some (.int x5), h8)))) :=
  (call_unr p_173 rfl o_173 rfl [] 33 _ rfl h).trans rfl

theorem p_174 : prg 174 = (k_174, 2) := rfl
theorem o_174 : okc k_174 = true := by decide +kernel
set_option maxRecDepth 100000 in
theorem e_174 (d : Nat) (a0 : Nat) (a1 : Int32) (h : MHeap) : call (d + 1) 174 [.ref a0, .int a1] h = (
  vd none h a0 [12, 172] fun m1 =>
  cI (call d m1 [.ref a0, .int a1] h) fun x3 h2 =>
  if x3 = (0 : Int32) then
  (some (some (.int (-2 : Int32)), h2))
  else
  (gfI none h2 a0 [12] 2 fun x4 =>
  pfI none h2 a0 [12] 2 (x4 ^^^ a1) fun h5 =>
  gfI none h5 a0 [12] 2 fun x6 =>
  some (some (.int x6), h5))) :=
  (call_unr p_174 rfl o_174 rfl [] 20 _ rfl h).trans rfl

theorem p_175 : prg 175 = (k_175, 3) := rfl
theorem o_175 : okc k_175 = true := by decide +kernel
set_option maxRecDepth 100000 in
theorem e_175 (d : Nat) (a0 : Int32) (a1 : Int32) (a2 : Int32) (h : MHeap) : call (d + 1) 175 [.int a0, .int a1, .int a2] h = (
  if ((a0 >>> (a1 &&& 31)) &&& (1 : Int32)) = ((a0 >>> (a2 &&& 31)) &&& (1 : Int32)) then
  (some (some (.int a0), h))
  else
  (some (some (.int (a0 ^^^ (((1 : Int32) <<< (a1 &&& 31)) ||| ((1 : Int32) <<< (a2 &&& 31))))), h))) :=
  (call_unr p_175 rfl o_175 rfl [] 29 _ rfl h).trans rfl

theorem p_176 : prg 176 = (k_176, 4) := rfl
theorem o_176 : okc k_176 = true := by decide +kernel
set_option maxRecDepth 100000 in
theorem e_176 (d : Nat) (a0 : Nat) (a1 : Int32) (a2 : Int32) (h : MHeap) : call (d + 1) 176 [.ref a0, .int a1, .int a2] h = (
  vd none h a0 [12, 169] fun m1 =>
  cI (call d m1 [.ref a0, .int a1] h) fun x3 h2 =>
  if x3 = (0 : Int32) then
  (some (some (.int (-5 : Int32)), h2))
  else
  (vd none h2 a0 [12, 169] fun m4 =>
  cI (call d m4 [.ref a0, .int a2] h2) fun x6 h5 =>
  if x6 = (0 : Int32) then
  (some (some (.int (-5 : Int32)), h5))
  else
  (if a1 = a2 then
  (some (some (.int (-5 : Int32)), h5))
  else
  (gfI none h5 a0 [12] 2 fun x7 =>
  gfI none h5 a0 [12] 2 fun x8 =>
  cI (call d 175 [.int x8, .int a1, .int a2] h5) fun x10 h9 =>
  pfI none h9 a0 [12] 2 x10 fun h11 =>
  gfI none h11 a0 [12] 2 fun x12 =>
  if x12 = x7 then
  (some (some (.int (0 : Int32)), h11))
  else
  (some (some (.int (1 : Int32)), h11)))))) :=
  (call_unr p_176 rfl o_176 rfl [] 41 _ rfl h).trans rfl

theorem p_177 : prg 177 = (k_177, 2) := rfl
theorem o_177 : okc k_177 = true := by decide +kernel
set_option maxRecDepth 100000 in
theorem e_177 (d : Nat) (a0 : Nat) (a1 : Int32) (h : MHeap) : call (d + 1) 177 [.ref a0, .int a1] h = (
  if a1 = (0 : Int32) then
  (gfI none h a0 [12] 0 fun x1 =>
  some (some (.int x1), h))
  else
  (if a1 = (1 : Int32) then
  (gfI none h a0 [12] 1 fun x2 =>
  some (some (.int x2), h))
  else
  (if a1 = (2 : Int32) then
  (gfI none h a0 [12] 2 fun x3 =>
  some (some (.int x3), h))
  else
  (if a1 = (3 : Int32) then
  (gfI none h a0 [12] 3 fun x4 =>
  some (some (.int x4), h))
  else
  (if a1 = (4 : Int32) then
  (gfI none h a0 [12] 11 fun x5 =>
  some (some (.int x5), h))
  else
  (if a1 = (5 : Int32) then
  (gfI none h a0 [12] 12 fun x6 =>
  some (some (.int x6), h))
  else
  (if a1 = (6 : Int32) then
  (gfI none h a0 [12] 8 fun x7 =>
  some (some (.int x7), h))
  else
  (some (some (.int (-2 : Int32)), h))))))))) :=
  (call_unr p_177 rfl o_177 rfl [] 30 _ rfl h).trans rfl

theorem p_178 : prg 178 = (k_178, 1) := rfl
theorem o_178 : okc k_178 = true := by decide +kernel
set_option maxRecDepth 100000 in
theorem e_178 (d : Nat) (a0 : Int32) (h : MHeap) : call (d + 1) 178 [.int a0] h = (
  cI (call d 166 [.int a0, .int (0 : Int32), .int (255 : Int32)] h) fun x2 h1 =>
  zr none x2 (some (some (.int x2), h1))) :=
  (call_unr p_178 rfl o_178 rfl [] 10 _ rfl h).trans rfl

theorem p_179 : prg 179 = (k_179, 8) := rfl
theorem o_179 : okc k_179 = true := by decide +kernel
set_option maxRecDepth 100000 in
theorem e_179 (d : Nat) (a0 : Nat) (a1 : Int32) (a2 : Int32) (a3 : Int32) (a4 : Int32) (a5 : Int32) (a6 : Int32) (h : MHeap) : call (d + 1) 179 [.ref a0, .int a1, .int a2, .int a3, .int a4, .int a5, .int a6] h = (
  cI (call d 166 [.int a1, .int (1 : Int32), .int (5 : Int32)] h) fun x2 h1 =>
  if x2 = (0 : Int32) then
  (some (some (.int (-2 : Int32)), h1))
  else
  (cI (call d 178 [.int a2] h1) fun x4 h3 =>
  if x4 = (0 : Int32) then
  (some (some (.int (-2 : Int32)), h3))
  else
  (cI (call d 178 [.int a3] h3) fun x6 h5 =>
  if x6 = (0 : Int32) then
  (some (some (.int (-2 : Int32)), h5))
  else
  (cI (call d 178 [.int a4] h5) fun x8 h7 =>
  if x8 = (0 : Int32) then
  (some (some (.int (-2 : Int32)), h7))
  else
  (cI (call d 178 [.int a5] h7) fun x10 h9 =>
  if x10 = (0 : Int32) then
  (some (some (.int (-2 : Int32)), h9))
  else
  (cI (call d 178 [.int a6] h9) fun x12 h11 =>
  if x12 = (0 : Int32) then
  (some (some (.int (-2 : Int32)), h11))
  else
  (gfI none h11 a0 [12] 8 fun x13 =>
  if (160 : Int32) < (x13 + a1) then
  (some (some (.int (-4 : Int32)), h11))
  else
  (ex d 179 68 [sv (.ref a0), sv (.int a1), sv (.int a2), sv (.int a3), sv (.int a4), sv (.int a5), sv (.int a6), sv (.int (0 : Int32))] [] h11)))))))) :=
  (call_unr p_179 rfl o_179 rfl [68] 47 _ rfl h).trans rfl
set_option maxRecDepth 100000 in
theorem e_179_68 (d : Nat) (a0 : Nat) (a1 : Int32) (a2 : Int32) (a3 : Int32) (a4 : Int32) (a5 : Int32) (a6 : Int32) (a7 : Int32) (h : MHeap) : ex d 179 68 [sv (.ref a0), sv (.int a1), sv (.int a2), sv (.int a3), sv (.int a4), sv (.int a5), sv (.int a6), sv (.int a7)] [] h = (
  if a7 < a1 then
  (gfV none h a0 [12] 7 fun v1 =>
  gfI none h a0 [12] 8 fun x2 =>
  if a7 = (0 : Int32) then
  (dR none v1 fun o4 =>
  asI none h o4 x2 a2 fun h3 =>
  gfI none h3 a0 [12] 8 fun x5 =>
  pfI none h3 a0 [12] 8 (x5 + (1 : Int32)) fun h6 =>
  ex d 179 68 [sv (.ref a0), sv (.int a1), sv (.int a2), sv (.int a3), sv (.int a4), sv (.int a5), sv (.int a6), sv (.int (a7 + (1 : Int32)))] [] h6)
  else
  (if a7 = (1 : Int32) then
  (dR none v1 fun o8 =>
  asI none h o8 x2 a3 fun h7 =>
  gfI none h7 a0 [12] 8 fun x9 =>
  pfI none h7 a0 [12] 8 (x9 + (1 : Int32)) fun h10 =>
  ex d 179 68 [sv (.ref a0), sv (.int a1), sv (.int a2), sv (.int a3), sv (.int a4), sv (.int a5), sv (.int a6), sv (.int (a7 + (1 : Int32)))] [] h10)
  else
  (if a7 = (2 : Int32) then
  (dR none v1 fun o12 =>
  asI none h o12 x2 a4 fun h11 =>
  gfI none h11 a0 [12] 8 fun x13 =>
  pfI none h11 a0 [12] 8 (x13 + (1 : Int32)) fun h14 =>
  ex d 179 68 [sv (.ref a0), sv (.int a1), sv (.int a2), sv (.int a3), sv (.int a4), sv (.int a5), sv (.int a6), sv (.int (a7 + (1 : Int32)))] [] h14)
  else
  (if a7 = (3 : Int32) then
  (dR none v1 fun o16 =>
  asI none h o16 x2 a5 fun h15 =>
  gfI none h15 a0 [12] 8 fun x17 =>
  pfI none h15 a0 [12] 8 (x17 + (1 : Int32)) fun h18 =>
  ex d 179 68 [sv (.ref a0), sv (.int a1), sv (.int a2), sv (.int a3), sv (.int a4), sv (.int a5), sv (.int a6), sv (.int (a7 + (1 : Int32)))] [] h18)
  else
  (dR none v1 fun o20 =>
  asI none h o20 x2 a6 fun h19 =>
  gfI none h19 a0 [12] 8 fun x21 =>
  pfI none h19 a0 [12] 8 (x21 + (1 : Int32)) fun h22 =>
  ex d 179 68 [sv (.ref a0), sv (.int a1), sv (.int a2), sv (.int a3), sv (.int a4), sv (.int a5), sv (.int a6), sv (.int (a7 + (1 : Int32)))] [] h22)))))
  else
  (gfI none h a0 [12] 8 fun x23 =>
  some (some (.int x23), h))) :=
  (ex_unr p_179 o_179 [68] 80 rfl _ _ h).trans rfl

theorem p_180 : prg 180 = (k_180, 6) := rfl
theorem o_180 : okc k_180 = true := by decide +kernel
set_option maxRecDepth 100000 in
theorem e_180 (d : Nat) (a0 : Nat) (a1 : Int32) (a2 : Int32) (h : MHeap) : call (d + 1) 180 [.ref a0, .int a1, .int a2] h = (
  ex d 180 2 [sv (.ref a0), sv (.int a1), sv (.int a2), sv (.int (0 : Int32)), none, none] [] h) :=
  (call_unr p_180 rfl o_180 rfl [2, 26] 7 _ rfl h).trans rfl
set_option maxRecDepth 100000 in
theorem e_180_2 (d : Nat) (a0 : Nat) (a1 : Int32) (a2 : Int32) (a3 : Int32) (a4 : MSl) (a5 : MSl) (h : MHeap) : ex d 180 2 [sv (.ref a0), sv (.int a1), sv (.int a2), sv (.int a3), a4, a5] [] h = (
  if a3 < (12 : Int32) then
  (if (8 : Int32) < (a2 - a1) then
  (ex d 180 26 [sv (.ref a0), sv (.int a1), sv (.int a2), sv (.int a3), sv (.int (0 : Int32)), sv (.int (0 : Int32))] [] h)
  else
  (ex d 180 26 [sv (.ref a0), sv (.int a1), sv (.int a2), sv (.int a3), sv (.int (1 : Int32)), sv (.int (0 : Int32))] [] h))
  else
  (some (some (.int (12 : Int32)), h))) :=
  (ex_unr p_180 o_180 [2, 26] 24 rfl _ _ h).trans rfl
set_option maxRecDepth 100000 in
theorem e_180_26 (d : Nat) (a0 : Nat) (a1 : Int32) (a2 : Int32) (a3 : Int32) (a4 : Int32) (a5 : Int32) (h : MHeap) : ex d 180 26 [sv (.ref a0), sv (.int a1), sv (.int a2), sv (.int a3), sv (.int a4), sv (.int a5)] [] h = (
  if a5 < (8 : Int32) then
  (if a4 = (0 : Int32) then
  (if a4 = (0 : Int32) then
  (ex d 180 2 [sv (.ref a0), sv (.int a1), sv (.int a2), sv (.int (a3 + (1 : Int32))), sv (.int a4), sv (.int a5)] [] h)
  else
  (some (some (.int a3), h)))
  else
  (gfV none h a0 [12] 27 fun v1 =>
  dR none v1 fun o3 =>
  alI none h o3 (((8 : Int32) * a3) + a5) fun x2 =>
  if (a1 + a5) < a2 then
  (gfV none h a0 [12] 7 fun v4 =>
  dR none v4 fun o6 =>
  alI none h o6 (a1 + a5) fun x5 =>
  if x2 = x5 then
  (ex d 180 26 [sv (.ref a0), sv (.int a1), sv (.int a2), sv (.int a3), sv (.int (1 : Int32)), sv (.int (a5 + (1 : Int32)))] [] h)
  else
  (ex d 180 26 [sv (.ref a0), sv (.int a1), sv (.int a2), sv (.int a3), sv (.int (0 : Int32)), sv (.int (a5 + (1 : Int32)))] [] h))
  else
  (if x2 = (32 : Int32) then
  (ex d 180 26 [sv (.ref a0), sv (.int a1), sv (.int a2), sv (.int a3), sv (.int (1 : Int32)), sv (.int (a5 + (1 : Int32)))] [] h)
  else
  (ex d 180 26 [sv (.ref a0), sv (.int a1), sv (.int a2), sv (.int a3), sv (.int (0 : Int32)), sv (.int (a5 + (1 : Int32)))] [] h))))
  else
  (if a4 = (0 : Int32) then
  (ex d 180 2 [sv (.ref a0), sv (.int a1), sv (.int a2), sv (.int (a3 + (1 : Int32))), sv (.int a4), sv (.int a5)] [] h)
  else
  (some (some (.int a3), h)))) :=
  (ex_unr p_180 o_180 [2, 26] 63 rfl _ _ h).trans rfl

theorem p_181 : prg 181 = (k_181, 3) := rfl
theorem o_181 : okc k_181 = true := by decide +kernel
set_option maxRecDepth 100000 in
theorem e_181 (d : Nat) (a0 : Nat) (h : MHeap) : call (d + 1) 181 [.ref a0] h = (
  ex d 181 0 [sv (.ref a0), none, none] [] h) :=
  (call_unr p_181 rfl o_181 rfl [0, 103, 211, 230, 374, 379, 390] 0 _ rfl h).trans rfl
set_option maxRecDepth 100000 in
theorem e_181_0 (d : Nat) (a0 : Nat) (h : MHeap) : ex d 181 0 [sv (.ref a0), none, none] [] h = (
  gfI none h a0 [12] 23 fun x1 =>
  gfI none h a0 [12] 8 fun x2 =>
  if x1 < x2 then
  (gfV none h a0 [12] 7 fun v3 =>
  gfI none h a0 [12] 23 fun x4 =>
  dR none v3 fun o6 =>
  alI none h o6 x4 fun x5 =>
  if x5 = (32 : Int32) then
  (gfI none h a0 [12] 23 fun x7 =>
  pfI none h a0 [12] 23 (x7 + (1 : Int32)) fun h8 =>
  ex d 181 0 [sv (.ref a0), none, none] [] h8)
  else
  (gfV none h a0 [12] 7 fun v9 =>
  gfI none h a0 [12] 23 fun x10 =>
  dR none v9 fun o12 =>
  alI none h o12 x10 fun x11 =>
  if x11 = (10 : Int32) then
  (gfI none h a0 [12] 23 fun x13 =>
  pfI none h a0 [12] 23 (x13 + (1 : Int32)) fun h14 =>
  ex d 181 0 [sv (.ref a0), none, none] [] h14)
  else
  (gfI none h a0 [12] 23 fun x15 =>
  pfI none h a0 [12] 24 x15 fun h16 =>
  pfI none h16 a0 [12] 25 (0 : Int32) fun h17 =>
  pfI none h17 a0 [12] 26 (0 : Int32) fun h18 =>
  gfI none h18 a0 [12] 23 fun x19 =>
  gfI none h18 a0 [12] 8 fun x20 =>
  if x19 = x20 then
  (some (none, h18))
  else
  (gfV none h18 a0 [12] 7 fun v21 =>
  gfI none h18 a0 [12] 23 fun x22 =>
  dR none v21 fun o24 =>
  alI none h18 o24 x22 fun x23 =>
  cI (call d 166 [.int x23, .int (97 : Int32), .int (122 : Int32)] h18) fun x26 h25 =>
  if x26 = (0 : Int32) then
  (cI (call d 166 [.int x23, .int (48 : Int32), .int (57 : Int32)] h25) fun x28 h27 =>
  if x28 = (0 : Int32) then
  (if x23 = (40 : Int32) then
  (ex d 181 374 [sv (.ref a0), sv (.int x23), none] [] h27)
  else
  (if x23 = (41 : Int32) then
  (ex d 181 374 [sv (.ref a0), sv (.int x23), none] [] h27)
  else
  (if x23 = (59 : Int32) then
  (ex d 181 374 [sv (.ref a0), sv (.int x23), none] [] h27)
  else
  (if x23 = (43 : Int32) then
  (ex d 181 374 [sv (.ref a0), sv (.int x23), none] [] h27)
  else
  (if x23 = (45 : Int32) then
  (ex d 181 374 [sv (.ref a0), sv (.int x23), none] [] h27)
  else
  (if x23 = (42 : Int32) then
  (ex d 181 374 [sv (.ref a0), sv (.int x23), none] [] h27)
  else
  (if x23 = (60 : Int32) then
  (ex d 181 374 [sv (.ref a0), sv (.int x23), none] [] h27)
  else
  (if x23 = (61 : Int32) then
  (ex d 181 374 [sv (.ref a0), sv (.int x23), none] [] h27)
  else
  (ex d 181 379 [sv (.ref a0), sv (.int x23), none] [.int (0 : Int32)] h27)))))))))
  else
  (ex d 181 230 [sv (.ref a0), sv (.int x23), sv (.int (0 : Int32))] [] h27))
  else
  (ex d 181 103 [sv (.ref a0), sv (.int x23), none] [] h25)))))
  else
  (gfI none h a0 [12] 23 fun x29 =>
  pfI none h a0 [12] 24 x29 fun h30 =>
  pfI none h30 a0 [12] 25 (0 : Int32) fun h31 =>
  pfI none h31 a0 [12] 26 (0 : Int32) fun h32 =>
  gfI none h32 a0 [12] 23 fun x33 =>
  gfI none h32 a0 [12] 8 fun x34 =>
  if x33 = x34 then
  (some (none, h32))
  else
  (gfV none h32 a0 [12] 7 fun v35 =>
  gfI none h32 a0 [12] 23 fun x36 =>
  dR none v35 fun o38 =>
  alI none h32 o38 x36 fun x37 =>
  cI (call d 166 [.int x37, .int (97 : Int32), .int (122 : Int32)] h32) fun x40 h39 =>
  if x40 = (0 : Int32) then
  (cI (call d 166 [.int x37, .int (48 : Int32), .int (57 : Int32)] h39) fun x42 h41 =>
  if x42 = (0 : Int32) then
  (if x37 = (40 : Int32) then
  (ex d 181 374 [sv (.ref a0), sv (.int x37), none] [] h41)
  else
  (if x37 = (41 : Int32) then
  (ex d 181 374 [sv (.ref a0), sv (.int x37), none] [] h41)
  else
  (if x37 = (59 : Int32) then
  (ex d 181 374 [sv (.ref a0), sv (.int x37), none] [] h41)
  else
  (if x37 = (43 : Int32) then
  (ex d 181 374 [sv (.ref a0), sv (.int x37), none] [] h41)
  else
  (if x37 = (45 : Int32) then
  (ex d 181 374 [sv (.ref a0), sv (.int x37), none] [] h41)
  else
  (if x37 = (42 : Int32) then
  (ex d 181 374 [sv (.ref a0), sv (.int x37), none] [] h41)
  else
  (if x37 = (60 : Int32) then
  (ex d 181 374 [sv (.ref a0), sv (.int x37), none] [] h41)
  else
  (if x37 = (61 : Int32) then
  (ex d 181 374 [sv (.ref a0), sv (.int x37), none] [] h41)
  else
  (ex d 181 379 [sv (.ref a0), sv (.int x37), none] [.int (0 : Int32)] h41)))))))))
  else
  (ex d 181 230 [sv (.ref a0), sv (.int x37), sv (.int (0 : Int32))] [] h41))
  else
  (ex d 181 103 [sv (.ref a0), sv (.int x37), none] [] h39)))) :=
  (ex_unr p_181 o_181 [0, 103, 211, 230, 374, 379, 390] 156 rfl _ _ h).trans rfl
set_option maxRecDepth 100000 in
theorem e_181_103 (d : Nat) (a0 : Nat) (a1 : Int32) (h : MHeap) : ex d 181 103 [sv (.ref a0), sv (.int a1), none] [] h = (
  gfI none h a0 [12] 23 fun x1 =>
  gfI none h a0 [12] 8 fun x2 =>
  if x1 < x2 then
  (gfV none h a0 [12] 7 fun v3 =>
  gfI none h a0 [12] 23 fun x4 =>
  dR none v3 fun o6 =>
  alI none h o6 x4 fun x5 =>
  cI (call d 166 [.int x5, .int (97 : Int32), .int (122 : Int32)] h) fun x8 h7 =>
  if x8 = (0 : Int32) then
  (gfI none h7 a0 [12] 24 fun x9 =>
  gfI none h7 a0 [12] 23 fun x10 =>
  vd none h7 a0 [12, 180] fun m11 =>
  cI (call d m11 [.ref a0, .int x9, .int x10] h7) fun x13 h12 =>
  if x13 < (3 : Int32) then
  (pfI none h12 a0 [12] 25 (3 : Int32) fun h14 =>
  if x13 < (3 : Int32) then
  (ex d 181 211 [sv (.ref a0), sv (.int a1), sv (.int x13)] [.int x13, .ref a0] h14)
  else
  (ex d 181 211 [sv (.ref a0), sv (.int a1), sv (.int x13)] [.int (x13 - (3 : Int32)), .ref a0] h14))
  else
  (if x13 < (9 : Int32) then
  (pfI none h12 a0 [12] 25 (2 : Int32) fun h15 =>
  if x13 < (3 : Int32) then
  (ex d 181 211 [sv (.ref a0), sv (.int a1), sv (.int x13)] [.int x13, .ref a0] h15)
  else
  (ex d 181 211 [sv (.ref a0), sv (.int a1), sv (.int x13)] [.int (x13 - (3 : Int32)), .ref a0] h15))
  else
  (if x13 = (12 : Int32) then
  (pfI none h12 a0 [12] 25 (-1 : Int32) fun h16 =>
  if x13 < (3 : Int32) then
  (ex d 181 211 [sv (.ref a0), sv (.int a1), sv (.int x13)] [.int x13, .ref a0] h16)
  else
  (ex d 181 211 [sv (.ref a0), sv (.int a1), sv (.int x13)] [.int (x13 - (3 : Int32)), .ref a0] h16))
  else
  (pfI none h12 a0 [12] 25 (((4 : Int32) + x13) - (9 : Int32)) fun h17 =>
  if x13 < (3 : Int32) then
  (ex d 181 211 [sv (.ref a0), sv (.int a1), sv (.int x13)] [.int x13, .ref a0] h17)
  else
  (ex d 181 211 [sv (.ref a0), sv (.int a1), sv (.int x13)] [.int (x13 - (3 : Int32)), .ref a0] h17)))))
  else
  (gfI none h7 a0 [12] 23 fun x18 =>
  pfI none h7 a0 [12] 23 (x18 + (1 : Int32)) fun h19 =>
  ex d 181 103 [sv (.ref a0), sv (.int a1), none] [] h19))
  else
  (gfI none h a0 [12] 24 fun x20 =>
  gfI none h a0 [12] 23 fun x21 =>
  vd none h a0 [12, 180] fun m22 =>
  cI (call d m22 [.ref a0, .int x20, .int x21] h) fun x24 h23 =>
  if x24 < (3 : Int32) then
  (pfI none h23 a0 [12] 25 (3 : Int32) fun h25 =>
  if x24 < (3 : Int32) then
  (ex d 181 211 [sv (.ref a0), sv (.int a1), sv (.int x24)] [.int x24, .ref a0] h25)
  else
  (ex d 181 211 [sv (.ref a0), sv (.int a1), sv (.int x24)] [.int (x24 - (3 : Int32)), .ref a0] h25))
  else
  (if x24 < (9 : Int32) then
  (pfI none h23 a0 [12] 25 (2 : Int32) fun h26 =>
  if x24 < (3 : Int32) then
  (ex d 181 211 [sv (.ref a0), sv (.int a1), sv (.int x24)] [.int x24, .ref a0] h26)
  else
  (ex d 181 211 [sv (.ref a0), sv (.int a1), sv (.int x24)] [.int (x24 - (3 : Int32)), .ref a0] h26))
  else
  (if x24 = (12 : Int32) then
  (pfI none h23 a0 [12] 25 (-1 : Int32) fun h27 =>
  if x24 < (3 : Int32) then
  (ex d 181 211 [sv (.ref a0), sv (.int a1), sv (.int x24)] [.int x24, .ref a0] h27)
  else
  (ex d 181 211 [sv (.ref a0), sv (.int a1), sv (.int x24)] [.int (x24 - (3 : Int32)), .ref a0] h27))
  else
  (pfI none h23 a0 [12] 25 (((4 : Int32) + x24) - (9 : Int32)) fun h28 =>
  if x24 < (3 : Int32) then
  (ex d 181 211 [sv (.ref a0), sv (.int a1), sv (.int x24)] [.int x24, .ref a0] h28)
  else
  (ex d 181 211 [sv (.ref a0), sv (.int a1), sv (.int x24)] [.int (x24 - (3 : Int32)), .ref a0] h28)))))) :=
  (ex_unr p_181 o_181 [0, 103, 211, 230, 374, 379, 390] 162 rfl _ _ h).trans rfl
set_option maxRecDepth 100000 in
theorem e_181_211 (d : Nat) (a0 : Nat) (a1 : Int32) (a2 : Int32) (s0 : Int32) (s1 : Nat) (h : MHeap) : ex d 181 211 [sv (.ref a0), sv (.int a1), sv (.int a2)] [.int s0, .ref s1] h = (
  pfI none h s1 [12] 26 s0 fun h1 =>
  some (none, h1)) :=
  (ex_unr p_181 o_181 [0, 103, 211, 230, 374, 379, 390] 8 rfl _ _ h).trans rfl
set_option maxRecDepth 100000 in
theorem e_181_230 (d : Nat) (a0 : Nat) (a1 : Int32) (a2 : Int32) (h : MHeap) : ex d 181 230 [sv (.ref a0), sv (.int a1), sv (.int a2)] [] h = (
  gfI none h a0 [12] 23 fun x1 =>
  gfI none h a0 [12] 8 fun x2 =>
  if x1 < x2 then
  (gfV none h a0 [12] 7 fun v3 =>
  gfI none h a0 [12] 23 fun x4 =>
  dR none v3 fun o6 =>
  alI none h o6 x4 fun x5 =>
  cI (call d 166 [.int x5, .int (48 : Int32), .int (57 : Int32)] h) fun x8 h7 =>
  if x8 = (0 : Int32) then
  (if (4 : Int32) < a2 then
  (pfI none h7 a0 [12] 25 (-1 : Int32) fun h9 =>
  some (none, h9))
  else
  (pfI none h7 a0 [12] 25 (1 : Int32) fun h10 =>
  some (none, h10)))
  else
  (if a2 < (4 : Int32) then
  (gfI none h7 a0 [12] 26 fun x11 =>
  gfV none h7 a0 [12] 7 fun v12 =>
  gfI none h7 a0 [12] 23 fun x13 =>
  dR none v12 fun o15 =>
  alI none h7 o15 x13 fun x14 =>
  pfI none h7 a0 [12] 26 ((((10 : Int32) * x11) + x14) - (48 : Int32)) fun h16 =>
  gfI none h16 a0 [12] 23 fun x17 =>
  pfI none h16 a0 [12] 23 (x17 + (1 : Int32)) fun h18 =>
  ex d 181 230 [sv (.ref a0), sv (.int a1), sv (.int (a2 + (1 : Int32)))] [] h18)
  else
  (pfI none h7 a0 [12] 26 (0 : Int32) fun h19 =>
  gfI none h19 a0 [12] 23 fun x20 =>
  pfI none h19 a0 [12] 23 (x20 + (1 : Int32)) fun h21 =>
  ex d 181 230 [sv (.ref a0), sv (.int a1), sv (.int (a2 + (1 : Int32)))] [] h21)))
  else
  (if (4 : Int32) < a2 then
  (pfI none h a0 [12] 25 (-1 : Int32) fun h22 =>
  some (none, h22))
  else
  (pfI none h a0 [12] 25 (1 : Int32) fun h23 =>
  some (none, h23)))) :=
  (ex_unr p_181 o_181 [0, 103, 211, 230, 374, 379, 390] 81 rfl _ _ h).trans rfl
set_option maxRecDepth 100000 in
theorem e_181_374 (d : Nat) (a0 : Nat) (a1 : Int32) (h : MHeap) : ex d 181 374 [sv (.ref a0), sv (.int a1), none] [] h = (
  ex d 181 379 [sv (.ref a0), sv (.int a1), none] [.int (1 : Int32)] h) :=
  (ex_unr p_181 o_181 [0, 103, 211, 230, 374, 379, 390] 7 rfl _ _ h).trans rfl
set_option maxRecDepth 100000 in
theorem e_181_379 (d : Nat) (a0 : Nat) (a1 : Int32) (s0 : Int32) (h : MHeap) : ex d 181 379 [sv (.ref a0), sv (.int a1), none] [.int s0] h = (
  if s0 = (0 : Int32) then
  (ex d 181 390 [sv (.ref a0), sv (.int a1), sv (.int s0)] [.int (-1 : Int32), .ref a0] h)
  else
  (ex d 181 390 [sv (.ref a0), sv (.int a1), sv (.int s0)] [.int a1, .ref a0] h)) :=
  (ex_unr p_181 o_181 [0, 103, 211, 230, 374, 379, 390] 12 rfl _ _ h).trans rfl
set_option maxRecDepth 100000 in
theorem e_181_390 (d : Nat) (a0 : Nat) (a1 : Int32) (a2 : Int32) (s0 : Int32) (s1 : Nat) (h : MHeap) : ex d 181 390 [sv (.ref a0), sv (.int a1), sv (.int a2)] [.int s0, .ref s1] h = (
  pfI none h s1 [12] 25 s0 fun h1 =>
  gfI none h1 a0 [12] 23 fun x2 =>
  pfI none h1 a0 [12] 23 (x2 + (1 : Int32)) fun h3 =>
  some (none, h3)) :=
  (ex_unr p_181 o_181 [0, 103, 211, 230, 374, 379, 390] 13 rfl _ _ h).trans rfl

theorem p_182 : prg 182 = (k_182, 1) := rfl
theorem o_182 : okc k_182 = true := by decide +kernel
set_option maxRecDepth 100000 in
theorem e_182 (d : Nat) (a0 : Int32) (h : MHeap) : call (d + 1) 182 [.int a0] h = (
  if a0 = (0 : Int32) then
  (some (some (.int (0 : Int32)), h))
  else
  (if a0 = (11 : Int32) then
  (some (some (.int (1 : Int32)), h))
  else
  (if a0 = (12 : Int32) then
  (some (some (.int (2 : Int32)), h))
  else
  (if a0 = (13 : Int32) then
  (some (some (.int (3 : Int32)), h))
  else
  (if (15 : Int32) < a0 then
  (if (17 : Int32) < a0 then
  (if a0 = (18 : Int32) then
  (some (some (.int (6 : Int32)), h))
  else
  (some (some (.int (7 : Int32)), h)))
  else
  (some (some (.int (5 : Int32)), h)))
  else
  (some (some (.int (4 : Int32)), h))))))) :=
  (call_unr p_182 rfl o_182 rfl [] 48 _ rfl h).trans rfl

theorem p_183 : prg 183 = (k_183, 2) := rfl
theorem o_183 : okc k_183 = true := by decide +kernel
set_option maxRecDepth 100000 in
theorem e_183 (d : Nat) (a0 : Nat) (a1 : Int32) (h : MHeap) : call (d + 1) 183 [.ref a0, .int a1] h = (
  gfV none h a0 [12] 9 fun v1 =>
  gfI none h a0 [12] 11 fun x2 =>
  gfI none h a0 [12] 31 fun x3 =>
  dR none v1 fun o5 =>
  asI none h o5 (((200 : Int32) * x2) + x3) a1 fun h4 =>
  gfI none h4 a0 [12] 31 fun x6 =>
  pfI none h4 a0 [12] 31 (x6 + (1 : Int32)) fun h7 =>
  some (none, h7)) :=
  (call_unr p_183 rfl o_183 rfl [] 23 _ rfl h).trans rfl

theorem p_184 : prg 184 = (k_184, 3) := rfl
theorem o_184 : okc k_184 = true := by decide +kernel
set_option maxRecDepth 100000 in
theorem e_184 (d : Nat) (a0 : Nat) (a1 : Int32) (h : MHeap) : call (d + 1) 184 [.ref a0, .int a1] h = (
  ex d 184 0 [sv (.ref a0), sv (.int a1), none] [] h) :=
  (call_unr p_184 rfl o_184 rfl [0] 0 _ rfl h).trans rfl
set_option maxRecDepth 100000 in
theorem e_184_0 (d : Nat) (a0 : Nat) (a1 : Int32) (a2 : MSl) (h : MHeap) : ex d 184 0 [sv (.ref a0), sv (.int a1), a2] [] h = (
  gfI none h a0 [12] 29 fun x1 =>
  if (0 : Int32) < x1 then
  (gfV none h a0 [12] 28 fun v2 =>
  gfI none h a0 [12] 29 fun x3 =>
  dR none v2 fun o5 =>
  alI none h o5 (x3 - (1 : Int32)) fun x4 =>
  cI (call d 182 [.int x4] h) fun x7 h6 =>
  if x7 < a1 then
  (some (none, h6))
  else
  (gfI none h6 a0 [12] 29 fun x8 =>
  pfI none h6 a0 [12] 29 (x8 - (1 : Int32)) fun h9 =>
  gfV none h9 a0 [12] 28 fun v10 =>
  gfI none h9 a0 [12] 29 fun x11 =>
  dR none v10 fun o13 =>
  alI none h9 o13 x11 fun x12 =>
  gfI none h9 a0 [12] 30 fun x14 =>
  if x12 = (13 : Int32) then
  (pfI none h9 a0 [12] 30 (x14 - (1 : Int32)) fun h15 =>
  vd none h15 a0 [12, 183] fun m16 =>
  cV (call d m16 [.ref a0, .int x12] h15) fun h17 =>
  ex d 184 0 [sv (.ref a0), sv (.int a1), sv (.int x12)] [] h17)
  else
  (if x12 = (19 : Int32) then
  (pfI none h9 a0 [12] 30 (x14 - (1 : Int32)) fun h18 =>
  vd none h18 a0 [12, 183] fun m19 =>
  cV (call d m19 [.ref a0, .int x12] h18) fun h20 =>
  ex d 184 0 [sv (.ref a0), sv (.int a1), sv (.int x12)] [] h20)
  else
  (pfI none h9 a0 [12] 30 (x14 - (0 : Int32)) fun h21 =>
  vd none h21 a0 [12, 183] fun m22 =>
  cV (call d m22 [.ref a0, .int x12] h21) fun h23 =>
  ex d 184 0 [sv (.ref a0), sv (.int a1), sv (.int x12)] [] h23))))
  else
  (some (none, h))) :=
  (ex_unr p_184 o_184 [0] 64 rfl _ _ h).trans rfl

theorem p_185 : prg 185 = (k_185, 2) := rfl
theorem o_185 : okc k_185 = true := by decide +kernel
set_option maxRecDepth 100000 in
theorem e_185 (d : Nat) (a0 : Nat) (a1 : Int32) (h : MHeap) : call (d + 1) 185 [.ref a0, .int a1] h = (
  gfV none h a0 [12] 28 fun v1 =>
  gfI none h a0 [12] 29 fun x2 =>
  dR none v1 fun o4 =>
  asI none h o4 x2 a1 fun h3 =>
  gfI none h3 a0 [12] 29 fun x5 =>
  pfI none h3 a0 [12] 29 (x5 + (1 : Int32)) fun h6 =>
  some (none, h6)) :=
  (call_unr p_185 rfl o_185 rfl [] 18 _ rfl h).trans rfl

theorem p_186 : prg 186 = (k_186, 2) := rfl
theorem o_186 : okc k_186 = true := by decide +kernel
set_option maxRecDepth 100000 in
theorem e_186 (d : Nat) (a0 : Nat) (a1 : Int32) (h : MHeap) : call (d + 1) 186 [.ref a0, .int a1] h = (
  gfI none h a0 [12] 30 fun x1 =>
  if x1 = (5 : Int32) then
  (zr none (0 : Int32) (some (some (.int (0 : Int32)), h)))
  else
  (gfI none h a0 [12] 30 fun x2 =>
  pfI none h a0 [12] 30 (x2 + (1 : Int32)) fun h3 =>
  vd none h3 a0 [12, 185] fun m4 =>
  cV (call d m4 [.ref a0, .int a1] h3) fun h5 =>
  zr none (1 : Int32) (some (some (.int (1 : Int32)), h5)))) :=
  (call_unr p_186 rfl o_186 rfl [] 22 _ rfl h).trans rfl

theorem p_187 : prg 187 = (k_187, 2) := rfl
theorem o_187 : okc k_187 = true := by decide +kernel
set_option maxRecDepth 100000 in
theorem e_187 (d : Nat) (a0 : Nat) (a1 : Int32) (h : MHeap) : call (d + 1) 187 [.ref a0, .int a1] h = (
  cI (call d 182 [.int a1] h) fun x2 h1 =>
  if x2 = (4 : Int32) then
  (vd none h1 a0 [12, 184] fun m3 =>
  cV (call d m3 [.ref a0, .int (5 : Int32)] h1) fun h4 =>
  cI (call d 182 [.int a1] h4) fun x6 h5 =>
  if x6 = (4 : Int32) then
  (gfI none h5 a0 [12] 29 fun x7 =>
  if (0 : Int32) < x7 then
  (gfV none h5 a0 [12] 28 fun v8 =>
  gfI none h5 a0 [12] 29 fun x9 =>
  dR none v8 fun o11 =>
  alI none h5 o11 (x9 - (1 : Int32)) fun x10 =>
  cI (call d 182 [.int x10] h5) fun x13 h12 =>
  if x13 = (4 : Int32) then
  (zr none (0 : Int32) (some (some (.int (0 : Int32)), h12)))
  else
  (vd none h12 a0 [12, 185] fun m14 =>
  cV (call d m14 [.ref a0, .int a1] h12) fun h15 =>
  zr none (1 : Int32) (some (some (.int (1 : Int32)), h15))))
  else
  (vd none h5 a0 [12, 185] fun m16 =>
  cV (call d m16 [.ref a0, .int a1] h5) fun h17 =>
  zr none (1 : Int32) (some (some (.int (1 : Int32)), h17))))
  else
  (vd none h5 a0 [12, 185] fun m18 =>
  cV (call d m18 [.ref a0, .int a1] h5) fun h19 =>
  zr none (1 : Int32) (some (some (.int (1 : Int32)), h19))))
  else
  (cI (call d 182 [.int a1] h1) fun x21 h20 =>
  vd none h20 a0 [12, 184] fun m22 =>
  cV (call d m22 [.ref a0, .int x21] h20) fun h23 =>
  cI (call d 182 [.int a1] h23) fun x25 h24 =>
  if x25 = (4 : Int32) then
  (gfI none h24 a0 [12] 29 fun x26 =>
  if (0 : Int32) < x26 then
  (gfV none h24 a0 [12] 28 fun v27 =>
  gfI none h24 a0 [12] 29 fun x28 =>
  dR none v27 fun o30 =>
  alI none h24 o30 (x28 - (1 : Int32)) fun x29 =>
  cI (call d 182 [.int x29] h24) fun x32 h31 =>
  if x32 = (4 : Int32) then
  (zr none (0 : Int32) (some (some (.int (0 : Int32)), h31)))
  else
  (vd none h31 a0 [12, 185] fun m33 =>
  cV (call d m33 [.ref a0, .int a1] h31) fun h34 =>
  zr none (1 : Int32) (some (some (.int (1 : Int32)), h34))))
  else
  (vd none h24 a0 [12, 185] fun m35 =>
  cV (call d m35 [.ref a0, .int a1] h24) fun h36 =>
  zr none (1 : Int32) (some (some (.int (1 : Int32)), h36))))
  else
  (vd none h24 a0 [12, 185] fun m37 =>
  cV (call d m37 [.ref a0, .int a1] h24) fun h38 =>
  zr none (1 : Int32) (some (some (.int (1 : Int32)), h38))))) :=
  (call_unr p_187 rfl o_187 rfl [] 84 _ rfl h).trans rfl

theorem p_188 : prg 188 = (k_188, 1) := rfl
theorem o_188 : okc k_188 = true := by decide +kernel
set_option maxRecDepth 100000 in
theorem e_188 (d : Nat) (a0 : Nat) (h : MHeap) : call (d + 1) 188 [.ref a0] h = (
  gfI none h a0 [12] 25 fun x1 =>
  if x1 = (4 : Int32) then
  (some (some (.int (11 : Int32)), h))
  else
  (gfI none h a0 [12] 25 fun x2 =>
  if x2 = (5 : Int32) then
  (some (some (.int (12 : Int32)), h))
  else
  (gfI none h a0 [12] 25 fun x3 =>
  if x3 = (60 : Int32) then
  (some (some (.int (14 : Int32)), h))
  else
  (gfI none h a0 [12] 25 fun x4 =>
  if x4 = (61 : Int32) then
  (some (some (.int (15 : Int32)), h))
  else
  (gfI none h a0 [12] 25 fun x5 =>
  if x5 = (43 : Int32) then
  (some (some (.int (16 : Int32)), h))
  else
  (gfI none h a0 [12] 25 fun x6 =>
  if x6 = (45 : Int32) then
  (some (some (.int (17 : Int32)), h))
  else
  (gfI none h a0 [12] 25 fun x7 =>
  if x7 = (42 : Int32) then
  (some (some (.int (18 : Int32)), h))
  else
  (some (some (.int (-1 : Int32)), h))))))))) :=
  (call_unr p_188 rfl o_188 rfl [] 56 _ rfl h).trans rfl

theorem p_189 : prg 189 = (k_189, 4) := rfl
theorem o_189 : okc k_189 = true := by decide +kernel
set_option maxRecDepth 100000 in
theorem e_189 (d : Nat) (a0 : Nat) (h : MHeap) : call (d + 1) 189 [.ref a0] h = (
  pfI none h a0 [12] 29 (0 : Int32) fun h1 =>
  pfI none h1 a0 [12] 30 (0 : Int32) fun h2 =>
  ex d 189 14 [sv (.ref a0), sv (.int (1 : Int32)), sv (.int (1 : Int32)), none] [] h2) :=
  (call_unr p_189 rfl o_189 rfl [14, 38, 61] 15 _ rfl h).trans rfl
set_option maxRecDepth 100000 in
theorem e_189_14 (d : Nat) (a0 : Nat) (a1 : Int32) (a2 : Int32) (a3 : MSl) (h : MHeap) : ex d 189 14 [sv (.ref a0), sv (.int a1), sv (.int a2), a3] [] h = (
  vd none h a0 [12, 181] fun m1 =>
  cV (call d m1 [.ref a0] h) fun h2 =>
  if a1 = (0 : Int32) then
  (gfI none h2 a0 [12] 25 fun x3 =>
  if x3 = (59 : Int32) then
  (vd none h2 a0 [12, 184] fun m4 =>
  cV (call d m4 [.ref a0, .int (1 : Int32)] h2) fun h5 =>
  gfI none h5 a0 [12] 29 fun x6 =>
  if x6 = (0 : Int32) then
  (zr none (1 : Int32) (some (some (.int (1 : Int32)), h5)))
  else
  (zr none (0 : Int32) (some (some (.int (0 : Int32)), h5))))
  else
  (gfI none h2 a0 [12] 25 fun x7 =>
  if x7 = (41 : Int32) then
  (vd none h2 a0 [12, 184] fun m8 =>
  cV (call d m8 [.ref a0, .int (1 : Int32)] h2) fun h9 =>
  gfI none h9 a0 [12] 29 fun x10 =>
  if x10 = (0 : Int32) then
  (zr none (0 : Int32) (some (some (.int (0 : Int32)), h9)))
  else
  (gfI none h9 a0 [12] 29 fun x11 =>
  pfI none h9 a0 [12] 29 (x11 - (1 : Int32)) fun h12 =>
  gfI none h12 a0 [12] 30 fun x13 =>
  pfI none h12 a0 [12] 30 (x13 - (1 : Int32)) fun h14 =>
  vd none h14 a0 [12, 184] fun m15 =>
  cV (call d m15 [.ref a0, .int (7 : Int32)] h14) fun h16 =>
  ex d 189 14 [sv (.ref a0), sv (.int a1), sv (.int a2), a3] [] h16))
  else
  (vd none h2 a0 [12, 188] fun m17 =>
  cI (call d m17 [.ref a0] h2) fun x19 h18 =>
  if x19 = (-1 : Int32) then
  (zr none (0 : Int32) (some (some (.int (0 : Int32)), h18)))
  else
  (vd none h18 a0 [12, 187] fun m20 =>
  cI (call d m20 [.ref a0, .int x19] h18) fun x22 h21 =>
  if x22 = (0 : Int32) then
  (zr none (0 : Int32) (some (some (.int (0 : Int32)), h21)))
  else
  (if (12 : Int32) < x19 then
  (ex d 189 14 [sv (.ref a0), sv (.int (1 : Int32)), sv (.int (0 : Int32)), sv (.int x19)] [] h21)
  else
  (ex d 189 14 [sv (.ref a0), sv (.int (1 : Int32)), sv (.int (1 : Int32)), sv (.int x19)] [] h21))))))
  else
  (gfI none h2 a0 [12] 25 fun x23 =>
  if x23 = (1 : Int32) then
  (ex d 189 38 [sv (.ref a0), sv (.int a1), sv (.int a2), a3] [] h2)
  else
  (gfI none h2 a0 [12] 25 fun x24 =>
  if x24 = (2 : Int32) then
  (ex d 189 38 [sv (.ref a0), sv (.int a1), sv (.int a2), a3] [] h2)
  else
  (gfI none h2 a0 [12] 25 fun x25 =>
  if x25 = (6 : Int32) then
  (if a2 = (0 : Int32) then
  (gfI none h2 a0 [12] 25 fun x26 =>
  if x26 = (45 : Int32) then
  (vd none h2 a0 [12, 186] fun m27 =>
  cI (call d m27 [.ref a0, .int (19 : Int32)] h2) fun x29 h28 =>
  if x29 = (0 : Int32) then
  (zr none (0 : Int32) (some (some (.int (0 : Int32)), h28)))
  else
  (ex d 189 14 [sv (.ref a0), sv (.int a1), sv (.int (0 : Int32)), a3] [] h28))
  else
  (gfI none h2 a0 [12] 25 fun x30 =>
  if x30 = (40 : Int32) then
  (vd none h2 a0 [12, 186] fun m31 =>
  cI (call d m31 [.ref a0, .int (0 : Int32)] h2) fun x33 h32 =>
  if x33 = (0 : Int32) then
  (zr none (0 : Int32) (some (some (.int (0 : Int32)), h32)))
  else
  (ex d 189 14 [sv (.ref a0), sv (.int a1), sv (.int (1 : Int32)), a3] [] h32))
  else
  (zr none (0 : Int32) (some (some (.int (0 : Int32)), h2)))))
  else
  (vd none h2 a0 [12, 186] fun m34 =>
  cI (call d m34 [.ref a0, .int (13 : Int32)] h2) fun x36 h35 =>
  if x36 = (0 : Int32) then
  (zr none (0 : Int32) (some (some (.int (0 : Int32)), h35)))
  else
  (ex d 189 14 [sv (.ref a0), sv (.int a1), sv (.int a2), a3] [] h35)))
  else
  (gfI none h2 a0 [12] 25 fun x37 =>
  if x37 = (45 : Int32) then
  (vd none h2 a0 [12, 186] fun m38 =>
  cI (call d m38 [.ref a0, .int (19 : Int32)] h2) fun x40 h39 =>
  if x40 = (0 : Int32) then
  (zr none (0 : Int32) (some (some (.int (0 : Int32)), h39)))
  else
  (ex d 189 14 [sv (.ref a0), sv (.int a1), sv (.int (0 : Int32)), a3] [] h39))
  else
  (gfI none h2 a0 [12] 25 fun x41 =>
  if x41 = (40 : Int32) then
  (vd none h2 a0 [12, 186] fun m42 =>
  cI (call d m42 [.ref a0, .int (0 : Int32)] h2) fun x44 h43 =>
  if x44 = (0 : Int32) then
  (zr none (0 : Int32) (some (some (.int (0 : Int32)), h43)))
  else
  (ex d 189 14 [sv (.ref a0), sv (.int a1), sv (.int (1 : Int32)), a3] [] h43))
  else
  (zr none (0 : Int32) (some (some (.int (0 : Int32)), h2))))))))) :=
  (ex_unr p_189 o_189 [14, 38, 61] 154 rfl _ _ h).trans rfl
set_option maxRecDepth 100000 in
theorem e_189_38 (d : Nat) (a0 : Nat) (a1 : Int32) (a2 : Int32) (a3 : MSl) (h : MHeap) : ex d 189 38 [sv (.ref a0), sv (.int a1), sv (.int a2), a3] [] h = (
  gfI none h a0 [12] 25 fun x1 =>
  if x1 = (1 : Int32) then
  (gfI none h a0 [12] 26 fun x2 =>
  ex d 189 61 [sv (.ref a0), sv (.int a1), sv (.int a2), a3] [.int ((100000 : Int32) + x2), .ref a0] h)
  else
  (gfI none h a0 [12] 26 fun x3 =>
  ex d 189 61 [sv (.ref a0), sv (.int a1), sv (.int a2), a3] [.int x3, .ref a0] h)) :=
  (ex_unr p_189 o_189 [14, 38, 61] 17 rfl _ _ h).trans rfl
set_option maxRecDepth 100000 in
theorem e_189_61 (d : Nat) (a0 : Nat) (a1 : Int32) (a2 : Int32) (a3 : MSl) (s0 : Int32) (s1 : Nat) (h : MHeap) : ex d 189 61 [sv (.ref a0), sv (.int a1), sv (.int a2), a3] [.int s0, .ref s1] h = (
  vd none h s1 [12, 183] fun m1 =>
  cV (call d m1 [.ref s1, .int s0] h) fun h2 =>
  vd none h2 a0 [12, 184] fun m3 =>
  cV (call d m3 [.ref a0, .int (7 : Int32)] h2) fun h4 =>
  ex d 189 14 [sv (.ref a0), sv (.int (0 : Int32)), sv (.int a2), a3] [] h4) :=
  (ex_unr p_189 o_189 [14, 38, 61] 12 rfl _ _ h).trans rfl

theorem p_190 : prg 190 = (k_190, 3) := rfl
theorem o_190 : okc k_190 = true := by decide +kernel
set_option maxRecDepth 100000 in
theorem e_190 (d : Nat) (a0 : Nat) (h : MHeap) : call (d + 1) 190 [.ref a0] h = (
  gfI none h a0 [12] 11 fun x1 =>
  if x1 = (6 : Int32) then
  (some (some (.int (-4 : Int32)), h))
  else
  (pfI none h a0 [12] 23 (0 : Int32) fun h2 =>
  pfI none h2 a0 [12] 31 (0 : Int32) fun h3 =>
  ex d 190 26 [sv (.ref a0), sv (.int (1 : Int32)), sv (.int (0 : Int32))] [] h3)) :=
  (call_unr p_190 rfl o_190 rfl [26, 93, 94, 122] 21 _ rfl h).trans rfl
set_option maxRecDepth 100000 in
theorem e_190_26 (d : Nat) (a0 : Nat) (a1 : Int32) (a2 : Int32) (h : MHeap) : ex d 190 26 [sv (.ref a0), sv (.int a1), sv (.int a2)] [] h = (
  if a2 < (3 : Int32) then
  (if a1 = (0 : Int32) then
  (if a1 = (0 : Int32) then
  (ex d 190 122 [sv (.ref a0), sv (.int a1), sv (.int a2)] [] h)
  else
  (vd none h a0 [12, 181] fun m1 =>
  cV (call d m1 [.ref a0] h) fun h2 =>
  gfI none h2 a0 [12] 25 fun x3 =>
  if x3 = (0 : Int32) then
  (ex d 190 122 [sv (.ref a0), sv (.int (1 : Int32)), sv (.int a2)] [] h2)
  else
  (ex d 190 122 [sv (.ref a0), sv (.int (0 : Int32)), sv (.int a2)] [] h2)))
  else
  (vd none h a0 [12, 181] fun m4 =>
  cV (call d m4 [.ref a0] h) fun h5 =>
  gfI none h5 a0 [12] 25 fun x6 =>
  if x6 = (3 : Int32) then
  (gfI none h5 a0 [12] 26 fun x7 =>
  if x7 = a2 then
  (gfV none h5 a0 [12] 10 fun v8 =>
  gfI none h5 a0 [12] 11 fun x9 =>
  gfI none h5 a0 [12] 31 fun x10 =>
  dR none v8 fun o12 =>
  asI none h5 o12 (((4 : Int32) * x9) + a2) x10 fun h11 =>
  if (1 : Int32) = (0 : Int32) then
  (ex d 190 93 [sv (.ref a0), sv (.int (1 : Int32)), sv (.int a2)] [] h11)
  else
  (vd none h11 a0 [12, 189] fun m13 =>
  cI (call d m13 [.ref a0] h11) fun x15 h14 =>
  if x15 = (0 : Int32) then
  (ex d 190 93 [sv (.ref a0), sv (.int (1 : Int32)), sv (.int a2)] [] h14)
  else
  (ex d 190 94 [sv (.ref a0), sv (.int (1 : Int32)), sv (.int a2)] [.int (1 : Int32)] h14)))
  else
  (gfV none h5 a0 [12] 10 fun v16 =>
  gfI none h5 a0 [12] 11 fun x17 =>
  gfI none h5 a0 [12] 31 fun x18 =>
  dR none v16 fun o20 =>
  asI none h5 o20 (((4 : Int32) * x17) + a2) x18 fun h19 =>
  if (0 : Int32) = (0 : Int32) then
  (ex d 190 93 [sv (.ref a0), sv (.int (0 : Int32)), sv (.int a2)] [] h19)
  else
  (vd none h19 a0 [12, 189] fun m21 =>
  cI (call d m21 [.ref a0] h19) fun x23 h22 =>
  if x23 = (0 : Int32) then
  (ex d 190 93 [sv (.ref a0), sv (.int (0 : Int32)), sv (.int a2)] [] h22)
  else
  (ex d 190 94 [sv (.ref a0), sv (.int (0 : Int32)), sv (.int a2)] [.int (1 : Int32)] h22))))
  else
  (gfV none h5 a0 [12] 10 fun v24 =>
  gfI none h5 a0 [12] 11 fun x25 =>
  gfI none h5 a0 [12] 31 fun x26 =>
  dR none v24 fun o28 =>
  asI none h5 o28 (((4 : Int32) * x25) + a2) x26 fun h27 =>
  if (0 : Int32) = (0 : Int32) then
  (ex d 190 93 [sv (.ref a0), sv (.int (0 : Int32)), sv (.int a2)] [] h27)
  else
  (vd none h27 a0 [12, 189] fun m29 =>
  cI (call d m29 [.ref a0] h27) fun x31 h30 =>
  if x31 = (0 : Int32) then
  (ex d 190 93 [sv (.ref a0), sv (.int (0 : Int32)), sv (.int a2)] [] h30)
  else
  (ex d 190 94 [sv (.ref a0), sv (.int (0 : Int32)), sv (.int a2)] [.int (1 : Int32)] h30)))))
  else
  (if a1 = (0 : Int32) then
  (ex d 190 122 [sv (.ref a0), sv (.int a1), sv (.int a2)] [] h)
  else
  (vd none h a0 [12, 181] fun m32 =>
  cV (call d m32 [.ref a0] h) fun h33 =>
  gfI none h33 a0 [12] 25 fun x34 =>
  if x34 = (0 : Int32) then
  (ex d 190 122 [sv (.ref a0), sv (.int (1 : Int32)), sv (.int a2)] [] h33)
  else
  (ex d 190 122 [sv (.ref a0), sv (.int (0 : Int32)), sv (.int a2)] [] h33)))) :=
  (ex_unr p_190 o_190 [26, 93, 94, 122] 105 rfl _ _ h).trans rfl
set_option maxRecDepth 100000 in
theorem e_190_93 (d : Nat) (a0 : Nat) (a1 : Int32) (a2 : Int32) (h : MHeap) : ex d 190 93 [sv (.ref a0), sv (.int a1), sv (.int a2)] [] h = (
  ex d 190 94 [sv (.ref a0), sv (.int a1), sv (.int a2)] [.int (0 : Int32)] h) :=
  (ex_unr p_190 o_190 [26, 93, 94, 122] 6 rfl _ _ h).trans rfl
set_option maxRecDepth 100000 in
theorem e_190_94 (d : Nat) (a0 : Nat) (a1 : Int32) (a2 : Int32) (s0 : Int32) (h : MHeap) : ex d 190 94 [sv (.ref a0), sv (.int a1), sv (.int a2)] [.int s0] h = (
  ex d 190 26 [sv (.ref a0), sv (.int s0), sv (.int (a2 + (1 : Int32)))] [] h) :=
  (ex_unr p_190 o_190 [26, 93, 94, 122] 8 rfl _ _ h).trans rfl
set_option maxRecDepth 100000 in
theorem e_190_122 (d : Nat) (a0 : Nat) (a1 : Int32) (a2 : Int32) (h : MHeap) : ex d 190 122 [sv (.ref a0), sv (.int a1), sv (.int a2)] [] h = (
  gfV none h a0 [12] 10 fun v1 =>
  gfI none h a0 [12] 11 fun x2 =>
  gfI none h a0 [12] 31 fun x3 =>
  dR none v1 fun o5 =>
  asI none h o5 (((4 : Int32) * x2) + (3 : Int32)) x3 fun h4 =>
  pfI none h4 a0 [12] 8 (0 : Int32) fun h6 =>
  if a1 = (0 : Int32) then
  (gfI none h6 a0 [12] 24 fun x7 =>
  some (some (.int ((-100 : Int32) - x7)), h6))
  else
  (gfI none h6 a0 [12] 11 fun x8 =>
  pfI none h6 a0 [12] 11 (x8 + (1 : Int32)) fun h9 =>
  gfI none h9 a0 [12] 11 fun x10 =>
  some (some (.int (x10 - (1 : Int32))), h9))) :=
  (ex_unr p_190 o_190 [26, 93, 94, 122] 37 rfl _ _ h).trans rfl

theorem p_191 : prg 191 = (k_191, 3) := rfl
theorem o_191 : okc k_191 = true := by decide +kernel
set_option maxRecDepth 100000 in
theorem e_191 (d : Nat) (a0 : Int32) (a1 : Int32) (a2 : Int32) (h : MHeap) : call (d + 1) 191 [.int a0, .int a1, .int a2] h = (
  if a0 = (11 : Int32) then
  (if a1 = (0 : Int32) then
  (if a2 = (0 : Int32) then
  (some (some (.int (0 : Int32)), h))
  else
  (some (some (.int (1 : Int32)), h)))
  else
  (some (some (.int (1 : Int32)), h)))
  else
  (if a0 = (12 : Int32) then
  (if a1 = (0 : Int32) then
  (some (some (.int (0 : Int32)), h))
  else
  (if a2 = (0 : Int32) then
  (some (some (.int (0 : Int32)), h))
  else
  (some (some (.int (1 : Int32)), h))))
  else
  (if a0 = (13 : Int32) then
  (some (some (.int (a1 * a2)), h))
  else
  (if a0 = (14 : Int32) then
  (if a1 < a2 then
  (some (some (.int (1 : Int32)), h))
  else
  (some (some (.int (0 : Int32)), h)))
  else
  (if a0 = (15 : Int32) then
  (if a1 = a2 then
  (some (some (.int (1 : Int32)), h))
  else
  (some (some (.int (0 : Int32)), h)))
  else
  (if a0 = (16 : Int32) then
  (some (some (.int (a1 + a2)), h))
  else
  (if a0 = (17 : Int32) then
  (some (some (.int (a1 - a2)), h))
  else
  (some (some (.int (a1 * a2)), h))))))))) :=
  (call_unr p_191 rfl o_191 rfl [] 62 _ rfl h).trans rfl

theorem p_192 : prg 192 = (k_192, 5) := rfl
theorem o_192 : okc k_192 = true := by decide +kernel
set_option maxRecDepth 100000 in
theorem e_192 (d : Nat) (a0 : Nat) (a1 : Int32) (h : MHeap) : call (d + 1) 192 [.ref a0, .int a1] h = (
  gfV none h a0 [12] 10 fun v1 =>
  gfI none h a0 [12] 12 fun x2 =>
  dR none v1 fun o4 =>
  alI none h o4 (((4 : Int32) * x2) + a1) fun x3 =>
  ex d 192 16 [sv (.ref a0), sv (.int a1), sv (.int (0 : Int32)), sv (.int x3), none] [] h) :=
  (call_unr p_192 rfl o_192 rfl [16] 17 _ rfl h).trans rfl
set_option maxRecDepth 100000 in
theorem e_192_16 (d : Nat) (a0 : Nat) (a1 : Int32) (a2 : Int32) (a3 : Int32) (a4 : MSl) (h : MHeap) : ex d 192 16 [sv (.ref a0), sv (.int a1), sv (.int a2), sv (.int a3), a4] [] h = (
  gfV none h a0 [12] 10 fun v1 =>
  gfI none h a0 [12] 12 fun x2 =>
  dR none v1 fun o4 =>
  alI none h o4 ((((4 : Int32) * x2) + a1) + (1 : Int32)) fun x3 =>
  if a3 < x3 then
  (gfV none h a0 [12] 9 fun v5 =>
  gfI none h a0 [12] 12 fun x6 =>
  dR none v5 fun o8 =>
  alI none h o8 (((200 : Int32) * x6) + a3) fun x7 =>
  if x7 < (100000 : Int32) then
  (if x7 < (11 : Int32) then
  (gfV none h a0 [12] 32 fun v9 =>
  if x7 < (11 : Int32) then
  (gfV none h a0 [12] 33 fun v10 =>
  dR none v10 fun o12 =>
  alI none h o12 x7 fun x11 =>
  dR none v9 fun o14 =>
  asI none h o14 a2 x11 fun h13 =>
  ex d 192 16 [sv (.ref a0), sv (.int a1), sv (.int (a2 + (1 : Int32))), sv (.int (a3 + (1 : Int32))), sv (.int x7)] [] h13)
  else
  (dR none v9 fun o16 =>
  asI none h o16 a2 (x7 - (100000 : Int32)) fun h15 =>
  ex d 192 16 [sv (.ref a0), sv (.int a1), sv (.int (a2 + (1 : Int32))), sv (.int (a3 + (1 : Int32))), sv (.int x7)] [] h15))
  else
  (if x7 = (13 : Int32) then
  (gfV none h a0 [12] 32 fun v17 =>
  gfV none h a0 [12] 32 fun v18 =>
  dR none v18 fun o20 =>
  alI none h o20 (a2 - (1 : Int32)) fun x19 =>
  if x19 = (0 : Int32) then
  (dR none v17 fun o22 =>
  asI none h o22 (a2 - (1 : Int32)) (1 : Int32) fun h21 =>
  ex d 192 16 [sv (.ref a0), sv (.int a1), sv (.int a2), sv (.int (a3 + (1 : Int32))), sv (.int x7)] [] h21)
  else
  (dR none v17 fun o24 =>
  asI none h o24 (a2 - (1 : Int32)) (0 : Int32) fun h23 =>
  ex d 192 16 [sv (.ref a0), sv (.int a1), sv (.int a2), sv (.int (a3 + (1 : Int32))), sv (.int x7)] [] h23))
  else
  (if x7 = (19 : Int32) then
  (gfV none h a0 [12] 32 fun v25 =>
  gfV none h a0 [12] 32 fun v26 =>
  dR none v26 fun o28 =>
  alI none h o28 (a2 - (1 : Int32)) fun x27 =>
  dR none v25 fun o30 =>
  asI none h o30 (a2 - (1 : Int32)) (-x27) fun h29 =>
  ex d 192 16 [sv (.ref a0), sv (.int a1), sv (.int a2), sv (.int (a3 + (1 : Int32))), sv (.int x7)] [] h29)
  else
  (gfV none h a0 [12] 32 fun v31 =>
  gfV none h a0 [12] 32 fun v32 =>
  dR none v32 fun o34 =>
  alI none h o34 ((a2 + (-1 : Int32)) - (1 : Int32)) fun x33 =>
  gfV none h a0 [12] 32 fun v35 =>
  dR none v35 fun o37 =>
  alI none h o37 (a2 + (-1 : Int32)) fun x36 =>
  cI (call d 191 [.int x7, .int x33, .int x36] h) fun x39 h38 =>
  dR none v31 fun o41 =>
  asI none h38 o41 ((a2 + (-1 : Int32)) - (1 : Int32)) x39 fun h40 =>
  ex d 192 16 [sv (.ref a0), sv (.int a1), sv (.int (a2 + (-1 : Int32))), sv (.int (a3 + (1 : Int32))), sv (.int x7)] [] h40))))
  else
  (gfV none h a0 [12] 32 fun v42 =>
  if x7 < (11 : Int32) then
  (gfV none h a0 [12] 33 fun v43 =>
  dR none v43 fun o45 =>
  alI none h o45 x7 fun x44 =>
  dR none v42 fun o47 =>
  asI none h o47 a2 x44 fun h46 =>
  ex d 192 16 [sv (.ref a0), sv (.int a1), sv (.int (a2 + (1 : Int32))), sv (.int (a3 + (1 : Int32))), sv (.int x7)] [] h46)
  else
  (dR none v42 fun o49 =>
  asI none h o49 a2 (x7 - (100000 : Int32)) fun h48 =>
  ex d 192 16 [sv (.ref a0), sv (.int a1), sv (.int (a2 + (1 : Int32))), sv (.int (a3 + (1 : Int32))), sv (.int x7)] [] h48)))
  else
  (gfV none h a0 [12] 32 fun v50 =>
  dR none v50 fun o52 =>
  alI none h o52 (0 : Int32) fun x51 =>
  some (some (.int x51), h))) :=
  (ex_unr p_192 o_192 [16] 153 rfl _ _ h).trans rfl

theorem p_193 : prg 193 = (k_193, 3) := rfl
theorem o_193 : okc k_193 = true := by decide +kernel
set_option maxRecDepth 100000 in
theorem e_193 (d : Nat) (a0 : Nat) (a1 : Int32) (h : MHeap) : call (d + 1) 193 [.ref a0, .int a1] h = (
  gfI none h a0 [12] 11 fun x1 =>
  cI (call d 166 [.int a1, .int (0 : Int32), .int (x1 - (1 : Int32))] h) fun x3 h2 =>
  if x3 = (0 : Int32) then
  (some (some (.int (-2 : Int32)), h2))
  else
  (gfI none h2 a0 [12] 12 fun x4 =>
  pfI none h2 a0 [12] 12 a1 fun h5 =>
  some (some (.int x4), h5))) :=
  (call_unr p_193 rfl o_193 rfl [] 23 _ rfl h).trans rfl

theorem p_194 : prg 194 = (k_194, 3) := rfl
theorem o_194 : okc k_194 = true := by decide +kernel
set_option maxRecDepth 100000 in
theorem e_194 (d : Nat) (a0 : Nat) (a1 : Int32) (a2 : Int32) (h : MHeap) : call (d + 1) 194 [.ref a0, .int a1, .int a2] h = (
  gfV none h a0 [12] 33 fun v1 =>
  dR none v1 fun o3 =>
  asI none h o3 (0 : Int32) a2 fun h2 =>
  gfV none h2 a0 [12] 33 fun v4 =>
  gfI none h2 a0 [12] 1 fun x5 =>
  dv none x5 <|
  dR none v4 fun o7 =>
  asI none h2 o7 (1 : Int32) (a2 / x5) fun h6 =>
  gfV none h6 a0 [12] 33 fun v8 =>
  gfI none h6 a0 [12] 1 fun x9 =>
  dv none x9 <|
  dR none v8 fun o11 =>
  asI none h6 o11 (2 : Int32) (a2 - a2 / x9 * x9) fun h10 =>
  gfV none h10 a0 [12] 33 fun v12 =>
  gfI none h10 a0 [12] 2 fun x13 =>
  dR none v12 fun o15 =>
  asI none h10 o15 (3 : Int32) ((x13 >>> (a2 &&& 31)) &&& (1 : Int32)) fun h14 =>
  gfV none h14 a0 [12] 33 fun v16 =>
  gfI none h14 a0 [12] 0 fun x17 =>
  dR none v16 fun o19 =>
  asI none h14 o19 (4 : Int32) x17 fun h18 =>
  gfV none h18 a0 [12] 33 fun v20 =>
  gfI none h18 a0 [12] 2 fun x21 =>
  vd none h18 a0 [12, 202] fun m22 =>
  cI (call d m22 [.ref a0, .int x21] h18) fun x24 h23 =>
  vd none h23 a0 [12, 205] fun m25 =>
  cI (call d m25 [.ref a0, .int x24] h23) fun x27 h26 =>
  dR none v20 fun o29 =>
  asI none h26 o29 (5 : Int32) x27 fun h28 =>
  vd none h28 a0 [12, 192] fun m30 =>
  cI (call d m30 [.ref a0, .int a1] h28) fun x32 h31 =>
  cI (call d 167 [.int x32, .int (0 : Int32), .int (99 : Int32)] h31) fun x34 h33 =>
  some (some (.int x34), h33)) :=
  (call_unr p_194 rfl o_194 rfl [] 59 _ rfl h).trans rfl

theorem p_195 : prg 195 = (k_195, 3) := rfl
theorem o_195 : okc k_195 = true := by decide +kernel
set_option maxRecDepth 100000 in
theorem e_195 (d : Nat) (a0 : Nat) (a1 : Int32) (a2 : Int32) (h : MHeap) : call (d + 1) 195 [.ref a0, .int a1, .int a2] h = (
  vd none h a0 [12, 169] fun m1 =>
  cI (call d m1 [.ref a0, .int a2] h) fun x3 h2 =>
  if x3 = (0 : Int32) then
  (some (some (.int (-5 : Int32)), h2))
  else
  (cI (call d 166 [.int a1, .int (0 : Int32), .int (2 : Int32)] h2) fun x5 h4 =>
  if x5 = (0 : Int32) then
  (some (some (.int (-7 : Int32)), h4))
  else
  (vd none h4 a0 [12, 194] fun m6 =>
  cI (call d m6 [.ref a0, .int a1, .int a2] h4) fun x8 h7 =>
  some (some (.int x8), h7)))) :=
  (call_unr p_195 rfl o_195 rfl [] 25 _ rfl h).trans rfl

theorem p_196 : prg 196 = (k_196, 3) := rfl
theorem o_196 : okc k_196 = true := by decide +kernel
set_option maxRecDepth 100000 in
theorem e_196 (d : Nat) (a0 : Int32) (a1 : Int32) (a2 : Int32) (h : MHeap) : call (d + 1) 196 [.int a0, .int a1, .int a2] h = (
  cI (call d 166 [.int a0, .int (0 : Int32), .int (5 : Int32)] h) fun x2 h1 =>
  if x2 = (0 : Int32) then
  (zr none (0 : Int32) (some (some (.int (0 : Int32)), h1)))
  else
  (cI (call d 166 [.int a1, .int (0 : Int32), .int (4095 : Int32)] h1) fun x4 h3 =>
  if x4 = (0 : Int32) then
  (zr none (0 : Int32) (some (some (.int (0 : Int32)), h3)))
  else
  (cI (call d 166 [.int a2, .int (0 : Int32), .int (9 : Int32)] h3) fun x6 h5 =>
  if x6 = (0 : Int32) then
  (zr none (0 : Int32) (some (some (.int (0 : Int32)), h5)))
  else
  (zr none (1 : Int32) (some (some (.int (1 : Int32)), h5)))))) :=
  (call_unr p_196 rfl o_196 rfl [] 29 _ rfl h).trans rfl

theorem p_197 : prg 197 = (k_197, 4) := rfl
theorem o_197 : okc k_197 = true := by decide +kernel
set_option maxRecDepth 100000 in
theorem e_197 (d : Nat) (a0 : Nat) (a1 : Int32) (a2 : Int32) (a3 : Int32) (h : MHeap) : call (d + 1) 197 [.ref a0, .int a1, .int a2, .int a3] h = (
  cI (call d 196 [.int a1, .int a2, .int a3] h) fun x2 h1 =>
  if x2 = (0 : Int32) then
  (some (some (.int (-2 : Int32)), h1))
  else
  (gfI none h1 a0 [12] 3 fun x3 =>
  if x3 = (7 : Int32) then
  (some (some (.int (-4 : Int32)), h1))
  else
  (gfV none h1 a0 [12] 4 fun v4 =>
  gfI none h1 a0 [12] 3 fun x5 =>
  dR none v4 fun o7 =>
  asI none h1 o7 x5 a1 fun h6 =>
  gfV none h6 a0 [12] 5 fun v8 =>
  gfI none h6 a0 [12] 3 fun x9 =>
  dR none v8 fun o11 =>
  asI none h6 o11 x9 a2 fun h10 =>
  gfV none h10 a0 [12] 6 fun v12 =>
  gfI none h10 a0 [12] 3 fun x13 =>
  dR none v12 fun o15 =>
  asI none h10 o15 x13 a3 fun h14 =>
  gfI none h14 a0 [12] 3 fun x16 =>
  pfI none h14 a0 [12] 3 (x16 + (1 : Int32)) fun h17 =>
  gfI none h17 a0 [12] 3 fun x18 =>
  some (some (.int (x18 - (1 : Int32))), h17)))) :=
  (call_unr p_197 rfl o_197 rfl [] 47 _ rfl h).trans rfl

theorem p_198 : prg 198 = (k_198, 1) := rfl
theorem o_198 : okc k_198 = true := by decide +kernel
set_option maxRecDepth 100000 in
theorem e_198 (d : Nat) (a0 : Nat) (h : MHeap) : call (d + 1) 198 [.ref a0] h = (
  gfI none h a0 [12] 3 fun x1 =>
  if x1 = (0 : Int32) then
  (some (some (.int (-3 : Int32)), h))
  else
  (gfI none h a0 [12] 3 fun x2 =>
  pfI none h a0 [12] 3 (x2 - (1 : Int32)) fun h3 =>
  gfI none h3 a0 [12] 13 fun x4 =>
  if x4 = (0 : Int32) then
  (zr none (0 : Int32) <|
  pfI none h3 a0 [12] 13 (0 : Int32) fun h5 =>
  gfI none h5 a0 [12] 3 fun x6 =>
  some (some (.int x6), h5))
  else
  (gfI none h3 a0 [12] 17 fun x7 =>
  gfI none h3 a0 [12] 3 fun x8 =>
  if x8 < x7 then
  (zr none (0 : Int32) <|
  pfI none h3 a0 [12] 13 (0 : Int32) fun h9 =>
  gfI none h9 a0 [12] 3 fun x10 =>
  some (some (.int x10), h9))
  else
  (zr none (1 : Int32) <|
  pfI none h3 a0 [12] 13 (1 : Int32) fun h11 =>
  gfI none h11 a0 [12] 3 fun x12 =>
  some (some (.int x12), h11))))) :=
  (call_unr p_198 rfl o_198 rfl [] 41 _ rfl h).trans rfl

theorem p_199 : prg 199 = (k_199, 5) := rfl
theorem o_199 : okc k_199 = true := by decide +kernel
set_option maxRecDepth 100000 in
theorem e_199 (d : Nat) (a0 : Nat) (a1 : Int32) (a2 : Int32) (h : MHeap) : call (d + 1) 199 [.ref a0, .int a1, .int a2] h = (
  gfV none h a0 [12] 5 fun v1 =>
  dR none v1 fun o3 =>
  alI none h o3 a1 fun x2 =>
  if ((x2 >>> (a2 &&& 31)) &&& (1 : Int32)) = (1 : Int32) then
  (gfV none h a0 [12] 6 fun v4 =>
  dR none v4 fun o6 =>
  alI none h o6 a1 fun x5 =>
  dv none (4 : Int32) <|
  if ((a2 >>> ((x5 - x5 / (4 : Int32) * (4 : Int32)) &&& 31)) &&& (1 : Int32)) = (1 : Int32) then
  (ex d 199 41 [sv (.ref a0), sv (.int a1), sv (.int a2), sv (.int (1 : Int32)), none] [.int (1 : Int32)] h)
  else
  (ex d 199 41 [sv (.ref a0), sv (.int a1), sv (.int a2), sv (.int (1 : Int32)), none] [.int (0 : Int32)] h))
  else
  (gfV none h a0 [12] 6 fun v7 =>
  dR none v7 fun o9 =>
  alI none h o9 a1 fun x8 =>
  dv none (4 : Int32) <|
  if ((a2 >>> ((x8 - x8 / (4 : Int32) * (4 : Int32)) &&& 31)) &&& (1 : Int32)) = (1 : Int32) then
  (ex d 199 41 [sv (.ref a0), sv (.int a1), sv (.int a2), sv (.int (0 : Int32)), none] [.int (1 : Int32)] h)
  else
  (ex d 199 41 [sv (.ref a0), sv (.int a1), sv (.int a2), sv (.int (0 : Int32)), none] [.int (0 : Int32)] h))) :=
  (call_unr p_199 rfl o_199 rfl [41, 104, 128, 140] 50 _ rfl h).trans rfl
set_option maxRecDepth 100000 in
theorem e_199_41 (d : Nat) (a0 : Nat) (a1 : Int32) (a2 : Int32) (a3 : Int32) (s0 : Int32) (h : MHeap) : ex d 199 41 [sv (.ref a0), sv (.int a1), sv (.int a2), sv (.int a3), none] [.int s0] h = (
  gfV none h a0 [12] 4 fun v1 =>
  dR none v1 fun o3 =>
  alI none h o3 a1 fun x2 =>
  if x2 = (1 : Int32) then
  (gfI none h a0 [12] 1 fun x4 =>
  dv none x4 <|
  gfV none h a0 [12] 6 fun v5 =>
  dR none v5 fun o7 =>
  alI none h o7 a1 fun x6 =>
  if (a2 / x4) = x6 then
  (ex d 199 104 [sv (.ref a0), sv (.int a1), sv (.int a2), sv (.int a3), sv (.int s0)] [.int (1 : Int32)] h)
  else
  (ex d 199 104 [sv (.ref a0), sv (.int a1), sv (.int a2), sv (.int a3), sv (.int s0)] [.int (0 : Int32)] h))
  else
  (if x2 = (2 : Int32) then
  (zr none s0 (some (some (.int s0), h)))
  else
  (if x2 = (3 : Int32) then
  (gfI none h a0 [12] 1 fun x8 =>
  dv none x8 <|
  gfV none h a0 [12] 6 fun v9 =>
  dR none v9 fun o11 =>
  alI none h o11 a1 fun x10 =>
  if (a2 - a2 / x8 * x8) = x10 then
  (ex d 199 128 [sv (.ref a0), sv (.int a1), sv (.int a2), sv (.int a3), sv (.int s0)] [.int (1 : Int32)] h)
  else
  (ex d 199 128 [sv (.ref a0), sv (.int a1), sv (.int a2), sv (.int a3), sv (.int s0)] [.int (0 : Int32)] h))
  else
  (if x2 = (4 : Int32) then
  (zr none a3 (some (some (.int a3), h)))
  else
  (if x2 = (5 : Int32) then
  (if s0 = a3 then
  (ex d 199 140 [sv (.ref a0), sv (.int a1), sv (.int a2), sv (.int a3), sv (.int s0)] [.int (0 : Int32)] h)
  else
  (ex d 199 140 [sv (.ref a0), sv (.int a1), sv (.int a2), sv (.int a3), sv (.int s0)] [.int (1 : Int32)] h))
  else
  (zr none a3 (some (some (.int a3), h)))))))) :=
  (ex_unr p_199 o_199 [41, 104, 128, 140] 47 rfl _ _ h).trans rfl
set_option maxRecDepth 100000 in
theorem e_199_104 (d : Nat) (a0 : Nat) (a1 : Int32) (a2 : Int32) (a3 : Int32) (a4 : Int32) (s0 : Int32) (h : MHeap) : ex d 199 104 [sv (.ref a0), sv (.int a1), sv (.int a2), sv (.int a3), sv (.int a4)] [.int s0] h = (
  zr none s0 (some (some (.int s0), h))) :=
  (ex_unr p_199 o_199 [41, 104, 128, 140] 6 rfl _ _ h).trans rfl
set_option maxRecDepth 100000 in
theorem e_199_128 (d : Nat) (a0 : Nat) (a1 : Int32) (a2 : Int32) (a3 : Int32) (a4 : Int32) (s0 : Int32) (h : MHeap) : ex d 199 128 [sv (.ref a0), sv (.int a1), sv (.int a2), sv (.int a3), sv (.int a4)] [.int s0] h = (
  zr none s0 (some (some (.int s0), h))) :=
  (ex_unr p_199 o_199 [41, 104, 128, 140] 6 rfl _ _ h).trans rfl
set_option maxRecDepth 100000 in
theorem e_199_140 (d : Nat) (a0 : Nat) (a1 : Int32) (a2 : Int32) (a3 : Int32) (a4 : Int32) (s0 : Int32) (h : MHeap) : ex d 199 140 [sv (.ref a0), sv (.int a1), sv (.int a2), sv (.int a3), sv (.int a4)] [.int s0] h = (
  zr none s0 (some (some (.int s0), h))) :=
  (ex_unr p_199 o_199 [41, 104, 128, 140] 6 rfl _ _ h).trans rfl

theorem p_200 : prg 200 = (k_200, 4) := rfl
theorem o_200 : okc k_200 = true := by decide +kernel
set_option maxRecDepth 100000 in
theorem e_200 (d : Nat) (a0 : Nat) (a1 : Int32) (h : MHeap) : call (d + 1) 200 [.ref a0, .int a1] h = (
  ex d 200 4 [sv (.ref a0), sv (.int a1), sv (.int (0 : Int32)), sv (.int (0 : Int32))] [] h) :=
  (call_unr p_200 rfl o_200 rfl [4] 9 _ rfl h).trans rfl
set_option maxRecDepth 100000 in
theorem e_200_4 (d : Nat) (a0 : Nat) (a1 : Int32) (a2 : Int32) (a3 : Int32) (h : MHeap) : ex d 200 4 [sv (.ref a0), sv (.int a1), sv (.int a2), sv (.int a3)] [] h = (
  gfI none h a0 [12] 0 fun x1 =>
  if a3 < x1 then
  (vd none h a0 [12, 199] fun m2 =>
  cI (call d m2 [.ref a0, .int a1, .int a3] h) fun x4 h3 =>
  if x4 = (0 : Int32) then
  (ex d 200 4 [sv (.ref a0), sv (.int a1), sv (.int (a2 ||| (0 : Int32))), sv (.int (a3 + (1 : Int32)))] [] h3)
  else
  (ex d 200 4 [sv (.ref a0), sv (.int a1), sv (.int (a2 ||| ((1 : Int32) <<< (a3 &&& 31)))), sv (.int (a3 + (1 : Int32)))] [] h3))
  else
  (some (some (.int a2), h))) :=
  (ex_unr p_200 o_200 [4] 30 rfl _ _ h).trans rfl

theorem p_201 : prg 201 = (k_201, 6) := rfl
theorem o_201 : okc k_201 = true := by decide +kernel
set_option maxRecDepth 100000 in
theorem e_201 (d : Nat) (a0 : Nat) (a1 : Int32) (a2 : Int32) (a3 : Int32) (h : MHeap) : call (d + 1) 201 [.ref a0, .int a1, .int a2, .int a3] h = (
  ex d 201 6 [sv (.ref a0), sv (.int a1), sv (.int a2), sv (.int a3), sv (.int (0 : Int32)), sv (.int (0 : Int32))] [] h) :=
  (call_unr p_201 rfl o_201 rfl [6] 9 _ rfl h).trans rfl
set_option maxRecDepth 100000 in
theorem e_201_6 (d : Nat) (a0 : Nat) (a1 : Int32) (a2 : Int32) (a3 : Int32) (a4 : Int32) (a5 : Int32) (h : MHeap) : ex d 201 6 [sv (.ref a0), sv (.int a1), sv (.int a2), sv (.int a3), sv (.int a4), sv (.int a5)] [] h = (
  gfI none h a0 [12] 0 fun x1 =>
  if a5 < x1 then
  (gfV none h a0 [12] 4 fun v2 =>
  dR none v2 fun o4 =>
  alI none h o4 a1 fun x3 =>
  if x3 = (4 : Int32) then
  (if (((a2 &&& a3) >>> (a5 &&& 31)) &&& (1 : Int32)) = (1 : Int32) then
  (ex d 201 6 [sv (.ref a0), sv (.int a1), sv (.int a2), sv (.int a3), sv (.int ((a4 + (((a2 &&& a3) >>> (a5 &&& 31)) &&& (1 : Int32))) + a5)), sv (.int (a5 + (1 : Int32)))] [] h)
  else
  (ex d 201 6 [sv (.ref a0), sv (.int a1), sv (.int a2), sv (.int a3), sv (.int ((a4 + (((a2 &&& a3) >>> (a5 &&& 31)) &&& (1 : Int32))) + (0 : Int32))), sv (.int (a5 + (1 : Int32)))] [] h))
  else
  (ex d 201 6 [sv (.ref a0), sv (.int a1), sv (.int a2), sv (.int a3), sv (.int ((a4 + (((a2 &&& a3) >>> (a5 &&& 31)) &&& (1 : Int32))) + (0 : Int32))), sv (.int (a5 + (1 : Int32)))] [] h))
  else
  (gfV none h a0 [12] 4 fun v5 =>
  dR none v5 fun o7 =>
  alI none h o7 a1 fun x6 =>
  if x6 = (4 : Int32) then
  (gfV none h a0 [12] 6 fun v8 =>
  dR none v8 fun o10 =>
  alI none h o10 a1 fun x9 =>
  dv none (x9 + (2 : Int32)) <|
  gfV none h a0 [12] 4 fun v11 =>
  dR none v11 fun o13 =>
  alI none h o13 a1 fun x12 =>
  if x12 = (5 : Int32) then
  (some (some (.int ((1 : Int32) - (a4 - a4 / (x9 + (2 : Int32)) * (x9 + (2 : Int32))))), h))
  else
  (some (some (.int (a4 - a4 / (x9 + (2 : Int32)) * (x9 + (2 : Int32)))), h)))
  else
  (dv none (2 : Int32) <|
  gfV none h a0 [12] 4 fun v14 =>
  dR none v14 fun o16 =>
  alI none h o16 a1 fun x15 =>
  if x15 = (5 : Int32) then
  (some (some (.int ((1 : Int32) - (a4 - a4 / (2 : Int32) * (2 : Int32)))), h))
  else
  (some (some (.int (a4 - a4 / (2 : Int32) * (2 : Int32))), h))))) :=
  (ex_unr p_201 o_201 [6] 96 rfl _ _ h).trans rfl

theorem p_202 : prg 202 = (k_202, 4) := rfl
theorem o_202 : okc k_202 = true := by decide +kernel
set_option maxRecDepth 100000 in
theorem e_202 (d : Nat) (a0 : Nat) (a1 : Int32) (h : MHeap) : call (d + 1) 202 [.ref a0, .int a1] h = (
  ex d 202 4 [sv (.ref a0), sv (.int a1), sv (.int (0 : Int32)), sv (.int (0 : Int32))] [] h) :=
  (call_unr p_202 rfl o_202 rfl [4] 9 _ rfl h).trans rfl
set_option maxRecDepth 100000 in
theorem e_202_4 (d : Nat) (a0 : Nat) (a1 : Int32) (a2 : Int32) (a3 : Int32) (h : MHeap) : ex d 202 4 [sv (.ref a0), sv (.int a1), sv (.int a2), sv (.int a3)] [] h = (
  gfI none h a0 [12] 3 fun x1 =>
  if a3 < x1 then
  (vd none h a0 [12, 200] fun m2 =>
  cI (call d m2 [.ref a0, .int a3] h) fun x4 h3 =>
  vd none h3 a0 [12, 201] fun m5 =>
  cI (call d m5 [.ref a0, .int a3, .int x4, .int a1] h3) fun x7 h6 =>
  ex d 202 4 [sv (.ref a0), sv (.int a1), sv (.int (a2 ||| (x7 <<< (((4 : Int32) * a3) &&& 31)))), sv (.int (a3 + (1 : Int32)))] [] h6)
  else
  (some (some (.int a2), h))) :=
  (ex_unr p_202 o_202 [4] 27 rfl _ _ h).trans rfl

theorem p_203 : prg 203 = (k_203, 2) := rfl
theorem o_203 : okc k_203 = true := by decide +kernel
set_option maxRecDepth 100000 in
theorem e_203 (d : Nat) (a0 : Nat) (h : MHeap) : call (d + 1) 203 [.ref a0] h = (
  ex d 203 2 [sv (.ref a0), sv (.int (0 : Int32))] [] h) :=
  (call_unr p_203 rfl o_203 rfl [2] 7 _ rfl h).trans rfl
set_option maxRecDepth 100000 in
theorem e_203_2 (d : Nat) (a0 : Nat) (a1 : Int32) (h : MHeap) : ex d 203 2 [sv (.ref a0), sv (.int a1)] [] h = (
  gfI none h a0 [12] 3 fun x1 =>
  if a1 < x1 then
  (gfV none h a0 [12] 34 fun v2 =>
  vd none h a0 [12, 200] fun m3 =>
  cI (call d m3 [.ref a0, .int a1] h) fun x5 h4 =>
  dR none v2 fun o7 =>
  asI none h4 o7 a1 x5 fun h6 =>
  ex d 203 2 [sv (.ref a0), sv (.int (a1 + (1 : Int32)))] [] h6)
  else
  (some (none, h))) :=
  (ex_unr p_203 o_203 [2] 19 rfl _ _ h).trans rfl

theorem p_204 : prg 204 = (k_204, 4) := rfl
theorem o_204 : okc k_204 = true := by decide +kernel
set_option maxRecDepth 100000 in
theorem e_204 (d : Nat) (a0 : Nat) (a1 : Int32) (h : MHeap) : call (d + 1) 204 [.ref a0, .int a1] h = (
  ex d 204 4 [sv (.ref a0), sv (.int a1), sv (.int (0 : Int32)), sv (.int (0 : Int32))] [] h) :=
  (call_unr p_204 rfl o_204 rfl [4] 9 _ rfl h).trans rfl
set_option maxRecDepth 100000 in
theorem e_204_4 (d : Nat) (a0 : Nat) (a1 : Int32) (a2 : Int32) (a3 : Int32) (h : MHeap) : ex d 204 4 [sv (.ref a0), sv (.int a1), sv (.int a2), sv (.int a3)] [] h = (
  gfI none h a0 [12] 3 fun x1 =>
  if a3 < x1 then
  (gfV none h a0 [12] 34 fun v2 =>
  dR none v2 fun o4 =>
  alI none h o4 a3 fun x3 =>
  vd none h a0 [12, 201] fun m5 =>
  cI (call d m5 [.ref a0, .int a3, .int x3, .int a1] h) fun x7 h6 =>
  ex d 204 4 [sv (.ref a0), sv (.int a1), sv (.int (a2 ||| (x7 <<< (((4 : Int32) * a3) &&& 31)))), sv (.int (a3 + (1 : Int32)))] [] h6)
  else
  (some (some (.int a2), h))) :=
  (ex_unr p_204 o_204 [4] 28 rfl _ _ h).trans rfl

theorem p_205 : prg 205 = (k_205, 4) := rfl
theorem o_205 : okc k_205 = true := by decide +kernel
set_option maxRecDepth 100000 in
theorem e_205 (d : Nat) (a0 : Nat) (a1 : Int32) (h : MHeap) : call (d + 1) 205 [.ref a0, .int a1] h = (
  ex d 205 4 [sv (.ref a0), sv (.int a1), sv (.int (0 : Int32)), sv (.int (0 : Int32))] [] h) :=
  (call_unr p_205 rfl o_205 rfl [4] 9 _ rfl h).trans rfl
set_option maxRecDepth 100000 in
theorem e_205_4 (d : Nat) (a0 : Nat) (a1 : Int32) (a2 : Int32) (a3 : Int32) (h : MHeap) : ex d 205 4 [sv (.ref a0), sv (.int a1), sv (.int a2), sv (.int a3)] [] h = (
  gfI none h a0 [12] 3 fun x1 =>
  if a3 < x1 then
  (if ((a1 >>> (((4 : Int32) * a3) &&& 31)) &&& (15 : Int32)) = (0 : Int32) then
  (ex d 205 4 [sv (.ref a0), sv (.int a1), sv (.int (a2 + (0 : Int32))), sv (.int (a3 + (1 : Int32)))] [] h)
  else
  (ex d 205 4 [sv (.ref a0), sv (.int a1), sv (.int (a2 + (1 : Int32))), sv (.int (a3 + (1 : Int32)))] [] h))
  else
  (some (some (.int a2), h))) :=
  (ex_unr p_205 o_205 [4] 31 rfl _ _ h).trans rfl

theorem p_206 : prg 206 = (k_206, 3) := rfl
theorem o_206 : okc k_206 = true := by decide +kernel
set_option maxRecDepth 100000 in
theorem e_206 (d : Nat) (a0 : Nat) (a1 : Int32) (a2 : Int32) (h : MHeap) : call (d + 1) 206 [.ref a0, .int a1, .int a2] h = (
  vd none h a0 [12, 170] fun m1 =>
  cI (call d m1 [.ref a0, .int a1] h) fun x3 h2 =>
  if x3 = (0 : Int32) then
  (some (some (.int (-5 : Int32)), h2))
  else
  (if a2 = (0 : Int32) then
  (gfV none h2 a0 [12] 4 fun v4 =>
  dR none v4 fun o6 =>
  alI none h2 o6 a1 fun x5 =>
  some (some (.int x5), h2))
  else
  (if a2 = (1 : Int32) then
  (gfV none h2 a0 [12] 5 fun v7 =>
  dR none v7 fun o9 =>
  alI none h2 o9 a1 fun x8 =>
  some (some (.int x8), h2))
  else
  (if a2 = (2 : Int32) then
  (gfV none h2 a0 [12] 6 fun v10 =>
  dR none v10 fun o12 =>
  alI none h2 o12 a1 fun x11 =>
  some (some (.int x11), h2))
  else
  (if a2 = (3 : Int32) then
  (vd none h2 a0 [12, 200] fun m13 =>
  cI (call d m13 [.ref a0, .int a1] h2) fun x15 h14 =>
  some (some (.int x15), h14))
  else
  (if a2 = (4 : Int32) then
  (vd none h2 a0 [12, 200] fun m16 =>
  cI (call d m16 [.ref a0, .int a1] h2) fun x18 h17 =>
  gfI none h17 a0 [12] 2 fun x19 =>
  vd none h17 a0 [12, 201] fun m20 =>
  cI (call d m20 [.ref a0, .int a1, .int x18, .int x19] h17) fun x22 h21 =>
  some (some (.int x22), h21))
  else
  (some (some (.int (-7 : Int32)), h2)))))))) :=
  (call_unr p_206 rfl o_206 rfl [] 43 _ rfl h).trans rfl

theorem p_207 : prg 207 = (k_207, 5) := rfl
theorem o_207 : okc k_207 = true := by decide +kernel
set_option maxRecDepth 100000 in
theorem e_207 (d : Nat) (a0 : Nat) (a1 : Int32) (h : MHeap) : call (d + 1) 207 [.ref a0, .int a1] h = (
  cI (call d 166 [.int a1, .int (0 : Int32), .int (2 : Int32)] h) fun x2 h1 =>
  if x2 = (0 : Int32) then
  (some (some (.int (-2 : Int32)), h1))
  else
  (gfI none h1 a0 [12] 2 fun x3 =>
  vd none h1 a0 [12, 202] fun m4 =>
  cI (call d m4 [.ref a0, .int x3] h1) fun x6 h5 =>
  ex d 207 26 [sv (.ref a0), sv (.int a1), sv (.int x6), sv (.int (0 : Int32)), sv (.int (0 : Int32))] [] h5)) :=
  (call_unr p_207 rfl o_207 rfl [26] 21 _ rfl h).trans rfl
set_option maxRecDepth 100000 in
theorem e_207_26 (d : Nat) (a0 : Nat) (a1 : Int32) (a2 : Int32) (a3 : Int32) (a4 : Int32) (h : MHeap) : ex d 207 26 [sv (.ref a0), sv (.int a1), sv (.int a2), sv (.int a3), sv (.int a4)] [] h = (
  gfI none h a0 [12] 3 fun x1 =>
  if a4 < x1 then
  (if ((a2 >>> (((4 : Int32) * a4) &&& 31)) &&& (15 : Int32)) = (0 : Int32) then
  (ex d 207 26 [sv (.ref a0), sv (.int a1), sv (.int a2), sv (.int (a3 ||| (0 : Int32))), sv (.int (a4 + (1 : Int32)))] [] h)
  else
  (ex d 207 26 [sv (.ref a0), sv (.int a1), sv (.int a2), sv (.int (a3 ||| ((1 : Int32) <<< (a4 &&& 31)))), sv (.int (a4 + (1 : Int32)))] [] h))
  else
  (if a1 = (0 : Int32) then
  (some (some (.int a2), h))
  else
  (if a1 = (1 : Int32) then
  (some (some (.int a3), h))
  else
  (vd none h a0 [12, 205] fun m2 =>
  cI (call d m2 [.ref a0, .int a2] h) fun x4 h3 =>
  some (some (.int x4), h3))))) :=
  (ex_unr p_207 o_207 [26] 46 rfl _ _ h).trans rfl

theorem p_208 : prg 208 = (k_208, 2) := rfl
theorem o_208 : okc k_208 = true := by decide +kernel
set_option maxRecDepth 100000 in
theorem e_208 (d : Nat) (a0 : Nat) (a1 : Int32) (h : MHeap) : call (d + 1) 208 [.ref a0, .int a1] h = (
  vd none h a0 [12, 172] fun m1 =>
  cI (call d m1 [.ref a0, .int a1] h) fun x3 h2 =>
  if x3 = (0 : Int32) then
  (some (some (.int (-2 : Int32)), h2))
  else
  (gfI none h2 a0 [12] 2 fun x4 =>
  vd none h2 a0 [12, 202] fun m5 =>
  cI (call d m5 [.ref a0, .int (x4 ^^^ a1)] h2) fun x7 h6 =>
  some (some (.int x7), h6))) :=
  (call_unr p_208 rfl o_208 rfl [] 19 _ rfl h).trans rfl

theorem p_209 : prg 209 = (k_209, 2) := rfl
theorem o_209 : okc k_209 = true := by decide +kernel
set_option maxRecDepth 100000 in
theorem e_209 (d : Nat) (a0 : Nat) (a1 : Int32) (h : MHeap) : call (d + 1) 209 [.ref a0, .int a1] h = (
  vd none h a0 [12, 204] fun m1 =>
  cI (call d m1 [.ref a0, .int a1] h) fun x3 h2 =>
  if x3 = (0 : Int32) then
  (zr none (1 : Int32) (some (some (.int (1 : Int32)), h2)))
  else
  (zr none (0 : Int32) (some (some (.int (0 : Int32)), h2)))) :=
  (call_unr p_209 rfl o_209 rfl [] 14 _ rfl h).trans rfl

theorem p_210 : prg 210 = (k_210, 4) := rfl
theorem o_210 : okc k_210 = true := by decide +kernel
set_option maxRecDepth 100000 in
theorem e_210 (d : Nat) (a0 : Nat) (a1 : Int32) (h : MHeap) : call (d + 1) 210 [.ref a0, .int a1] h = (
  ex d 210 4 [sv (.ref a0), sv (.int a1), sv (.int (0 : Int32)), sv (.int (0 : Int32))] [] h) :=
  (call_unr p_210 rfl o_210 rfl [4] 9 _ rfl h).trans rfl
set_option maxRecDepth 100000 in
theorem e_210_4 (d : Nat) (a0 : Nat) (a1 : Int32) (a2 : Int32) (a3 : Int32) (h : MHeap) : ex d 210 4 [sv (.ref a0), sv (.int a1), sv (.int a2), sv (.int a3)] [] h = (
  gfI none h a0 [12] 0 fun x1 =>
  if a3 < x1 then
  (vd none h a0 [12, 209] fun m2 =>
  cI (call d m2 [.ref a0, .int (a1 ^^^ ((1 : Int32) <<< (a3 &&& 31)))] h) fun x4 h3 =>
  if x4 = (0 : Int32) then
  (ex d 210 4 [sv (.ref a0), sv (.int a1), sv (.int (a2 ||| (0 : Int32))), sv (.int (a3 + (1 : Int32)))] [] h3)
  else
  (ex d 210 4 [sv (.ref a0), sv (.int a1), sv (.int (a2 ||| ((1 : Int32) <<< (a3 &&& 31)))), sv (.int (a3 + (1 : Int32)))] [] h3))
  else
  (some (some (.int a2), h))) :=
  (ex_unr p_210 o_210 [4] 33 rfl _ _ h).trans rfl

theorem p_211 : prg 211 = (k_211, 1) := rfl
theorem o_211 : okc k_211 = true := by decide +kernel
set_option maxRecDepth 100000 in
theorem e_211 (d : Nat) (a0 : Nat) (h : MHeap) : call (d + 1) 211 [.ref a0] h = (
  vd none h a0 [12, 203] fun m1 =>
  cV (call d m1 [.ref a0] h) fun h2 =>
  gfI none h2 a0 [12] 2 fun x3 =>
  vd none h2 a0 [12, 210] fun m4 =>
  cI (call d m4 [.ref a0, .int x3] h2) fun x6 h5 =>
  some (some (.int x6), h5)) :=
  (call_unr p_211 rfl o_211 rfl [] 12 _ rfl h).trans rfl

theorem p_212 : prg 212 = (k_212, 6) := rfl
theorem o_212 : okc k_212 = true := by decide +kernel
set_option maxRecDepth 100000 in
theorem e_212 (d : Nat) (a0 : Nat) (a1 : Int32) (h : MHeap) : call (d + 1) 212 [.ref a0, .int a1] h = (
  cI (call d 166 [.int a1, .int (0 : Int32), .int (1 : Int32)] h) fun x2 h1 =>
  if x2 = (0 : Int32) then
  (some (some (.int (-2 : Int32)), h1))
  else
  (vd none h1 a0 [12, 203] fun m3 =>
  cV (call d m3 [.ref a0] h1) fun h4 =>
  ex d 212 23 [sv (.ref a0), sv (.int a1), sv (.int (0 : Int32)), sv (.int (-1 : Int32)), sv (.int (0 : Int32)), none] [] h4)) :=
  (call_unr p_212 rfl o_212 rfl [23, 38] 20 _ rfl h).trans rfl
set_option maxRecDepth 100000 in
theorem e_212_23 (d : Nat) (a0 : Nat) (a1 : Int32) (a2 : Int32) (a3 : Int32) (a4 : Int32) (a5 : MSl) (h : MHeap) : ex d 212 23 [sv (.ref a0), sv (.int a1), sv (.int a2), sv (.int a3), sv (.int a4), a5] [] h = (
  gfI none h a0 [12] 0 fun x1 =>
  if a4 < x1 then
  (ex d 212 38 [sv (.ref a0), sv (.int a1), sv (.int a2), sv (.int a3), sv (.int a4), sv (.int (a4 + (1 : Int32)))] [] h)
  else
  (if a1 = (0 : Int32) then
  (some (some (.int a2), h))
  else
  (some (some (.int a3), h)))) :=
  (ex_unr p_212 o_212 [23, 38] 20 rfl _ _ h).trans rfl
set_option maxRecDepth 100000 in
theorem e_212_38 (d : Nat) (a0 : Nat) (a1 : Int32) (a2 : Int32) (a3 : Int32) (a4 : Int32) (a5 : Int32) (h : MHeap) : ex d 212 38 [sv (.ref a0), sv (.int a1), sv (.int a2), sv (.int a3), sv (.int a4), sv (.int a5)] [] h = (
  gfI none h a0 [12] 0 fun x1 =>
  if a5 < x1 then
  (gfI none h a0 [12] 2 fun x2 =>
  vd none h a0 [12, 209] fun m3 =>
  cI (call d m3 [.ref a0, .int (x2 ^^^ (((1 : Int32) <<< (a4 &&& 31)) ||| ((1 : Int32) <<< (a5 &&& 31))))] h) fun x5 h4 =>
  if x5 = (0 : Int32) then
  (ex d 212 38 [sv (.ref a0), sv (.int a1), sv (.int a2), sv (.int a3), sv (.int a4), sv (.int (a5 + (1 : Int32)))] [] h4)
  else
  (if a3 = (-1 : Int32) then
  (ex d 212 38 [sv (.ref a0), sv (.int a1), sv (.int (a2 + (1 : Int32))), sv (.int (((100 : Int32) * a4) + a5)), sv (.int a4), sv (.int (a5 + (1 : Int32)))] [] h4)
  else
  (ex d 212 38 [sv (.ref a0), sv (.int a1), sv (.int (a2 + (1 : Int32))), sv (.int a3), sv (.int a4), sv (.int (a5 + (1 : Int32)))] [] h4)))
  else
  (ex d 212 23 [sv (.ref a0), sv (.int a1), sv (.int a2), sv (.int a3), sv (.int (a4 + (1 : Int32))), sv (.int a5)] [] h)) :=
  (ex_unr p_212 o_212 [23, 38] 43 rfl _ _ h).trans rfl

theorem p_213 : prg 213 = (k_213, 5) := rfl
theorem o_213 : okc k_213 = true := by decide +kernel
set_option maxRecDepth 100000 in
theorem e_213 (d : Nat) (a0 : Nat) (a1 : Int32) (h : MHeap) : call (d + 1) 213 [.ref a0, .int a1] h = (
  cI (call d 166 [.int a1, .int (0 : Int32), .int (12 : Int32)] h) fun x2 h1 =>
  if x2 = (0 : Int32) then
  (some (some (.int (-2 : Int32)), h1))
  else
  (vd none h1 a0 [12, 203] fun m3 =>
  cV (call d m3 [.ref a0] h1) fun h4 =>
  gfI none h4 a0 [12] 2 fun x5 =>
  vd none h4 a0 [12, 204] fun m6 =>
  cI (call d m6 [.ref a0, .int x5] h4) fun x8 h7 =>
  ex d 213 31 [sv (.ref a0), sv (.int a1), sv (.int x8), sv (.int (0 : Int32)), sv (.int (0 : Int32))] [] h7)) :=
  (call_unr p_213 rfl o_213 rfl [31] 23 _ rfl h).trans rfl
set_option maxRecDepth 100000 in
theorem e_213_31 (d : Nat) (a0 : Nat) (a1 : Int32) (a2 : Int32) (a3 : Int32) (a4 : Int32) (h : MHeap) : ex d 213 31 [sv (.ref a0), sv (.int a1), sv (.int a2), sv (.int a3), sv (.int a4)] [] h = (
  vd none h a0 [12, 171] fun m1 =>
  cI (call d m1 [.ref a0] h) fun x3 h2 =>
  if x3 < a4 then
  (some (some (.int a3), h2))
  else
  (cI (call d 168 [.int a4] h2) fun x5 h4 =>
  if x5 = a1 then
  (gfI none h4 a0 [12] 2 fun x6 =>
  vd none h4 a0 [12, 204] fun m7 =>
  cI (call d m7 [.ref a0, .int (x6 ^^^ a4)] h4) fun x9 h8 =>
  if x9 = a2 then
  (ex d 213 31 [sv (.ref a0), sv (.int a1), sv (.int a2), sv (.int (a3 + (1 : Int32))), sv (.int (a4 + (1 : Int32)))] [] h8)
  else
  (ex d 213 31 [sv (.ref a0), sv (.int a1), sv (.int a2), sv (.int (a3 + (0 : Int32))), sv (.int (a4 + (1 : Int32)))] [] h8))
  else
  (ex d 213 31 [sv (.ref a0), sv (.int a1), sv (.int a2), sv (.int (a3 + (0 : Int32))), sv (.int (a4 + (1 : Int32)))] [] h4))) :=
  (ex_unr p_213 o_213 [31] 40 rfl _ _ h).trans rfl

theorem p_214 : prg 214 = (k_214, 5) := rfl
theorem o_214 : okc k_214 = true := by decide +kernel
set_option maxRecDepth 100000 in
theorem e_214 (d : Nat) (a0 : Nat) (a1 : Int32) (h : MHeap) : call (d + 1) 214 [.ref a0, .int a1] h = (
  cI (call d 166 [.int a1, .int (0 : Int32), .int (1 : Int32)] h) fun x2 h1 =>
  if x2 = (0 : Int32) then
  (some (some (.int (-2 : Int32)), h1))
  else
  (vd none h1 a0 [12, 203] fun m3 =>
  cV (call d m3 [.ref a0] h1) fun h4 =>
  gfI none h4 a0 [12] 2 fun x5 =>
  vd none h4 a0 [12, 204] fun m6 =>
  cI (call d m6 [.ref a0, .int x5] h4) fun x8 h7 =>
  ex d 214 30 [sv (.ref a0), sv (.int a1), sv (.int x8), sv (.int (-1 : Int32)), sv (.int (1 : Int32))] [] h7)) :=
  (call_unr p_214 rfl o_214 rfl [30] 23 _ rfl h).trans rfl
set_option maxRecDepth 100000 in
theorem e_214_30 (d : Nat) (a0 : Nat) (a1 : Int32) (a2 : Int32) (a3 : Int32) (a4 : Int32) (h : MHeap) : ex d 214 30 [sv (.ref a0), sv (.int a1), sv (.int a2), sv (.int a3), sv (.int a4)] [] h = (
  vd none h a0 [12, 171] fun m1 =>
  cI (call d m1 [.ref a0] h) fun x3 h2 =>
  if x3 < a4 then
  (if a1 = (1 : Int32) then
  (some (some (.int a3), h2))
  else
  (if a3 = (-1 : Int32) then
  (some (some (.int a3), h2))
  else
  (cI (call d 168 [.int a3] h2) fun x5 h4 =>
  some (some (.int x5), h4))))
  else
  (if a3 = (-1 : Int32) then
  (gfI none h2 a0 [12] 2 fun x6 =>
  vd none h2 a0 [12, 204] fun m7 =>
  cI (call d m7 [.ref a0, .int (x6 ^^^ a4)] h2) fun x9 h8 =>
  if x9 = a2 then
  (ex d 214 30 [sv (.ref a0), sv (.int a1), sv (.int a2), sv (.int a4), sv (.int (a4 + (1 : Int32)))] [] h8)
  else
  (ex d 214 30 [sv (.ref a0), sv (.int a1), sv (.int a2), sv (.int a3), sv (.int (a4 + (1 : Int32)))] [] h8))
  else
  (cI (call d 168 [.int a4] h2) fun x11 h10 =>
  cI (call d 168 [.int a3] h10) fun x13 h12 =>
  if x11 < x13 then
  (gfI none h12 a0 [12] 2 fun x14 =>
  vd none h12 a0 [12, 204] fun m15 =>
  cI (call d m15 [.ref a0, .int (x14 ^^^ a4)] h12) fun x17 h16 =>
  if x17 = a2 then
  (ex d 214 30 [sv (.ref a0), sv (.int a1), sv (.int a2), sv (.int a4), sv (.int (a4 + (1 : Int32)))] [] h16)
  else
  (ex d 214 30 [sv (.ref a0), sv (.int a1), sv (.int a2), sv (.int a3), sv (.int (a4 + (1 : Int32)))] [] h16))
  else
  (ex d 214 30 [sv (.ref a0), sv (.int a1), sv (.int a2), sv (.int a3), sv (.int (a4 + (1 : Int32)))] [] h12)))) :=
  (ex_unr p_214 o_214 [30] 62 rfl _ _ h).trans rfl
