/-! methods' code, held against the tables -/
def hn_0 : List (Nat × List Nat) := [(1, []), (3, [1035, 0, 0, 0, 0, 0, 0]), (1, []), (2, []), (3, [1038, 0, 0]), (1, []), (1, []), (3, [1041, 0, 0]), (1, []), (1, []), (3, [1044, 0, 0]), (1, []), (1, []), (3, [1047, 0, 0]), (1, []), (2, []), (3, [1036]), (3, [1050, 0, 0]), (1, [])]
theorem cw_0 : Cond.code (mtd 0).1 (mtd 0).2.1 (prg 0).2 (mtd 0).2.2 ∈ gtbl := tc_ok 1034 rfl rfl
set_option maxRecDepth 100000 in
theorem ck_0 : ckM 0 hn_0 := ⟨by decide +kernel, by decide +kernel, by decide +kernel, by decide +kernel⟩
def hn_1 : List (Nat × List Nat) := [(1, []), (3, []), (1, []), (1, []), (1, []), (3, []), (1, []), (1, [])]
theorem cw_1 : Cond.code (mtd 1).1 (mtd 1).2.1 (prg 1).2 (mtd 1).2.2 ∈ gtbl := tc_ok 2163 rfl rfl
set_option maxRecDepth 100000 in
theorem ck_1 : ckM 1 hn_1 := ⟨by decide +kernel, by decide +kernel, by decide +kernel, by decide +kernel⟩
def hn_2 : List (Nat × List Nat) := [(1, []), (3, []), (1, []), (1, []), (1, []), (3, []), (1, []), (1, [])]
theorem cw_2 : Cond.code (mtd 2).1 (mtd 2).2.1 (prg 2).2 (mtd 2).2.2 ∈ gtbl := tc_ok 2151 rfl rfl
set_option maxRecDepth 100000 in
theorem ck_2 : ckM 2 hn_2 := ⟨by decide +kernel, by decide +kernel, by decide +kernel, by decide +kernel⟩
def hn_3 : List (Nat × List Nat) := [(1, []), (1, []), (3, [1038, 0, 0]), (1, []), (1, []), (3, [1041, 0, 0]), (1, []), (1, []), (3, [1044, 0, 0]), (1, []), (3, [1050, 0, 0]), (2, []), (2, []), (1, []), (2, []), (1, []), (2, []), (2, []), (2, []), (3, []), (2, []), (2, []), (1, []), (2, []), (2, []), (3, []), (2, []), (1, []), (1, []), (3, [2141, 2133, 1016, 32, 2132, 2136, 2135, 2133, 2141, 2141, 2133, 1016, 32, 2132, 2137, 2135, 2133, 2141, 2141, 2133, 1016, 32, 2132, 2134, 2135, 2133, 2141, 2141, 2133, 1016, 32, 2132, 2138, 2135, 2133, 2141, 2141, 2133, 1016, 32, 2132, 2139, 2135, 2133, 2141, 2141, 2133, 1016, 32, 2132, 2140, 2135, 2133, 2141]), (3, []), (3, []), (1, [])]
theorem cw_3 : Cond.code (mtd 3).1 (mtd 3).2.1 (prg 3).2 (mtd 3).2.2 ∈ gtbl := tc_ok 2131 rfl rfl
set_option maxRecDepth 100000 in
theorem ck_3 : ckM 3 hn_3 := ⟨by decide +kernel, by decide +kernel, by decide +kernel, by decide +kernel⟩
def hn_4 : List (Nat × List Nat) := [(1, []), (3, [1038, 0, 0]), (3, [2190, 2189, 1001, 1, 2188]), (1, [])]
theorem cw_4 : Cond.code (mtd 4).1 (mtd 4).2.1 (prg 4).2 (mtd 4).2.2 ∈ gtbl := tc_ok 2187 rfl rfl
set_option maxRecDepth 100000 in
theorem ck_4 : ckM 4 hn_4 := ⟨by decide +kernel, by decide +kernel, by decide +kernel, by decide +kernel⟩
def hn_5 : List (Nat × List Nat) := [(1, []), (1, []), (1, []), (3, [1038, 0, 0]), (1, []), (1, []), (3, [1203, 1202, 1001, 1, 2191]), (1, [])]
theorem cw_5 : Cond.code (mtd 5).1 (mtd 5).2.1 (prg 5).2 (mtd 5).2.2 ∈ gtbl := tc_ok 2199 rfl rfl
set_option maxRecDepth 100000 in
theorem ck_5 : ckM 5 hn_5 := ⟨by decide +kernel, by decide +kernel, by decide +kernel, by decide +kernel⟩
def hn_6 : List (Nat × List Nat) := [(1, []), (1, []), (1, []), (3, [2187, 2185, 1002, 0, 2184, 2186, 0, 0, 0]), (3, [1203, 1202, 1001, 1, 2191]), (1, [])]
theorem cw_6 : Cond.code (mtd 6).1 (mtd 6).2.1 (prg 6).2 (mtd 6).2.2 ∈ gtbl := tc_ok 2183 rfl rfl
set_option maxRecDepth 100000 in
theorem ck_6 : ckM 6 hn_6 := ⟨by decide +kernel, by decide +kernel, by decide +kernel, by decide +kernel⟩
def hn_7 : List (Nat × List Nat) := [(1, []), (3, [1044, 0, 0]), (1, []), (3, [2157, 2156, 1001, 1, 2204]), (1, []), (3, [1044, 0, 0]), (1, []), (3, [2157, 2156, 1001, 1, 2204]), (3, []), (1, []), (3, []), (1, []), (1, [])]
theorem cw_7 : Cond.code (mtd 7).1 (mtd 7).2.1 (prg 7).2 (mtd 7).2.2 ∈ gtbl := tc_ok 2203 rfl rfl
set_option maxRecDepth 100000 in
theorem ck_7 : ckM 7 hn_7 := ⟨by decide +kernel, by decide +kernel, by decide +kernel, by decide +kernel⟩
def hn_8 : List (Nat × List Nat) := [(1, []), (1, []), (1, []), (1, []), (1, []), (1, []), (3, [1038, 0, 0]), (3, []), (1, []), (1, []), (1, []), (3, [1041, 0, 0]), (3, [2163, 2162, 1002, 0, 4075]), (1, []), (3, []), (1, []), (3, [2175, 2174, 1001, 1, 3036]), (3, []), (1, []), (1, []), (1, []), (3, []), (3, []), (1, []), (1, [])]
theorem cw_8 : Cond.code (mtd 8).1 (mtd 8).2.1 (prg 8).2 (mtd 8).2.2 ∈ gtbl := tc_ok 4074 rfl rfl
set_option maxRecDepth 100000 in
theorem ck_8 : ckM 8 hn_8 := ⟨by decide +kernel, by decide +kernel, by decide +kernel, by decide +kernel⟩
def hn_9 : List (Nat × List Nat) := [(1, []), (3, [1044, 0, 0]), (1, []), (1, []), (1, []), (3, [1044, 0, 0]), (1, []), (3, [2190, 2189, 1001, 1, 2188]), (1, []), (1, []), (3, [1038, 0, 0]), (1, []), (1, []), (1, []), (1, []), (1, [])]
theorem cw_9 : Cond.code (mtd 9).1 (mtd 9).2.1 (prg 9).2 (mtd 9).2.2 ∈ gtbl := tc_ok 4083 rfl rfl
set_option maxRecDepth 100000 in
theorem ck_9 : ckM 9 hn_9 := ⟨by decide +kernel, by decide +kernel, by decide +kernel, by decide +kernel⟩
def hn_10 : List (Nat × List Nat) := [(1, []), (3, [1044, 0, 0]), (1, []), (1, []), (1, []), (1, []), (1, []), (1, []), (3, [1044, 0, 0]), (1, []), (3, [2190, 2189, 1001, 1, 2188]), (1, []), (1, []), (3, [1044, 0, 0]), (1, []), (1, []), (1, []), (1, []), (1, []), (1, []), (1, []), (2, []), (2, []), (1, []), (3, [2190, 2189, 1001, 1, 2188]), (1, []), (1, []), (1, []), (1, []), (1, []), (2, []), (1, []), (1, []), (1, []), (1, []), (1, []), (1, []), (1, []), (1, [])]
theorem cw_10 : Cond.code (mtd 10).1 (mtd 10).2.1 (prg 10).2 (mtd 10).2.2 ∈ gtbl := tc_ok 4095 rfl rfl
set_option maxRecDepth 100000 in
theorem ck_10 : ckM 10 hn_10 := ⟨by decide +kernel, by decide +kernel, by decide +kernel, by decide +kernel⟩
def hn_11 : List (Nat × List Nat) := [(1, []), (3, [1047, 0, 0]), (1, []), (3, [1050, 0, 0]), (1, []), (3, []), (1, []), (3, []), (1, []), (1, [])]
theorem cw_11 : Cond.code (mtd 11).1 (mtd 11).2.1 (prg 11).2 (mtd 11).2.2 ∈ gtbl := tc_ok 3073 rfl rfl
set_option maxRecDepth 100000 in
theorem ck_11 : ckM 11 hn_11 := ⟨by decide +kernel, by decide +kernel, by decide +kernel, by decide +kernel⟩
def hn_12 : List (Nat × List Nat) := [(1, []), (3, []), (1, []), (3, [1047, 0, 0]), (1, []), (1, []), (3, [1050, 0, 0]), (1, []), (1, []), (1, []), (3, [1203, 1202, 1001, 1, 2191]), (3, []), (1, []), (1, []), (3, [1038, 0, 0]), (1, []), (3, [1041, 0, 0]), (3, [2141, 2133, 1016, 32, 2132, 2136, 2135, 2133, 2141, 2141, 2133, 1016, 32, 2132, 2137, 2135, 2133, 2141, 2141, 2133, 1016, 32, 2132, 2134, 2135, 2133, 2141, 2141, 2133, 1016, 32, 2132, 2138, 2135, 2133, 2141, 2141, 2133, 1016, 32, 2132, 2139, 2135, 2133, 2141, 2141, 2133, 1016, 32, 2132, 2140, 2135, 2133, 2141]), (1, []), (3, [1050, 0, 0]), (1, []), (3, [1047, 0, 0]), (1, []), (1, []), (1, []), (1, []), (3, [1047, 0, 0]), (1, []), (1, []), (3, [1047, 0, 0]), (1, [])]
theorem cw_12 : Cond.code (mtd 12).1 (mtd 12).2.1 (prg 12).2 (mtd 12).2.2 ∈ gtbl := tc_ok 3159 rfl rfl
set_option maxRecDepth 100000 in
theorem ck_12 : ckM 12 hn_12 := ⟨by decide +kernel, by decide +kernel, by decide +kernel, by decide +kernel⟩
def hn_13 : List (Nat × List Nat) := [(1, []), (1, []), (3, [3168, 0, 0, 0, 0]), (1, []), (1, []), (1, []), (3, [1050, 0, 0]), (1, []), (3, []), (1, []), (3, [1050, 0, 0]), (1, []), (1, []), (1, []), (3, []), (3, []), (1, []), (1, []), (3, [1047, 0, 0]), (1, []), (3, [3169, 0, 0, 0, 0]), (3, [1047, 0, 0]), (1, [])]
theorem cw_13 : Cond.code (mtd 13).1 (mtd 13).2.1 (prg 13).2 (mtd 13).2.2 ∈ gtbl := tc_ok 3167 rfl rfl
set_option maxRecDepth 100000 in
theorem ck_13 : ckM 13 hn_13 := ⟨by decide +kernel, by decide +kernel, by decide +kernel, by decide +kernel⟩
def hn_14 : List (Nat × List Nat) := [(1, []), (3, []), (1, []), (1, []), (3, [1047, 0, 0]), (3, []), (1, []), (1, []), (3, [1050, 0, 0]), (1, []), (3, []), (1, []), (3, [1050, 0, 0]), (1, []), (1, []), (3, []), (1, []), (1, [])]
theorem cw_14 : Cond.code (mtd 14).1 (mtd 14).2.1 (prg 14).2 (mtd 14).2.2 ∈ gtbl := tc_ok 3008 rfl rfl
set_option maxRecDepth 100000 in
theorem ck_14 : ckM 14 hn_14 := ⟨by decide +kernel, by decide +kernel, by decide +kernel, by decide +kernel⟩
def hn_15 : List (Nat × List Nat) := [(1, []), (3, [1047, 0, 0]), (3, [2190, 2189, 1001, 1, 2188]), (1, [])]
theorem cw_15 : Cond.code (mtd 15).1 (mtd 15).2.1 (prg 15).2 (mtd 15).2.2 ∈ gtbl := tc_ok 4146 rfl rfl
set_option maxRecDepth 100000 in
theorem ck_15 : ckM 15 hn_15 := ⟨by decide +kernel, by decide +kernel, by decide +kernel, by decide +kernel⟩
def hn_16 : List (Nat × List Nat) := [(1, []), (1, []), (1, []), (1, []), (1, []), (1, []), (3, [1047, 0, 0]), (3, []), (1, []), (1, []), (3, [3008, 3006, 1002, 0, 3005, 3007, 0, 0, 0]), (2, []), (1, []), (2, []), (3, []), (1, []), (3, []), (2, []), (1, []), (3, [3026, 3010, 1016, 31, 3009, 3013, 3012, 3010, 3026, 3026, 3010, 1016, 31, 3009, 3014, 3012, 3010, 3026, 3026, 3010, 1016, 31, 3009, 3011, 3012, 3010, 3026, 3026, 3010, 1016, 31, 3009, 3015, 3012, 3010, 3026, 3018, 3017, 1020, 31, 3009, 3016, 3012, 3010, 3026, 3021, 3020, 1021, 31, 3009, 3019, 3012, 3010, 3026]), (1, []), (1, []), (1, []), (1, []), (1, []), (1, []), (3, []), (3, []), (1, []), (1, [])]
theorem cw_16 : Cond.code (mtd 16).1 (mtd 16).2.1 (prg 16).2 (mtd 16).2.2 ∈ gtbl := tc_ok 3203 rfl rfl
set_option maxRecDepth 100000 in
theorem ck_16 : ckM 16 hn_16 := ⟨by decide +kernel, by decide +kernel, by decide +kernel, by decide +kernel⟩
def hn_17 : List (Nat × List Nat) := [(1, []), (1, []), (1, []), (2, []), (2, []), (1, []), (3, [1047, 0, 0]), (3, []), (1, []), (2, []), (3, [3008, 3006, 1002, 0, 3005, 3007, 0, 0, 0]), (2, []), (1, []), (2, []), (3, []), (2, []), (1, []), (3, [3026, 3010, 1016, 31, 3009, 3013, 3012, 3010, 3026, 3026, 3010, 1016, 31, 3009, 3014, 3012, 3010, 3026, 3026, 3010, 1016, 31, 3009, 3011, 3012, 3010, 3026, 3026, 3010, 1016, 31, 3009, 3015, 3012, 3010, 3026, 3018, 3017, 1020, 31, 3009, 3016, 3012, 3010, 3026, 3021, 3020, 1021, 31, 3009, 3019, 3012, 3010, 3026]), (1, []), (2, []), (3, [3035, 3034, 1001, 1, 3033]), (3, []), (2, []), (3, [2175, 2174, 1001, 1, 3036]), (3, []), (1, []), (1, []), (1, []), (3, []), (3, []), (1, []), (1, [])]
theorem cw_17 : Cond.code (mtd 17).1 (mtd 17).2.1 (prg 17).2 (mtd 17).2.2 ∈ gtbl := tc_ok 3004 rfl rfl
set_option maxRecDepth 100000 in
theorem ck_17 : ckM 17 hn_17 := ⟨by decide +kernel, by decide +kernel, by decide +kernel, by decide +kernel⟩
def hn_18 : List (Nat × List Nat) := [(1, []), (1, []), (1, []), (3, [3004, 3002, 1002, 0, 3001, 3003, 0, 0, 0]), (1, [])]
theorem cw_18 : Cond.code (mtd 18).1 (mtd 18).2.1 (prg 18).2 (mtd 18).2.2 ∈ gtbl := tc_ok 3000 rfl rfl
set_option maxRecDepth 100000 in
theorem ck_18 : ckM 18 hn_18 := ⟨by decide +kernel, by decide +kernel, by decide +kernel, by decide +kernel⟩
def hn_19 : List (Nat × List Nat) := [(1, []), (1, []), (3, [1044, 0, 0]), (3, [3000, 2238, 1002, 0, 2237, 2239, 0, 0, 0]), (3, [3029, 3028, 1015, 0, 3037]), (1, [])]
theorem cw_19 : Cond.code (mtd 19).1 (mtd 19).2.1 (prg 19).2 (mtd 19).2.2 ∈ gtbl := tc_ok 2236 rfl rfl
set_option maxRecDepth 100000 in
theorem ck_19 : ckM 19 hn_19 := ⟨by decide +kernel, by decide +kernel, by decide +kernel, by decide +kernel⟩
def hn_20 : List (Nat × List Nat) := [(1, []), (1, []), (1, []), (1, []), (3, [1047, 0, 0]), (3, []), (1, []), (1, []), (3, [3008, 3006, 1002, 0, 3005, 3007, 0, 0, 0]), (2, []), (2, []), (3, []), (2, []), (1, []), (3, [3026, 3010, 1016, 31, 3009, 3013, 3012, 3010, 3026, 3026, 3010, 1016, 31, 3009, 3014, 3012, 3010, 3026, 3026, 3010, 1016, 31, 3009, 3011, 3012, 3010, 3026, 3026, 3010, 1016, 31, 3009, 3015, 3012, 3010, 3026, 3018, 3017, 1020, 31, 3009, 3016, 3012, 3010, 3026, 3021, 3020, 1021, 31, 3009, 3019, 3012, 3010, 3026]), (1, []), (1, []), (3, [3035, 3034, 1001, 1, 3033]), (3, []), (1, []), (1, []), (3, []), (3, []), (1, []), (1, [])]
theorem cw_20 : Cond.code (mtd 20).1 (mtd 20).2.1 (prg 20).2 (mtd 20).2.2 ∈ gtbl := tc_ok 3224 rfl rfl
set_option maxRecDepth 100000 in
theorem ck_20 : ckM 20 hn_20 := ⟨by decide +kernel, by decide +kernel, by decide +kernel, by decide +kernel⟩
def hn_21 : List (Nat × List Nat) := [(1, []), (1, []), (1, []), (3, [3224, 3222, 1002, 0, 3221, 3223, 0, 0, 0]), (1, [])]
theorem cw_21 : Cond.code (mtd 21).1 (mtd 21).2.1 (prg 21).2 (mtd 21).2.2 ∈ gtbl := tc_ok 3220 rfl rfl
set_option maxRecDepth 100000 in
theorem ck_21 : ckM 21 hn_21 := ⟨by decide +kernel, by decide +kernel, by decide +kernel, by decide +kernel⟩
def hn_22 : List (Nat × List Nat) := [(1, []), (1, []), (1, []), (3, [3081, 3080, 1017, 0, 3125, 0, 0]), (1, [])]
theorem cw_22 : Cond.code (mtd 22).1 (mtd 22).2.1 (prg 22).2 (mtd 22).2.2 ∈ gtbl := tc_ok 3124 rfl rfl
set_option maxRecDepth 100000 in
theorem ck_22 : ckM 22 hn_22 := ⟨by decide +kernel, by decide +kernel, by decide +kernel, by decide +kernel⟩
def hn_23 : List (Nat × List Nat) := [(1, []), (1, [])]
theorem cw_23 : Cond.code (mtd 23).1 (mtd 23).2.1 (prg 23).2 (mtd 23).2.2 ∈ gtbl := tc_ok 3181 rfl rfl
set_option maxRecDepth 100000 in
theorem ck_23 : ckM 23 hn_23 := ⟨by decide +kernel, by decide +kernel, by decide +kernel, by decide +kernel⟩
def hn_24 : List (Nat × List Nat) := [(1, []), (1, []), (3, [2151, 2150, 1002, 0, 2149]), (1, []), (3, [3093, 1, 3094]), (3, []), (1, []), (3, []), (1, []), (1, [])]
theorem cw_24 : Cond.code (mtd 24).1 (mtd 24).2.1 (prg 24).2 (mtd 24).2.2 ∈ gtbl := tc_ok 2148 rfl rfl
set_option maxRecDepth 100000 in
theorem ck_24 : ckM 24 hn_24 := ⟨by decide +kernel, by decide +kernel, by decide +kernel, by decide +kernel⟩
def hn_25 : List (Nat × List Nat) := [(1, []), (1, []), (1, []), (3, [3084, 3083, 1016, 0, 3116, 0, 0]), (1, [])]
theorem cw_25 : Cond.code (mtd 25).1 (mtd 25).2.1 (prg 25).2 (mtd 25).2.2 ∈ gtbl := tc_ok 3115 rfl rfl
set_option maxRecDepth 100000 in
theorem ck_25 : ckM 25 hn_25 := ⟨by decide +kernel, by decide +kernel, by decide +kernel, by decide +kernel⟩
def hn_26 : List (Nat × List Nat) := [(1, []), (1, [])]
theorem cw_26 : Cond.code (mtd 26).1 (mtd 26).2.1 (prg 26).2 (mtd 26).2.2 ∈ gtbl := tc_ok 3184 rfl rfl
set_option maxRecDepth 100000 in
theorem ck_26 : ckM 26 hn_26 := ⟨by decide +kernel, by decide +kernel, by decide +kernel, by decide +kernel⟩
def hn_27 : List (Nat × List Nat) := [(1, []), (1, []), (3, [3091, 2, 3092]), (1, []), (1, []), (3, [2157, 2156, 1001, 1, 2155]), (1, [])]
theorem cw_27 : Cond.code (mtd 27).1 (mtd 27).2.1 (prg 27).2 (mtd 27).2.2 ∈ gtbl := tc_ok 2154 rfl rfl
set_option maxRecDepth 100000 in
theorem ck_27 : ckM 27 hn_27 := ⟨by decide +kernel, by decide +kernel, by decide +kernel, by decide +kernel⟩
def hn_28 : List (Nat × List Nat) := [(1, []), (3, [3085, 0, 0, 0, 0, 0, 0]), (1, []), (1, []), (3, [3086, 3, 0]), (1, []), (1, []), (3, [3090, 3, 0]), (1, [])]
theorem cw_28 : Cond.code (mtd 28).1 (mtd 28).2.1 (prg 28).2 (mtd 28).2.2 ∈ gtbl := tc_ok 3084 rfl rfl
set_option maxRecDepth 100000 in
theorem ck_28 : ckM 28 hn_28 := ⟨by decide +kernel, by decide +kernel, by decide +kernel, by decide +kernel⟩
def hn_29 : List (Nat × List Nat) := [(1, []), (1, [])]
theorem cw_29 : Cond.code (mtd 29).1 (mtd 29).2.1 (prg 29).2 (mtd 29).2.2 ∈ gtbl := tc_ok 3194 rfl rfl
set_option maxRecDepth 100000 in
theorem ck_29 : ckM 29 hn_29 := ⟨by decide +kernel, by decide +kernel, by decide +kernel, by decide +kernel⟩
def hn_30 : List (Nat × List Nat) := [(1, []), (3, [3086, 3, 0]), (1, []), (3, [2157, 2156, 1001, 1, 2172]), (1, [])]
theorem cw_30 : Cond.code (mtd 30).1 (mtd 30).2.1 (prg 30).2 (mtd 30).2.2 ∈ gtbl := tc_ok 2171 rfl rfl
set_option maxRecDepth 100000 in
theorem ck_30 : ckM 30 hn_30 := ⟨by decide +kernel, by decide +kernel, by decide +kernel, by decide +kernel⟩
def hn_31 : List (Nat × List Nat) := [(1, []), (1, []), (3, [3102, 3, 0]), (1, []), (3, [3029, 3028, 1015, 0, 3027]), (1, []), (1, []), (1, [])]
theorem cw_31 : Cond.code (mtd 31).1 (mtd 31).2.1 (prg 31).2 (mtd 31).2.2 ∈ gtbl := tc_ok 3026 rfl rfl
set_option maxRecDepth 100000 in
theorem ck_31 : ckM 31 hn_31 := ⟨by decide +kernel, by decide +kernel, by decide +kernel, by decide +kernel⟩
def hn_32 : List (Nat × List Nat) := [(1, []), (1, []), (3, [3102, 3, 0]), (1, []), (1, []), (1, []), (1, []), (3, []), (1, []), (1, []), (3, [3102, 3, 0]), (1, []), (1, []), (1, []), (3, [2148, 2147, 1019, 30, 2142, 2146, 2145, 2143, 2171, 2154, 2153, 1018, 30, 2142, 2152, 2145, 2143, 2171, 2171, 2143, 1016, 30, 2142, 2144, 2145, 2143, 2171, 2160, 2159, 1017, 30, 2142, 2158, 2145, 2143, 2171, 2171, 2143, 1016, 30, 2142, 2164, 2145, 2143, 2171, 2167, 2166, 1021, 30, 2142, 2165, 2145, 2143, 2171]), (3, []), (1, []), (3, [2175, 2174, 1001, 1, 2173]), (3, []), (1, []), (1, []), (3, [3102, 3, 0]), (3, []), (3, []), (1, [])]
theorem cw_32 : Cond.code (mtd 32).1 (mtd 32).2.1 (prg 32).2 (mtd 32).2.2 ∈ gtbl := tc_ok 2141 rfl rfl
set_option maxRecDepth 100000 in
theorem ck_32 : ckM 32 hn_32 := ⟨by decide +kernel, by decide +kernel, by decide +kernel, by decide +kernel⟩
def hn_33 : List (Nat × List Nat) := [(1, []), (3, [1067, 0, 0, 0, 0, 0, 0]), (1, []), (1, []), (3, [1068, 4, 0]), (1, [])]
theorem cw_33 : Cond.code (mtd 33).1 (mtd 33).2.1 (prg 33).2 (mtd 33).2.2 ∈ gtbl := tc_ok 1066 rfl rfl
set_option maxRecDepth 100000 in
theorem ck_33 : ckM 33 hn_33 := ⟨by decide +kernel, by decide +kernel, by decide +kernel, by decide +kernel⟩
def hn_34 : List (Nat × List Nat) := [(1, []), (1, []), (3, [1068, 4, 0]), (1, []), (1, []), (3, [1039, 0, 0]), (3, [1070, 4, 0]), (1, []), (1, []), (3, [1042, 0, 0]), (3, [1072, 4, 0]), (1, []), (1, []), (3, [1045, 0, 0]), (3, [1074, 4, 0]), (1, []), (1, []), (3, [1048, 0, 0]), (3, [1076, 4, 0]), (1, []), (1, []), (3, [1078, 4, 0]), (1, [])]
theorem cw_34 : Cond.code (mtd 34).1 (mtd 34).2.1 (prg 34).2 (mtd 34).2.2 ∈ gtbl := tc_ok 4228 rfl rfl
set_option maxRecDepth 100000 in
theorem ck_34 : ckM 34 hn_34 := ⟨by decide +kernel, by decide +kernel, by decide +kernel, by decide +kernel⟩
def hn_35 : List (Nat × List Nat) := [(1, []), (3, [2073, 0, 0, 0, 0, 0, 0]), (1, []), (1, []), (3, [2074, 5, 0]), (1, []), (1, []), (3, [2075, 5, 0]), (1, []), (1, []), (3, [2076, 5, 0]), (1, [])]
theorem cw_35 : Cond.code (mtd 35).1 (mtd 35).2.1 (prg 35).2 (mtd 35).2.2 ∈ gtbl := tc_ok 2072 rfl rfl
set_option maxRecDepth 100000 in
theorem ck_35 : ckM 35 hn_35 := ⟨by decide +kernel, by decide +kernel, by decide +kernel, by decide +kernel⟩
def hn_36 : List (Nat × List Nat) := [(1, []), (3, []), (1, []), (3, []), (1, []), (1, []), (3, []), (1, []), (3, [2075, 5, 0]), (3, []), (1, []), (3, [2076, 5, 0]), (2, []), (1, []), (3, []), (1, []), (3, [2075, 5, 0]), (3, []), (1, []), (1, []), (3, []), (1, []), (3, [2076, 5, 0]), (3, []), (1, []), (3, [2074, 5, 0]), (1, []), (2, []), (1, []), (2, []), (1, []), (2, []), (3, [3049, 0, 0, 0, 0]), (2, []), (2, []), (2, []), (3, []), (2, []), (1, []), (3, [2074, 5, 0]), (1, []), (3, []), (1, []), (3, [2074, 5, 0]), (2, []), (1, []), (1, []), (1, []), (2, []), (3, [3054, 3053, 1010, 0, 3052]), (2, []), (3, []), (3, []), (2, []), (3, []), (2, []), (1, []), (1, []), (3, []), (1, []), (2, []), (1, []), (1, []), (1, []), (3, []), (1, []), (1, [])]
theorem cw_36 : Cond.code (mtd 36).1 (mtd 36).2.1 (prg 36).2 (mtd 36).2.2 ∈ gtbl := tc_ok 3048 rfl rfl
set_option maxRecDepth 100000 in
theorem ck_36 : ckM 36 hn_36 := ⟨by decide +kernel, by decide +kernel, by decide +kernel, by decide +kernel⟩
def hn_37 : List (Nat × List Nat) := [(1, []), (2, []), (1, []), (2, []), (1, []), (3, []), (3, []), (1, []), (3, []), (1, []), (1, []), (1, []), (3, [3057, 3056, 1010, 0, 3055]), (1, []), (2, []), (3, []), (2, []), (1, []), (1, []), (3, []), (1, []), (2, []), (1, []), (1, []), (1, []), (3, [3057, 3056, 1010, 0, 3055]), (1, []), (1, []), (1, []), (3, []), (1, []), (1, []), (1, []), (3, []), (1, []), (1, []), (1, []), (1, []), (1, []), (1, []), (1, []), (2, []), (1, []), (1, []), (3, []), (1, []), (2, []), (3, []), (1, []), (1, []), (3, []), (2, []), (3, []), (1, []), (3, []), (1, []), (3, [3060, 3059, 1010, 0, 3058]), (3, []), (2, []), (1, []), (1, []), (1, []), (1, []), (1, []), (3, [3057, 3056, 1010, 0, 3055]), (1, []), (1, []), (1, []), (3, []), (1, []), (3, []), (1, []), (1, []), (1, []), (1, []), (1, []), (2, []), (1, []), (2, []), (2, []), (3, [3063, 3062, 1010, 0, 3061]), (1, []), (1, []), (1, []), (1, []), (3, [3057, 3056, 1010, 0, 3055]), (1, [])]
theorem cw_37 : Cond.code (mtd 37).1 (mtd 37).2.1 (prg 37).2 (mtd 37).2.2 ∈ gtbl := tc_ok 3054 rfl rfl
set_option maxRecDepth 100000 in
theorem ck_37 : ckM 37 hn_37 := ⟨by decide +kernel, by decide +kernel, by decide +kernel, by decide +kernel⟩
def hn_38 : List (Nat × List Nat) := [(1, []), (3, []), (1, []), (1, []), (1, []), (3, []), (1, []), (1, []), (1, []), (1, []), (1, []), (1, []), (1, []), (1, []), (1, []), (1, [])]
theorem cw_38 : Cond.code (mtd 38).1 (mtd 38).2.1 (prg 38).2 (mtd 38).2.2 ∈ gtbl := tc_ok 3057 rfl rfl
set_option maxRecDepth 100000 in
theorem ck_38 : ckM 38 hn_38 := ⟨by decide +kernel, by decide +kernel, by decide +kernel, by decide +kernel⟩
def hn_39 : List (Nat × List Nat) := [(1, []), (59, []), (1, []), (3, []), (1, []), (3, []), (1, []), (3, []), (1, []), (3, [3060, 3059, 1010, 0, 3058]), (1, []), (1, []), (3, []), (1, []), (3, []), (1, []), (3, []), (1, []), (3, [3060, 3059, 1010, 0, 3058]), (1, []), (1, []), (1, []), (3, []), (1, []), (3, []), (1, []), (3, [3060, 3059, 1010, 0, 3058]), (1, []), (1, []), (1, []), (3, []), (1, []), (3, []), (1, []), (3, [3060, 3059, 1010, 0, 3058]), (1, []), (1, []), (1, []), (1, []), (1, []), (1, []), (1, []), (1, []), (1, []), (1, []), (1, []), (1, []), (1, [])]
theorem cw_39 : Cond.code (mtd 39).1 (mtd 39).2.1 (prg 39).2 (mtd 39).2.2 ∈ gtbl := tc_ok 3063 rfl rfl
set_option maxRecDepth 100000 in
theorem ck_39 : ckM 39 hn_39 := ⟨by decide +kernel, by decide +kernel, by decide +kernel, by decide +kernel⟩
def hn_40 : List (Nat × List Nat) := [(1, []), (3, []), (1, []), (3, []), (1, []), (1, [])]
theorem cw_40 : Cond.code (mtd 40).1 (mtd 40).2.1 (prg 40).2 (mtd 40).2.2 ∈ gtbl := tc_ok 3060 rfl rfl
set_option maxRecDepth 100000 in
theorem ck_40 : ckM 40 hn_40 := ⟨by decide +kernel, by decide +kernel, by decide +kernel, by decide +kernel⟩
def hn_41 : List (Nat × List Nat) := [(1, []), (1, []), (1, []), (3, [3084, 3083, 1016, 0, 3082, 0, 0]), (1, [])]
theorem cw_41 : Cond.code (mtd 41).1 (mtd 41).2.1 (prg 41).2 (mtd 41).2.2 ∈ gtbl := tc_ok 3081 rfl rfl
set_option maxRecDepth 100000 in
theorem ck_41 : ckM 41 hn_41 := ⟨by decide +kernel, by decide +kernel, by decide +kernel, by decide +kernel⟩
def hn_42 : List (Nat × List Nat) := [(1, []), (1, [])]
theorem cw_42 : Cond.code (mtd 42).1 (mtd 42).2.1 (prg 42).2 (mtd 42).2.2 ∈ gtbl := tc_ok 3187 rfl rfl
set_option maxRecDepth 100000 in
theorem ck_42 : ckM 42 hn_42 := ⟨by decide +kernel, by decide +kernel, by decide +kernel, by decide +kernel⟩
def hn_43 : List (Nat × List Nat) := [(1, []), (1, []), (3, [2163, 2162, 1002, 0, 2161]), (1, []), (3, [3095, 6, 3096]), (3, []), (1, []), (3, []), (1, []), (1, [])]
theorem cw_43 : Cond.code (mtd 43).1 (mtd 43).2.1 (prg 43).2 (mtd 43).2.2 ∈ gtbl := tc_ok 2160 rfl rfl
set_option maxRecDepth 100000 in
theorem ck_43 : ckM 43 hn_43 := ⟨by decide +kernel, by decide +kernel, by decide +kernel, by decide +kernel⟩
def hn_44 : List (Nat × List Nat) := [(1, []), (3, [1134, 0, 0, 0, 0, 0, 0]), (1, []), (1, []), (3, [1135, 7, 0]), (1, []), (1, []), (3, [1137, 7, 0]), (1, []), (2, []), (2, []), (3, [1139, 7, 0]), (1, [])]
theorem cw_44 : Cond.code (mtd 44).1 (mtd 44).2.1 (prg 44).2 (mtd 44).2.2 ∈ gtbl := tc_ok 1133 rfl rfl
set_option maxRecDepth 100000 in
theorem ck_44 : ckM 44 hn_44 := ⟨by decide +kernel, by decide +kernel, by decide +kernel, by decide +kernel⟩
def hn_45 : List (Nat × List Nat) := [(1, []), (3, [1135, 7, 0]), (1, []), (3, []), (1, []), (3, []), (1, []), (1, [])]
theorem cw_45 : Cond.code (mtd 45).1 (mtd 45).2.1 (prg 45).2 (mtd 45).2.2 ∈ gtbl := tc_ok 4167 rfl rfl
set_option maxRecDepth 100000 in
theorem ck_45 : ckM 45 hn_45 := ⟨by decide +kernel, by decide +kernel, by decide +kernel, by decide +kernel⟩
def hn_46 : List (Nat × List Nat) := [(1, []), (1, []), (3, [1135, 7, 0]), (1, []), (1, []), (1, []), (1, []), (3, [1139, 7, 0]), (1, []), (3, [4195, 0, 0, 0, 0]), (3, [4196, 0, 0, 0, 0]), (3, [1137, 7, 0]), (1, []), (3, [1139, 7, 0]), (1, []), (3, [4110, 4109, 1011, 0, 4197]), (1, [])]
theorem cw_46 : Cond.code (mtd 46).1 (mtd 46).2.1 (prg 46).2 (mtd 46).2.2 ∈ gtbl := tc_ok 4194 rfl rfl
set_option maxRecDepth 100000 in
theorem ck_46 : ckM 46 hn_46 := ⟨by decide +kernel, by decide +kernel, by decide +kernel, by decide +kernel⟩
def hn_47 : List (Nat × List Nat) := [(1, []), (3, []), (1, []), (3, []), (1, []), (1, []), (3, [1137, 7, 0]), (3, []), (1, []), (1, []), (3, [1137, 7, 0]), (1, []), (1, []), (3, []), (1, []), (3, []), (1, []), (1, [])]
theorem cw_47 : Cond.code (mtd 47).1 (mtd 47).2.1 (prg 47).2 (mtd 47).2.2 ∈ gtbl := tc_ok 5008 rfl rfl
set_option maxRecDepth 100000 in
theorem ck_47 : ckM 47 hn_47 := ⟨by decide +kernel, by decide +kernel, by decide +kernel, by decide +kernel⟩
def hn_48 : List (Nat × List Nat) := [(1, []), (3, []), (1, []), (1, []), (3, [1137, 7, 0]), (3, []), (1, []), (1, []), (3, [1139, 7, 0]), (1, []), (3, []), (1, []), (3, [1139, 7, 0]), (1, []), (1, []), (3, []), (1, []), (1, [])]
theorem cw_48 : Cond.code (mtd 48).1 (mtd 48).2.1 (prg 48).2 (mtd 48).2.2 ∈ gtbl := tc_ok 4175 rfl rfl
set_option maxRecDepth 100000 in
theorem ck_48 : ckM 48 hn_48 := ⟨by decide +kernel, by decide +kernel, by decide +kernel, by decide +kernel⟩
def hn_49 : List (Nat × List Nat) := [(1, []), (3, []), (1, []), (1, []), (3, [1137, 7, 0]), (3, []), (1, []), (1, []), (3, [1139, 7, 0]), (1, []), (3, []), (1, []), (3, [1139, 7, 0]), (1, []), (1, []), (3, [1135, 7, 0]), (3, []), (1, []), (1, []), (3, []), (1, []), (3, [1135, 7, 0]), (1, []), (3, []), (1, []), (1, []), (3, []), (1, []), (1, []), (1, [])]
theorem cw_49 : Cond.code (mtd 49).1 (mtd 49).2.1 (prg 49).2 (mtd 49).2.2 ∈ gtbl := tc_ok 4202 rfl rfl
set_option maxRecDepth 100000 in
theorem ck_49 : ckM 49 hn_49 := ⟨by decide +kernel, by decide +kernel, by decide +kernel, by decide +kernel⟩
def hn_50 : List (Nat × List Nat) := [(1, []), (1, []), (1, []), (3, [3084, 3083, 1016, 0, 3135, 0, 0]), (1, [])]
theorem cw_50 : Cond.code (mtd 50).1 (mtd 50).2.1 (prg 50).2 (mtd 50).2.2 ∈ gtbl := tc_ok 3134 rfl rfl
set_option maxRecDepth 100000 in
theorem ck_50 : ckM 50 hn_50 := ⟨by decide +kernel, by decide +kernel, by decide +kernel, by decide +kernel⟩
def hn_51 : List (Nat × List Nat) := [(1, []), (1, [])]
theorem cw_51 : Cond.code (mtd 51).1 (mtd 51).2.1 (prg 51).2 (mtd 51).2.2 ∈ gtbl := tc_ok 3190 rfl rfl
set_option maxRecDepth 100000 in
theorem ck_51 : ckM 51 hn_51 := ⟨by decide +kernel, by decide +kernel, by decide +kernel, by decide +kernel⟩
def hn_52 : List (Nat × List Nat) := [(1, []), (1, []), (3, [3100, 8, 3101]), (1, []), (1, []), (1, []), (1, []), (1, []), (2, []), (2, []), (2, []), (3, []), (1, []), (1, []), (2, []), (1, []), (1, []), (1, []), (2, []), (1, []), (1, []), (1, []), (1, []), (1, []), (3, []), (3, []), (1, []), (3, [3097, 8, 3098]), (1, []), (1, []), (2, []), (2, []), (3, []), (1, []), (2, []), (1, []), (3, []), (1, []), (1, [])]
theorem cw_52 : Cond.code (mtd 52).1 (mtd 52).2.1 (prg 52).2 (mtd 52).2.2 ∈ gtbl := tc_ok 3018 rfl rfl
set_option maxRecDepth 100000 in
theorem ck_52 : ckM 52 hn_52 := ⟨by decide +kernel, by decide +kernel, by decide +kernel, by decide +kernel⟩
def hn_53 : List (Nat × List Nat) := [(1, []), (3, [1098, 0, 0, 0, 0, 0, 0]), (1, []), (1, []), (3, [1099, 9, 0]), (1, []), (3, []), (2, []), (3, [1101, 9, 0]), (1, []), (3, []), (2, []), (3, [1102, 9, 0]), (1, []), (3, []), (2, []), (3, [1103, 9, 0]), (1, []), (3, []), (2, []), (3, [1104, 9, 0]), (1, []), (1, []), (3, [1105, 9, 0]), (1, []), (1, []), (3, [1106, 9, 0]), (1, []), (1, []), (3, [1107, 9, 0]), (1, [])]
theorem cw_53 : Cond.code (mtd 53).1 (mtd 53).2.1 (prg 53).2 (mtd 53).2.2 ∈ gtbl := tc_ok 1097 rfl rfl
set_option maxRecDepth 100000 in
theorem ck_53 : ckM 53 hn_53 := ⟨by decide +kernel, by decide +kernel, by decide +kernel, by decide +kernel⟩
def hn_54 : List (Nat × List Nat) := [(1, []), (3, [1099, 9, 0]), (1, []), (1, []), (3, [1101, 9, 0]), (1, []), (1, []), (1, []), (3, [1203, 1202, 1001, 1, 1201]), (3, []), (1, []), (3, [1101, 9, 0]), (1, []), (3, [1099, 9, 0]), (1, []), (1, []), (1, []), (1, []), (3, [1099, 9, 0]), (1, []), (1, []), (3, [1099, 9, 0]), (1, [])]
theorem cw_54 : Cond.code (mtd 54).1 (mtd 54).2.1 (prg 54).2 (mtd 54).2.2 ∈ gtbl := tc_ok 1200 rfl rfl
set_option maxRecDepth 100000 in
theorem ck_54 : ckM 54 hn_54 := ⟨by decide +kernel, by decide +kernel, by decide +kernel, by decide +kernel⟩
def hn_55 : List (Nat × List Nat) := [(1, []), (1, []), (3, [1099, 9, 0]), (1, [])]
theorem cw_55 : Cond.code (mtd 55).1 (mtd 55).2.1 (prg 55).2 (mtd 55).2.2 ∈ gtbl := tc_ok 2088 rfl rfl
set_option maxRecDepth 100000 in
theorem ck_55 : ckM 55 hn_55 := ⟨by decide +kernel, by decide +kernel, by decide +kernel, by decide +kernel⟩
def hn_56 : List (Nat × List Nat) := [(1, []), (3, [1106, 9, 0]), (1, []), (1, []), (3, [1103, 9, 0]), (1, []), (1, []), (1, []), (3, [1203, 1202, 1001, 1, 1201]), (3, []), (1, []), (3, [1103, 9, 0]), (1, []), (3, [1106, 9, 0]), (1, []), (3, []), (1, []), (1, [])]
theorem cw_56 : Cond.code (mtd 56).1 (mtd 56).2.1 (prg 56).2 (mtd 56).2.2 ∈ gtbl := tc_ok 2224 rfl rfl
set_option maxRecDepth 100000 in
theorem ck_56 : ckM 56 hn_56 := ⟨by decide +kernel, by decide +kernel, by decide +kernel, by decide +kernel⟩
def hn_57 : List (Nat × List Nat) := [(1, []), (3, [1211, 1210, 1004, 0, 1208, 0, 0, 0, 0]), (1, []), (1, []), (3, [1106, 9, 0]), (1, []), (1, []), (3, [1107, 9, 0]), (1, []), (1, []), (3, [2011, 2010, 1004, 0, 2008, 7, 0, 0, 0]), (3, []), (1, []), (1, []), (1, []), (3, [1107, 9, 0]), (1, []), (1, []), (1, []), (3, [2011, 2010, 1004, 0, 2008, 7, 0, 0, 0]), (3, []), (1, []), (1, []), (1, []), (3, [1107, 9, 0]), (1, []), (1, []), (1, []), (3, [2011, 2010, 1004, 0, 2008, 7, 0, 0, 0]), (3, []), (1, []), (3, [2019, 2018, 1004, 0, 2016, 9, 0, 0, 0]), (1, []), (3, []), (1, []), (3, [1107, 9, 0]), (3, []), (1, []), (1, []), (3, [2052, 2053, 1010]), (1, []), (1, []), (3, [1104, 9, 0]), (1, []), (3, [1107, 9, 0]), (3, [2056, 2055, 1011, 0, 2054]), (1, []), (1, []), (3, [2072, 2071, 1010, 0, 2070, 0, 0]), (1, [])]
theorem cw_57 : Cond.code (mtd 57).1 (mtd 57).2.1 (prg 57).2 (mtd 57).2.2 ∈ gtbl := tc_ok 1207 rfl rfl
set_option maxRecDepth 100000 in
theorem ck_57 : ckM 57 hn_57 := ⟨by decide +kernel, by decide +kernel, by decide +kernel, by decide +kernel⟩
def hn_58 : List (Nat × List Nat) := [(1, []), (3, [1106, 9, 0]), (1, []), (1, []), (3, [1102, 9, 0]), (1, []), (1, []), (1, []), (3, [1203, 1202, 1001, 1, 1201]), (3, []), (1, []), (3, [1102, 9, 0]), (1, []), (3, [1106, 9, 0]), (1, []), (3, []), (1, []), (1, [])]
theorem cw_58 : Cond.code (mtd 58).1 (mtd 58).2.1 (prg 58).2 (mtd 58).2.2 ∈ gtbl := tc_ok 2019 rfl rfl
set_option maxRecDepth 100000 in
theorem ck_58 : ckM 58 hn_58 := ⟨by decide +kernel, by decide +kernel, by decide +kernel, by decide +kernel⟩
def hn_59 : List (Nat × List Nat) := [(1, []), (1, []), (3, [2015, 2014, 1004, 0, 2012, 8, 0, 0, 0]), (3, []), (1, []), (1, []), (1, []), (3, [2023, 2022, 1004, 0, 2020, 10, 0, 0, 0]), (3, []), (1, []), (2, []), (3, [2015, 2014, 1004, 0, 2012, 8, 0, 0, 0]), (3, []), (1, []), (3, []), (1, []), (1, [])]
theorem cw_59 : Cond.code (mtd 59).1 (mtd 59).2.1 (prg 59).2 (mtd 59).2.2 ∈ gtbl := tc_ok 2011 rfl rfl
set_option maxRecDepth 100000 in
theorem ck_59 : ckM 59 hn_59 := ⟨by decide +kernel, by decide +kernel, by decide +kernel, by decide +kernel⟩
def hn_60 : List (Nat × List Nat) := [(1, []), (3, [2019, 2018, 1004, 0, 2016, 9, 0, 0, 0]), (1, []), (3, []), (1, []), (1, []), (1, []), (1, []), (3, [1106, 9, 0]), (1, []), (1, []), (3, [1106, 9, 0]), (1, []), (1, [])]
theorem cw_60 : Cond.code (mtd 60).1 (mtd 60).2.1 (prg 60).2 (mtd 60).2.2 ∈ gtbl := tc_ok 2015 rfl rfl
set_option maxRecDepth 100000 in
theorem ck_60 : ckM 60 hn_60 := ⟨by decide +kernel, by decide +kernel, by decide +kernel, by decide +kernel⟩
def hn_61 : List (Nat × List Nat) := [(1, []), (1, []), (1, []), (3, [2027, 2026, 1004, 0, 2024, 11, 0, 0, 0]), (3, []), (1, []), (1, []), (1, []), (1, []), (1, []), (3, []), (3, []), (1, []), (1, []), (3, [2051, 2050, 1004, 0, 2048, 17, 0, 0, 0]), (3, []), (1, []), (3, [2019, 2018, 1004, 0, 2016, 9, 0, 0, 0]), (2, []), (1, []), (1, []), (3, [1106, 9, 0]), (1, []), (1, []), (3, [1106, 9, 0]), (1, []), (1, []), (1, []), (3, [2027, 2026, 1004, 0, 2024, 11, 0, 0, 0]), (3, []), (1, []), (1, []), (1, []), (2, []), (3, [2035, 2034, 1004, 0, 2032, 13, 0, 0, 0]), (3, []), (3, []), (1, []), (1, [])]
theorem cw_61 : Cond.code (mtd 61).1 (mtd 61).2.1 (prg 61).2 (mtd 61).2.2 ∈ gtbl := tc_ok 2023 rfl rfl
set_option maxRecDepth 100000 in
theorem ck_61 : ckM 61 hn_61 := ⟨by decide +kernel, by decide +kernel, by decide +kernel, by decide +kernel⟩
def hn_62 : List (Nat × List Nat) := [(1, []), (3, [2019, 2018, 1004, 0, 2016, 9, 0, 0, 0]), (1, []), (1, []), (26, []), (1, []), (1, []), (3, []), (1, []), (3, []), (1, []), (1, []), (1, []), (1, []), (3, []), (1, []), (3, []), (1, []), (1, []), (1, []), (2, []), (3, []), (1, []), (2, []), (3, []), (1, []), (3, []), (1, []), (1, []), (1, []), (2, []), (3, []), (1, []), (3, []), (1, []), (1, [])]
theorem cw_62 : Cond.code (mtd 62).1 (mtd 62).2.1 (prg 62).2 (mtd 62).2.2 ∈ gtbl := tc_ok 2051 rfl rfl
set_option maxRecDepth 100000 in
theorem ck_62 : ckM 62 hn_62 := ⟨by decide +kernel, by decide +kernel, by decide +kernel, by decide +kernel⟩
def hn_63 : List (Nat × List Nat) := [(1, []), (27, []), (1, []), (1, []), (1, []), (3, [2023, 2022, 1004, 0, 2020, 10, 0, 0, 0]), (1, []), (1, []), (3, [2019, 2018, 1004, 0, 2016, 9, 0, 0, 0]), (1, []), (3, []), (1, []), (1, []), (3, [2031, 2030, 1004, 0, 2028, 12, 0, 0, 0]), (3, []), (1, []), (1, []), (3, [2039, 2038, 1004, 0, 2036, 14, 0, 0, 0]), (1, []), (1, []), (1, []), (1, []), (3, [2023, 2022, 1004, 0, 2020, 10, 0, 0, 0]), (1, []), (1, []), (1, []), (3, [2043, 2042, 1004, 0, 2040, 15, 0, 0, 0]), (1, [])]
theorem cw_63 : Cond.code (mtd 63).1 (mtd 63).2.1 (prg 63).2 (mtd 63).2.2 ∈ gtbl := tc_ok 2027 rfl rfl
set_option maxRecDepth 100000 in
theorem ck_63 : ckM 63 hn_63 := ⟨by decide +kernel, by decide +kernel, by decide +kernel, by decide +kernel⟩
def hn_64 : List (Nat × List Nat) := [(1, []), (1, []), (3, []), (1, []), (1, []), (1, []), (1, []), (3, [1106, 9, 0]), (1, []), (1, []), (3, [1106, 9, 0]), (1, []), (1, []), (1, []), (1, []), (1, []), (3, [2027, 2026, 1004, 0, 2024, 11, 0, 0, 0]), (3, []), (1, []), (1, []), (1, []), (1, []), (3, [2035, 2034, 1004, 0, 2032, 13, 0, 0, 0]), (1, []), (1, [])]
theorem cw_64 : Cond.code (mtd 64).1 (mtd 64).2.1 (prg 64).2 (mtd 64).2.2 ∈ gtbl := tc_ok 2031 rfl rfl
set_option maxRecDepth 100000 in
theorem ck_64 : ckM 64 hn_64 := ⟨by decide +kernel, by decide +kernel, by decide +kernel, by decide +kernel⟩
def hn_65 : List (Nat × List Nat) := [(1, []), (1, []), (1, []), (3, [2023, 2022, 1004, 0, 2020, 10, 0, 0, 0]), (3, []), (1, []), (1, []), (1, []), (3, [2019, 2018, 1004, 0, 2016, 9, 0, 0, 0]), (1, []), (1, []), (2, []), (3, []), (1, []), (2, []), (3, []), (1, []), (1, []), (1, []), (1, []), (3, [1106, 9, 0]), (1, []), (1, []), (3, [1106, 9, 0]), (1, []), (1, []), (1, []), (3, [2023, 2022, 1004, 0, 2020, 10, 0, 0, 0]), (3, []), (1, []), (1, []), (1, []), (1, []), (3, [2035, 2034, 1004, 0, 2032, 13, 0, 0, 0]), (1, []), (1, [])]
theorem cw_65 : Cond.code (mtd 65).1 (mtd 65).2.1 (prg 65).2 (mtd 65).2.2 ∈ gtbl := tc_ok 2039 rfl rfl
set_option maxRecDepth 100000 in
theorem ck_65 : ckM 65 hn_65 := ⟨by decide +kernel, by decide +kernel, by decide +kernel, by decide +kernel⟩
def hn_66 : List (Nat × List Nat) := [(1, []), (3, [2019, 2018, 1004, 0, 2016, 9, 0, 0, 0]), (1, []), (1, []), (3, []), (3, []), (1, []), (2, []), (2, []), (3, [1203, 1202, 1001, 1, 1201]), (3, []), (1, []), (1, []), (3, [2035, 2034, 1004, 0, 2032, 13, 0, 0, 0]), (1, []), (1, []), (3, [1106, 9, 0]), (1, []), (1, []), (3, [1106, 9, 0]), (1, []), (1, []), (1, []), (2, []), (3, []), (1, []), (2, []), (3, []), (1, []), (1, []), (3, []), (1, []), (1, []), (1, []), (1, []), (3, [1106, 9, 0]), (1, []), (1, []), (3, [1106, 9, 0]), (1, []), (2, []), (3, []), (1, []), (1, []), (1, []), (1, []), (3, [2047, 2046, 1004, 0, 2044, 16, 0, 0, 0]), (1, []), (1, []), (1, []), (1, []), (1, []), (1, []), (3, [2023, 2022, 1004, 0, 2020, 10, 0, 0, 0]), (3, []), (1, []), (2, []), (3, [2015, 2014, 1004, 0, 2012, 8, 0, 0, 0]), (3, []), (1, []), (3, []), (1, []), (1, [])]
theorem cw_66 : Cond.code (mtd 66).1 (mtd 66).2.1 (prg 66).2 (mtd 66).2.2 ∈ gtbl := tc_ok 2043 rfl rfl
set_option maxRecDepth 100000 in
theorem ck_66 : ckM 66 hn_66 := ⟨by decide +kernel, by decide +kernel, by decide +kernel, by decide +kernel⟩
def hn_67 : List (Nat × List Nat) := [(1, []), (1, []), (3, [2043, 2042, 1004, 0, 2040, 15, 0, 0, 0]), (3, []), (1, []), (1, []), (1, []), (2, []), (3, [2035, 2034, 1004, 0, 2032, 13, 0, 0, 0]), (1, []), (1, [])]
theorem cw_67 : Cond.code (mtd 67).1 (mtd 67).2.1 (prg 67).2 (mtd 67).2.2 ∈ gtbl := tc_ok 2047 rfl rfl
set_option maxRecDepth 100000 in
theorem ck_67 : ckM 67 hn_67 := ⟨by decide +kernel, by decide +kernel, by decide +kernel, by decide +kernel⟩
def hn_68 : List (Nat × List Nat) := [(1, []), (3, [1107, 9, 0]), (1, []), (1, []), (3, [1104, 9, 0]), (1, []), (1, []), (1, []), (3, [1203, 1202, 1001, 1, 1201]), (3, []), (1, []), (3, [1104, 9, 0]), (1, []), (3, [1107, 9, 0]), (1, []), (1, []), (1, []), (1, []), (3, [1107, 9, 0]), (1, []), (1, []), (3, [1107, 9, 0]), (1, [])]
theorem cw_68 : Cond.code (mtd 68).1 (mtd 68).2.1 (prg 68).2 (mtd 68).2.2 ∈ gtbl := tc_ok 2035 rfl rfl
set_option maxRecDepth 100000 in
theorem ck_68 : ckM 68 hn_68 := ⟨by decide +kernel, by decide +kernel, by decide +kernel, by decide +kernel⟩
def hn_69 : List (Nat × List Nat) := [(1, []), (1, []), (3, [1105, 9, 0]), (1, []), (1, []), (1, []), (1, []), (1, []), (3, []), (1, []), (1, []), (3, [1102, 9, 0]), (1, []), (3, []), (1, []), (1, []), (3, [1103, 9, 0]), (1, []), (3, []), (1, []), (3, [1215, 1214, 1004, 0, 1212, 1, 0, 0, 0]), (1, []), (3, [1103, 9, 0]), (1, []), (1, []), (3, [1105, 9, 0]), (1, []), (1, []), (3, [1102, 9, 0]), (1, []), (1, []), (3, [1223, 1222, 1004, 0, 1220, 3, 0, 0, 0]), (1, []), (1, []), (3, [1102, 9, 0]), (1, []), (1, []), (1, []), (3, []), (1, []), (3, [1102, 9, 0]), (1, []), (1, []), (2, []), (3, []), (1, []), (3, []), (1, []), (1, []), (3, []), (3, []), (1, [])]
theorem cw_69 : Cond.code (mtd 69).1 (mtd 69).2.1 (prg 69).2 (mtd 69).2.2 ∈ gtbl := tc_ok 1211 rfl rfl
set_option maxRecDepth 100000 in
theorem ck_69 : ckM 69 hn_69 := ⟨by decide +kernel, by decide +kernel, by decide +kernel, by decide +kernel⟩
def hn_70 : List (Nat × List Nat) := [(1, []), (3, [1105, 9, 0]), (1, []), (3, [1099, 9, 0]), (3, []), (1, []), (1, []), (3, [1105, 9, 0]), (3, [1219, 1218, 1004, 0, 1216, 2, 0, 0, 0]), (2, []), (3, []), (1, []), (1, []), (3, [1105, 9, 0]), (3, [1219, 1218, 1004, 0, 1216, 2, 0, 0, 0]), (2, []), (3, []), (1, []), (1, []), (3, [1105, 9, 0]), (1, []), (1, []), (3, [1105, 9, 0]), (3, []), (1, [])]
theorem cw_70 : Cond.code (mtd 70).1 (mtd 70).2.1 (prg 70).2 (mtd 70).2.2 ∈ gtbl := tc_ok 1215 rfl rfl
set_option maxRecDepth 100000 in
theorem ck_70 : ckM 70 hn_70 := ⟨by decide +kernel, by decide +kernel, by decide +kernel, by decide +kernel⟩
def hn_71 : List (Nat × List Nat) := [(1, []), (3, [1105, 9, 0]), (1, []), (1, []), (1, []), (3, [1099, 9, 0]), (3, []), (1, []), (1, []), (1, []), (1, []), (3, [1219, 1218, 1004, 0, 1216, 2, 0, 0, 0]), (1, []), (1, []), (1, []), (3, [1105, 9, 0]), (1, []), (1, []), (3, [1105, 9, 0]), (1, []), (3, [1226, 1225, 1004, 0, 1224]), (3, []), (1, []), (1, []), (3, [1230, 1229, 1004, 0, 1227, 4, 0, 0, 0]), (1, []), (1, []), (3, [2000, 1239, 1004, 0, 1238]), (3, []), (1, []), (1, []), (3, [2004, 2003, 1004, 0, 2001, 6, 0, 0, 0]), (1, []), (1, []), (3, [2007, 2006, 1004, 0, 2005]), (3, []), (1, []), (3, []), (2, []), (1, [])]
theorem cw_71 : Cond.code (mtd 71).1 (mtd 71).2.1 (prg 71).2 (mtd 71).2.2 ∈ gtbl := tc_ok 1223 rfl rfl
set_option maxRecDepth 100000 in
theorem ck_71 : ckM 71 hn_71 := ⟨by decide +kernel, by decide +kernel, by decide +kernel, by decide +kernel⟩
def hn_72 : List (Nat × List Nat) := [(1, []), (3, [1105, 9, 0]), (1, []), (3, [1099, 9, 0]), (3, []), (1, []), (1, []), (3, [1105, 9, 0]), (3, [1219, 1218, 1004, 0, 1216, 2, 0, 0, 0]), (3, [1226, 1225, 1004, 0, 1224]), (3, []), (1, []), (1, []), (3, [1105, 9, 0]), (1, []), (1, []), (3, [1105, 9, 0]), (3, []), (1, []), (1, []), (1, []), (1, []), (1, []), (2, []), (2, []), (2, []), (3, [1232, 0, 0, 0, 0, 0, 0, 0, 0]), (3, []), (2, []), (2, []), (3, [1233, 0, 0, 0, 0, 0, 0, 0, 0]), (2, []), (3, []), (2, []), (1, []), (1, []), (1, []), (3, [1105, 9, 0]), (1, []), (1, []), (3, []), (1, []), (1, []), (1, []), (2, []), (3, [1237, 1236, 1004, 0, 1234, 5, 0, 0, 0]), (3, []), (1, []), (1, []), (3, []), (2, []), (1, []), (1, []), (1, []), (3, []), (3, []), (2, []), (1, [])]
theorem cw_72 : Cond.code (mtd 72).1 (mtd 72).2.1 (prg 72).2 (mtd 72).2.2 ∈ gtbl := tc_ok 1230 rfl rfl
set_option maxRecDepth 100000 in
theorem ck_72 : ckM 72 hn_72 := ⟨by decide +kernel, by decide +kernel, by decide +kernel, by decide +kernel⟩
def hn_73 : List (Nat × List Nat) := [(1, []), (2, []), (2, []), (3, []), (2, []), (1, []), (3, []), (2, []), (2, []), (3, [1232, 0, 0, 0, 0, 0, 0, 0, 0]), (3, []), (2, []), (2, []), (3, [1233, 0, 0, 0, 0, 0, 0, 0, 0]), (1, []), (1, []), (2, []), (1, []), (1, []), (1, []), (3, [1219, 1218, 1004, 0, 1216, 2, 0, 0, 0]), (3, []), (1, []), (1, []), (3, []), (3, []), (1, []), (1, [])]
theorem cw_73 : Cond.code (mtd 73).1 (mtd 73).2.1 (prg 73).2 (mtd 73).2.2 ∈ gtbl := tc_ok 1237 rfl rfl
set_option maxRecDepth 100000 in
theorem ck_73 : ckM 73 hn_73 := ⟨by decide +kernel, by decide +kernel, by decide +kernel, by decide +kernel⟩
def hn_74 : List (Nat × List Nat) := [(1, []), (3, [1105, 9, 0]), (1, []), (3, [1099, 9, 0]), (3, []), (1, []), (1, []), (3, [1105, 9, 0]), (3, [1219, 1218, 1004, 0, 1216, 2, 0, 0, 0]), (3, [2000, 1239, 1004, 0, 1238]), (3, []), (1, []), (1, []), (3, [1105, 9, 0]), (1, []), (1, []), (3, [1105, 9, 0]), (3, []), (1, []), (3, [1105, 9, 0]), (1, []), (1, []), (1, []), (3, []), (2, []), (1, []), (1, []), (1, []), (1, []), (1, []), (1, []), (1, []), (3, [1105, 9, 0]), (3, []), (2, []), (1, []), (1, []), (1, []), (1, []), (3, [1219, 1218, 1004, 0, 1216, 2, 0, 0, 0]), (1, []), (2, []), (1, []), (1, []), (3, []), (3, []), (3, []), (1, []), (1, []), (1, [])]
theorem cw_74 : Cond.code (mtd 74).1 (mtd 74).2.1 (prg 74).2 (mtd 74).2.2 ∈ gtbl := tc_ok 2004 rfl rfl
set_option maxRecDepth 100000 in
theorem ck_74 : ckM 74 hn_74 := ⟨by decide +kernel, by decide +kernel, by decide +kernel, by decide +kernel⟩
def hn_75 : List (Nat × List Nat) := [(1, []), (3, []), (1, []), (1, []), (3, [1099, 9, 0]), (3, []), (1, []), (1, []), (3, [1101, 9, 0]), (1, []), (3, []), (1, []), (3, [1101, 9, 0]), (1, []), (1, []), (3, []), (1, []), (1, [])]
theorem cw_75 : Cond.code (mtd 75).1 (mtd 75).2.1 (prg 75).2 (mtd 75).2.2 ∈ gtbl := tc_ok 1219 rfl rfl
set_option maxRecDepth 100000 in
theorem ck_75 : ckM 75 hn_75 := ⟨by decide +kernel, by decide +kernel, by decide +kernel, by decide +kernel⟩
def hn_76 : List (Nat × List Nat) := [(1, []), (2, []), (3, []), (1, []), (2, []), (3, []), (1, []), (3, []), (1, []), (1, [])]
theorem cw_76 : Cond.code (mtd 76).1 (mtd 76).2.1 (prg 76).2 (mtd 76).2.2 ∈ gtbl := tc_ok 1226 rfl rfl
set_option maxRecDepth 100000 in
theorem ck_76 : ckM 76 hn_76 := ⟨by decide +kernel, by decide +kernel, by decide +kernel, by decide +kernel⟩
def hn_77 : List (Nat × List Nat) := [(1, []), (2, []), (3, []), (1, []), (2, []), (3, []), (1, []), (3, []), (1, []), (1, [])]
theorem cw_77 : Cond.code (mtd 77).1 (mtd 77).2.1 (prg 77).2 (mtd 77).2.2 ∈ gtbl := tc_ok 2000 rfl rfl
set_option maxRecDepth 100000 in
theorem ck_77 : ckM 77 hn_77 := ⟨by decide +kernel, by decide +kernel, by decide +kernel, by decide +kernel⟩
def hn_78 : List (Nat × List Nat) := [(1, []), (103, []), (1, []), (1, []), (1, []), (1, [])]
theorem cw_78 : Cond.code (mtd 78).1 (mtd 78).2.1 (prg 78).2 (mtd 78).2.2 ∈ gtbl := tc_ok 2007 rfl rfl
set_option maxRecDepth 100000 in
theorem ck_78 : ckM 78 hn_78 := ⟨by decide +kernel, by decide +kernel, by decide +kernel, by decide +kernel⟩
def hn_79 : List (Nat × List Nat) := [(1, []), (1, []), (1, []), (3, [3115, 3114, 1018, 0, 3145, 0, 0]), (1, [])]
theorem cw_79 : Cond.code (mtd 79).1 (mtd 79).2.1 (prg 79).2 (mtd 79).2.2 ∈ gtbl := tc_ok 3144 rfl rfl
set_option maxRecDepth 100000 in
theorem ck_79 : ckM 79 hn_79 := ⟨by decide +kernel, by decide +kernel, by decide +kernel, by decide +kernel⟩
def hn_80 : List (Nat × List Nat) := [(1, []), (1, [])]
theorem cw_80 : Cond.code (mtd 80).1 (mtd 80).2.1 (prg 80).2 (mtd 80).2.2 ∈ gtbl := tc_ok 3193 rfl rfl
set_option maxRecDepth 100000 in
theorem ck_80 : ckM 80 hn_80 := ⟨by decide +kernel, by decide +kernel, by decide +kernel, by decide +kernel⟩
def hn_81 : List (Nat × List Nat) := [(1, []), (1, []), (1, []), (3, [2154, 2153, 1018, 2, 2168, 7047, 2169]), (1, []), (3, [3087, 10, 3088]), (1, []), (3, [2157, 2156, 1001, 1, 2170]), (3, []), (1, []), (3, []), (1, []), (1, [])]
theorem cw_81 : Cond.code (mtd 81).1 (mtd 81).2.1 (prg 81).2 (mtd 81).2.2 ∈ gtbl := tc_ok 2167 rfl rfl
set_option maxRecDepth 100000 in
theorem ck_81 : ckM 81 hn_81 := ⟨by decide +kernel, by decide +kernel, by decide +kernel, by decide +kernel⟩
def hn_82 : List (Nat × List Nat) := [(1, []), (1, []), (1, []), (3, [3026, 3010, 1016, 2, 3022, 3023, 2169]), (1, []), (1, [])]
theorem cw_82 : Cond.code (mtd 82).1 (mtd 82).2.1 (prg 82).2 (mtd 82).2.2 ∈ gtbl := tc_ok 3021 rfl rfl
set_option maxRecDepth 100000 in
theorem ck_82 : ckM 82 hn_82 := ⟨by decide +kernel, by decide +kernel, by decide +kernel, by decide +kernel⟩
