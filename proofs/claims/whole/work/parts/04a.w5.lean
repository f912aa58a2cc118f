def sa_b20 : List Cond := (sa_pF.filter (fun q => !q.2.2.2)).map sa_wF
set_option maxRecDepth 100000 in
theorem sa_bi20 : ∀ w ∈ sa_b20, w ∈ lw_tbl := sa_place [(1, 49), (1, 50), (1, 51), (1, 52), (1, 76), (1, 77), (1, 78), (1, 79), (1, 89), (1, 95), (1, 102), (1, 105), (1, 108), (1, 110), (1, 111), (1, 139), (1, 140), (1, 141), (1, 142), (1, 143), (1, 144), (1, 145), (1, 161), (1, 162), (1, 163), (1, 164), (1, 165), (1, 166), (1, 192), (1, 193), (1, 200), (1, 203), (1, 204), (1, 205), (1, 206), (1, 207), (1, 227), (1, 228), (1, 229), (1, 230), (1, 231), (1, 232), (1, 233), (1, 234), (1, 235), (1, 236), (1, 237), (1, 238), (1, 239), (2, 0), (2, 1), (2, 2), (2, 3), (2, 46), (2, 47), (2, 48), (2, 49), (2, 50), (2, 51), (2, 71), (2, 72), (2, 73), (2, 74), (2, 75), (2, 76), (2, 98), (2, 99), (2, 100), (2, 101), (2, 111), (2, 112), (2, 113), (2, 114), (2, 115), (2, 116), (2, 117), (2, 118), (2, 119), (2, 120), (2, 121), (2, 122), (2, 123), (2, 124), (7, 54), (7, 55), (7, 56), (7, 57), (7, 58), (7, 59), (7, 60), (7, 61), (7, 62), (7, 63), (7, 64), (7, 65), (7, 66), (7, 67), (7, 68), (7, 69), (7, 70), (7, 71), (7, 72), (7, 73), (7, 74), (7, 75), (7, 76), (7, 77), (7, 78), (7, 79), (7, 80), (7, 81), (7, 82), (7, 83), (7, 84), (7, 85), (7, 86), (7, 87), (7, 88), (7, 89), (7, 90), (7, 91), (7, 92), (7, 93), (7, 94), (7, 95), (7, 96), (7, 97), (7, 98), (7, 99), (7, 100), (7, 101), (7, 102), (7, 103), (7, 104), (7, 105), (7, 106), (7, 107), (7, 108), (7, 109), (7, 110), (7, 111), (7, 112), (7, 113), (7, 114), (7, 115), (7, 116), (7, 117), (7, 118), (7, 119), (7, 120), (7, 121), (7, 122), (7, 123), (7, 124), (7, 125), (7, 126), (7, 127), (7, 128), (7, 129), (7, 130), (7, 131), (7, 132), (7, 133), (7, 134), (7, 135), (7, 136), (7, 137), (7, 138), (7, 139), (7, 140), (7, 141), (7, 142), (7, 143), (7, 144)] (by decide +kernel)
set_option maxRecDepth 100000 in
theorem sa_bg20 : ∀ w ∈ sa_b20, goodWord w = true := by decide +kernel
def sa_b21 : List Cond := vwCl.flatMap (fun q => u_ws q.1 q.2.1 q.2.2)
set_option maxRecDepth 100000 in
theorem sa_bi21 : ∀ w ∈ sa_b21, w ∈ lw_tbl := sa_place [(2, 102), (2, 104), (2, 106), (2, 108), (2, 52), (2, 54), (2, 56), (2, 58), (2, 60), (2, 62), (1, 167), (1, 169), (1, 171), (1, 173), (1, 175), (1, 177), (2, 77), (2, 79), (2, 81), (2, 83), (2, 85), (2, 87), (1, 80), (1, 82), (1, 84), (1, 86), (2, 4), (2, 6), (2, 8), (2, 10), (2, 12), (2, 14), (2, 16), (2, 18), (2, 20), (2, 22), (2, 24), (2, 26), (2, 28), (2, 30), (2, 32), (2, 34), (2, 36), (1, 112), (1, 114), (1, 116), (1, 118), (1, 120), (1, 122), (1, 124), (1, 195), (1, 197), (1, 53), (1, 55), (1, 57), (1, 59), (1, 146), (1, 148), (1, 150), (1, 152), (1, 154), (1, 156), (1, 158), (1, 208), (1, 210), (1, 212), (1, 214), (1, 216), (1, 218), (2, 125), (2, 127), (2, 129), (2, 131), (2, 133), (2, 135), (2, 137), (2, 139), (2, 141), (2, 143), (2, 145), (2, 147), (2, 149), (2, 151), (7, 145), (7, 147), (7, 149), (7, 151), (7, 153), (7, 155), (7, 157), (7, 159), (7, 161), (7, 163), (7, 165), (7, 167), (7, 169), (7, 171), (7, 173), (7, 175), (7, 177), (7, 179), (7, 181), (7, 183), (7, 185), (7, 187), (7, 189), (7, 191), (7, 193), (7, 195), (7, 197), (7, 199), (7, 201), (7, 203), (7, 205), (7, 207), (7, 209), (7, 211), (7, 213), (7, 215), (7, 217), (7, 219), (7, 221), (7, 223), (7, 225), (7, 227), (7, 229), (7, 231), (7, 233), (7, 235), (7, 237), (7, 239), (8, 1), (8, 3), (8, 5), (8, 7), (8, 9), (8, 11), (8, 13), (8, 15), (8, 17), (8, 19), (8, 21), (8, 23), (8, 25), (8, 27), (8, 29), (8, 31), (8, 33), (8, 35), (8, 37), (8, 39), (8, 41), (8, 43), (8, 45), (8, 47), (8, 49), (8, 51), (8, 53), (8, 55), (8, 57), (8, 59), (8, 61), (8, 63), (8, 65), (8, 67), (8, 69), (8, 71), (8, 73), (8, 75), (8, 77), (8, 79), (8, 81), (8, 83), (8, 85)] (by decide +kernel)
set_option maxRecDepth 100000 in
theorem sa_bg21 : ∀ w ∈ sa_b21, goodWord w = true := by decide +kernel
def sa_b22 : List Cond := sa_pN.map (fun q => Cond.classLink (sa_C q.1.1) q.1.2 (sa_C q.2))
set_option maxRecDepth 100000 in
theorem sa_bi22 : ∀ w ∈ sa_b22, w ∈ lw_tbl := sa_place [(1, 27), (1, 35), (1, 41), (1, 70), (1, 127), (1, 133), (1, 180), (1, 186), (1, 221), (2, 40), (2, 65), (2, 90), (2, 96), (7, 48)] (by decide +kernel)
set_option maxRecDepth 100000 in
theorem sa_bg22 : ∀ w ∈ sa_b22, goodWord w = true := by decide +kernel
def sa_b23 : List Cond := vwCl.map (fun q => Cond.instantiable q.1 q.2.2)
set_option maxRecDepth 100000 in
theorem sa_bi23 : ∀ w ∈ sa_b23, w ∈ lw_tbl := sa_place [(2, 91), (2, 41), (1, 128), (2, 66), (1, 71), (1, 222), (1, 36), (1, 187), (1, 42), (1, 134), (1, 181), (1, 28), (7, 49)] (by decide +kernel)
set_option maxRecDepth 100000 in
theorem sa_bg23 : ∀ w ∈ sa_b23, goodWord w = true := by decide +kernel
def sa_b24 : List Cond := sa_cn.map Cond.initialized
set_option maxRecDepth 100000 in
theorem sa_bi24 : ∀ w ∈ sa_b24, w ∈ lw_tbl := sa_place [(1, 12), (1, 10), (1, 5), (1, 11), (1, 4), (1, 9), (1, 2), (1, 8), (1, 3), (1, 6), (1, 7), (1, 1), (1, 13), (1, 0), (1, 25), (1, 26), (1, 19), (1, 20), (1, 21)] (by decide +kernel)
set_option maxRecDepth 100000 in
theorem sa_bg24 : ∀ w ∈ sa_b24, goodWord w = true := by decide +kernel
def sa_b25 : List Cond := sa_pK.map (fun q => Cond.constant (sa_C q.1.1) q.1.2 q.2)
set_option maxRecDepth 100000 in
theorem sa_bi25 : ∀ w ∈ sa_b25, w ∈ lw_tbl := sa_place [(3, 34), (3, 35), (3, 36), (6, 230), (9, 123), (10, 15)] (by decide +kernel)
set_option maxRecDepth 100000 in
theorem sa_bg25 : ∀ w ∈ sa_b25, goodWord w = true := by decide +kernel
def sa_b26 : List Cond := sa_pKL.map (fun q => Cond.constantLong (sa_C q.1.1) q.1.2 q.2)
set_option maxRecDepth 100000 in
theorem sa_bi26 : ∀ w ∈ sa_b26, w ∈ lw_tbl := sa_place [(5, 172), (8, 141)] (by decide +kernel)
set_option maxRecDepth 100000 in
theorem sa_bg26 : ∀ w ∈ sa_b26, goodWord w = true := by decide +kernel
def sa_b27 : List Cond := [Cond.arrayClass .byte, Cond.arrayClass .int, Cond.arrayClass .long, Cond.arrayClass .boolean]
set_option maxRecDepth 100000 in
theorem sa_bi27 : ∀ w ∈ sa_b27, w ∈ lw_tbl := sa_place [(1, 62), (1, 63), (2, 39), (8, 88)] (by decide +kernel)
set_option maxRecDepth 100000 in
theorem sa_bg27 : ∀ w ∈ sa_b27, goodWord w = true := by decide +kernel
def sa_b28 : List Cond := sa_pE.map (fun q => Cond.classLink (sa_C q.1.1) q.1.2 (sa_exn q.2.1))
set_option maxRecDepth 100000 in
theorem sa_bi28 : ∀ w ∈ sa_b28, w ∈ lw_tbl := sa_place [(3, 171), (3, 176), (5, 25), (5, 39)] (by decide +kernel)
set_option maxRecDepth 100000 in
theorem sa_bg28 : ∀ w ∈ sa_b28, goodWord w = true := by decide +kernel
def sa_b29 : List Cond := [Cond.initialized (sa_exn 0), Cond.initialized (sa_exn 1)]
set_option maxRecDepth 100000 in
theorem sa_bi29 : ∀ w ∈ sa_b29, w ∈ lw_tbl := sa_place [(1, 24), (1, 17)] (by decide +kernel)
set_option maxRecDepth 100000 in
theorem sa_bg29 : ∀ w ∈ sa_b29, goodWord w = true := by decide +kernel
def sa_b30 : List Cond := sa_pX.map (fun q => Cond.fieldLink (sa_C q.1.1) q.1.2 "java/lang/String" (if q.2 = 0 then "value" else "coder") (if q.2 = 0 then "[B" else "B"))
set_option maxRecDepth 100000 in
theorem sa_bi30 : ∀ w ∈ sa_b30, w ∈ lw_tbl := sa_place [(10, 78), (10, 79)] (by decide +kernel)
set_option maxRecDepth 100000 in
theorem sa_bg30 : ∀ w ∈ sa_b30, goodWord w = true := by decide +kernel
def sa_b31 : List Cond := [Cond.fieldLink (sa_C 16) 38 "java/lang/String" "COMPACT_STRINGS" "Z", Cond.fieldLink (sa_C 16) 1053 "jdk/internal/util/Preconditions" "SIOOBE_FORMATTER" "Ljava/util/function/BiFunction;"]
set_option maxRecDepth 100000 in
theorem sa_bi31 : ∀ w ∈ sa_b31, w ∈ lw_tbl := sa_place [(4, 56), (4, 72)] (by decide +kernel)
set_option maxRecDepth 100000 in
theorem sa_bg31 : ∀ w ∈ sa_b31, goodWord w = true := by decide +kernel
def sa_b32 : List Cond := (vx_at0 RX11 160 (sa_exn 0) sa_sup ++ vx_at0 RX11 103 (sa_exn 1) sa_sup).filter goodWord
set_option maxRecDepth 100000 in
theorem sa_bi32 : ∀ w ∈ sa_b32, w ∈ lw_tbl := by decide +kernel
set_option maxRecDepth 100000 in
theorem sa_bg32 : ∀ w ∈ sa_b32, goodWord w = true := by decide +kernel
