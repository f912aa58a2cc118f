/-! block equations -/
set_option maxRecDepth 20000 in
theorem q_81_3 {X : Nat × (Nat → Int32)} {d : Nat} (a0 : Int) (a1 : Int) (a2 : Int) (M : rM) : fn X (d + 1) 81 [rv 3, iv a0, iv a1, iv a2] M = kb X d 81 FU 3 [some (rv 3), some (iv a0), some (iv a1), some (iv a2), some (iv 0)] [] M := rfl
set_option maxRecDepth 20000 in
theorem q_81_3_at3 {X : Nat × (Nat → Int32)} {d n : Nat} (l1 : Int) (l2 : Int) (l3 : Int) (l4 : Int) (M : rM) : kb X d 81 (n + 1) 3 [some (rv 3), some (iv l1), some (iv l2), some (iv l3), some (iv l4)] [] M = if l4 < 4 then cI (fn X d 82 [rv 3, iv l1, iv l2, iv l3, iv (ishr l4 1), iv (iand l4 1)] M) (fun x2 M1 => if x2 = 0 then kb X d 81 n 3 [some (rv 3), some (iv l1), some (iv l2), some (iv l3), some (iv (wr (l4 + 1)))] [] M1 else oI (wr ((wr (10 * (ishr l4 1))) + (iand l4 1))) M1) else oI (-1) M := rfl
set_option maxRecDepth 20000 in
theorem q_116_8 {X : Nat × (Nat → Int32)} {d : Nat} (a0 : Int) (M : rM) : fn X (d + 1) 116 [rv 8, iv a0] M = if a0 < 0 then oI 0 M else if a0 < M.2.1 8 3 then oI 1 M else oI 0 M := rfl
set_option maxRecDepth 20000 in
theorem q_200_0 {X : Nat × (Nat → Int32)} {d : Nat} (a0 : Int) (M : rM) : fn X (d + 1) 200 [rv 0, iv a0] M = cI (fn X d 116 [rv 8, iv a0] M) (fun x2 M1 => if x2 = 0 then oX 0 (thr M1) else oV M1) := rfl
set_option maxRecDepth 20000 in
theorem q_179_0 {X : Nat × (Nat → Int32)} {d : Nat} (a0 : Int) (a1 : Int) (a2 : Int) (a3 : Int) (M : rM) : fn X (d + 1) 179 [rv 0, iv a0, iv a1, iv a2, iv a3] M = cV (fn X d 200 [rv 0, iv a0] M) (fun M1 => cV (fn X d 200 [rv 0, iv a1] M1) (fun M2 => cV (fn X d 198 [rv 0, iv a2] M2) (fun M3 => cV (fn X d 203 [rv 0, iv a3, iv 1] M3) (fun M4 => if a0 = a1 then oX 1 (thr M4) else if a3 = 0 then cI (fn X d 80 [rv 3, iv a0, iv a1, iv a2] M4) (fun x6 M5 => oI x6 M5) else cI (fn X d 81 [rv 3, iv a0, iv a1, iv a2] M4) (fun x8 M7 => oI x8 M7))))) := rfl
set_option maxRecDepth 20000 in
theorem q_344_0_111 {X : Nat × (Nat → Int32)} {d : Nat} (a0 : Int) (a1 : Int) (a2 : Int) (a3 : Int) (M : rM) : fn X (d + 1) 344 [rv 0, iv a0, iv a1, iv a2, iv a3, rv 111] M = cIh (fn X d 179 [rv 0, iv a0, iv a1, iv a2, iv a3] M) (fun x2 M1 => oI 0 (puJ M1 111 0 (i2j x2))) (fun q4 M3 => if 0 = q4 then oI 1 M3 else if 1 = q4 then oI 2 M3 else none) := rfl
set_option maxRecDepth 20000 in
theorem q_8_56 {X : Nat × (Nat → Int32)} {d : Nat} (a0 : Int) (M : rM) : fn X (d + 1) 8 [rv 56, iv a0] M = if 0 < a0 then if a0 = 0 then none else oI (irm (iand (iush (wr ((wr ((M.2.1 56 3) * 1103515245)) + 12345)) 16) 32767) a0) (puI M 56 3 (wr ((wr ((M.2.1 56 3) * 1103515245)) + 12345))) else oI 0 (puI M 56 3 (wr ((wr ((M.2.1 56 3) * 1103515245)) + 12345))) := rfl
set_option maxRecDepth 20000 in
theorem q_7_56 {X : Nat × (Nat → Int32)} {d : Nat}  (M : rM) : fn X (d + 1) 7 [rv 56] M = cV (fn X d 92 [rv 57, rv 34] M) (fun M1 => kb X d 7 FU 13 [some (rv 56), some (iv 0), none, none] [] M1) := rfl
set_option maxRecDepth 20000 in
theorem q_7_56_at13 {X : Nat × (Nat → Int32)} {d n : Nat} (l1 : Int) (M : rM) : kb X d 7 (n + 1) 13 [some (rv 56), some (iv l1), none, none] [] M = if l1 < 6 then cI (fn X d 112 [rv 4] M) (fun x2 M1 => if 0 < x2 then cI (fn X d 112 [rv 6] M1) (fun x4 M3 => if 0 < x4 then cI (fn X d 112 [rv 4] M3) (fun x6 M5 => cI (fn X d 8 [rv 56, iv x6] M5) (fun x8 M7 => cI (fn X d 112 [rv 6] M7) (fun x10 M9 => cI (fn X d 8 [rv 56, iv x10] M9) (fun x12 M11 => cI (fn X d 107 [rv 57, iv x8, iv x12] M11) (fun x14 M13 => if x14 = 0 then cV (fn X d 109 [rv 57] M13) (fun M15 => kb X d 7 n 13 [some (rv 56), some (iv (wr (l1 + 1))), none, none] [] M15) else cI (fn X d 108 [rv 57, iv x8, iv x12] M13) (fun x17 M16 => cV (fn X d 109 [rv 57] M16) (fun M18 => kb X d 7 n 13 [some (rv 56), some (iv (wr (l1 + 1))), none, none] [] M18))))))) else cV (fn X d 109 [rv 57] M3) (fun M19 => kb X d 7 n 13 [some (rv 56), some (iv (wr (l1 + 1))), none, none] [] M19)) else cV (fn X d 109 [rv 57] M1) (fun M20 => kb X d 7 n 13 [some (rv 56), some (iv (wr (l1 + 1))), none, none] [] M20)) else oV M := rfl
set_option maxRecDepth 20000 in
theorem q_6_56 {X : Nat × (Nat → Int32)} {d : Nat} (a0 : Int) (a1 : Int) (a2 : Int) (M : rM) : fn X (d + 1) 6 [rv 56, iv a0, iv a1, iv a2] M = kb X d 6 FU 14 [some (rv 56), none, some (iv a1), some (iv a2), some (iv 0), some (iv 0), some (iv 0)] [] (puI M 56 3 a0) := rfl
set_option maxRecDepth 20000 in
theorem q_6_56_at14 {X : Nat × (Nat → Int32)} {d n : Nat} (l2 : Int) (l3 : Int) (l4 : Int) (l5 : Int) (l6 : Int) (M : rM) : kb X d 6 (n + 1) 14 [some (rv 56), none, some (iv l2), some (iv l3), some (iv l4), some (iv l5), some (iv l6)] [] M = if l6 < l2 then cV (fn X d 7 [rv 56] M) (fun M1 => if l3 = 0 then cI (fn X d 105 [rv 57, iv 1] M1) (fun x3 M2 => cI (fn X d 352 [iv x3] M2) (fun x5 M4 => cI (fn X d 93 [rv 57] M4) (fun x7 M6 => kb X d 6 n 14 [some (rv 56), none, some (iv l2), some (iv l3), some (iv (wr (l4 + x5))), some (iv (max l5 x7)), some (iv (wr (l6 + 1)))] [] M6))) else cI (fn X d 105 [rv 57, iv 2] M1) (fun x9 M8 => cI (fn X d 352 [iv x9] M8) (fun x11 M10 => cI (fn X d 93 [rv 57] M10) (fun x13 M12 => kb X d 6 n 14 [some (rv 56), none, some (iv l2), some (iv l3), some (iv (wr (l4 + x11))), some (iv (max l5 x13)), some (iv (wr (l6 + 1)))] [] M12)))) else if l3 = 2 then oI l5 M else oI l4 M := rfl
set_option maxRecDepth 20000 in
theorem q_180_0 {X : Nat × (Nat → Int32)} {d : Nat} (a0 : Int) (a1 : Int) (a2 : Int) (M : rM) : fn X (d + 1) 180 [rv 0, iv a0, iv a1, iv a2] M = cV (fn X d 203 [rv 0, iv a2, iv 2] M) (fun M1 => if a1 < 0 then oX 1 (thr M1) else if 30 < a1 then oX 1 (thr M1) else cI (fn X d 6 [rv 56, iv a0, iv a1, iv a2] M1) (fun x3 M2 => oI x3 M2)) := rfl
set_option maxRecDepth 20000 in
theorem q_345_0_111 {X : Nat × (Nat → Int32)} {d : Nat} (a0 : Int) (a1 : Int) (a2 : Int) (M : rM) : fn X (d + 1) 345 [rv 0, iv a0, iv a1, iv a2, rv 111] M = cIh (fn X d 180 [rv 0, iv a0, iv a1, iv a2] M) (fun x2 M1 => oI 0 (puJ M1 111 0 (i2j x2))) (fun q4 M3 => if 0 = q4 then oI 1 M3 else if 1 = q4 then oI 2 M3 else none) := rfl
set_option maxRecDepth 20000 in
theorem q_181_0 {X : Nat × (Nat → Int32)} {d : Nat} (a0 : Int) (M : rM) : fn X (d + 1) 181 [rv 0, iv a0] M = cV (fn X d 199 [rv 0, iv a0] M) (fun M1 => kb X d 181 FU 9 [some (rv 0), some (iv a0), some (iv 0), some (iv 0)] [] M1) := rfl
set_option maxRecDepth 20000 in
theorem q_181_0_at9 {X : Nat × (Nat → Int32)} {d n : Nat} (l1 : Int) (l2 : Int) (l3 : Int) (M : rM) : kb X d 181 (n + 1) 9 [some (rv 0), some (iv l1), some (iv l2), some (iv l3)] [] M = cI (fn X d 112 [rv 4] M) (fun x2 M1 => if l3 < x2 then cI (fn X d 192 [rv 0, iv l3] M1) (fun x4 M3 => if x4 = 0 then kb X d 181 n 9 [some (rv 0), some (iv l1), some (iv l2), some (iv (wr (l3 + 1)))] [] M3 else cI (fn X d 98 [rv 34, iv l3] M3) (fun x6 M5 => cI (fn X d 70 [rv 3, iv l1, iv x6] M5) (fun x8 M7 => if x8 = 0 then kb X d 181 n 9 [some (rv 0), some (iv l1), some (iv l2), some (iv (wr (l3 + 1)))] [] M7 else kb X d 181 n 9 [some (rv 0), some (iv l1), some (iv (ior l2 (ishl 1 l3))), some (iv (wr (l3 + 1)))] [] M7))) else oI l2 M1) := rfl
set_option maxRecDepth 20000 in
theorem q_346_0_111 {X : Nat × (Nat → Int32)} {d : Nat} (a0 : Int) (M : rM) : fn X (d + 1) 346 [rv 0, iv a0, rv 111] M = cIh (fn X d 181 [rv 0, iv a0] M) (fun x2 M1 => oI 0 (puJ M1 111 0 (i2j x2))) (fun q4 M3 => if 0 = q4 then oI 1 M3 else none) := rfl
set_option maxRecDepth 20000 in
theorem q_182_0 {X : Nat × (Nat → Int32)} {d : Nat} (a0 : Int) (a1 : Int) (M : rM) : fn X (d + 1) 182 [rv 0, iv a0, iv a1] M = cV (fn X d 198 [rv 0, iv a0] M) (fun M1 => cV (fn X d 199 [rv 0, iv a1] M1) (fun M2 => cI (fn X d 98 [rv 34, iv a0] M2) (fun x4 M3 => cI (fn X d 118 [rv 6, iv a1, iv 0] M3) (fun x6 M5 => cI (fn X d 118 [rv 6, iv a1, iv 1] M5) (fun x8 M7 => oI (ior (iand x6 (ixor x4 (-1))) (ishl (iand x8 x4) 6)) M7))))) := rfl
set_option maxRecDepth 20000 in
theorem q_347_0_111 {X : Nat × (Nat → Int32)} {d : Nat} (a0 : Int) (a1 : Int) (M : rM) : fn X (d + 1) 347 [rv 0, iv a0, iv a1, rv 111] M = cIh (fn X d 182 [rv 0, iv a0, iv a1] M) (fun x2 M1 => oI 0 (puJ M1 111 0 (i2j x2))) (fun q4 M3 => if 0 = q4 then oI 1 M3 else none) := rfl
set_option maxRecDepth 20000 in
theorem q_184_0 {X : Nat × (Nat → Int32)} {d : Nat} (a0 : Int) (M : rM) : fn X (d + 1) 184 [rv 0, iv a0] M = cV (fn X d 198 [rv 0, iv a0] M) (fun M1 => cI (fn X d 192 [rv 0, iv a0] M1) (fun x3 M2 => if x3 = 0 then oI (-1) M2 else cV (fn X d 195 [rv 0, iv a0] M2) (fun M4 => kb X d 184 FU 24 [some (rv 0), none, some (iv 0), some (iv 0)] [] M4))) := rfl
set_option maxRecDepth 20000 in
theorem q_184_0_at24 {X : Nat × (Nat → Int32)} {d n : Nat} (l2 : Int) (l3 : Int) (M : rM) : kb X d 184 (n + 1) 24 [some (rv 0), none, some (iv l2), some (iv l3)] [] M = if l3 < 6 then cJ (fn X d 53 [rv 41] M) (fun x2 M1 => cJ (fn X d 197 [iv (ishl 1 l3), iv 0] M1) (fun x4 M3 => if jcmp (x2 &&& x4) (Int64.ofNat 0) = 0 then kb X d 184 n 56 [some (rv 0), none, some (iv (ior l2 (ishl 1 l3))), some (iv l3)] [] M3 else kb X d 184 n 56 [some (rv 0), none, some (iv l2), some (iv l3)] [] M3)) else oI l2 M := rfl
set_option maxRecDepth 20000 in
theorem q_184_0_at56 {X : Nat × (Nat → Int32)} {d n : Nat} (l2 : Int) (l3 : Int) (M : rM) : kb X d 184 (n + 1) 56 [some (rv 0), none, some (iv l2), some (iv l3)] [] M = cJ (fn X d 53 [rv 41] M) (fun x2 M1 => cJ (fn X d 197 [iv 0, iv (ishl 1 l3)] M1) (fun x4 M3 => if jcmp (x2 &&& x4) (Int64.ofNat 0) = 0 then kb X d 184 n 24 [some (rv 0), none, some (iv (ior l2 (ishl 1 (wr (6 + l3))))), some (iv (wr (l3 + 1)))] [] M3 else kb X d 184 n 24 [some (rv 0), none, some (iv l2), some (iv (wr (l3 + 1)))] [] M3)) := rfl
set_option maxRecDepth 20000 in
theorem q_348_0_111 {X : Nat × (Nat → Int32)} {d : Nat} (a0 : Int) (M : rM) : fn X (d + 1) 348 [rv 0, iv a0, rv 111] M = cIh (fn X d 184 [rv 0, iv a0] M) (fun x2 M1 => oI 0 (puJ M1 111 0 (i2j x2))) (fun q4 M3 => if 0 = q4 then oI 1 M3 else none) := rfl
set_option maxRecDepth 20000 in
theorem q_185_0 {X : Nat × (Nat → Int32)} {d : Nat} (a0 : Int) (M : rM) : fn X (d + 1) 185 [rv 0, iv a0] M = cV (fn X d 205 [rv 0, iv a0, iv 0] M) (fun M1 => cI (fn X d 1 [rv 56, iv a0] M1) (fun x3 M2 => cI (fn X d 75 [rv 3, iv x3] M2) (fun x5 M4 => oI x5 M4))) := rfl
set_option maxRecDepth 20000 in
theorem q_349_0_111 {X : Nat × (Nat → Int32)} {d : Nat} (a0 : Int) (M : rM) : fn X (d + 1) 349 [rv 0, iv a0, rv 111] M = cIh (fn X d 185 [rv 0, iv a0] M) (fun x2 M1 => oI 0 (puJ M1 111 0 (i2j x2))) (fun q4 M3 => if 1 = q4 then oI 1 M3 else none) := rfl
set_option maxRecDepth 20000 in
theorem q_79_3 {X : Nat × (Nat → Int32)} {d : Nat} (a0 : Int) (M : rM) : fn X (d + 1) 79 [rv 3, iv a0] M = cI (fn X d 77 [rv 3, iv a0, iv 0] M) (fun x2 M1 => kb X d 79 FU 12 [some (rv 3), none, some (iv x2), some (iv (-1)), some (iv 0)] [] M1) := rfl
set_option maxRecDepth 20000 in
theorem q_79_3_at12 {X : Nat × (Nat → Int32)} {d n : Nat} (l2 : Int) (l3 : Int) (l4 : Int) (M : rM) : kb X d 79 (n + 1) 12 [some (rv 3), none, some (iv l2), some (iv l3), some (iv l4)] [] M = cI (fn X d 112 [rv 8] M) (fun x2 M1 => if l4 < x2 then if iand (ishr l2 l4) 1 = 0 then kb X d 79 n 12 [some (rv 3), none, some (iv l2), some (iv l3), some (iv (wr (l4 + 1)))] [] M1 else if l3 = (-1) then kb X d 79 n 12 [some (rv 3), none, some (iv l2), some (iv l4), some (iv (wr (l4 + 1)))] [] M1 else cI (fn X d 118 [rv 8, iv l4, iv 1] M1) (fun x4 M3 => cI (fn X d 118 [rv 8, iv l3, iv 1] M3) (fun x6 M5 => if x6 < x4 then kb X d 79 n 12 [some (rv 3), none, some (iv l2), some (iv l4), some (iv (wr (l4 + 1)))] [] M5 else kb X d 79 n 12 [some (rv 3), none, some (iv l2), some (iv l3), some (iv (wr (l4 + 1)))] [] M5)) else oI l3 M1) := rfl
set_option maxRecDepth 20000 in
theorem q_186_0 {X : Nat × (Nat → Int32)} {d : Nat} (a0 : Int) (a1 : Int) (M : rM) : fn X (d + 1) 186 [rv 0, iv a0, iv a1] M = cV (fn X d 203 [rv 0, iv a1, iv 1] M) (fun M1 => cV (fn X d 206 [rv 0, iv a0] M1) (fun M2 => cI (fn X d 79 [rv 3, iv a0] M2) (fun x4 M3 => if x4 = (-1) then oI x4 M3 else if a1 = 1 then oI x4 M3 else cI (fn X d 118 [rv 8, iv x4, iv 1] M3) (fun x6 M5 => oI x6 M5)))) := rfl
set_option maxRecDepth 20000 in
theorem q_350_0_111 {X : Nat × (Nat → Int32)} {d : Nat} (a0 : Int) (a1 : Int) (M : rM) : fn X (d + 1) 350 [rv 0, iv a0, iv a1, rv 111] M = cIh (fn X d 186 [rv 0, iv a0, iv a1] M) (fun x2 M1 => oI 0 (puJ M1 111 0 (i2j x2))) (fun q4 M3 => if 0 = q4 then oI 1 M3 else if 1 = q4 then oI 2 M3 else none) := rfl
set_option maxRecDepth 20000 in
theorem q_85_3 {X : Nat × (Nat → Int32)} {d : Nat} (a0 : Int) (M : rM) : fn X (d + 1) 85 [rv 3, iv a0] M = kb X d 85 FU 4 [some (rv 3), some (iv a0), some (iv 0), some (iv 0)] [] M := rfl
set_option maxRecDepth 20000 in
theorem q_85_3_at4 {X : Nat × (Nat → Int32)} {d n : Nat} (l1 : Int) (l2 : Int) (l3 : Int) (M : rM) : kb X d 85 (n + 1) 4 [some (rv 3), some (iv l1), some (iv l2), some (iv l3)] [] M = cI (fn X d 112 [rv 10] M) (fun x2 M1 => if l3 < x2 then if iand (ishr l1 l3) 1 = 0 then kb X d 85 n 4 [some (rv 3), some (iv l1), some (iv l2), some (iv (wr (l3 + 1)))] [] M1 else cI (fn X d 118 [rv 10, iv l3, iv 0] M1) (fun x4 M3 => kb X d 85 n 4 [some (rv 3), some (iv l1), some (iv (ior l2 x4)), some (iv (wr (l3 + 1)))] [] M3) else oI l2 M1) := rfl
set_option maxRecDepth 20000 in
theorem q_117_10 {X : Nat × (Nat → Int32)} {d : Nat}  (M : rM) : fn X (d + 1) 117 [rv 10] M = oI (wr ((ishl 1 (M.2.1 10 3)) - 1)) M := rfl
set_option maxRecDepth 20000 in
theorem q_88_3 {X : Nat × (Nat → Int32)} {d : Nat} (a0 : Int) (M : rM) : fn X (d + 1) 88 [rv 3, iv a0] M = cI (fn X d 118 [rv 10, iv a0, iv 0] M) (fun x2 M1 => cI (fn X d 117 [rv 10] M1) (fun x4 M3 => cI (fn X d 85 [rv 3, iv (iand x4 (ixor (ishl 1 a0) (-1)))] M3) (fun x6 M5 => oI (iand x2 (ixor x6 (-1))) M5))) := rfl
set_option maxRecDepth 20000 in
theorem q_187_0 {X : Nat × (Nat → Int32)} {d : Nat} (a0 : Int) (M : rM) : fn X (d + 1) 187 [rv 0, iv a0] M = cV (fn X d 201 [rv 0, iv a0] M) (fun M1 => cI (fn X d 88 [rv 3, iv a0] M1) (fun x3 M2 => oI x3 M2)) := rfl
set_option maxRecDepth 20000 in
theorem q_351_0_111 {X : Nat × (Nat → Int32)} {d : Nat} (a0 : Int) (M : rM) : fn X (d + 1) 351 [rv 0, iv a0, rv 111] M = cIh (fn X d 187 [rv 0, iv a0] M) (fun x2 M1 => oI 0 (puJ M1 111 0 (i2j x2))) (fun q4 M3 => if 0 = q4 then oI 1 M3 else none) := rfl
set_option maxRecDepth 20000 in
theorem q_151_0 {X : Nat × (Nat → Int32)} {d : Nat} (a0 : Int) (M : rM) : fn X (d + 1) 151 [rv 0, iv a0] M = kb X d 151 FU 3 [some (rv 0), some (iv a0), some (iv 24)] [] M := rfl
set_option maxRecDepth 20000 in
theorem q_151_0_at3 {X : Nat × (Nat → Int32)} {d n : Nat} (l1 : Int) (l2 : Int) (M : rM) : kb X d 151 (n + 1) 3 [some (rv 0), some (iv l1), some (iv l2)] [] M = if l2 < 0 then oV M else if M.2.1 0 1 < 700 then gd (0 ≤ M.2.1 0 1 ∧ M.2.1 0 1 < 700) (kb X d 151 n 3 [some (rv 0), some (iv l1), some (iv (wr (l2 + (-8))))] [] (puI (puI M 1 ((M.2.1 0 1).toNat) (bnar (bnar (ishr l1 l2)))) 0 1 (wr ((M.2.1 0 1) + 1)))) else oV M := rfl
set_option maxRecDepth 20000 in
theorem q_150_0 {X : Nat × (Nat → Int32)} {d : Nat} (a0 : Int) (a1 : Int) (a2 : Int) (a3 : Int) (a4 : Int) (M : rM) : fn X (d + 1) 150 [rv 0, iv a0, iv a1, iv a2, iv a3, iv a4] M = if 700 < wr ((M.2.1 0 1) + 20) then oI (-1) M else cV (fn X d 151 [rv 0, iv a0] M) (fun M1 => cV (fn X d 151 [rv 0, iv a1] M1) (fun M2 => cV (fn X d 151 [rv 0, iv a2] M2) (fun M3 => cV (fn X d 151 [rv 0, iv a3] M3) (fun M4 => cV (fn X d 151 [rv 0, iv a4] M4) (fun M5 => oI (M5.2.1 0 1) M5))))) := rfl
set_option maxRecDepth 20000 in
theorem q_153_0 {X : Nat × (Nat → Int32)} {d : Nat}  (M : rM) : fn X (d + 1) 153 [rv 0] M = oI (M.2.1 0 2) M := rfl
set_option maxRecDepth 20000 in
theorem q_158_0 {X : Nat × (Nat → Int32)} {d : Nat} (a0 : Int) (M : rM) : fn X (d + 1) 158 [rv 0, iv a0] M = if a0 < 1 then cI (fn X d 193 [rv 0] M) (fun x2 M1 => oI x2 M1) else if 20 < a0 then cI (fn X d 193 [rv 0] M) (fun x4 M3 => oI x4 M3) else cI (fn X d 95 [rv 34] M) (fun x6 M5 => if 999 < wr (x6 + a0) then cI (fn X d 193 [rv 0] M5) (fun x8 M7 => oI x8 M7) else cV (fn X d 143 [rv 31] M5) (fun M9 => kb X d 158 FU 43 [some (rv 0), some (iv a0), some (iv 0)] [] M9)) := rfl
set_option maxRecDepth 20000 in
theorem q_158_0_at43 {X : Nat × (Nat → Int32)} {d n : Nat} (l1 : Int) (l2 : Int) (M : rM) : kb X d 158 (n + 1) 43 [some (rv 0), some (iv l1), some (iv l2)] [] M = if l2 < l1 then cV (fn X d 109 [rv 34] M) (fun M1 => kb X d 158 n 43 [some (rv 0), some (iv l1), some (iv (wr (l2 + 1)))] [] M1) else cI (fn X d 95 [rv 34] M) (fun x3 M2 => oI x3 M2) := rfl
set_option maxRecDepth 20000 in
theorem q_160_0 {X : Nat × (Nat → Int32)} {d : Nat} (a0 : Int) (M : rM) : fn X (d + 1) 160 [rv 0, iv a0] M = if a0 < 1 then cI (fn X d 193 [rv 0] M) (fun x2 M1 => oI x2 M1) else if 99 < a0 then cI (fn X d 193 [rv 0] M) (fun x4 M3 => oI x4 M3) else cV (fn X d 143 [rv 31] M) (fun M5 => cI (fn X d 93 [rv 34] M5) (fun x7 M6 => cV (fn X d 94 [rv 34, iv (min 999 (wr (x7 + a0)))] M6) (fun M8 => cI (fn X d 93 [rv 34] M8) (fun x10 M9 => oI x10 M9)))) := rfl
set_option maxRecDepth 20000 in
theorem q_144_31 {X : Nat × (Nat → Int32)} {d : Nat}  (M : rM) : fn X (d + 1) 144 [rv 31] M = if M.2.1 31 3 = 0 then oI 0 M else gd ((0 : Int) ≤ wr ((irm (wr ((M.2.1 31 2) + (wr ((M.2.1 31 3) - 1)))) 40) * 27) ∧ (0 : Int) ≤ 0 ∧ (0 : Int) ≤ 27 ∧ (wr ((irm (wr ((M.2.1 31 2) + (wr ((M.2.1 31 3) - 1)))) 40) * 27) : Int) + 27 ≤ 1080 ∧ (0 : Int) + 27 ≤ 27) (oI 1 (puA (puI M 31 3 (wr ((M.2.1 31 3) - 1))) 35 (va_cpy (M.2.1 32) (M.2.1 35) (wr ((irm (wr ((M.2.1 31 2) + (wr ((M.2.1 31 3) - 1)))) 40) * 27)).toNat 0 27))) := rfl
set_option maxRecDepth 20000 in
theorem q_162_0 {X : Nat × (Nat → Int32)} {d : Nat}  (M : rM) : fn X (d + 1) 162 [rv 0] M = cI (fn X d 144 [rv 31] M) (fun x2 M1 => if x2 = 0 then oI (-1) M1 else cI (fn X d 142 [rv 31] M1) (fun x4 M3 => oI x4 M3)) := rfl
set_option maxRecDepth 20000 in
theorem q_84_3 {X : Nat × (Nat → Int32)} {d : Nat}  (M : rM) : fn X (d + 1) 84 [rv 3] M = cI (fn X d 117 [rv 10] M) (fun x2 M1 => cI (fn X d 85 [rv 3, iv x2] M1) (fun x4 M3 => kb X d 84 FU 20 [some (rv 3), some (iv x4), some (iv 0), some (iv 9), some (iv 0)] [] M3)) := rfl
set_option maxRecDepth 20000 in
theorem q_84_3_at20 {X : Nat × (Nat → Int32)} {d n : Nat} (l1 : Int) (l2 : Int) (l3 : Int) (l4 : Int) (M : rM) : kb X d 84 (n + 1) 20 [some (rv 3), some (iv l1), some (iv l2), some (iv l3), some (iv l4)] [] M = cI (fn X d 117 [rv 10] M) (fun x2 M1 => if x2 < l4 then oI l2 M1 else cI (fn X d 352 [iv l4] M1) (fun x4 M3 => if x4 < l3 then cI (fn X d 85 [rv 3, iv l4] M3) (fun x6 M5 => if x6 = l1 then cI (fn X d 352 [iv l4] M5) (fun x8 M7 => kb X d 84 n 20 [some (rv 3), some (iv l1), some (iv l4), some (iv x8), some (iv (wr (l4 + 1)))] [] M7) else kb X d 84 n 20 [some (rv 3), some (iv l1), some (iv l2), some (iv l3), some (iv (wr (l4 + 1)))] [] M5) else kb X d 84 n 20 [some (rv 3), some (iv l1), some (iv l2), some (iv l3), some (iv (wr (l4 + 1)))] [] M3)) := rfl
set_option maxRecDepth 20000 in
theorem q_173_0 {X : Nat × (Nat → Int32)} {d : Nat}  (M : rM) : fn X (d + 1) 173 [rv 0] M = cI (fn X d 84 [rv 3] M) (fun x2 M1 => oI x2 M1) := rfl
set_option maxRecDepth 20000 in
theorem q_147_31 {X : Nat × (Nat → Int32)} {d : Nat}  (M : rM) : fn X (d + 1) 147 [rv 31] M = oV (puI M 31 5 0) := rfl
set_option maxRecDepth 20000 in
theorem q_176_0 {X : Nat × (Nat → Int32)} {d : Nat}  (M : rM) : fn X (d + 1) 176 [rv 0] M = cV (fn X d 147 [rv 31] M) (fun M1 => oV M1) := rfl
set_option maxRecDepth 20000 in
theorem q_54_41 {X : Nat × (Nat → Int32)} {d : Nat}  (M : rM) : fn X (d + 1) 54 [rv 41] M = oI (M.2.1 41 16) M := rfl
set_option maxRecDepth 20000 in
theorem q_117_6 {X : Nat × (Nat → Int32)} {d : Nat}  (M : rM) : fn X (d + 1) 117 [rv 6] M = oI (wr ((ishl 1 (M.2.1 6 3)) - 1)) M := rfl
set_option maxRecDepth 20000 in
theorem q_183_0 {X : Nat × (Nat → Int32)} {d : Nat}  (M : rM) : fn X (d + 1) 183 [rv 0] M = kb X d 183 FU 4 [some (rv 0), some (iv 0), some (iv 0)] [] M := rfl
set_option maxRecDepth 20000 in
theorem q_183_0_at4 {X : Nat × (Nat → Int32)} {d n : Nat} (l1 : Int) (l2 : Int) (M : rM) : kb X d 183 (n + 1) 4 [some (rv 0), some (iv l1), some (iv l2)] [] M = cI (fn X d 112 [rv 4] M) (fun x2 M1 => if l2 < x2 then cI (fn X d 192 [rv 0, iv l2] M1) (fun x4 M3 => if x4 = 0 then kb X d 183 n 4 [some (rv 0), some (iv l1), some (iv (wr (l2 + 1)))] [] M3 else cV (fn X d 195 [rv 0, iv l2] M3) (fun M5 => cI (fn X d 54 [rv 41] M5) (fun x7 M6 => kb X d 183 n 4 [some (rv 0), some (iv (ior l1 x7)), some (iv (wr (l2 + 1)))] [] M6))) else cI (fn X d 117 [rv 6] M1) (fun x9 M8 => oI (iand x9 (ixor l1 (-1))) M8)) := rfl
