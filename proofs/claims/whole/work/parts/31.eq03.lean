/-! block equations -/
set_option maxRecDepth 20000 in
theorem q_26_29 {X : Nat × (Nat → Int32)} {d : Nat} (a0 : Int) (M : rM) : fn X (d + 1) 26 [rv 29, iv a0] M = cV (fn X d 27 [rv 29, iv a0] M) (fun M1 => kb X d 26 FU 7 [some (rv 29), some (iv a0), some (iv 0)] [] M1) := rfl
set_option maxRecDepth 20000 in
theorem q_26_29_at7 {X : Nat × (Nat → Int32)} {d n : Nat} (l1 : Int) (l2 : Int) (M : rM) : kb X d 26 (n + 1) 7 [some (rv 29), some (iv l1), some (iv l2)] [] M = if l2 < 700 then if M.2.1 29 2 = 0 then cI (fn X d 125 [rv 30] M) (fun x2 M1 => if x2 = 109 then cV (fn X d 131 [rv 30] M1) (fun M3 => cV (fn X d 27 [rv 29, iv l1] M3) (fun M4 => cV (fn X d 45 [rv 25, iv (-11)] M4) (fun M5 => kb X d 26 n 7 [some (rv 29), some (iv l1), some (iv (wr (l2 + 1)))] [] M5))) else oV M1) else oV M else oV M := rfl
set_option maxRecDepth 20000 in
theorem q_24_29 {X : Nat × (Nat → Int32)} {d : Nat} (a0 : Int) (M : rM) : fn X (d + 1) 24 [rv 29, iv a0] M = if a0 < 6 then cV (fn X d 26 [rv 29, iv a0] M) (fun M1 => kb X d 24 FU 30 [some (rv 29), some (iv a0), some (iv 0)] [] M1) else cI (fn X d 25 [rv 29] M) (fun x3 M2 => if x3 = 0 then cV (fn X d 17 [rv 29, iv 1] M2) (fun M4 => oV M4) else cV (fn X d 17 [rv 29, iv 2] M2) (fun M5 => oV M5)) := rfl
set_option maxRecDepth 20000 in
theorem q_24_29_at30 {X : Nat × (Nat → Int32)} {d n : Nat} (l1 : Int) (l2 : Int) (M : rM) : kb X d 24 (n + 1) 30 [some (rv 29), some (iv l1), some (iv l2)] [] M = if l2 < 700 then if M.2.1 29 2 = 0 then cI (fn X d 125 [rv 30] M) (fun x2 M1 => if x2 = 108 then cV (fn X d 131 [rv 30] M1) (fun M3 => cV (fn X d 26 [rv 29, iv l1] M3) (fun M4 => cV (fn X d 45 [rv 25, iv (-10)] M4) (fun M5 => kb X d 24 n 30 [some (rv 29), some (iv l1), some (iv (wr (l2 + 1)))] [] M5))) else oV M1) else oV M else oV M := rfl
set_option maxRecDepth 20000 in
theorem q_43_25 {X : Nat × (Nat → Int32)} {d : Nat}  (M : rM) : fn X (d + 1) 43 [rv 25] M = if M.2.1 25 3 = 0 then oI 1 M else oI 0 M := rfl
set_option maxRecDepth 20000 in
theorem q_21_29 {X : Nat × (Nat → Int32)} {d : Nat}  (M : rM) : fn X (d + 1) 21 [rv 29] M = cI (fn X d 43 [rv 25] M) (fun x2 M1 => if x2 = 0 then cV (fn X d 17 [rv 29, iv 5] M1) (fun M3 => oV M3) else cV (fn X d 131 [rv 30] M1) (fun M4 => cV (fn X d 24 [rv 29, iv 0] M4) (fun M5 => oV M5))) := rfl
set_option maxRecDepth 20000 in
theorem q_44_25 {X : Nat × (Nat → Int32)} {d : Nat}  (M : rM) : fn X (d + 1) 44 [rv 25] M = oV (puI M 25 3 0) := rfl
set_option maxRecDepth 20000 in
theorem q_119_17 {X : Nat × (Nat → Int32)} {d : Nat}  (M : rM) : fn X (d + 1) 119 [rv 17] M = oV (puI M 17 3 0) := rfl
set_option maxRecDepth 20000 in
theorem q_119_19 {X : Nat × (Nat → Int32)} {d : Nat}  (M : rM) : fn X (d + 1) 119 [rv 19] M = oV (puI M 19 3 0) := rfl
set_option maxRecDepth 20000 in
theorem q_119_21 {X : Nat × (Nat → Int32)} {d : Nat}  (M : rM) : fn X (d + 1) 119 [rv 21] M = oV (puI M 21 3 0) := rfl
set_option maxRecDepth 20000 in
theorem q_119_23 {X : Nat × (Nat → Int32)} {d : Nat}  (M : rM) : fn X (d + 1) 119 [rv 23] M = oV (puI M 23 3 0) := rfl
set_option maxRecDepth 20000 in
theorem q_64_16 {X : Nat × (Nat → Int32)} {d : Nat}  (M : rM) : fn X (d + 1) 64 [rv 16] M = cV (fn X d 119 [rv 17] M) (fun M1 => cV (fn X d 119 [rv 19] M1) (fun M2 => cV (fn X d 119 [rv 21] M2) (fun M3 => cV (fn X d 119 [rv 23] M3) (fun M4 => cV (fn X d 44 [rv 25] M4) (fun M5 => oV (puI (puI M5 16 5 50) 16 6 0)))))) := rfl
set_option maxRecDepth 20000 in
theorem q_124_30 {X : Nat × (Nat → Int32)} {d : Nat} (a0 : Int) (M : rM) : fn X (d + 1) 124 [rv 30, iv a0] M = cV (fn X d 131 [rv 30] (puI (puI M 30 1 (max 0 (min a0 700))) 30 3 0)) (fun M1 => oV M1) := rfl
set_option maxRecDepth 20000 in
theorem q_15_29 {X : Nat × (Nat → Int32)} {d : Nat} (a0 : Int) (M : rM) : fn X (d + 1) 15 [rv 29, iv a0] M = cV (fn X d 64 [rv 16] (puI (puI (puI (puI M 29 2 0) 29 3 (-1)) 29 4 0) 29 5 0)) (fun M1 => cV (fn X d 124 [rv 30, iv a0] M1) (fun M2 => kb X d 15 FU 37 [some (rv 29), none, some (iv 0)] [] M2)) := rfl
set_option maxRecDepth 20000 in
theorem q_15_29_at37 {X : Nat × (Nat → Int32)} {d n : Nat} (l2 : Int) (M : rM) : kb X d 15 (n + 1) 37 [some (rv 29), none, some (iv l2)] [] M = if l2 < 700 then if M.2.1 29 2 = 0 then cI (fn X d 125 [rv 30] M) (fun x2 M1 => if x2 = 0 then oI (M1.2.1 29 2) M1 else cI (fn X d 125 [rv 30] M1) (fun x4 M3 => if x4 = 101 then cV (fn X d 18 [rv 29, rv 17] M3) (fun M5 => kb X d 15 n 194 [some (rv 29), none, some (iv l2)] [] M5) else if x4 = 102 then cV (fn X d 18 [rv 29, rv 19] M3) (fun M6 => kb X d 15 n 194 [some (rv 29), none, some (iv l2)] [] M6) else if x4 = 103 then cV (fn X d 18 [rv 29, rv 21] M3) (fun M7 => kb X d 15 n 194 [some (rv 29), none, some (iv l2)] [] M7) else if x4 = 104 then cV (fn X d 18 [rv 29, rv 23] M3) (fun M8 => kb X d 15 n 194 [some (rv 29), none, some (iv l2)] [] M8) else if x4 = 105 then cV (fn X d 19 [rv 29] M3) (fun M9 => kb X d 15 n 194 [some (rv 29), none, some (iv l2)] [] M9) else if x4 = 106 then cV (fn X d 20 [rv 29] M3) (fun M10 => kb X d 15 n 194 [some (rv 29), none, some (iv l2)] [] M10) else if x4 = 107 then cV (fn X d 21 [rv 29] M3) (fun M11 => kb X d 15 n 194 [some (rv 29), none, some (iv l2)] [] M11) else cV (fn X d 17 [rv 29, iv 1] M3) (fun M12 => kb X d 15 n 194 [some (rv 29), none, some (iv l2)] [] M12))) else oI (M.2.1 29 2) M else oI (M.2.1 29 2) M := rfl
set_option maxRecDepth 20000 in
theorem q_15_29_at194 {X : Nat × (Nat → Int32)} {d n : Nat} (l2 : Int) (M : rM) : kb X d 15 (n + 1) 194 [some (rv 29), none, some (iv l2)] [] M = cV (fn X d 23 [rv 29, iv 59] M) (fun M1 => kb X d 15 n 37 [some (rv 29), none, some (iv (wr (l2 + 1)))] [] M1) := rfl
set_option maxRecDepth 20000 in
theorem q_16_29 {X : Nat × (Nat → Int32)} {d : Nat}  (M : rM) : fn X (d + 1) 16 [rv 29] M = oI (M.2.1 29 3) M := rfl
set_option maxRecDepth 20000 in
theorem q_46_12_25 {X : Nat × (Nat → Int32)} {d : Nat}  (M : rM) : fn X (d + 1) 46 [rv 12, rv 25] M = gd ((0 : Int) ≤ 0 ∧ (0 : Int) ≤ 0 ∧ (0 : Int) ≤ M.2.1 25 3 ∧ (0 : Int) + (M.2.1 25 3) ≤ 700 ∧ (0 : Int) + (M.2.1 25 3) ≤ 700) (oV (puA (puI M 12 3 (M.2.1 25 3)) 13 (va_cpy (M.2.1 26) (M.2.1 13) 0 0 (M.2.1 25 3).toNat))) := rfl
set_option maxRecDepth 20000 in
theorem q_122_4_17 {X : Nat × (Nat → Int32)} {d : Nat}  (M : rM) : fn X (d + 1) 122 [rv 4, rv 17] M = oV (puA (puI M 4 3 (M.2.1 17 3)) 5 (va_cpy (M.2.1 18) (M.2.1 5) 0 0 30)) := rfl
set_option maxRecDepth 20000 in
theorem q_122_6_19 {X : Nat × (Nat → Int32)} {d : Nat}  (M : rM) : fn X (d + 1) 122 [rv 6, rv 19] M = oV (puA (puI M 6 3 (M.2.1 19 3)) 7 (va_cpy (M.2.1 20) (M.2.1 7) 0 0 48)) := rfl
set_option maxRecDepth 20000 in
theorem q_122_8_21 {X : Nat × (Nat → Int32)} {d : Nat}  (M : rM) : fn X (d + 1) 122 [rv 8, rv 21] M = oV (puA (puI M 8 3 (M.2.1 21 3)) 9 (va_cpy (M.2.1 22) (M.2.1 9) 0 0 12)) := rfl
set_option maxRecDepth 20000 in
theorem q_122_10_23 {X : Nat × (Nat → Int32)} {d : Nat}  (M : rM) : fn X (d + 1) 122 [rv 10, rv 23] M = oV (puA (puI M 10 3 (M.2.1 23 3)) 11 (va_cpy (M.2.1 24) (M.2.1 11) 0 0 8)) := rfl
set_option maxRecDepth 20000 in
theorem q_65_3_16 {X : Nat × (Nat → Int32)} {d : Nat}  (M : rM) : fn X (d + 1) 65 [rv 3, rv 16] M = cV (fn X d 122 [rv 4, rv 17] M) (fun M1 => cV (fn X d 122 [rv 6, rv 19] M1) (fun M2 => cV (fn X d 122 [rv 8, rv 21] M2) (fun M3 => cV (fn X d 122 [rv 10, rv 23] M3) (fun M4 => cV (fn X d 46 [rv 12, rv 25] M4) (fun M5 => oV (puI (puI M5 3 5 (M5.2.1 16 5)) 3 6 (M5.2.1 16 6))))))) := rfl
set_option maxRecDepth 20000 in
theorem q_66_3 {X : Nat × (Nat → Int32)} {d : Nat}  (M : rM) : fn X (d + 1) 66 [rv 3] M = oI (M.2.1 3 5) M := rfl
set_option maxRecDepth 20000 in
theorem q_112_4 {X : Nat × (Nat → Int32)} {d : Nat}  (M : rM) : fn X (d + 1) 112 [rv 4] M = oI (M.2.1 4 3) M := rfl
set_option maxRecDepth 20000 in
theorem q_118_4 {X : Nat × (Nat → Int32)} {d : Nat} (a0 : Int) (a1 : Int) (M : rM) : fn X (d + 1) 118 [rv 4, iv a0, iv a1] M = gd (0 ≤ wr ((wr (a0 * 5)) + a1) ∧ wr ((wr (a0 * 5)) + a1) < 30) (oI (M.2.1 5 ((wr ((wr (a0 * 5)) + a1)).toNat)) M) := rfl
set_option maxRecDepth 20000 in
theorem q_91_s {X : Nat × (Nat → Int32)} {d : Nat} {s : Nat}  (M : rM) (hs : s = 34 ∨ s = 57) : fn X (d + 1) 91 [rv s] M = cI (fn X d 66 [rv 3] M) (fun x2 M1 => kb X d 91 FU 29 [some (rv s), some (iv 0)] [] (puI (puI (puI M1 (s + 1) 0 x2) (s + 1) 1 0) (s + 1) 2 (-1))) := by rcases hs with rfl | rfl <;> rfl
set_option maxRecDepth 20000 in
theorem q_91_s_at29 {X : Nat × (Nat → Int32)} {d n : Nat} {s : Nat} (l1 : Int) (M : rM) (hs : s = 34 ∨ s = 57) : kb X d 91 (n + 1) 29 [some (rv s), some (iv l1)] [] M = cI (fn X d 112 [rv 4] M) (fun x2 M1 => if l1 < x2 then cI (fn X d 118 [rv 4, iv l1, iv 1] M1) (fun x4 M3 => gd (0 ≤ wr ((wr (4 * l1)) + 3) ∧ wr ((wr (4 * l1)) + 3) < 27) (cI (fn X d 118 [rv 4, iv l1, iv 2] (puI M3 (s + 1) ((wr ((wr (4 * l1)) + 3)).toNat) x4)) (fun x6 M5 => gd (0 ≤ wr ((wr (4 * l1)) + 4) ∧ wr ((wr (4 * l1)) + 4) < 27) (gd (0 ≤ wr ((wr (4 * l1)) + 5) ∧ wr ((wr (4 * l1)) + 5) < 27) (gd (0 ≤ wr ((wr (4 * l1)) + 6) ∧ wr ((wr (4 * l1)) + 6) < 27) (kb X d 91 n 29 [some (rv s), some (iv (wr (l1 + 1)))] [] (puI (puI (puI M5 (s + 1) ((wr ((wr (4 * l1)) + 4)).toNat) x6) (s + 1) ((wr ((wr (4 * l1)) + 5)).toNat) 0) (s + 1) ((wr ((wr (4 * l1)) + 6)).toNat) 0))))))) else oV M1) := by rcases hs with rfl | rfl <;> rfl
set_option maxRecDepth 20000 in
theorem q_140_31 {X : Nat × (Nat → Int32)} {d : Nat}  (M : rM) : fn X (d + 1) 140 [rv 31] M = cV (fn X d 91 [rv 34] M) (fun M1 => oV (puI (puI (puI M1 31 2 0) 31 3 0) 31 5 0)) := rfl
set_option maxRecDepth 20000 in
theorem q_152_0 {X : Nat × (Nat → Int32)} {d : Nat} (a0 : Int) (M : rM) : fn X (d + 1) 152 [rv 0, iv a0] M = if a0 < 0 then oX 1 (thr M) else if M.2.1 0 1 < a0 then oX 1 (thr M) else cI (fn X d 15 [rv 29, iv a0] (puI M 0 1 0)) (fun x2 M1 => cI (fn X d 16 [rv 29] M1) (fun x4 M3 => if x2 = 0 then cV (fn X d 65 [rv 3, rv 16] (puI M3 0 2 x4)) (fun M5 => cV (fn X d 140 [rv 31] M5) (fun M6 => oI 0 (puI M6 0 9 0))) else oI x2 (puI (puI M3 0 2 x4) 2 0 (wr ((M3.2.1 2 0) + 1))))) := rfl
set_option maxRecDepth 20000 in
theorem q_323_0_111 {X : Nat × (Nat → Int32)} {d : Nat} (a0 : Int) (M : rM) : fn X (d + 1) 323 [rv 0, iv a0, rv 111] M = cIh (fn X d 152 [rv 0, iv a0] M) (fun x2 M1 => oI 0 (puJ M1 111 0 (i2j x2))) (fun q4 M3 => if 1 = q4 then oI 1 M3 else none) := rfl
set_option maxRecDepth 20000 in
theorem q_93_s {X : Nat × (Nat → Int32)} {d : Nat} {s : Nat}  (M : rM) (hs : s = 34 ∨ s = 57) : fn X (d + 1) 93 [rv s] M = oI (M.2.1 (s + 1) 0) M := by rcases hs with rfl | rfl <;> rfl
set_option maxRecDepth 20000 in
theorem q_95_s {X : Nat × (Nat → Int32)} {d : Nat} {s : Nat}  (M : rM) (hs : s = 34 ∨ s = 57) : fn X (d + 1) 95 [rv s] M = oI (M.2.1 (s + 1) 1) M := by rcases hs with rfl | rfl <;> rfl
set_option maxRecDepth 20000 in
theorem q_96_s {X : Nat × (Nat → Int32)} {d : Nat} {s : Nat}  (M : rM) (hs : s = 34 ∨ s = 57) : fn X (d + 1) 96 [rv s] M = oI (M.2.1 (s + 1) 2) M := by rcases hs with rfl | rfl <;> rfl
set_option maxRecDepth 20000 in
theorem q_102_s {X : Nat × (Nat → Int32)} {d : Nat} {s : Nat} (a0 : Int) (M : rM) (hs : s = 34 ∨ s = 57) : fn X (d + 1) 102 [rv s, iv a0] M = gd (0 ≤ wr ((wr (4 * a0)) + 6) ∧ wr ((wr (4 * a0)) + 6) < 27) (oI (M.2.1 (s + 1) ((wr ((wr (4 * a0)) + 6)).toNat)) M) := by rcases hs with rfl | rfl <;> rfl
set_option maxRecDepth 20000 in
theorem q_105_s {X : Nat × (Nat → Int32)} {d : Nat} {s : Nat} (a0 : Int) (M : rM) (hs : s = 34 ∨ s = 57) : fn X (d + 1) 105 [rv s, iv a0] M = kb X d 105 FU 4 [some (rv s), some (iv a0), some (iv 0), some (iv 0)] [] M := by rcases hs with rfl | rfl <;> rfl
set_option maxRecDepth 20000 in
theorem q_105_s_at4 {X : Nat × (Nat → Int32)} {d n : Nat} {s : Nat} (l1 : Int) (l2 : Int) (l3 : Int) (M : rM) (hs : s = 34 ∨ s = 57) : kb X d 105 (n + 1) 4 [some (rv s), some (iv l1), some (iv l2), some (iv l3)] [] M = cI (fn X d 112 [rv 4] M) (fun x2 M1 => if l3 < x2 then cI (fn X d 102 [rv s, iv l3] M1) (fun x4 M3 => if x4 = l1 then kb X d 105 n 4 [some (rv s), some (iv l1), some (iv (ior l2 (ishl 1 l3))), some (iv (wr (l3 + 1)))] [] M3 else kb X d 105 n 4 [some (rv s), some (iv l1), some (iv l2), some (iv (wr (l3 + 1)))] [] M3) else oI l2 M1) := by rcases hs with rfl | rfl <;> rfl
set_option maxRecDepth 20000 in
theorem q_106_s {X : Nat × (Nat → Int32)} {d : Nat} {s : Nat}  (M : rM) (hs : s = 34 ∨ s = 57) : fn X (d + 1) 106 [rv s] M = kb X d 106 FU 4 [some (rv s), some (iv 0), some (iv 0)] [] M := by rcases hs with rfl | rfl <;> rfl
set_option maxRecDepth 20000 in
theorem q_106_s_at4 {X : Nat × (Nat → Int32)} {d n : Nat} {s : Nat} (l1 : Int) (l2 : Int) (M : rM) (hs : s = 34 ∨ s = 57) : kb X d 106 (n + 1) 4 [some (rv s), some (iv l1), some (iv l2)] [] M = cI (fn X d 112 [rv 4] M) (fun x2 M1 => if l2 < x2 then cI (fn X d 102 [rv s, iv l2] M1) (fun x4 M3 => if x4 = 1 then cI (fn X d 118 [rv 4, iv l2, iv 4] M3) (fun x6 M5 => kb X d 106 n 4 [some (rv s), some (iv (wr (l1 + x6))), some (iv (wr (l2 + 1)))] [] M5) else kb X d 106 n 4 [some (rv s), some (iv l1), some (iv (wr (l2 + 1)))] [] M3) else oI l1 M1) := by rcases hs with rfl | rfl <;> rfl
set_option maxRecDepth 20000 in
theorem q_112_6 {X : Nat × (Nat → Int32)} {d : Nat}  (M : rM) : fn X (d + 1) 112 [rv 6] M = oI (M.2.1 6 3) M := rfl
set_option maxRecDepth 20000 in
theorem q_112_8 {X : Nat × (Nat → Int32)} {d : Nat}  (M : rM) : fn X (d + 1) 112 [rv 8] M = oI (M.2.1 8 3) M := rfl
set_option maxRecDepth 20000 in
theorem q_112_10 {X : Nat × (Nat → Int32)} {d : Nat}  (M : rM) : fn X (d + 1) 112 [rv 10] M = oI (M.2.1 10 3) M := rfl
set_option maxRecDepth 20000 in
theorem q_142_31 {X : Nat × (Nat → Int32)} {d : Nat}  (M : rM) : fn X (d + 1) 142 [rv 31] M = oI (M.2.1 31 3) M := rfl
set_option maxRecDepth 20000 in
theorem q_145_31 {X : Nat × (Nat → Int32)} {d : Nat}  (M : rM) : fn X (d + 1) 145 [rv 31] M = oI (M.2.1 31 5) M := rfl
set_option maxRecDepth 20000 in
theorem q_154_0 {X : Nat × (Nat → Int32)} {d : Nat} (a0 : Int) (M : rM) : fn X (d + 1) 154 [rv 0, iv a0] M = if a0 = 0 then cI (fn X d 112 [rv 4] M) (fun x2 M1 => oI x2 M1) else if a0 = 1 then cI (fn X d 112 [rv 6] M) (fun x4 M3 => oI x4 M3) else if a0 = 2 then cI (fn X d 112 [rv 8] M) (fun x6 M5 => oI x6 M5) else if a0 = 3 then cI (fn X d 112 [rv 10] M) (fun x8 M7 => oI x8 M7) else if a0 = 4 then cI (fn X d 93 [rv 34] M) (fun x10 M9 => oI x10 M9) else if a0 = 5 then cI (fn X d 95 [rv 34] M) (fun x12 M11 => oI x12 M11) else if a0 = 6 then cI (fn X d 105 [rv 34, iv 0] M) (fun x14 M13 => oI x14 M13) else if a0 = 7 then cI (fn X d 105 [rv 34, iv 1] M) (fun x16 M15 => oI x16 M15) else if a0 = 8 then cI (fn X d 105 [rv 34, iv 2] M) (fun x18 M17 => oI x18 M17) else if a0 = 9 then cI (fn X d 96 [rv 34] M) (fun x20 M19 => oI x20 M19) else if a0 = 10 then cI (fn X d 106 [rv 34] M) (fun x22 M21 => oI x22 M21) else if a0 = 11 then cI (fn X d 142 [rv 31] M) (fun x24 M23 => oI x24 M23) else if a0 = 12 then cI (fn X d 145 [rv 31] M) (fun x26 M25 => oI x26 M25) else if a0 = 13 then oI (M.2.1 0 1) M else if a0 = 14 then oI (M.2.1 2 0) M else if a0 = 15 then oI (M.2.1 2 1) M else if a0 = 16 then oI (M.2.1 2 2) M else oX 0 (thr M) := rfl
set_option maxRecDepth 20000 in
theorem q_324_0_111 {X : Nat × (Nat → Int32)} {d : Nat} (a0 : Int) (M : rM) : fn X (d + 1) 324 [rv 0, iv a0, rv 111] M = cIh (fn X d 154 [rv 0, iv a0] M) (fun x2 M1 => oI 0 (puJ M1 111 0 (i2j x2))) (fun q4 M3 => if 0 = q4 then oI 1 M3 else none) := rfl
set_option maxRecDepth 20000 in
theorem q_118_6 {X : Nat × (Nat → Int32)} {d : Nat} (a0 : Int) (a1 : Int) (M : rM) : fn X (d + 1) 118 [rv 6, iv a0, iv a1] M = gd (0 ≤ wr ((wr (a0 * 6)) + a1) ∧ wr ((wr (a0 * 6)) + a1) < 48) (oI (M.2.1 7 ((wr ((wr (a0 * 6)) + a1)).toNat)) M) := rfl
set_option maxRecDepth 20000 in
theorem q_70_3 {X : Nat × (Nat → Int32)} {d : Nat} (a0 : Int) (a1 : Int) (M : rM) : fn X (d + 1) 70 [rv 3, iv a0, iv a1] M = cI (fn X d 118 [rv 6, iv a0, iv 0] M) (fun x2 M1 => if iand x2 (ixor a1 (-1)) = 0 then cI (fn X d 118 [rv 6, iv a0, iv 1] M1) (fun x4 M3 => if iand x4 a1 = 0 then oI 1 M3 else oI 0 M3) else oI 0 M1) := rfl
set_option maxRecDepth 20000 in
theorem q_71_3 {X : Nat × (Nat → Int32)} {d : Nat} (a0 : Int) (M : rM) : fn X (d + 1) 71 [rv 3, iv a0] M = kb X d 71 FU 4 [some (rv 3), some (iv a0), some (iv 0), some (iv 0)] [] M := rfl
set_option maxRecDepth 20000 in
theorem q_71_3_at4 {X : Nat × (Nat → Int32)} {d n : Nat} (l1 : Int) (l2 : Int) (l3 : Int) (M : rM) : kb X d 71 (n + 1) 4 [some (rv 3), some (iv l1), some (iv l2), some (iv l3)] [] M = cI (fn X d 112 [rv 6] M) (fun x2 M1 => if l3 < x2 then cI (fn X d 70 [rv 3, iv l3, iv l1] M1) (fun x4 M3 => if x4 = 0 then kb X d 71 n 4 [some (rv 3), some (iv l1), some (iv l2), some (iv (wr (l3 + 1)))] [] M3 else kb X d 71 n 4 [some (rv 3), some (iv l1), some (iv (ior l2 (ishl 1 l3))), some (iv (wr (l3 + 1)))] [] M3) else oI l2 M1) := rfl
set_option maxRecDepth 20000 in
theorem q_98_s {X : Nat × (Nat → Int32)} {d : Nat} {s : Nat} (a0 : Int) (M : rM) (hs : s = 34 ∨ s = 57) : fn X (d + 1) 98 [rv s, iv a0] M = gd (0 ≤ wr ((wr (4 * a0)) + 3) ∧ wr ((wr (4 * a0)) + 3) < 27) (oI (M.2.1 (s + 1) ((wr ((wr (4 * a0)) + 3)).toNat)) M) := by rcases hs with rfl | rfl <;> rfl
set_option maxRecDepth 20000 in
theorem q_100_s {X : Nat × (Nat → Int32)} {d : Nat} {s : Nat} (a0 : Int) (M : rM) (hs : s = 34 ∨ s = 57) : fn X (d + 1) 100 [rv s, iv a0] M = gd (0 ≤ wr ((wr (4 * a0)) + 4) ∧ wr ((wr (4 * a0)) + 4) < 27) (oI (M.2.1 (s + 1) ((wr ((wr (4 * a0)) + 4)).toNat)) M) := by rcases hs with rfl | rfl <;> rfl
set_option maxRecDepth 20000 in
theorem q_101_s {X : Nat × (Nat → Int32)} {d : Nat} {s : Nat} (a0 : Int) (M : rM) (hs : s = 34 ∨ s = 57) : fn X (d + 1) 101 [rv s, iv a0] M = gd (0 ≤ wr ((wr (4 * a0)) + 5) ∧ wr ((wr (4 * a0)) + 5) < 27) (oI (M.2.1 (s + 1) ((wr ((wr (4 * a0)) + 5)).toNat)) M) := by rcases hs with rfl | rfl <;> rfl
set_option maxRecDepth 20000 in
theorem q_192_0 {X : Nat × (Nat → Int32)} {d : Nat} (a0 : Int) (M : rM) : fn X (d + 1) 192 [rv 0, iv a0] M = cI (fn X d 102 [rv 34, iv a0] M) (fun x2 M1 => if x2 = 0 then oI 1 M1 else oI 0 M1) := rfl
set_option maxRecDepth 20000 in
theorem q_116_4 {X : Nat × (Nat → Int32)} {d : Nat} (a0 : Int) (M : rM) : fn X (d + 1) 116 [rv 4, iv a0] M = if a0 < 0 then oI 0 M else if a0 < M.2.1 4 3 then oI 1 M else oI 0 M := rfl
set_option maxRecDepth 20000 in
theorem q_198_0 {X : Nat × (Nat → Int32)} {d : Nat} (a0 : Int) (M : rM) : fn X (d + 1) 198 [rv 0, iv a0] M = cI (fn X d 116 [rv 4, iv a0] M) (fun x2 M1 => if x2 = 0 then oX 0 (thr M1) else oV M1) := rfl
set_option maxRecDepth 20000 in
theorem q_155_0 {X : Nat × (Nat → Int32)} {d : Nat} (a0 : Int) (a1 : Int) (M : rM) : fn X (d + 1) 155 [rv 0, iv a0, iv a1] M = cV (fn X d 198 [rv 0, iv a0] M) (fun M1 => if a1 = 0 then cI (fn X d 118 [rv 4, iv a0, iv 0] M1) (fun x3 M2 => oI x3 M2) else if a1 = 1 then cI (fn X d 98 [rv 34, iv a0] M1) (fun x5 M4 => oI x5 M4) else if a1 = 2 then cI (fn X d 100 [rv 34, iv a0] M1) (fun x7 M6 => oI x7 M6) else if a1 = 3 then cI (fn X d 118 [rv 4, iv a0, iv 3] M1) (fun x9 M8 => oI x9 M8) else if a1 = 4 then cI (fn X d 118 [rv 4, iv a0, iv 4] M1) (fun x11 M10 => oI x11 M10) else if a1 = 5 then cI (fn X d 101 [rv 34, iv a0] M1) (fun x13 M12 => oI x13 M12) else if a1 = 6 then cI (fn X d 102 [rv 34, iv a0] M1) (fun x15 M14 => oI x15 M14) else if a1 = 7 then cI (fn X d 192 [rv 0, iv a0] M1) (fun x17 M16 => if x17 = 0 then oI 0 M16 else cI (fn X d 98 [rv 34, iv a0] M16) (fun x19 M18 => cI (fn X d 71 [rv 3, iv x19] M18) (fun x21 M20 => oI x21 M20))) else oX 0 (thr M1)) := rfl
set_option maxRecDepth 20000 in
theorem q_325_0_111 {X : Nat × (Nat → Int32)} {d : Nat} (a0 : Int) (a1 : Int) (M : rM) : fn X (d + 1) 325 [rv 0, iv a0, iv a1, rv 111] M = cIh (fn X d 155 [rv 0, iv a0, iv a1] M) (fun x2 M1 => oI 0 (puJ M1 111 0 (i2j x2))) (fun q4 M3 => if 0 = q4 then oI 1 M3 else none) := rfl
set_option maxRecDepth 20000 in
theorem q_116_6 {X : Nat × (Nat → Int32)} {d : Nat} (a0 : Int) (M : rM) : fn X (d + 1) 116 [rv 6, iv a0] M = if a0 < 0 then oI 0 M else if a0 < M.2.1 6 3 then oI 1 M else oI 0 M := rfl
set_option maxRecDepth 20000 in
theorem q_199_0 {X : Nat × (Nat → Int32)} {d : Nat} (a0 : Int) (M : rM) : fn X (d + 1) 199 [rv 0, iv a0] M = cI (fn X d 116 [rv 6, iv a0] M) (fun x2 M1 => if x2 = 0 then oX 0 (thr M1) else oV M1) := rfl
