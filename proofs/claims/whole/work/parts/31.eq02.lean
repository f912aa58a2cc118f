/-! block equations -/
set_option maxRecDepth 20000 in
theorem q_135 {X : Nat × (Nat → Int32)} {d : Nat} (a0 : Int) (M : rM) : fn X (d + 1) 135 [iv a0] M = if a0 = 32 then oI 1 M else if a0 = 10 then oI 1 M else oI 0 M := rfl
set_option maxRecDepth 20000 in
theorem q_138 {X : Nat × (Nat → Int32)} {d : Nat} (a0 : Int) (M : rM) : fn X (d + 1) 138 [iv a0] M = if a0 = 40 then oI 1 M else if a0 = 41 then oI 1 M else if a0 = 42 then oI 1 M else if a0 = 43 then oI 1 M else if a0 = 44 then oI 0 M else if a0 = 45 then oI 1 M else if a0 = 46 then oI 0 M else if a0 = 47 then oI 1 M else if a0 = 48 then oI 0 M else if a0 = 49 then oI 0 M else if a0 = 50 then oI 0 M else if a0 = 51 then oI 0 M else if a0 = 52 then oI 0 M else if a0 = 53 then oI 0 M else if a0 = 54 then oI 0 M else if a0 = 55 then oI 0 M else if a0 = 56 then oI 0 M else if a0 = 57 then oI 0 M else if a0 = 58 then oI 0 M else if a0 = 59 then oI 1 M else if a0 = 60 then oI 1 M else if a0 = 61 then oI 1 M else oI 0 M := rfl
set_option maxRecDepth 20000 in
theorem q_131_30 {X : Nat × (Nat → Int32)} {d : Nat}  (M : rM) : fn X (d + 1) 131 [rv 30] M = if M.2.1 30 3 < M.2.1 30 1 then gd (0 ≤ M.2.1 30 3 ∧ M.2.1 30 3 < 700) (cI (fn X d 135 [iv (M.2.1 1 ((M.2.1 30 3).toNat))] M) (fun x2 M1 => if x2 = 0 then kb X d 131 FU 39 [some (rv 30)] [] M1 else kb X d 131 FU 0 [some (rv 30)] [] (puI M1 30 3 (wr ((M1.2.1 30 3) + 1))))) else kb X d 131 FU 39 [some (rv 30)] [] M := rfl
set_option maxRecDepth 20000 in
theorem q_131_30_at39 {X : Nat × (Nat → Int32)} {d n : Nat}  (M : rM) : kb X d 131 (n + 1) 39 [some (rv 30)] [] M = if M.2.1 30 3 < M.2.1 30 1 then gd (0 ≤ M.2.1 30 3 ∧ M.2.1 30 3 < 700) (cI (fn X d 136 [iv (M.2.1 1 ((M.2.1 30 3).toNat))] (puI M 30 2 (M.2.1 30 3))) (fun x2 M1 => if x2 = 0 then gd (0 ≤ M1.2.1 30 2 ∧ M1.2.1 30 2 < 700) (cI (fn X d 137 [iv (M1.2.1 1 ((M1.2.1 30 2).toNat))] M1) (fun x4 M3 => if x4 = 0 then gd (0 ≤ M3.2.1 30 2 ∧ M3.2.1 30 2 < 700) (cI (fn X d 138 [iv (M3.2.1 1 ((M3.2.1 30 2).toNat))] M3) (fun x6 M5 => if x6 = 0 then oV (puI (puI M5 30 4 1) 30 3 (wr ((M5.2.1 30 3) + 1))) else gd (0 ≤ M5.2.1 30 2 ∧ M5.2.1 30 2 < 700) (oV (puI (puI M5 30 4 (M5.2.1 1 ((M5.2.1 30 2).toNat))) 30 3 (wr ((M5.2.1 30 3) + 1)))))) else cV (fn X d 133 [rv 30] M3) (fun M7 => oV M7))) else cV (fn X d 132 [rv 30] M1) (fun M8 => oV M8))) else oV (puI (puI M 30 2 (M.2.1 30 3)) 30 4 0) := rfl
set_option maxRecDepth 20000 in
theorem q_131_30_at0 {X : Nat × (Nat → Int32)} {d n : Nat}  (M : rM) : kb X d 131 (n + 1) 0 [some (rv 30)] [] M = if M.2.1 30 3 < M.2.1 30 1 then gd (0 ≤ M.2.1 30 3 ∧ M.2.1 30 3 < 700) (cI (fn X d 135 [iv (M.2.1 1 ((M.2.1 30 3).toNat))] M) (fun x2 M1 => if x2 = 0 then kb X d 131 n 39 [some (rv 30)] [] M1 else kb X d 131 n 0 [some (rv 30)] [] (puI M1 30 3 (wr ((M1.2.1 30 3) + 1))))) else kb X d 131 n 39 [some (rv 30)] [] M := rfl
set_option maxRecDepth 20000 in
theorem q_22_29 {X : Nat × (Nat → Int32)} {d : Nat} (a0 : Int) (a1 : Int) (M : rM) : fn X (d + 1) 22 [rv 29, iv a0, iv a1] M = cI (fn X d 125 [rv 30] M) (fun x2 M1 => if x2 = 2 then cI (fn X d 127 [rv 30] M1) (fun x4 M3 => cI (fn X d 130 [rv 30] M3) (fun x6 M5 => if x6 = 0 then if x4 < a0 then cV (fn X d 17 [rv 29, iv 2] M5) (fun M7 => oI 0 M7) else if a1 < x4 then cV (fn X d 17 [rv 29, iv 2] M5) (fun M8 => oI 0 M8) else cV (fn X d 131 [rv 30] M5) (fun M9 => oI x4 M9) else cV (fn X d 17 [rv 29, iv 2] M5) (fun M10 => oI 0 M10))) else cV (fn X d 17 [rv 29, iv 1] M1) (fun M11 => oI 0 M11)) := rfl
set_option maxRecDepth 20000 in
theorem q_113_17 {X : Nat × (Nat → Int32)} {d : Nat}  (M : rM) : fn X (d + 1) 113 [rv 17] M = oI 5 M := rfl
set_option maxRecDepth 20000 in
theorem q_114_17 {X : Nat × (Nat → Int32)} {d : Nat} (a0 : Int) (M : rM) : fn X (d + 1) 114 [rv 17, iv a0] M = gd (0 ≤ a0 ∧ a0 < 5) (oI (((sa_lim.getD 0 []).getD a0.toNat 0).toInt) M) := rfl
set_option maxRecDepth 20000 in
theorem q_115_17 {X : Nat × (Nat → Int32)} {d : Nat}  (M : rM) : fn X (d + 1) 115 [rv 17] M = if M.2.1 17 3 < M.2.1 17 2 then oI 0 M else oI 1 M := rfl
set_option maxRecDepth 20000 in
theorem q_120_17 {X : Nat × (Nat → Int32)} {d : Nat} (a0 : Int) (a1 : Int) (M : rM) : fn X (d + 1) 120 [rv 17, iv a0, iv a1] M = if M.2.1 17 3 < M.2.1 17 2 then gd (0 ≤ wr ((wr ((M.2.1 17 3) * 5)) + a0) ∧ wr ((wr ((M.2.1 17 3) * 5)) + a0) < 30) (oV (puI M 18 ((wr ((wr ((M.2.1 17 3) * 5)) + a0)).toNat) a1)) else oV M := rfl
set_option maxRecDepth 20000 in
theorem q_121_17 {X : Nat × (Nat → Int32)} {d : Nat}  (M : rM) : fn X (d + 1) 121 [rv 17] M = if M.2.1 17 3 < M.2.1 17 2 then oV (puI M 17 3 (wr ((M.2.1 17 3) + 1))) else oV M := rfl
set_option maxRecDepth 20000 in
theorem q_18_29_17 {X : Nat × (Nat → Int32)} {d : Nat}  (M : rM) : fn X (d + 1) 18 [rv 29, rv 17] M = cI (fn X d 115 [rv 17] M) (fun x2 M1 => if x2 = 0 then cV (fn X d 131 [rv 30] M1) (fun M3 => kb X d 18 FU 22 [some (rv 29), some (rv 17), some (iv 0)] [] M3) else cV (fn X d 17 [rv 29, iv 2] M1) (fun M4 => oV M4)) := rfl
set_option maxRecDepth 20000 in
theorem q_18_29_17_at22 {X : Nat × (Nat → Int32)} {d n : Nat} (l2 : Int) (M : rM) : kb X d 18 (n + 1) 22 [some (rv 29), some (rv 17), some (iv l2)] [] M = cI (fn X d 113 [rv 17] M) (fun x2 M1 => if l2 < x2 then if M1.2.1 29 2 = 0 then cI (fn X d 114 [rv 17, iv l2] M1) (fun x4 M3 => cI (fn X d 22 [rv 29, iv 0, iv x4] M3) (fun x6 M5 => cV (fn X d 120 [rv 17, iv l2, iv x6] M5) (fun M7 => kb X d 18 n 22 [some (rv 29), some (rv 17), some (iv (wr (l2 + 1)))] [] M7))) else cV (fn X d 121 [rv 17] M1) (fun M8 => oV M8) else cV (fn X d 121 [rv 17] M1) (fun M9 => oV M9)) := rfl
set_option maxRecDepth 20000 in
theorem q_113_19 {X : Nat × (Nat → Int32)} {d : Nat}  (M : rM) : fn X (d + 1) 113 [rv 19] M = oI 6 M := rfl
set_option maxRecDepth 20000 in
theorem q_114_19 {X : Nat × (Nat → Int32)} {d : Nat} (a0 : Int) (M : rM) : fn X (d + 1) 114 [rv 19, iv a0] M = gd (0 ≤ a0 ∧ a0 < 6) (oI (((sa_lim.getD 1 []).getD a0.toNat 0).toInt) M) := rfl
set_option maxRecDepth 20000 in
theorem q_115_19 {X : Nat × (Nat → Int32)} {d : Nat}  (M : rM) : fn X (d + 1) 115 [rv 19] M = if M.2.1 19 3 < M.2.1 19 2 then oI 0 M else oI 1 M := rfl
set_option maxRecDepth 20000 in
theorem q_120_19 {X : Nat × (Nat → Int32)} {d : Nat} (a0 : Int) (a1 : Int) (M : rM) : fn X (d + 1) 120 [rv 19, iv a0, iv a1] M = if M.2.1 19 3 < M.2.1 19 2 then gd (0 ≤ wr ((wr ((M.2.1 19 3) * 6)) + a0) ∧ wr ((wr ((M.2.1 19 3) * 6)) + a0) < 48) (oV (puI M 20 ((wr ((wr ((M.2.1 19 3) * 6)) + a0)).toNat) a1)) else oV M := rfl
set_option maxRecDepth 20000 in
theorem q_121_19 {X : Nat × (Nat → Int32)} {d : Nat}  (M : rM) : fn X (d + 1) 121 [rv 19] M = if M.2.1 19 3 < M.2.1 19 2 then oV (puI M 19 3 (wr ((M.2.1 19 3) + 1))) else oV M := rfl
set_option maxRecDepth 20000 in
theorem q_18_29_19 {X : Nat × (Nat → Int32)} {d : Nat}  (M : rM) : fn X (d + 1) 18 [rv 29, rv 19] M = cI (fn X d 115 [rv 19] M) (fun x2 M1 => if x2 = 0 then cV (fn X d 131 [rv 30] M1) (fun M3 => kb X d 18 FU 22 [some (rv 29), some (rv 19), some (iv 0)] [] M3) else cV (fn X d 17 [rv 29, iv 2] M1) (fun M4 => oV M4)) := rfl
set_option maxRecDepth 20000 in
theorem q_18_29_19_at22 {X : Nat × (Nat → Int32)} {d n : Nat} (l2 : Int) (M : rM) : kb X d 18 (n + 1) 22 [some (rv 29), some (rv 19), some (iv l2)] [] M = cI (fn X d 113 [rv 19] M) (fun x2 M1 => if l2 < x2 then if M1.2.1 29 2 = 0 then cI (fn X d 114 [rv 19, iv l2] M1) (fun x4 M3 => cI (fn X d 22 [rv 29, iv 0, iv x4] M3) (fun x6 M5 => cV (fn X d 120 [rv 19, iv l2, iv x6] M5) (fun M7 => kb X d 18 n 22 [some (rv 29), some (rv 19), some (iv (wr (l2 + 1)))] [] M7))) else cV (fn X d 121 [rv 19] M1) (fun M8 => oV M8) else cV (fn X d 121 [rv 19] M1) (fun M9 => oV M9)) := rfl
set_option maxRecDepth 20000 in
theorem q_113_21 {X : Nat × (Nat → Int32)} {d : Nat}  (M : rM) : fn X (d + 1) 113 [rv 21] M = oI 2 M := rfl
set_option maxRecDepth 20000 in
theorem q_114_21 {X : Nat × (Nat → Int32)} {d : Nat} (a0 : Int) (M : rM) : fn X (d + 1) 114 [rv 21, iv a0] M = gd (0 ≤ a0 ∧ a0 < 2) (oI (((sa_lim.getD 2 []).getD a0.toNat 0).toInt) M) := rfl
set_option maxRecDepth 20000 in
theorem q_115_21 {X : Nat × (Nat → Int32)} {d : Nat}  (M : rM) : fn X (d + 1) 115 [rv 21] M = if M.2.1 21 3 < M.2.1 21 2 then oI 0 M else oI 1 M := rfl
set_option maxRecDepth 20000 in
theorem q_120_21 {X : Nat × (Nat → Int32)} {d : Nat} (a0 : Int) (a1 : Int) (M : rM) : fn X (d + 1) 120 [rv 21, iv a0, iv a1] M = if M.2.1 21 3 < M.2.1 21 2 then gd (0 ≤ wr ((wr ((M.2.1 21 3) * 2)) + a0) ∧ wr ((wr ((M.2.1 21 3) * 2)) + a0) < 12) (oV (puI M 22 ((wr ((wr ((M.2.1 21 3) * 2)) + a0)).toNat) a1)) else oV M := rfl
set_option maxRecDepth 20000 in
theorem q_121_21 {X : Nat × (Nat → Int32)} {d : Nat}  (M : rM) : fn X (d + 1) 121 [rv 21] M = if M.2.1 21 3 < M.2.1 21 2 then oV (puI M 21 3 (wr ((M.2.1 21 3) + 1))) else oV M := rfl
set_option maxRecDepth 20000 in
theorem q_18_29_21 {X : Nat × (Nat → Int32)} {d : Nat}  (M : rM) : fn X (d + 1) 18 [rv 29, rv 21] M = cI (fn X d 115 [rv 21] M) (fun x2 M1 => if x2 = 0 then cV (fn X d 131 [rv 30] M1) (fun M3 => kb X d 18 FU 22 [some (rv 29), some (rv 21), some (iv 0)] [] M3) else cV (fn X d 17 [rv 29, iv 2] M1) (fun M4 => oV M4)) := rfl
set_option maxRecDepth 20000 in
theorem q_18_29_21_at22 {X : Nat × (Nat → Int32)} {d n : Nat} (l2 : Int) (M : rM) : kb X d 18 (n + 1) 22 [some (rv 29), some (rv 21), some (iv l2)] [] M = cI (fn X d 113 [rv 21] M) (fun x2 M1 => if l2 < x2 then if M1.2.1 29 2 = 0 then cI (fn X d 114 [rv 21, iv l2] M1) (fun x4 M3 => cI (fn X d 22 [rv 29, iv 0, iv x4] M3) (fun x6 M5 => cV (fn X d 120 [rv 21, iv l2, iv x6] M5) (fun M7 => kb X d 18 n 22 [some (rv 29), some (rv 21), some (iv (wr (l2 + 1)))] [] M7))) else cV (fn X d 121 [rv 21] M1) (fun M8 => oV M8) else cV (fn X d 121 [rv 21] M1) (fun M9 => oV M9)) := rfl
set_option maxRecDepth 20000 in
theorem q_113_23 {X : Nat × (Nat → Int32)} {d : Nat}  (M : rM) : fn X (d + 1) 113 [rv 23] M = oI 1 M := rfl
set_option maxRecDepth 20000 in
theorem q_114_23 {X : Nat × (Nat → Int32)} {d : Nat} (a0 : Int) (M : rM) : fn X (d + 1) 114 [rv 23, iv a0] M = gd (0 ≤ a0 ∧ a0 < 1) (oI (((sa_lim.getD 3 []).getD a0.toNat 0).toInt) M) := rfl
set_option maxRecDepth 20000 in
theorem q_115_23 {X : Nat × (Nat → Int32)} {d : Nat}  (M : rM) : fn X (d + 1) 115 [rv 23] M = if M.2.1 23 3 < M.2.1 23 2 then oI 0 M else oI 1 M := rfl
set_option maxRecDepth 20000 in
theorem q_120_23 {X : Nat × (Nat → Int32)} {d : Nat} (a0 : Int) (a1 : Int) (M : rM) : fn X (d + 1) 120 [rv 23, iv a0, iv a1] M = if M.2.1 23 3 < M.2.1 23 2 then gd (0 ≤ wr ((wr ((M.2.1 23 3) * 1)) + a0) ∧ wr ((wr ((M.2.1 23 3) * 1)) + a0) < 8) (oV (puI M 24 ((wr ((wr ((M.2.1 23 3) * 1)) + a0)).toNat) a1)) else oV M := rfl
set_option maxRecDepth 20000 in
theorem q_121_23 {X : Nat × (Nat → Int32)} {d : Nat}  (M : rM) : fn X (d + 1) 121 [rv 23] M = if M.2.1 23 3 < M.2.1 23 2 then oV (puI M 23 3 (wr ((M.2.1 23 3) + 1))) else oV M := rfl
set_option maxRecDepth 20000 in
theorem q_18_29_23 {X : Nat × (Nat → Int32)} {d : Nat}  (M : rM) : fn X (d + 1) 18 [rv 29, rv 23] M = cI (fn X d 115 [rv 23] M) (fun x2 M1 => if x2 = 0 then cV (fn X d 131 [rv 30] M1) (fun M3 => kb X d 18 FU 22 [some (rv 29), some (rv 23), some (iv 0)] [] M3) else cV (fn X d 17 [rv 29, iv 2] M1) (fun M4 => oV M4)) := rfl
set_option maxRecDepth 20000 in
theorem q_18_29_23_at22 {X : Nat × (Nat → Int32)} {d n : Nat} (l2 : Int) (M : rM) : kb X d 18 (n + 1) 22 [some (rv 29), some (rv 23), some (iv l2)] [] M = cI (fn X d 113 [rv 23] M) (fun x2 M1 => if l2 < x2 then if M1.2.1 29 2 = 0 then cI (fn X d 114 [rv 23, iv l2] M1) (fun x4 M3 => cI (fn X d 22 [rv 29, iv 0, iv x4] M3) (fun x6 M5 => cV (fn X d 120 [rv 23, iv l2, iv x6] M5) (fun M7 => kb X d 18 n 22 [some (rv 29), some (rv 23), some (iv (wr (l2 + 1)))] [] M7))) else cV (fn X d 121 [rv 23] M1) (fun M8 => oV M8) else cV (fn X d 121 [rv 23] M1) (fun M9 => oV M9)) := rfl
set_option maxRecDepth 20000 in
theorem q_67_16 {X : Nat × (Nat → Int32)} {d : Nat} (a0 : Int) (M : rM) : fn X (d + 1) 67 [rv 16, iv a0] M = oV (puI M 16 5 a0) := rfl
set_option maxRecDepth 20000 in
theorem q_19_29 {X : Nat × (Nat → Int32)} {d : Nat}  (M : rM) : fn X (d + 1) 19 [rv 29] M = if M.2.1 29 4 = 0 then cV (fn X d 131 [rv 30] (puI M 29 4 1)) (fun M1 => cI (fn X d 22 [rv 29, iv 0, iv 999] M1) (fun x3 M2 => cV (fn X d 67 [rv 16, iv x3] M2) (fun M4 => oV M4))) else cV (fn X d 17 [rv 29, iv 5] M) (fun M5 => oV M5) := rfl
set_option maxRecDepth 20000 in
theorem q_68_16 {X : Nat × (Nat → Int32)} {d : Nat} (a0 : Int) (M : rM) : fn X (d + 1) 68 [rv 16, iv a0] M = oV (puI M 16 6 a0) := rfl
set_option maxRecDepth 20000 in
theorem q_20_29 {X : Nat × (Nat → Int32)} {d : Nat}  (M : rM) : fn X (d + 1) 20 [rv 29] M = if M.2.1 29 5 = 0 then cV (fn X d 131 [rv 30] (puI M 29 5 1)) (fun M1 => cI (fn X d 22 [rv 29, iv 1, iv 30] M1) (fun x3 M2 => cV (fn X d 68 [rv 16, iv x3] M2) (fun M4 => oV M4))) else cV (fn X d 17 [rv 29, iv 5] M) (fun M5 => oV M5) := rfl
set_option maxRecDepth 20000 in
theorem q_128_30 {X : Nat × (Nat → Int32)} {d : Nat}  (M : rM) : fn X (d + 1) 128 [rv 30] M = if M.2.1 30 4 < 100 then oI 0 M else oI 1 M := rfl
set_option maxRecDepth 20000 in
theorem q_25_29 {X : Nat × (Nat → Int32)} {d : Nat}  (M : rM) : fn X (d + 1) 25 [rv 29] M = cI (fn X d 125 [rv 30] M) (fun x2 M1 => if x2 = 2 then oI 1 M1 else cI (fn X d 128 [rv 30] M1) (fun x4 M3 => if x4 = 0 then cI (fn X d 125 [rv 30] M3) (fun x6 M5 => if x6 = 40 then oI 1 M5 else oI 0 M5) else oI 1 M3)) := rfl
set_option maxRecDepth 20000 in
theorem q_23_29 {X : Nat × (Nat → Int32)} {d : Nat} (a0 : Int) (M : rM) : fn X (d + 1) 23 [rv 29, iv a0] M = if M.2.1 29 2 = 0 then cI (fn X d 125 [rv 30] M) (fun x2 M1 => if x2 = a0 then cV (fn X d 131 [rv 30] M1) (fun M3 => oV M3) else cV (fn X d 17 [rv 29, iv 1] M1) (fun M4 => oV M4)) else oV M := rfl
set_option maxRecDepth 20000 in
theorem q_45_25 {X : Nat × (Nat → Int32)} {d : Nat} (a0 : Int) (M : rM) : fn X (d + 1) 45 [rv 25, iv a0] M = if M.2.1 25 3 < 700 then gd (0 ≤ M.2.1 25 3 ∧ M.2.1 25 3 < 700) (oV (puI (puI M 26 ((M.2.1 25 3).toNat) a0) 25 3 (wr ((M.2.1 25 3) + 1)))) else oV M := rfl
set_option maxRecDepth 20000 in
theorem q_129_30 {X : Nat × (Nat → Int32)} {d : Nat}  (M : rM) : fn X (d + 1) 129 [rv 30] M = if M.2.1 30 4 < 111 then oI 0 M else if 116 < M.2.1 30 4 then oI 0 M else oI 1 M := rfl
set_option maxRecDepth 20000 in
theorem q_31_29 {X : Nat × (Nat → Int32)} {d : Nat} (a0 : Int) (M : rM) : fn X (d + 1) 31 [rv 29, iv a0] M = if M.2.1 29 2 = 0 then cI (fn X d 125 [rv 30] M) (fun x2 M1 => if x2 = 2 then cI (fn X d 22 [rv 29, iv 0, iv 9999] M1) (fun x4 M3 => cV (fn X d 45 [rv 25, iv x4] M3) (fun M5 => oV M5)) else cI (fn X d 129 [rv 30] M1) (fun x7 M6 => if x7 = 0 then cI (fn X d 128 [rv 30] M6) (fun x9 M8 => if x9 = 0 then cI (fn X d 125 [rv 30] M8) (fun x11 M10 => if x11 = 40 then cV (fn X d 131 [rv 30] M10) (fun M12 => cV (fn X d 24 [rv 29, iv (wr (a0 + 1))] M12) (fun M13 => cV (fn X d 23 [rv 29, iv 41] M13) (fun M14 => oV M14))) else cV (fn X d 17 [rv 29, iv 1] M10) (fun M15 => oV M15)) else cV (fn X d 17 [rv 29, iv 3] M8) (fun M16 => oV M16)) else cI (fn X d 125 [rv 30] M6) (fun x18 M17 => cV (fn X d 45 [rv 25, iv (wr ((-1) - (wr (x18 - 111))))] M17) (fun M19 => cV (fn X d 131 [rv 30] M19) (fun M20 => oV M20))))) else oV M := rfl
set_option maxRecDepth 20000 in
theorem q_30_29 {X : Nat × (Nat → Int32)} {d : Nat} (a0 : Int) (M : rM) : fn X (d + 1) 30 [rv 29, iv a0] M = cV (fn X d 31 [rv 29, iv a0] M) (fun M1 => kb X d 30 FU 7 [some (rv 29), some (iv a0), some (iv 0), none] [] M1) := rfl
set_option maxRecDepth 20000 in
theorem q_30_29_at7 {X : Nat × (Nat → Int32)} {d n : Nat} (l1 : Int) (l2 : Int) (M : rM) : kb X d 30 (n + 1) 7 [some (rv 29), some (iv l1), some (iv l2), none] [] M = if l2 < 700 then if M.2.1 29 2 = 0 then cI (fn X d 125 [rv 30] M) (fun x2 M1 => if x2 = 42 then cV (fn X d 131 [rv 30] M1) (fun M3 => cV (fn X d 31 [rv 29, iv l1] M3) (fun M4 => if x2 = 42 then cV (fn X d 45 [rv 25, iv (-17)] M4) (fun M5 => kb X d 30 n 7 [some (rv 29), some (iv l1), some (iv (wr (l2 + 1))), none] [] M5) else cV (fn X d 45 [rv 25, iv (-18)] M4) (fun M6 => kb X d 30 n 7 [some (rv 29), some (iv l1), some (iv (wr (l2 + 1))), none] [] M6))) else if x2 = 47 then cV (fn X d 131 [rv 30] M1) (fun M7 => cV (fn X d 31 [rv 29, iv l1] M7) (fun M8 => if x2 = 42 then cV (fn X d 45 [rv 25, iv (-17)] M8) (fun M9 => kb X d 30 n 7 [some (rv 29), some (iv l1), some (iv (wr (l2 + 1))), none] [] M9) else cV (fn X d 45 [rv 25, iv (-18)] M8) (fun M10 => kb X d 30 n 7 [some (rv 29), some (iv l1), some (iv (wr (l2 + 1))), none] [] M10))) else oV M1) else oV M else oV M := rfl
set_option maxRecDepth 20000 in
theorem q_29_29 {X : Nat × (Nat → Int32)} {d : Nat} (a0 : Int) (M : rM) : fn X (d + 1) 29 [rv 29, iv a0] M = cV (fn X d 30 [rv 29, iv a0] M) (fun M1 => kb X d 29 FU 7 [some (rv 29), some (iv a0), some (iv 0), none] [] M1) := rfl
set_option maxRecDepth 20000 in
theorem q_29_29_at7 {X : Nat × (Nat → Int32)} {d n : Nat} (l1 : Int) (l2 : Int) (M : rM) : kb X d 29 (n + 1) 7 [some (rv 29), some (iv l1), some (iv l2), none] [] M = if l2 < 700 then if M.2.1 29 2 = 0 then cI (fn X d 125 [rv 30] M) (fun x2 M1 => if x2 = 43 then cV (fn X d 131 [rv 30] M1) (fun M3 => cV (fn X d 30 [rv 29, iv l1] M3) (fun M4 => if x2 = 43 then cV (fn X d 45 [rv 25, iv (-15)] M4) (fun M5 => kb X d 29 n 7 [some (rv 29), some (iv l1), some (iv (wr (l2 + 1))), none] [] M5) else cV (fn X d 45 [rv 25, iv (-16)] M4) (fun M6 => kb X d 29 n 7 [some (rv 29), some (iv l1), some (iv (wr (l2 + 1))), none] [] M6))) else if x2 = 45 then cV (fn X d 131 [rv 30] M1) (fun M7 => cV (fn X d 30 [rv 29, iv l1] M7) (fun M8 => if x2 = 43 then cV (fn X d 45 [rv 25, iv (-15)] M8) (fun M9 => kb X d 29 n 7 [some (rv 29), some (iv l1), some (iv (wr (l2 + 1))), none] [] M9) else cV (fn X d 45 [rv 25, iv (-16)] M8) (fun M10 => kb X d 29 n 7 [some (rv 29), some (iv l1), some (iv (wr (l2 + 1))), none] [] M10))) else oV M1) else oV M else oV M := rfl
set_option maxRecDepth 20000 in
theorem q_28_29 {X : Nat × (Nat → Int32)} {d : Nat} (a0 : Int) (M : rM) : fn X (d + 1) 28 [rv 29, iv a0] M = cV (fn X d 29 [rv 29, iv a0] M) (fun M1 => cI (fn X d 125 [rv 30] M1) (fun x3 M2 => if M2.2.1 29 2 = 0 then if x3 = 60 then cV (fn X d 131 [rv 30] M2) (fun M4 => cV (fn X d 29 [rv 29, iv a0] M4) (fun M5 => if x3 = 60 then cV (fn X d 45 [rv 25, iv (-13)] M5) (fun M6 => oV M6) else cV (fn X d 45 [rv 25, iv (-14)] M5) (fun M7 => oV M7))) else if x3 = 61 then cV (fn X d 131 [rv 30] M2) (fun M8 => cV (fn X d 29 [rv 29, iv a0] M8) (fun M9 => if x3 = 60 then cV (fn X d 45 [rv 25, iv (-13)] M9) (fun M10 => oV M10) else cV (fn X d 45 [rv 25, iv (-14)] M9) (fun M11 => oV M11))) else oV M2 else oV M2)) := rfl
set_option maxRecDepth 20000 in
theorem q_27_29 {X : Nat × (Nat → Int32)} {d : Nat} (a0 : Int) (M : rM) : fn X (d + 1) 27 [rv 29, iv a0] M = kb X d 27 FU 2 [some (rv 29), some (iv a0), some (iv 0), none] [] M := rfl
set_option maxRecDepth 20000 in
theorem q_27_29_at2 {X : Nat × (Nat → Int32)} {d n : Nat} (l1 : Int) (l2 : Int) (M : rM) : kb X d 27 (n + 1) 2 [some (rv 29), some (iv l1), some (iv l2), none] [] M = if l2 < 6 then cI (fn X d 125 [rv 30] M) (fun x2 M1 => if x2 = 110 then cV (fn X d 131 [rv 30] M1) (fun M3 => kb X d 27 n 2 [some (rv 29), some (iv l1), some (iv (wr (l2 + 1))), none] [] M3) else if l2 = 6 then cI (fn X d 125 [rv 30] M1) (fun x5 M4 => if x5 = 110 then cV (fn X d 17 [rv 29, iv 2] M4) (fun M6 => oV M6) else cV (fn X d 28 [rv 29, iv l1] M4) (fun M7 => kb X d 27 n 64 [some (rv 29), none, some (iv l2), some (iv 0)] [] M7)) else cV (fn X d 28 [rv 29, iv l1] M1) (fun M8 => kb X d 27 n 64 [some (rv 29), none, some (iv l2), some (iv 0)] [] M8)) else if l2 = 6 then cI (fn X d 125 [rv 30] M) (fun x10 M9 => if x10 = 110 then cV (fn X d 17 [rv 29, iv 2] M9) (fun M11 => oV M11) else cV (fn X d 28 [rv 29, iv l1] M9) (fun M12 => kb X d 27 n 64 [some (rv 29), none, some (iv l2), some (iv 0)] [] M12)) else cV (fn X d 28 [rv 29, iv l1] M) (fun M13 => kb X d 27 n 64 [some (rv 29), none, some (iv l2), some (iv 0)] [] M13) := rfl
set_option maxRecDepth 20000 in
theorem q_27_29_at64 {X : Nat × (Nat → Int32)} {d n : Nat} (l2 : Int) (l3 : Int) (M : rM) : kb X d 27 (n + 1) 64 [some (rv 29), none, some (iv l2), some (iv l3)] [] M = if l3 < l2 then cV (fn X d 45 [rv 25, iv (-12)] M) (fun M1 => kb X d 27 n 64 [some (rv 29), none, some (iv l2), some (iv (wr (l3 + 1)))] [] M1) else oV M := rfl
