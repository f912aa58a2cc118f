/-! block equations -/
set_option maxRecDepth 20000 in
theorem q_126_30 {X : Nat × (Nat → Int32)} {d : Nat}  (M : rM) : fn X (d + 1) 126 [rv 30] M = oI (M.2.1 30 2) M := rfl
set_option maxRecDepth 20000 in
theorem q_17_29 {X : Nat × (Nat → Int32)} {d : Nat} (a0 : Int) (M : rM) : fn X (d + 1) 17 [rv 29, iv a0] M = if M.2.1 29 2 = 0 then cI (fn X d 126 [rv 30] (puI M 29 2 a0)) (fun x2 M1 => oV (puI M1 29 3 x2)) else oV M := rfl
set_option maxRecDepth 20000 in
theorem q_125_30 {X : Nat × (Nat → Int32)} {d : Nat}  (M : rM) : fn X (d + 1) 125 [rv 30] M = oI (M.2.1 30 4) M := rfl
set_option maxRecDepth 20000 in
theorem q_127_30 {X : Nat × (Nat → Int32)} {d : Nat}  (M : rM) : fn X (d + 1) 127 [rv 30] M = oI (M.2.1 30 5) M := rfl
set_option maxRecDepth 20000 in
theorem q_130_30 {X : Nat × (Nat → Int32)} {d : Nat}  (M : rM) : fn X (d + 1) 130 [rv 30] M = if 4 < M.2.1 30 6 then oI 1 M else oI 0 M := rfl
set_option maxRecDepth 20000 in
theorem q_136 {X : Nat × (Nat → Int32)} {d : Nat} (a0 : Int) (M : rM) : fn X (d + 1) 136 [iv a0] M = if a0 < 48 then oI 0 M else if 57 < a0 then oI 0 M else oI 1 M := rfl
set_option maxRecDepth 20000 in
theorem q_132_30 {X : Nat × (Nat → Int32)} {d : Nat}  (M : rM) : fn X (d + 1) 132 [rv 30] M = kb X d 132 FU 15 [some (rv 30)] [] (puI (puI (puI M 30 4 2) 30 5 0) 30 6 0) := rfl
set_option maxRecDepth 20000 in
theorem q_132_30_at15 {X : Nat × (Nat → Int32)} {d n : Nat}  (M : rM) : kb X d 132 (n + 1) 15 [some (rv 30)] [] M = if M.2.1 30 3 < M.2.1 30 1 then gd (0 ≤ M.2.1 30 3 ∧ M.2.1 30 3 < 700) (cI (fn X d 136 [iv (M.2.1 1 ((M.2.1 30 3).toNat))] M) (fun x2 M1 => if x2 = 0 then oV M1 else if 4 < wr ((M1.2.1 30 6) + 1) then kb X d 132 n 15 [some (rv 30)] [] (puI (puI M1 30 6 (wr ((M1.2.1 30 6) + 1))) 30 3 (wr ((M1.2.1 30 3) + 1))) else gd (0 ≤ M1.2.1 30 3 ∧ M1.2.1 30 3 < 700) (kb X d 132 n 15 [some (rv 30)] [] (puI (puI (puI M1 30 6 (wr ((M1.2.1 30 6) + 1))) 30 5 (wr ((wr ((M1.2.1 30 5) * 10)) + (wr ((M1.2.1 1 ((M1.2.1 30 3).toNat)) - 48))))) 30 3 (wr ((M1.2.1 30 3) + 1)))))) else oV M := rfl
set_option maxRecDepth 20000 in
theorem q_357_100100 {X : Nat × (Nat → Int32)} {d : Nat}  (M : rM) : fn X (d + 1) 357 [rv 100100] M = gd (bnar 0 = 0) (oI 0 M) := rfl
set_option maxRecDepth 20000 in
theorem q_355_100100 {X : Nat × (Nat → Int32)} {d : Nat}  (M : rM) : fn X (d + 1) 355 [rv 100100] M = cI (fn X d 357 [rv 100100] M) (fun x2 M1 => oI (ishr 8 x2) M1) := rfl
set_option maxRecDepth 20000 in
theorem q_358_100100 {X : Nat × (Nat → Int32)} {d : Nat}  (M : rM) : fn X (d + 1) 358 [rv 100100] M = oI 1 M := rfl
set_option maxRecDepth 20000 in
theorem q_361_100005 {X : Nat × (Nat → Int32)} {d : Nat} (a0 : Int) (a1 : Int) (M : rM) : fn X (d + 1) 361 [iv a0, iv a1, rv 100005] M = if a0 < 0 then none else if a0 < a1 then oI a0 M else none := rfl
set_option maxRecDepth 20000 in
theorem q_359 {X : Nat × (Nat → Int32)} {d : Nat} (a0 : Int) (a1 : Int) (M : rM) : fn X (d + 1) 359 [iv a0, iv a1] M = cI (fn X d 361 [iv a0, iv a1, rv 100005] M) (fun x2 M1 => oV M1) := rfl
set_option maxRecDepth 20000 in
theorem q_360_100200 {X : Nat × (Nat → Int32)} {d : Nat} (a0 : Int) (M : rM) : fn X (d + 1) 360 [rv 100200, iv a0] M = cV (fn X d 359 [iv a0, iv 8] M) (fun M1 => gd (0 ≤ a0 ∧ a0 < 8) (gd (0 ≤ cnar (iand (((sa_txt.getD 0 []).getD a0.toNat 0).toInt) 255) ∧ cnar (iand (((sa_txt.getD 0 []).getD a0.toNat 0).toInt) 255) < 65536) (oI (cnar (iand (((sa_txt.getD 0 []).getD a0.toNat 0).toInt) 255)) M1))) := rfl
set_option maxRecDepth 20000 in
theorem q_356_100100 {X : Nat × (Nat → Int32)} {d : Nat} (a0 : Int) (M : rM) : fn X (d + 1) 356 [rv 100100, iv a0] M = cI (fn X d 358 [rv 100100] M) (fun x2 M1 => if x2 = 0 then none else cI (fn X d 360 [rv 100200, iv a0] M1) (fun x4 M3 => gd (0 ≤ x4 ∧ x4 < 65536) (oI x4 M3))) := rfl
set_option maxRecDepth 20000 in
theorem q_134_30_100100 {X : Nat × (Nat → Int32)} {d : Nat}  (M : rM) : fn X (d + 1) 134 [rv 30, rv 100100] M = cI (fn X d 355 [rv 100100] M) (fun x2 M1 => if wr ((M.2.1 30 3) - (M.2.1 30 2)) = x2 then kb X d 134 FU 20 [some (rv 30), some (rv 100100), some (iv 0)] [] M1 else oI 0 M1) := rfl
set_option maxRecDepth 20000 in
theorem q_134_30_100100_at20 {X : Nat × (Nat → Int32)} {d n : Nat} (l2 : Int) (M : rM) : kb X d 134 (n + 1) 20 [some (rv 30), some (rv 100100), some (iv l2)] [] M = cI (fn X d 355 [rv 100100] M) (fun x2 M1 => if l2 < x2 then gd (0 ≤ wr ((M1.2.1 30 2) + l2) ∧ wr ((M1.2.1 30 2) + l2) < 700) (cI (fn X d 356 [rv 100100, iv l2] M1) (fun x4 M3 => if M1.2.1 1 ((wr ((M1.2.1 30 2) + l2)).toNat) = x4 then kb X d 134 n 20 [some (rv 30), some (rv 100100), some (iv (wr (l2 + 1)))] [] M3 else oI 0 M3)) else oI 1 M1) := rfl
set_option maxRecDepth 20000 in
theorem q_357_100101 {X : Nat × (Nat → Int32)} {d : Nat}  (M : rM) : fn X (d + 1) 357 [rv 100101] M = gd (bnar 0 = 0) (oI 0 M) := rfl
set_option maxRecDepth 20000 in
theorem q_355_100101 {X : Nat × (Nat → Int32)} {d : Nat}  (M : rM) : fn X (d + 1) 355 [rv 100101] M = cI (fn X d 357 [rv 100101] M) (fun x2 M1 => oI (ishr 5 x2) M1) := rfl
set_option maxRecDepth 20000 in
theorem q_358_100101 {X : Nat × (Nat → Int32)} {d : Nat}  (M : rM) : fn X (d + 1) 358 [rv 100101] M = oI 1 M := rfl
set_option maxRecDepth 20000 in
theorem q_360_100201 {X : Nat × (Nat → Int32)} {d : Nat} (a0 : Int) (M : rM) : fn X (d + 1) 360 [rv 100201, iv a0] M = cV (fn X d 359 [iv a0, iv 5] M) (fun M1 => gd (0 ≤ a0 ∧ a0 < 5) (gd (0 ≤ cnar (iand (((sa_txt.getD 1 []).getD a0.toNat 0).toInt) 255) ∧ cnar (iand (((sa_txt.getD 1 []).getD a0.toNat 0).toInt) 255) < 65536) (oI (cnar (iand (((sa_txt.getD 1 []).getD a0.toNat 0).toInt) 255)) M1))) := rfl
set_option maxRecDepth 20000 in
theorem q_356_100101 {X : Nat × (Nat → Int32)} {d : Nat} (a0 : Int) (M : rM) : fn X (d + 1) 356 [rv 100101, iv a0] M = cI (fn X d 358 [rv 100101] M) (fun x2 M1 => if x2 = 0 then none else cI (fn X d 360 [rv 100201, iv a0] M1) (fun x4 M3 => gd (0 ≤ x4 ∧ x4 < 65536) (oI x4 M3))) := rfl
set_option maxRecDepth 20000 in
theorem q_134_30_100101 {X : Nat × (Nat → Int32)} {d : Nat}  (M : rM) : fn X (d + 1) 134 [rv 30, rv 100101] M = cI (fn X d 355 [rv 100101] M) (fun x2 M1 => if wr ((M.2.1 30 3) - (M.2.1 30 2)) = x2 then kb X d 134 FU 20 [some (rv 30), some (rv 100101), some (iv 0)] [] M1 else oI 0 M1) := rfl
set_option maxRecDepth 20000 in
theorem q_134_30_100101_at20 {X : Nat × (Nat → Int32)} {d n : Nat} (l2 : Int) (M : rM) : kb X d 134 (n + 1) 20 [some (rv 30), some (rv 100101), some (iv l2)] [] M = cI (fn X d 355 [rv 100101] M) (fun x2 M1 => if l2 < x2 then gd (0 ≤ wr ((M1.2.1 30 2) + l2) ∧ wr ((M1.2.1 30 2) + l2) < 700) (cI (fn X d 356 [rv 100101, iv l2] M1) (fun x4 M3 => if M1.2.1 1 ((wr ((M1.2.1 30 2) + l2)).toNat) = x4 then kb X d 134 n 20 [some (rv 30), some (rv 100101), some (iv (wr (l2 + 1)))] [] M3 else oI 0 M3)) else oI 1 M1) := rfl
set_option maxRecDepth 20000 in
theorem q_357_100102 {X : Nat × (Nat → Int32)} {d : Nat}  (M : rM) : fn X (d + 1) 357 [rv 100102] M = gd (bnar 0 = 0) (oI 0 M) := rfl
set_option maxRecDepth 20000 in
theorem q_355_100102 {X : Nat × (Nat → Int32)} {d : Nat}  (M : rM) : fn X (d + 1) 355 [rv 100102] M = cI (fn X d 357 [rv 100102] M) (fun x2 M1 => oI (ishr 6 x2) M1) := rfl
set_option maxRecDepth 20000 in
theorem q_358_100102 {X : Nat × (Nat → Int32)} {d : Nat}  (M : rM) : fn X (d + 1) 358 [rv 100102] M = oI 1 M := rfl
set_option maxRecDepth 20000 in
theorem q_360_100202 {X : Nat × (Nat → Int32)} {d : Nat} (a0 : Int) (M : rM) : fn X (d + 1) 360 [rv 100202, iv a0] M = cV (fn X d 359 [iv a0, iv 6] M) (fun M1 => gd (0 ≤ a0 ∧ a0 < 6) (gd (0 ≤ cnar (iand (((sa_txt.getD 2 []).getD a0.toNat 0).toInt) 255) ∧ cnar (iand (((sa_txt.getD 2 []).getD a0.toNat 0).toInt) 255) < 65536) (oI (cnar (iand (((sa_txt.getD 2 []).getD a0.toNat 0).toInt) 255)) M1))) := rfl
set_option maxRecDepth 20000 in
theorem q_356_100102 {X : Nat × (Nat → Int32)} {d : Nat} (a0 : Int) (M : rM) : fn X (d + 1) 356 [rv 100102, iv a0] M = cI (fn X d 358 [rv 100102] M) (fun x2 M1 => if x2 = 0 then none else cI (fn X d 360 [rv 100202, iv a0] M1) (fun x4 M3 => gd (0 ≤ x4 ∧ x4 < 65536) (oI x4 M3))) := rfl
set_option maxRecDepth 20000 in
theorem q_134_30_100102 {X : Nat × (Nat → Int32)} {d : Nat}  (M : rM) : fn X (d + 1) 134 [rv 30, rv 100102] M = cI (fn X d 355 [rv 100102] M) (fun x2 M1 => if wr ((M.2.1 30 3) - (M.2.1 30 2)) = x2 then kb X d 134 FU 20 [some (rv 30), some (rv 100102), some (iv 0)] [] M1 else oI 0 M1) := rfl
set_option maxRecDepth 20000 in
theorem q_134_30_100102_at20 {X : Nat × (Nat → Int32)} {d n : Nat} (l2 : Int) (M : rM) : kb X d 134 (n + 1) 20 [some (rv 30), some (rv 100102), some (iv l2)] [] M = cI (fn X d 355 [rv 100102] M) (fun x2 M1 => if l2 < x2 then gd (0 ≤ wr ((M1.2.1 30 2) + l2) ∧ wr ((M1.2.1 30 2) + l2) < 700) (cI (fn X d 356 [rv 100102, iv l2] M1) (fun x4 M3 => if M1.2.1 1 ((wr ((M1.2.1 30 2) + l2)).toNat) = x4 then kb X d 134 n 20 [some (rv 30), some (rv 100102), some (iv (wr (l2 + 1)))] [] M3 else oI 0 M3)) else oI 1 M1) := rfl
set_option maxRecDepth 20000 in
theorem q_357_100103 {X : Nat × (Nat → Int32)} {d : Nat}  (M : rM) : fn X (d + 1) 357 [rv 100103] M = gd (bnar 0 = 0) (oI 0 M) := rfl
set_option maxRecDepth 20000 in
theorem q_355_100103 {X : Nat × (Nat → Int32)} {d : Nat}  (M : rM) : fn X (d + 1) 355 [rv 100103] M = cI (fn X d 357 [rv 100103] M) (fun x2 M1 => oI (ishr 4 x2) M1) := rfl
set_option maxRecDepth 20000 in
theorem q_358_100103 {X : Nat × (Nat → Int32)} {d : Nat}  (M : rM) : fn X (d + 1) 358 [rv 100103] M = oI 1 M := rfl
set_option maxRecDepth 20000 in
theorem q_360_100203 {X : Nat × (Nat → Int32)} {d : Nat} (a0 : Int) (M : rM) : fn X (d + 1) 360 [rv 100203, iv a0] M = cV (fn X d 359 [iv a0, iv 4] M) (fun M1 => gd (0 ≤ a0 ∧ a0 < 4) (gd (0 ≤ cnar (iand (((sa_txt.getD 3 []).getD a0.toNat 0).toInt) 255) ∧ cnar (iand (((sa_txt.getD 3 []).getD a0.toNat 0).toInt) 255) < 65536) (oI (cnar (iand (((sa_txt.getD 3 []).getD a0.toNat 0).toInt) 255)) M1))) := rfl
set_option maxRecDepth 20000 in
theorem q_356_100103 {X : Nat × (Nat → Int32)} {d : Nat} (a0 : Int) (M : rM) : fn X (d + 1) 356 [rv 100103, iv a0] M = cI (fn X d 358 [rv 100103] M) (fun x2 M1 => if x2 = 0 then none else cI (fn X d 360 [rv 100203, iv a0] M1) (fun x4 M3 => gd (0 ≤ x4 ∧ x4 < 65536) (oI x4 M3))) := rfl
set_option maxRecDepth 20000 in
theorem q_134_30_100103 {X : Nat × (Nat → Int32)} {d : Nat}  (M : rM) : fn X (d + 1) 134 [rv 30, rv 100103] M = cI (fn X d 355 [rv 100103] M) (fun x2 M1 => if wr ((M.2.1 30 3) - (M.2.1 30 2)) = x2 then kb X d 134 FU 20 [some (rv 30), some (rv 100103), some (iv 0)] [] M1 else oI 0 M1) := rfl
set_option maxRecDepth 20000 in
theorem q_134_30_100103_at20 {X : Nat × (Nat → Int32)} {d n : Nat} (l2 : Int) (M : rM) : kb X d 134 (n + 1) 20 [some (rv 30), some (rv 100103), some (iv l2)] [] M = cI (fn X d 355 [rv 100103] M) (fun x2 M1 => if l2 < x2 then gd (0 ≤ wr ((M1.2.1 30 2) + l2) ∧ wr ((M1.2.1 30 2) + l2) < 700) (cI (fn X d 356 [rv 100103, iv l2] M1) (fun x4 M3 => if M1.2.1 1 ((wr ((M1.2.1 30 2) + l2)).toNat) = x4 then kb X d 134 n 20 [some (rv 30), some (rv 100103), some (iv (wr (l2 + 1)))] [] M3 else oI 0 M3)) else oI 1 M1) := rfl
set_option maxRecDepth 20000 in
theorem q_357_100104 {X : Nat × (Nat → Int32)} {d : Nat}  (M : rM) : fn X (d + 1) 357 [rv 100104] M = gd (bnar 0 = 0) (oI 0 M) := rfl
set_option maxRecDepth 20000 in
theorem q_355_100104 {X : Nat × (Nat → Int32)} {d : Nat}  (M : rM) : fn X (d + 1) 355 [rv 100104] M = cI (fn X d 357 [rv 100104] M) (fun x2 M1 => oI (ishr 5 x2) M1) := rfl
set_option maxRecDepth 20000 in
theorem q_358_100104 {X : Nat × (Nat → Int32)} {d : Nat}  (M : rM) : fn X (d + 1) 358 [rv 100104] M = oI 1 M := rfl
set_option maxRecDepth 20000 in
theorem q_360_100204 {X : Nat × (Nat → Int32)} {d : Nat} (a0 : Int) (M : rM) : fn X (d + 1) 360 [rv 100204, iv a0] M = cV (fn X d 359 [iv a0, iv 5] M) (fun M1 => gd (0 ≤ a0 ∧ a0 < 5) (gd (0 ≤ cnar (iand (((sa_txt.getD 4 []).getD a0.toNat 0).toInt) 255) ∧ cnar (iand (((sa_txt.getD 4 []).getD a0.toNat 0).toInt) 255) < 65536) (oI (cnar (iand (((sa_txt.getD 4 []).getD a0.toNat 0).toInt) 255)) M1))) := rfl
set_option maxRecDepth 20000 in
theorem q_356_100104 {X : Nat × (Nat → Int32)} {d : Nat} (a0 : Int) (M : rM) : fn X (d + 1) 356 [rv 100104, iv a0] M = cI (fn X d 358 [rv 100104] M) (fun x2 M1 => if x2 = 0 then none else cI (fn X d 360 [rv 100204, iv a0] M1) (fun x4 M3 => gd (0 ≤ x4 ∧ x4 < 65536) (oI x4 M3))) := rfl
set_option maxRecDepth 20000 in
theorem q_134_30_100104 {X : Nat × (Nat → Int32)} {d : Nat}  (M : rM) : fn X (d + 1) 134 [rv 30, rv 100104] M = cI (fn X d 355 [rv 100104] M) (fun x2 M1 => if wr ((M.2.1 30 3) - (M.2.1 30 2)) = x2 then kb X d 134 FU 20 [some (rv 30), some (rv 100104), some (iv 0)] [] M1 else oI 0 M1) := rfl
set_option maxRecDepth 20000 in
theorem q_134_30_100104_at20 {X : Nat × (Nat → Int32)} {d n : Nat} (l2 : Int) (M : rM) : kb X d 134 (n + 1) 20 [some (rv 30), some (rv 100104), some (iv l2)] [] M = cI (fn X d 355 [rv 100104] M) (fun x2 M1 => if l2 < x2 then gd (0 ≤ wr ((M1.2.1 30 2) + l2) ∧ wr ((M1.2.1 30 2) + l2) < 700) (cI (fn X d 356 [rv 100104, iv l2] M1) (fun x4 M3 => if M1.2.1 1 ((wr ((M1.2.1 30 2) + l2)).toNat) = x4 then kb X d 134 n 20 [some (rv 30), some (rv 100104), some (iv (wr (l2 + 1)))] [] M3 else oI 0 M3)) else oI 1 M1) := rfl
set_option maxRecDepth 20000 in
theorem q_357_100105 {X : Nat × (Nat → Int32)} {d : Nat}  (M : rM) : fn X (d + 1) 357 [rv 100105] M = gd (bnar 0 = 0) (oI 0 M) := rfl
set_option maxRecDepth 20000 in
theorem q_355_100105 {X : Nat × (Nat → Int32)} {d : Nat}  (M : rM) : fn X (d + 1) 355 [rv 100105] M = cI (fn X d 357 [rv 100105] M) (fun x2 M1 => oI (ishr 5 x2) M1) := rfl
set_option maxRecDepth 20000 in
theorem q_358_100105 {X : Nat × (Nat → Int32)} {d : Nat}  (M : rM) : fn X (d + 1) 358 [rv 100105] M = oI 1 M := rfl
set_option maxRecDepth 20000 in
theorem q_360_100205 {X : Nat × (Nat → Int32)} {d : Nat} (a0 : Int) (M : rM) : fn X (d + 1) 360 [rv 100205, iv a0] M = cV (fn X d 359 [iv a0, iv 5] M) (fun M1 => gd (0 ≤ a0 ∧ a0 < 5) (gd (0 ≤ cnar (iand (((sa_txt.getD 5 []).getD a0.toNat 0).toInt) 255) ∧ cnar (iand (((sa_txt.getD 5 []).getD a0.toNat 0).toInt) 255) < 65536) (oI (cnar (iand (((sa_txt.getD 5 []).getD a0.toNat 0).toInt) 255)) M1))) := rfl
set_option maxRecDepth 20000 in
theorem q_356_100105 {X : Nat × (Nat → Int32)} {d : Nat} (a0 : Int) (M : rM) : fn X (d + 1) 356 [rv 100105, iv a0] M = cI (fn X d 358 [rv 100105] M) (fun x2 M1 => if x2 = 0 then none else cI (fn X d 360 [rv 100205, iv a0] M1) (fun x4 M3 => gd (0 ≤ x4 ∧ x4 < 65536) (oI x4 M3))) := rfl
set_option maxRecDepth 20000 in
theorem q_134_30_100105 {X : Nat × (Nat → Int32)} {d : Nat}  (M : rM) : fn X (d + 1) 134 [rv 30, rv 100105] M = cI (fn X d 355 [rv 100105] M) (fun x2 M1 => if wr ((M.2.1 30 3) - (M.2.1 30 2)) = x2 then kb X d 134 FU 20 [some (rv 30), some (rv 100105), some (iv 0)] [] M1 else oI 0 M1) := rfl
set_option maxRecDepth 20000 in
theorem q_134_30_100105_at20 {X : Nat × (Nat → Int32)} {d n : Nat} (l2 : Int) (M : rM) : kb X d 134 (n + 1) 20 [some (rv 30), some (rv 100105), some (iv l2)] [] M = cI (fn X d 355 [rv 100105] M) (fun x2 M1 => if l2 < x2 then gd (0 ≤ wr ((M1.2.1 30 2) + l2) ∧ wr ((M1.2.1 30 2) + l2) < 700) (cI (fn X d 356 [rv 100105, iv l2] M1) (fun x4 M3 => if M1.2.1 1 ((wr ((M1.2.1 30 2) + l2)).toNat) = x4 then kb X d 134 n 20 [some (rv 30), some (rv 100105), some (iv (wr (l2 + 1)))] [] M3 else oI 0 M3)) else oI 1 M1) := rfl
set_option maxRecDepth 20000 in
theorem q_357_100106 {X : Nat × (Nat → Int32)} {d : Nat}  (M : rM) : fn X (d + 1) 357 [rv 100106] M = gd (bnar 0 = 0) (oI 0 M) := rfl
set_option maxRecDepth 20000 in
theorem q_355_100106 {X : Nat × (Nat → Int32)} {d : Nat}  (M : rM) : fn X (d + 1) 355 [rv 100106] M = cI (fn X d 357 [rv 100106] M) (fun x2 M1 => oI (ishr 5 x2) M1) := rfl
set_option maxRecDepth 20000 in
theorem q_358_100106 {X : Nat × (Nat → Int32)} {d : Nat}  (M : rM) : fn X (d + 1) 358 [rv 100106] M = oI 1 M := rfl
set_option maxRecDepth 20000 in
theorem q_360_100206 {X : Nat × (Nat → Int32)} {d : Nat} (a0 : Int) (M : rM) : fn X (d + 1) 360 [rv 100206, iv a0] M = cV (fn X d 359 [iv a0, iv 5] M) (fun M1 => gd (0 ≤ a0 ∧ a0 < 5) (gd (0 ≤ cnar (iand (((sa_txt.getD 6 []).getD a0.toNat 0).toInt) 255) ∧ cnar (iand (((sa_txt.getD 6 []).getD a0.toNat 0).toInt) 255) < 65536) (oI (cnar (iand (((sa_txt.getD 6 []).getD a0.toNat 0).toInt) 255)) M1))) := rfl
set_option maxRecDepth 20000 in
theorem q_356_100106 {X : Nat × (Nat → Int32)} {d : Nat} (a0 : Int) (M : rM) : fn X (d + 1) 356 [rv 100106, iv a0] M = cI (fn X d 358 [rv 100106] M) (fun x2 M1 => if x2 = 0 then none else cI (fn X d 360 [rv 100206, iv a0] M1) (fun x4 M3 => gd (0 ≤ x4 ∧ x4 < 65536) (oI x4 M3))) := rfl
set_option maxRecDepth 20000 in
theorem q_134_30_100106 {X : Nat × (Nat → Int32)} {d : Nat}  (M : rM) : fn X (d + 1) 134 [rv 30, rv 100106] M = cI (fn X d 355 [rv 100106] M) (fun x2 M1 => if wr ((M.2.1 30 3) - (M.2.1 30 2)) = x2 then kb X d 134 FU 20 [some (rv 30), some (rv 100106), some (iv 0)] [] M1 else oI 0 M1) := rfl
set_option maxRecDepth 20000 in
theorem q_134_30_100106_at20 {X : Nat × (Nat → Int32)} {d n : Nat} (l2 : Int) (M : rM) : kb X d 134 (n + 1) 20 [some (rv 30), some (rv 100106), some (iv l2)] [] M = cI (fn X d 355 [rv 100106] M) (fun x2 M1 => if l2 < x2 then gd (0 ≤ wr ((M1.2.1 30 2) + l2) ∧ wr ((M1.2.1 30 2) + l2) < 700) (cI (fn X d 356 [rv 100106, iv l2] M1) (fun x4 M3 => if M1.2.1 1 ((wr ((M1.2.1 30 2) + l2)).toNat) = x4 then kb X d 134 n 20 [some (rv 30), some (rv 100106), some (iv (wr (l2 + 1)))] [] M3 else oI 0 M3)) else oI 1 M1) := rfl
set_option maxRecDepth 20000 in
theorem q_357_100107 {X : Nat × (Nat → Int32)} {d : Nat}  (M : rM) : fn X (d + 1) 357 [rv 100107] M = gd (bnar 0 = 0) (oI 0 M) := rfl
set_option maxRecDepth 20000 in
theorem q_355_100107 {X : Nat × (Nat → Int32)} {d : Nat}  (M : rM) : fn X (d + 1) 355 [rv 100107] M = cI (fn X d 357 [rv 100107] M) (fun x2 M1 => oI (ishr 2 x2) M1) := rfl
set_option maxRecDepth 20000 in
theorem q_358_100107 {X : Nat × (Nat → Int32)} {d : Nat}  (M : rM) : fn X (d + 1) 358 [rv 100107] M = oI 1 M := rfl
set_option maxRecDepth 20000 in
theorem q_360_100207 {X : Nat × (Nat → Int32)} {d : Nat} (a0 : Int) (M : rM) : fn X (d + 1) 360 [rv 100207, iv a0] M = cV (fn X d 359 [iv a0, iv 2] M) (fun M1 => gd (0 ≤ a0 ∧ a0 < 2) (gd (0 ≤ cnar (iand (((sa_txt.getD 7 []).getD a0.toNat 0).toInt) 255) ∧ cnar (iand (((sa_txt.getD 7 []).getD a0.toNat 0).toInt) 255) < 65536) (oI (cnar (iand (((sa_txt.getD 7 []).getD a0.toNat 0).toInt) 255)) M1))) := rfl
set_option maxRecDepth 20000 in
theorem q_356_100107 {X : Nat × (Nat → Int32)} {d : Nat} (a0 : Int) (M : rM) : fn X (d + 1) 356 [rv 100107, iv a0] M = cI (fn X d 358 [rv 100107] M) (fun x2 M1 => if x2 = 0 then none else cI (fn X d 360 [rv 100207, iv a0] M1) (fun x4 M3 => gd (0 ≤ x4 ∧ x4 < 65536) (oI x4 M3))) := rfl
set_option maxRecDepth 20000 in
theorem q_134_30_100107 {X : Nat × (Nat → Int32)} {d : Nat}  (M : rM) : fn X (d + 1) 134 [rv 30, rv 100107] M = cI (fn X d 355 [rv 100107] M) (fun x2 M1 => if wr ((M.2.1 30 3) - (M.2.1 30 2)) = x2 then kb X d 134 FU 20 [some (rv 30), some (rv 100107), some (iv 0)] [] M1 else oI 0 M1) := rfl
set_option maxRecDepth 20000 in
theorem q_134_30_100107_at20 {X : Nat × (Nat → Int32)} {d n : Nat} (l2 : Int) (M : rM) : kb X d 134 (n + 1) 20 [some (rv 30), some (rv 100107), some (iv l2)] [] M = cI (fn X d 355 [rv 100107] M) (fun x2 M1 => if l2 < x2 then gd (0 ≤ wr ((M1.2.1 30 2) + l2) ∧ wr ((M1.2.1 30 2) + l2) < 700) (cI (fn X d 356 [rv 100107, iv l2] M1) (fun x4 M3 => if M1.2.1 1 ((wr ((M1.2.1 30 2) + l2)).toNat) = x4 then kb X d 134 n 20 [some (rv 30), some (rv 100107), some (iv (wr (l2 + 1)))] [] M3 else oI 0 M3)) else oI 1 M1) := rfl
set_option maxRecDepth 20000 in
theorem q_357_100108 {X : Nat × (Nat → Int32)} {d : Nat}  (M : rM) : fn X (d + 1) 357 [rv 100108] M = gd (bnar 0 = 0) (oI 0 M) := rfl
set_option maxRecDepth 20000 in
theorem q_355_100108 {X : Nat × (Nat → Int32)} {d : Nat}  (M : rM) : fn X (d + 1) 355 [rv 100108] M = cI (fn X d 357 [rv 100108] M) (fun x2 M1 => oI (ishr 3 x2) M1) := rfl
set_option maxRecDepth 20000 in
theorem q_358_100108 {X : Nat × (Nat → Int32)} {d : Nat}  (M : rM) : fn X (d + 1) 358 [rv 100108] M = oI 1 M := rfl
