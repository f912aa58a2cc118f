/-! block equations -/
set_option maxRecDepth 20000 in
theorem q_360_100208 {X : Nat × (Nat → Int32)} {d : Nat} (a0 : Int) (M : rM) : fn X (d + 1) 360 [rv 100208, iv a0] M = cV (fn X d 359 [iv a0, iv 3] M) (fun M1 => gd (0 ≤ a0 ∧ a0 < 3) (gd (0 ≤ cnar (iand (((sa_txt.getD 8 []).getD a0.toNat 0).toInt) 255) ∧ cnar (iand (((sa_txt.getD 8 []).getD a0.toNat 0).toInt) 255) < 65536) (oI (cnar (iand (((sa_txt.getD 8 []).getD a0.toNat 0).toInt) 255)) M1))) := rfl
set_option maxRecDepth 20000 in
theorem q_356_100108 {X : Nat × (Nat → Int32)} {d : Nat} (a0 : Int) (M : rM) : fn X (d + 1) 356 [rv 100108, iv a0] M = cI (fn X d 358 [rv 100108] M) (fun x2 M1 => if x2 = 0 then none else cI (fn X d 360 [rv 100208, iv a0] M1) (fun x4 M3 => gd (0 ≤ x4 ∧ x4 < 65536) (oI x4 M3))) := rfl
set_option maxRecDepth 20000 in
theorem q_134_30_100108 {X : Nat × (Nat → Int32)} {d : Nat}  (M : rM) : fn X (d + 1) 134 [rv 30, rv 100108] M = cI (fn X d 355 [rv 100108] M) (fun x2 M1 => if wr ((M.2.1 30 3) - (M.2.1 30 2)) = x2 then kb X d 134 FU 20 [some (rv 30), some (rv 100108), some (iv 0)] [] M1 else oI 0 M1) := rfl
set_option maxRecDepth 20000 in
theorem q_134_30_100108_at20 {X : Nat × (Nat → Int32)} {d n : Nat} (l2 : Int) (M : rM) : kb X d 134 (n + 1) 20 [some (rv 30), some (rv 100108), some (iv l2)] [] M = cI (fn X d 355 [rv 100108] M) (fun x2 M1 => if l2 < x2 then gd (0 ≤ wr ((M1.2.1 30 2) + l2) ∧ wr ((M1.2.1 30 2) + l2) < 700) (cI (fn X d 356 [rv 100108, iv l2] M1) (fun x4 M3 => if M1.2.1 1 ((wr ((M1.2.1 30 2) + l2)).toNat) = x4 then kb X d 134 n 20 [some (rv 30), some (rv 100108), some (iv (wr (l2 + 1)))] [] M3 else oI 0 M3)) else oI 1 M1) := rfl
set_option maxRecDepth 20000 in
theorem q_357_100109 {X : Nat × (Nat → Int32)} {d : Nat}  (M : rM) : fn X (d + 1) 357 [rv 100109] M = gd (bnar 0 = 0) (oI 0 M) := rfl
set_option maxRecDepth 20000 in
theorem q_355_100109 {X : Nat × (Nat → Int32)} {d : Nat}  (M : rM) : fn X (d + 1) 355 [rv 100109] M = cI (fn X d 357 [rv 100109] M) (fun x2 M1 => oI (ishr 3 x2) M1) := rfl
set_option maxRecDepth 20000 in
theorem q_358_100109 {X : Nat × (Nat → Int32)} {d : Nat}  (M : rM) : fn X (d + 1) 358 [rv 100109] M = oI 1 M := rfl
set_option maxRecDepth 20000 in
theorem q_360_100209 {X : Nat × (Nat → Int32)} {d : Nat} (a0 : Int) (M : rM) : fn X (d + 1) 360 [rv 100209, iv a0] M = cV (fn X d 359 [iv a0, iv 3] M) (fun M1 => gd (0 ≤ a0 ∧ a0 < 3) (gd (0 ≤ cnar (iand (((sa_txt.getD 9 []).getD a0.toNat 0).toInt) 255) ∧ cnar (iand (((sa_txt.getD 9 []).getD a0.toNat 0).toInt) 255) < 65536) (oI (cnar (iand (((sa_txt.getD 9 []).getD a0.toNat 0).toInt) 255)) M1))) := rfl
set_option maxRecDepth 20000 in
theorem q_356_100109 {X : Nat × (Nat → Int32)} {d : Nat} (a0 : Int) (M : rM) : fn X (d + 1) 356 [rv 100109, iv a0] M = cI (fn X d 358 [rv 100109] M) (fun x2 M1 => if x2 = 0 then none else cI (fn X d 360 [rv 100209, iv a0] M1) (fun x4 M3 => gd (0 ≤ x4 ∧ x4 < 65536) (oI x4 M3))) := rfl
set_option maxRecDepth 20000 in
theorem q_134_30_100109 {X : Nat × (Nat → Int32)} {d : Nat}  (M : rM) : fn X (d + 1) 134 [rv 30, rv 100109] M = cI (fn X d 355 [rv 100109] M) (fun x2 M1 => if wr ((M.2.1 30 3) - (M.2.1 30 2)) = x2 then kb X d 134 FU 20 [some (rv 30), some (rv 100109), some (iv 0)] [] M1 else oI 0 M1) := rfl
set_option maxRecDepth 20000 in
theorem q_134_30_100109_at20 {X : Nat × (Nat → Int32)} {d n : Nat} (l2 : Int) (M : rM) : kb X d 134 (n + 1) 20 [some (rv 30), some (rv 100109), some (iv l2)] [] M = cI (fn X d 355 [rv 100109] M) (fun x2 M1 => if l2 < x2 then gd (0 ≤ wr ((M1.2.1 30 2) + l2) ∧ wr ((M1.2.1 30 2) + l2) < 700) (cI (fn X d 356 [rv 100109, iv l2] M1) (fun x4 M3 => if M1.2.1 1 ((wr ((M1.2.1 30 2) + l2)).toNat) = x4 then kb X d 134 n 20 [some (rv 30), some (rv 100109), some (iv (wr (l2 + 1)))] [] M3 else oI 0 M3)) else oI 1 M1) := rfl
set_option maxRecDepth 20000 in
theorem q_357_100110 {X : Nat × (Nat → Int32)} {d : Nat}  (M : rM) : fn X (d + 1) 357 [rv 100110] M = gd (bnar 0 = 0) (oI 0 M) := rfl
set_option maxRecDepth 20000 in
theorem q_355_100110 {X : Nat × (Nat → Int32)} {d : Nat}  (M : rM) : fn X (d + 1) 355 [rv 100110] M = cI (fn X d 357 [rv 100110] M) (fun x2 M1 => oI (ishr 4 x2) M1) := rfl
set_option maxRecDepth 20000 in
theorem q_358_100110 {X : Nat × (Nat → Int32)} {d : Nat}  (M : rM) : fn X (d + 1) 358 [rv 100110] M = oI 1 M := rfl
set_option maxRecDepth 20000 in
theorem q_360_100210 {X : Nat × (Nat → Int32)} {d : Nat} (a0 : Int) (M : rM) : fn X (d + 1) 360 [rv 100210, iv a0] M = cV (fn X d 359 [iv a0, iv 4] M) (fun M1 => gd (0 ≤ a0 ∧ a0 < 4) (gd (0 ≤ cnar (iand (((sa_txt.getD 10 []).getD a0.toNat 0).toInt) 255) ∧ cnar (iand (((sa_txt.getD 10 []).getD a0.toNat 0).toInt) 255) < 65536) (oI (cnar (iand (((sa_txt.getD 10 []).getD a0.toNat 0).toInt) 255)) M1))) := rfl
set_option maxRecDepth 20000 in
theorem q_356_100110 {X : Nat × (Nat → Int32)} {d : Nat} (a0 : Int) (M : rM) : fn X (d + 1) 356 [rv 100110, iv a0] M = cI (fn X d 358 [rv 100110] M) (fun x2 M1 => if x2 = 0 then none else cI (fn X d 360 [rv 100210, iv a0] M1) (fun x4 M3 => gd (0 ≤ x4 ∧ x4 < 65536) (oI x4 M3))) := rfl
set_option maxRecDepth 20000 in
theorem q_134_30_100110 {X : Nat × (Nat → Int32)} {d : Nat}  (M : rM) : fn X (d + 1) 134 [rv 30, rv 100110] M = cI (fn X d 355 [rv 100110] M) (fun x2 M1 => if wr ((M.2.1 30 3) - (M.2.1 30 2)) = x2 then kb X d 134 FU 20 [some (rv 30), some (rv 100110), some (iv 0)] [] M1 else oI 0 M1) := rfl
set_option maxRecDepth 20000 in
theorem q_134_30_100110_at20 {X : Nat × (Nat → Int32)} {d n : Nat} (l2 : Int) (M : rM) : kb X d 134 (n + 1) 20 [some (rv 30), some (rv 100110), some (iv l2)] [] M = cI (fn X d 355 [rv 100110] M) (fun x2 M1 => if l2 < x2 then gd (0 ≤ wr ((M1.2.1 30 2) + l2) ∧ wr ((M1.2.1 30 2) + l2) < 700) (cI (fn X d 356 [rv 100110, iv l2] M1) (fun x4 M3 => if M1.2.1 1 ((wr ((M1.2.1 30 2) + l2)).toNat) = x4 then kb X d 134 n 20 [some (rv 30), some (rv 100110), some (iv (wr (l2 + 1)))] [] M3 else oI 0 M3)) else oI 1 M1) := rfl
set_option maxRecDepth 20000 in
theorem q_357_100111 {X : Nat × (Nat → Int32)} {d : Nat}  (M : rM) : fn X (d + 1) 357 [rv 100111] M = gd (bnar 0 = 0) (oI 0 M) := rfl
set_option maxRecDepth 20000 in
theorem q_355_100111 {X : Nat × (Nat → Int32)} {d : Nat}  (M : rM) : fn X (d + 1) 355 [rv 100111] M = cI (fn X d 357 [rv 100111] M) (fun x2 M1 => oI (ishr 8 x2) M1) := rfl
set_option maxRecDepth 20000 in
theorem q_358_100111 {X : Nat × (Nat → Int32)} {d : Nat}  (M : rM) : fn X (d + 1) 358 [rv 100111] M = oI 1 M := rfl
set_option maxRecDepth 20000 in
theorem q_360_100211 {X : Nat × (Nat → Int32)} {d : Nat} (a0 : Int) (M : rM) : fn X (d + 1) 360 [rv 100211, iv a0] M = cV (fn X d 359 [iv a0, iv 8] M) (fun M1 => gd (0 ≤ a0 ∧ a0 < 8) (gd (0 ≤ cnar (iand (((sa_txt.getD 11 []).getD a0.toNat 0).toInt) 255) ∧ cnar (iand (((sa_txt.getD 11 []).getD a0.toNat 0).toInt) 255) < 65536) (oI (cnar (iand (((sa_txt.getD 11 []).getD a0.toNat 0).toInt) 255)) M1))) := rfl
set_option maxRecDepth 20000 in
theorem q_356_100111 {X : Nat × (Nat → Int32)} {d : Nat} (a0 : Int) (M : rM) : fn X (d + 1) 356 [rv 100111, iv a0] M = cI (fn X d 358 [rv 100111] M) (fun x2 M1 => if x2 = 0 then none else cI (fn X d 360 [rv 100211, iv a0] M1) (fun x4 M3 => gd (0 ≤ x4 ∧ x4 < 65536) (oI x4 M3))) := rfl
set_option maxRecDepth 20000 in
theorem q_134_30_100111 {X : Nat × (Nat → Int32)} {d : Nat}  (M : rM) : fn X (d + 1) 134 [rv 30, rv 100111] M = cI (fn X d 355 [rv 100111] M) (fun x2 M1 => if wr ((M.2.1 30 3) - (M.2.1 30 2)) = x2 then kb X d 134 FU 20 [some (rv 30), some (rv 100111), some (iv 0)] [] M1 else oI 0 M1) := rfl
set_option maxRecDepth 20000 in
theorem q_134_30_100111_at20 {X : Nat × (Nat → Int32)} {d n : Nat} (l2 : Int) (M : rM) : kb X d 134 (n + 1) 20 [some (rv 30), some (rv 100111), some (iv l2)] [] M = cI (fn X d 355 [rv 100111] M) (fun x2 M1 => if l2 < x2 then gd (0 ≤ wr ((M1.2.1 30 2) + l2) ∧ wr ((M1.2.1 30 2) + l2) < 700) (cI (fn X d 356 [rv 100111, iv l2] M1) (fun x4 M3 => if M1.2.1 1 ((wr ((M1.2.1 30 2) + l2)).toNat) = x4 then kb X d 134 n 20 [some (rv 30), some (rv 100111), some (iv (wr (l2 + 1)))] [] M3 else oI 0 M3)) else oI 1 M1) := rfl
set_option maxRecDepth 20000 in
theorem q_357_100112 {X : Nat × (Nat → Int32)} {d : Nat}  (M : rM) : fn X (d + 1) 357 [rv 100112] M = gd (bnar 0 = 0) (oI 0 M) := rfl
set_option maxRecDepth 20000 in
theorem q_355_100112 {X : Nat × (Nat → Int32)} {d : Nat}  (M : rM) : fn X (d + 1) 355 [rv 100112] M = cI (fn X d 357 [rv 100112] M) (fun x2 M1 => oI (ishr 4 x2) M1) := rfl
set_option maxRecDepth 20000 in
theorem q_358_100112 {X : Nat × (Nat → Int32)} {d : Nat}  (M : rM) : fn X (d + 1) 358 [rv 100112] M = oI 1 M := rfl
set_option maxRecDepth 20000 in
theorem q_360_100212 {X : Nat × (Nat → Int32)} {d : Nat} (a0 : Int) (M : rM) : fn X (d + 1) 360 [rv 100212, iv a0] M = cV (fn X d 359 [iv a0, iv 4] M) (fun M1 => gd (0 ≤ a0 ∧ a0 < 4) (gd (0 ≤ cnar (iand (((sa_txt.getD 12 []).getD a0.toNat 0).toInt) 255) ∧ cnar (iand (((sa_txt.getD 12 []).getD a0.toNat 0).toInt) 255) < 65536) (oI (cnar (iand (((sa_txt.getD 12 []).getD a0.toNat 0).toInt) 255)) M1))) := rfl
set_option maxRecDepth 20000 in
theorem q_356_100112 {X : Nat × (Nat → Int32)} {d : Nat} (a0 : Int) (M : rM) : fn X (d + 1) 356 [rv 100112, iv a0] M = cI (fn X d 358 [rv 100112] M) (fun x2 M1 => if x2 = 0 then none else cI (fn X d 360 [rv 100212, iv a0] M1) (fun x4 M3 => gd (0 ≤ x4 ∧ x4 < 65536) (oI x4 M3))) := rfl
set_option maxRecDepth 20000 in
theorem q_134_30_100112 {X : Nat × (Nat → Int32)} {d : Nat}  (M : rM) : fn X (d + 1) 134 [rv 30, rv 100112] M = cI (fn X d 355 [rv 100112] M) (fun x2 M1 => if wr ((M.2.1 30 3) - (M.2.1 30 2)) = x2 then kb X d 134 FU 20 [some (rv 30), some (rv 100112), some (iv 0)] [] M1 else oI 0 M1) := rfl
set_option maxRecDepth 20000 in
theorem q_134_30_100112_at20 {X : Nat × (Nat → Int32)} {d n : Nat} (l2 : Int) (M : rM) : kb X d 134 (n + 1) 20 [some (rv 30), some (rv 100112), some (iv l2)] [] M = cI (fn X d 355 [rv 100112] M) (fun x2 M1 => if l2 < x2 then gd (0 ≤ wr ((M1.2.1 30 2) + l2) ∧ wr ((M1.2.1 30 2) + l2) < 700) (cI (fn X d 356 [rv 100112, iv l2] M1) (fun x4 M3 => if M1.2.1 1 ((wr ((M1.2.1 30 2) + l2)).toNat) = x4 then kb X d 134 n 20 [some (rv 30), some (rv 100112), some (iv (wr (l2 + 1)))] [] M3 else oI 0 M3)) else oI 1 M1) := rfl
set_option maxRecDepth 20000 in
theorem q_357_100113 {X : Nat × (Nat → Int32)} {d : Nat}  (M : rM) : fn X (d + 1) 357 [rv 100113] M = gd (bnar 0 = 0) (oI 0 M) := rfl
set_option maxRecDepth 20000 in
theorem q_355_100113 {X : Nat × (Nat → Int32)} {d : Nat}  (M : rM) : fn X (d + 1) 355 [rv 100113] M = cI (fn X d 357 [rv 100113] M) (fun x2 M1 => oI (ishr 7 x2) M1) := rfl
set_option maxRecDepth 20000 in
theorem q_358_100113 {X : Nat × (Nat → Int32)} {d : Nat}  (M : rM) : fn X (d + 1) 358 [rv 100113] M = oI 1 M := rfl
set_option maxRecDepth 20000 in
theorem q_360_100213 {X : Nat × (Nat → Int32)} {d : Nat} (a0 : Int) (M : rM) : fn X (d + 1) 360 [rv 100213, iv a0] M = cV (fn X d 359 [iv a0, iv 7] M) (fun M1 => gd (0 ≤ a0 ∧ a0 < 7) (gd (0 ≤ cnar (iand (((sa_txt.getD 13 []).getD a0.toNat 0).toInt) 255) ∧ cnar (iand (((sa_txt.getD 13 []).getD a0.toNat 0).toInt) 255) < 65536) (oI (cnar (iand (((sa_txt.getD 13 []).getD a0.toNat 0).toInt) 255)) M1))) := rfl
set_option maxRecDepth 20000 in
theorem q_356_100113 {X : Nat × (Nat → Int32)} {d : Nat} (a0 : Int) (M : rM) : fn X (d + 1) 356 [rv 100113, iv a0] M = cI (fn X d 358 [rv 100113] M) (fun x2 M1 => if x2 = 0 then none else cI (fn X d 360 [rv 100213, iv a0] M1) (fun x4 M3 => gd (0 ≤ x4 ∧ x4 < 65536) (oI x4 M3))) := rfl
set_option maxRecDepth 20000 in
theorem q_134_30_100113 {X : Nat × (Nat → Int32)} {d : Nat}  (M : rM) : fn X (d + 1) 134 [rv 30, rv 100113] M = cI (fn X d 355 [rv 100113] M) (fun x2 M1 => if wr ((M.2.1 30 3) - (M.2.1 30 2)) = x2 then kb X d 134 FU 20 [some (rv 30), some (rv 100113), some (iv 0)] [] M1 else oI 0 M1) := rfl
set_option maxRecDepth 20000 in
theorem q_134_30_100113_at20 {X : Nat × (Nat → Int32)} {d n : Nat} (l2 : Int) (M : rM) : kb X d 134 (n + 1) 20 [some (rv 30), some (rv 100113), some (iv l2)] [] M = cI (fn X d 355 [rv 100113] M) (fun x2 M1 => if l2 < x2 then gd (0 ≤ wr ((M1.2.1 30 2) + l2) ∧ wr ((M1.2.1 30 2) + l2) < 700) (cI (fn X d 356 [rv 100113, iv l2] M1) (fun x4 M3 => if M1.2.1 1 ((wr ((M1.2.1 30 2) + l2)).toNat) = x4 then kb X d 134 n 20 [some (rv 30), some (rv 100113), some (iv (wr (l2 + 1)))] [] M3 else oI 0 M3)) else oI 1 M1) := rfl
set_option maxRecDepth 20000 in
theorem q_357_100114 {X : Nat × (Nat → Int32)} {d : Nat}  (M : rM) : fn X (d + 1) 357 [rv 100114] M = gd (bnar 0 = 0) (oI 0 M) := rfl
set_option maxRecDepth 20000 in
theorem q_355_100114 {X : Nat × (Nat → Int32)} {d : Nat}  (M : rM) : fn X (d + 1) 355 [rv 100114] M = cI (fn X d 357 [rv 100114] M) (fun x2 M1 => oI (ishr 5 x2) M1) := rfl
set_option maxRecDepth 20000 in
theorem q_358_100114 {X : Nat × (Nat → Int32)} {d : Nat}  (M : rM) : fn X (d + 1) 358 [rv 100114] M = oI 1 M := rfl
set_option maxRecDepth 20000 in
theorem q_360_100214 {X : Nat × (Nat → Int32)} {d : Nat} (a0 : Int) (M : rM) : fn X (d + 1) 360 [rv 100214, iv a0] M = cV (fn X d 359 [iv a0, iv 5] M) (fun M1 => gd (0 ≤ a0 ∧ a0 < 5) (gd (0 ≤ cnar (iand (((sa_txt.getD 14 []).getD a0.toNat 0).toInt) 255) ∧ cnar (iand (((sa_txt.getD 14 []).getD a0.toNat 0).toInt) 255) < 65536) (oI (cnar (iand (((sa_txt.getD 14 []).getD a0.toNat 0).toInt) 255)) M1))) := rfl
set_option maxRecDepth 20000 in
theorem q_356_100114 {X : Nat × (Nat → Int32)} {d : Nat} (a0 : Int) (M : rM) : fn X (d + 1) 356 [rv 100114, iv a0] M = cI (fn X d 358 [rv 100114] M) (fun x2 M1 => if x2 = 0 then none else cI (fn X d 360 [rv 100214, iv a0] M1) (fun x4 M3 => gd (0 ≤ x4 ∧ x4 < 65536) (oI x4 M3))) := rfl
set_option maxRecDepth 20000 in
theorem q_134_30_100114 {X : Nat × (Nat → Int32)} {d : Nat}  (M : rM) : fn X (d + 1) 134 [rv 30, rv 100114] M = cI (fn X d 355 [rv 100114] M) (fun x2 M1 => if wr ((M.2.1 30 3) - (M.2.1 30 2)) = x2 then kb X d 134 FU 20 [some (rv 30), some (rv 100114), some (iv 0)] [] M1 else oI 0 M1) := rfl
set_option maxRecDepth 20000 in
theorem q_134_30_100114_at20 {X : Nat × (Nat → Int32)} {d n : Nat} (l2 : Int) (M : rM) : kb X d 134 (n + 1) 20 [some (rv 30), some (rv 100114), some (iv l2)] [] M = cI (fn X d 355 [rv 100114] M) (fun x2 M1 => if l2 < x2 then gd (0 ≤ wr ((M1.2.1 30 2) + l2) ∧ wr ((M1.2.1 30 2) + l2) < 700) (cI (fn X d 356 [rv 100114, iv l2] M1) (fun x4 M3 => if M1.2.1 1 ((wr ((M1.2.1 30 2) + l2)).toNat) = x4 then kb X d 134 n 20 [some (rv 30), some (rv 100114), some (iv (wr (l2 + 1)))] [] M3 else oI 0 M3)) else oI 1 M1) := rfl
set_option maxRecDepth 20000 in
theorem q_357_100115 {X : Nat × (Nat → Int32)} {d : Nat}  (M : rM) : fn X (d + 1) 357 [rv 100115] M = gd (bnar 0 = 0) (oI 0 M) := rfl
set_option maxRecDepth 20000 in
theorem q_355_100115 {X : Nat × (Nat → Int32)} {d : Nat}  (M : rM) : fn X (d + 1) 355 [rv 100115] M = cI (fn X d 357 [rv 100115] M) (fun x2 M1 => oI (ishr 4 x2) M1) := rfl
set_option maxRecDepth 20000 in
theorem q_358_100115 {X : Nat × (Nat → Int32)} {d : Nat}  (M : rM) : fn X (d + 1) 358 [rv 100115] M = oI 1 M := rfl
set_option maxRecDepth 20000 in
theorem q_360_100215 {X : Nat × (Nat → Int32)} {d : Nat} (a0 : Int) (M : rM) : fn X (d + 1) 360 [rv 100215, iv a0] M = cV (fn X d 359 [iv a0, iv 4] M) (fun M1 => gd (0 ≤ a0 ∧ a0 < 4) (gd (0 ≤ cnar (iand (((sa_txt.getD 15 []).getD a0.toNat 0).toInt) 255) ∧ cnar (iand (((sa_txt.getD 15 []).getD a0.toNat 0).toInt) 255) < 65536) (oI (cnar (iand (((sa_txt.getD 15 []).getD a0.toNat 0).toInt) 255)) M1))) := rfl
set_option maxRecDepth 20000 in
theorem q_356_100115 {X : Nat × (Nat → Int32)} {d : Nat} (a0 : Int) (M : rM) : fn X (d + 1) 356 [rv 100115, iv a0] M = cI (fn X d 358 [rv 100115] M) (fun x2 M1 => if x2 = 0 then none else cI (fn X d 360 [rv 100215, iv a0] M1) (fun x4 M3 => gd (0 ≤ x4 ∧ x4 < 65536) (oI x4 M3))) := rfl
set_option maxRecDepth 20000 in
theorem q_134_30_100115 {X : Nat × (Nat → Int32)} {d : Nat}  (M : rM) : fn X (d + 1) 134 [rv 30, rv 100115] M = cI (fn X d 355 [rv 100115] M) (fun x2 M1 => if wr ((M.2.1 30 3) - (M.2.1 30 2)) = x2 then kb X d 134 FU 20 [some (rv 30), some (rv 100115), some (iv 0)] [] M1 else oI 0 M1) := rfl
set_option maxRecDepth 20000 in
theorem q_134_30_100115_at20 {X : Nat × (Nat → Int32)} {d n : Nat} (l2 : Int) (M : rM) : kb X d 134 (n + 1) 20 [some (rv 30), some (rv 100115), some (iv l2)] [] M = cI (fn X d 355 [rv 100115] M) (fun x2 M1 => if l2 < x2 then gd (0 ≤ wr ((M1.2.1 30 2) + l2) ∧ wr ((M1.2.1 30 2) + l2) < 700) (cI (fn X d 356 [rv 100115, iv l2] M1) (fun x4 M3 => if M1.2.1 1 ((wr ((M1.2.1 30 2) + l2)).toNat) = x4 then kb X d 134 n 20 [some (rv 30), some (rv 100115), some (iv (wr (l2 + 1)))] [] M3 else oI 0 M3)) else oI 1 M1) := rfl
set_option maxRecDepth 20000 in
theorem q_137 {X : Nat × (Nat → Int32)} {d : Nat} (a0 : Int) (M : rM) : fn X (d + 1) 137 [iv a0] M = if a0 < 97 then oI 0 M else if 122 < a0 then oI 0 M else oI 1 M := rfl
set_option maxRecDepth 20000 in
theorem q_133_30 {X : Nat × (Nat → Int32)} {d : Nat}  (M : rM) : fn X (d + 1) 133 [rv 30] M = if M.2.1 30 3 < M.2.1 30 1 then gd (0 ≤ M.2.1 30 3 ∧ M.2.1 30 3 < 700) (cI (fn X d 137 [iv (M.2.1 1 ((M.2.1 30 3).toNat))] M) (fun x2 M1 => if x2 = 0 then kb X d 133 FU 39 [some (rv 30)] [] M1 else kb X d 133 FU 0 [some (rv 30)] [] (puI M1 30 3 (wr ((M1.2.1 30 3) + 1))))) else kb X d 133 FU 39 [some (rv 30)] [] M := rfl
set_option maxRecDepth 20000 in
theorem q_133_30_at39 {X : Nat × (Nat → Int32)} {d n : Nat}  (M : rM) : kb X d 133 (n + 1) 39 [some (rv 30)] [] M = cI (fn X d 134 [rv 30, rv 100100] M) (fun x2 M1 => if x2 = 0 then cI (fn X d 134 [rv 30, rv 100101] M1) (fun x4 M3 => if x4 = 0 then cI (fn X d 134 [rv 30, rv 100102] M3) (fun x6 M5 => if x6 = 0 then cI (fn X d 134 [rv 30, rv 100103] M5) (fun x8 M7 => if x8 = 0 then cI (fn X d 134 [rv 30, rv 100104] M7) (fun x10 M9 => if x10 = 0 then cI (fn X d 134 [rv 30, rv 100105] M9) (fun x12 M11 => if x12 = 0 then cI (fn X d 134 [rv 30, rv 100106] M11) (fun x14 M13 => if x14 = 0 then cI (fn X d 134 [rv 30, rv 100107] M13) (fun x16 M15 => if x16 = 0 then cI (fn X d 134 [rv 30, rv 100108] M15) (fun x18 M17 => if x18 = 0 then cI (fn X d 134 [rv 30, rv 100109] M17) (fun x20 M19 => if x20 = 0 then cI (fn X d 134 [rv 30, rv 100110] M19) (fun x22 M21 => if x22 = 0 then cI (fn X d 134 [rv 30, rv 100111] M21) (fun x24 M23 => if x24 = 0 then cI (fn X d 134 [rv 30, rv 100112] M23) (fun x26 M25 => if x26 = 0 then cI (fn X d 134 [rv 30, rv 100113] M25) (fun x28 M27 => if x28 = 0 then cI (fn X d 134 [rv 30, rv 100114] M27) (fun x30 M29 => if x30 = 0 then cI (fn X d 134 [rv 30, rv 100115] M29) (fun x32 M31 => if x32 = 0 then kb X d 133 n 266 [none] [iv 100, rv 30] M31 else kb X d 133 n 266 [none] [iv 116, rv 30] M31) else kb X d 133 n 266 [none] [iv 115, rv 30] M29) else kb X d 133 n 266 [none] [iv 114, rv 30] M27) else kb X d 133 n 266 [none] [iv 113, rv 30] M25) else kb X d 133 n 266 [none] [iv 112, rv 30] M23) else kb X d 133 n 266 [none] [iv 111, rv 30] M21) else kb X d 133 n 266 [none] [iv 110, rv 30] M19) else kb X d 133 n 266 [none] [iv 109, rv 30] M17) else kb X d 133 n 266 [none] [iv 108, rv 30] M15) else kb X d 133 n 266 [none] [iv 107, rv 30] M13) else kb X d 133 n 266 [none] [iv 106, rv 30] M11) else kb X d 133 n 266 [none] [iv 105, rv 30] M9) else kb X d 133 n 266 [none] [iv 104, rv 30] M7) else kb X d 133 n 266 [none] [iv 103, rv 30] M5) else kb X d 133 n 266 [none] [iv 102, rv 30] M3) else kb X d 133 n 266 [none] [iv 101, rv 30] M1) := rfl
set_option maxRecDepth 20000 in
theorem q_133_30_at0 {X : Nat × (Nat → Int32)} {d n : Nat}  (M : rM) : kb X d 133 (n + 1) 0 [some (rv 30)] [] M = if M.2.1 30 3 < M.2.1 30 1 then gd (0 ≤ M.2.1 30 3 ∧ M.2.1 30 3 < 700) (cI (fn X d 137 [iv (M.2.1 1 ((M.2.1 30 3).toNat))] M) (fun x2 M1 => if x2 = 0 then kb X d 133 n 39 [some (rv 30)] [] M1 else kb X d 133 n 0 [some (rv 30)] [] (puI M1 30 3 (wr ((M1.2.1 30 3) + 1))))) else kb X d 133 n 39 [some (rv 30)] [] M := rfl
set_option maxRecDepth 20000 in
theorem q_133_30_at266 {X : Nat × (Nat → Int32)} {d n : Nat} (t1 : Int) (M : rM) : kb X d 133 (n + 1) 266 [none] [iv t1, rv 30] M = oV (puI M 30 4 t1) := rfl
