/-! block equations -/
set_option maxRecDepth 20000 in
theorem q_89_3 {X : Nat × (Nat → Int32)} {d : Nat}  (M : rM) : fn X (d + 1) 89 [rv 3] M = kb X d 89 FU 4 [some (rv 3), some (iv 0), some (iv 0), none] [] M := rfl
set_option maxRecDepth 20000 in
theorem q_89_3_at4 {X : Nat × (Nat → Int32)} {d n : Nat} (l1 : Int) (l2 : Int) (M : rM) : kb X d 89 (n + 1) 4 [some (rv 3), some (iv l1), some (iv l2), none] [] M = cI (fn X d 112 [rv 10] M) (fun x2 M1 => if l2 < x2 then kb X d 89 n 19 [some (rv 3), some (iv l1), some (iv l2), some (iv (wr (l2 + 1)))] [] M1 else oI l1 M1) := rfl
set_option maxRecDepth 20000 in
theorem q_89_3_at19 {X : Nat × (Nat → Int32)} {d n : Nat} (l1 : Int) (l2 : Int) (l3 : Int) (M : rM) : kb X d 89 (n + 1) 19 [some (rv 3), some (iv l1), some (iv l2), some (iv l3)] [] M = cI (fn X d 112 [rv 10] M) (fun x2 M1 => if l3 < x2 then cI (fn X d 118 [rv 10, iv l2, iv 0] M1) (fun x4 M3 => cI (fn X d 118 [rv 10, iv l3, iv 0] M3) (fun x6 M5 => if x4 = x6 then kb X d 89 n 19 [some (rv 3), some (iv (wr (l1 + 1))), some (iv l2), some (iv (wr (l3 + 1)))] [] M5 else kb X d 89 n 19 [some (rv 3), some (iv l1), some (iv l2), some (iv (wr (l3 + 1)))] [] M5)) else kb X d 89 n 4 [some (rv 3), some (iv l1), some (iv (wr (l2 + 1))), none] [] M1) := rfl
set_option maxRecDepth 20000 in
theorem q_188_0 {X : Nat × (Nat → Int32)} {d : Nat}  (M : rM) : fn X (d + 1) 188 [rv 0] M = cI (fn X d 89 [rv 3] M) (fun x2 M1 => oI x2 M1) := rfl
set_option maxRecDepth 20000 in
theorem q_189_0 {X : Nat × (Nat → Int32)} {d : Nat}  (M : rM) : fn X (d + 1) 189 [rv 0] M = kb X d 189 FU 6 [some (rv 0), some (iv (-1)), some (iv 0), some (iv 0), none] [] M := rfl
set_option maxRecDepth 20000 in
theorem q_189_0_at6 {X : Nat × (Nat → Int32)} {d n : Nat} (l1 : Int) (l2 : Int) (l3 : Int) (M : rM) : kb X d 189 (n + 1) 6 [some (rv 0), some (iv l1), some (iv l2), some (iv l3), none] [] M = cI (fn X d 112 [rv 4] M) (fun x2 M1 => if l3 < x2 then cI (fn X d 192 [rv 0, iv l3] M1) (fun x4 M3 => if x4 = 0 then kb X d 189 n 37 [some (rv 0), some (iv l1), some (iv l2), some (iv l3), none] [iv 0] M3 else cI (fn X d 194 [rv 0, iv l3] M3) (fun x6 M5 => kb X d 189 n 37 [some (rv 0), some (iv l1), some (iv l2), some (iv l3), none] [iv x6] M5)) else oI l1 M1) := rfl
set_option maxRecDepth 20000 in
theorem q_189_0_at37 {X : Nat × (Nat → Int32)} {d n : Nat} (l1 : Int) (l2 : Int) (l3 : Int) (t0 : Int) (M : rM) : kb X d 189 (n + 1) 37 [some (rv 0), some (iv l1), some (iv l2), some (iv l3), none] [iv t0] M = if 0 < t0 then if l1 = (-1) then kb X d 189 n 6 [some (rv 0), some (iv l3), some (iv t0), some (iv (wr (l3 + 1))), none] [] M else if t0 < l2 then kb X d 189 n 6 [some (rv 0), some (iv l3), some (iv t0), some (iv (wr (l3 + 1))), none] [] M else kb X d 189 n 6 [some (rv 0), some (iv l1), some (iv l2), some (iv (wr (l3 + 1))), none] [] M else kb X d 189 n 6 [some (rv 0), some (iv l1), some (iv l2), some (iv (wr (l3 + 1))), none] [] M := rfl
set_option maxRecDepth 20000 in
theorem q_92_39_34 {X : Nat × (Nat → Int32)} {d : Nat}  (M : rM) : fn X (d + 1) 92 [rv 39, rv 34] M = oV (puA M 40 (va_cpy (M.2.1 35) (M.2.1 40) 0 0 27)) := rfl
set_option maxRecDepth 20000 in
theorem q_141_36_31 {X : Nat × (Nat → Int32)} {d : Nat}  (M : rM) : fn X (d + 1) 141 [rv 36, rv 31] M = cV (fn X d 92 [rv 39, rv 34] M) (fun M1 => oV (puI (puA (puI (puI (puA M1 37 (va_cpy (M1.2.1 32) (M1.2.1 37) 0 0 1080)) 36 2 (M1.2.1 31 2)) 36 3 (M1.2.1 31 3)) 38 (va_cpy (M1.2.1 33) (M1.2.1 38) 0 0 8)) 36 5 (M1.2.1 31 5))) := rfl
set_option maxRecDepth 20000 in
theorem q_190_0 {X : Nat × (Nat → Int32)} {d : Nat}  (M : rM) : fn X (d + 1) 190 [rv 0] M = cV (fn X d 141 [rv 36, rv 31] M) (fun M1 => oV (puI M1 0 9 1)) := rfl
set_option maxRecDepth 20000 in
theorem q_92_34_39 {X : Nat × (Nat → Int32)} {d : Nat}  (M : rM) : fn X (d + 1) 92 [rv 34, rv 39] M = oV (puA M 35 (va_cpy (M.2.1 40) (M.2.1 35) 0 0 27)) := rfl
set_option maxRecDepth 20000 in
theorem q_141_31_36 {X : Nat × (Nat → Int32)} {d : Nat}  (M : rM) : fn X (d + 1) 141 [rv 31, rv 36] M = cV (fn X d 92 [rv 34, rv 39] M) (fun M1 => oV (puI (puA (puI (puI (puA M1 32 (va_cpy (M1.2.1 37) (M1.2.1 32) 0 0 1080)) 31 2 (M1.2.1 36 2)) 31 3 (M1.2.1 36 3)) 33 (va_cpy (M1.2.1 38) (M1.2.1 33) 0 0 8)) 31 5 (M1.2.1 36 5))) := rfl
set_option maxRecDepth 20000 in
theorem q_191_0 {X : Nat × (Nat → Int32)} {d : Nat}  (M : rM) : fn X (d + 1) 191 [rv 0] M = if M.2.1 0 9 = 0 then gd (M.2.1 0 9 = 0 ∨ M.2.1 0 9 = 1) (oI (M.2.1 0 9) M) else cV (fn X d 141 [rv 31, rv 36] M) (fun M1 => gd (M1.2.1 0 9 = 0 ∨ M1.2.1 0 9 = 1) (oI (M1.2.1 0 9) M1)) := rfl
set_option maxRecDepth 20000 in
theorem q_208_59 {X : Nat × (Nat → Int32)} {d : Nat}  (M : rM) : fn X (d + 1) 208 [rv 59] M = oI (M.2.1 59 0) M := rfl
set_option maxRecDepth 20000 in
theorem q_215_59 {X : Nat × (Nat → Int32)} {d : Nat} (a0 : Int) (M : rM) : fn X (d + 1) 215 [rv 59, iv a0] M = kb X d 215 FU 3 [some (rv 59), some (iv a0), some (iv 24)] [] M := rfl
set_option maxRecDepth 20000 in
theorem q_215_59_at3 {X : Nat × (Nat → Int32)} {d n : Nat} (l1 : Int) (l2 : Int) (M : rM) : kb X d 215 (n + 1) 3 [some (rv 59), some (iv l1), some (iv l2)] [] M = if l2 < 0 then oV M else gd (0 ≤ M.2.1 59 21 ∧ M.2.1 59 21 < 700) (kb X d 215 n 3 [some (rv 59), some (iv l1), some (iv (wr (l2 + (-8))))] [] (puI (puI M 73 ((M.2.1 59 21).toNat) (iand (ishr l1 l2) 255)) 59 21 (wr ((M.2.1 59 21) + 1)))) := rfl
set_option maxRecDepth 20000 in
theorem q_214_59 {X : Nat × (Nat → Int32)} {d : Nat} (a0 : Int) (a1 : Int) (a2 : Int) (a3 : Int) (a4 : Int) (M : rM) : fn X (d + 1) 214 [rv 59, iv a0, iv a1, iv a2, iv a3, iv a4] M = if 700 < wr ((M.2.1 59 21) + 20) then oI (-1) (puI M 59 0 0) else cV (fn X d 215 [rv 59, iv a0] (puI M 59 0 0)) (fun M1 => cV (fn X d 215 [rv 59, iv a1] M1) (fun M2 => cV (fn X d 215 [rv 59, iv a2] M2) (fun M3 => cV (fn X d 215 [rv 59, iv a3] M3) (fun M4 => cV (fn X d 215 [rv 59, iv a4] M4) (fun M5 => oI (M5.2.1 59 21) M5))))) := rfl
set_option maxRecDepth 20000 in
theorem q_209_59 {X : Nat × (Nat → Int32)} {d : Nat} (a0 : Int) (a1 : Int) (M : rM) : fn X (d + 1) 209 [rv 59, iv a0, iv a1] M = if M.2.1 59 0 = 0 then if a0 = 0 then if a1 = 0 then oI 1 (puI M 59 0 a1) else oI 0 (puI M 59 0 a1) else if M.2.1 59 0 = 0 then oI 1 M else oI 0 M else if M.2.1 59 0 = 0 then oI 1 M else oI 0 M := rfl
set_option maxRecDepth 20000 in
theorem q_212_59_75_60 {X : Nat × (Nat → Int32)} {d : Nat}  (M : rM) : fn X (d + 1) 212 [rv 59, rv 75, rv 60] M = kb X d 212 FU 2 [none, some (rv 75), some (rv 60), some (iv 0)] [] M := rfl
set_option maxRecDepth 20000 in
theorem q_212_59_75_60_at2 {X : Nat × (Nat → Int32)} {d n : Nat} (l3 : Int) (M : rM) : kb X d 212 (n + 1) 2 [none, some (rv 75), some (rv 60), some (iv l3)] [] M = if l3 < 6 then gd (0 ≤ l3 ∧ l3 < 6) (gd (0 ≤ l3 ∧ l3 < 6) (kb X d 212 n 2 [none, some (rv 75), some (rv 60), some (iv (wr (l3 + 1)))] [] (puI M 60 l3.toNat (M.2.1 75 l3.toNat)))) else oV M := rfl
set_option maxRecDepth 20000 in
theorem q_212_59_76_61 {X : Nat × (Nat → Int32)} {d : Nat}  (M : rM) : fn X (d + 1) 212 [rv 59, rv 76, rv 61] M = kb X d 212 FU 2 [none, some (rv 76), some (rv 61), some (iv 0)] [] M := rfl
set_option maxRecDepth 20000 in
theorem q_212_59_76_61_at2 {X : Nat × (Nat → Int32)} {d n : Nat} (l3 : Int) (M : rM) : kb X d 212 (n + 1) 2 [none, some (rv 76), some (rv 61), some (iv l3)] [] M = if l3 < 6 then gd (0 ≤ l3 ∧ l3 < 6) (gd (0 ≤ l3 ∧ l3 < 6) (kb X d 212 n 2 [none, some (rv 76), some (rv 61), some (iv (wr (l3 + 1)))] [] (puI M 61 l3.toNat (M.2.1 76 l3.toNat)))) else oV M := rfl
set_option maxRecDepth 20000 in
theorem q_212_59_77_62 {X : Nat × (Nat → Int32)} {d : Nat}  (M : rM) : fn X (d + 1) 212 [rv 59, rv 77, rv 62] M = kb X d 212 FU 2 [none, some (rv 77), some (rv 62), some (iv 0)] [] M := rfl
set_option maxRecDepth 20000 in
theorem q_212_59_77_62_at2 {X : Nat × (Nat → Int32)} {d n : Nat} (l3 : Int) (M : rM) : kb X d 212 (n + 1) 2 [none, some (rv 77), some (rv 62), some (iv l3)] [] M = if l3 < 6 then gd (0 ≤ l3 ∧ l3 < 6) (gd (0 ≤ l3 ∧ l3 < 6) (kb X d 212 n 2 [none, some (rv 77), some (rv 62), some (iv (wr (l3 + 1)))] [] (puI M 62 l3.toNat (M.2.1 77 l3.toNat)))) else oV M := rfl
set_option maxRecDepth 20000 in
theorem q_212_59_78_63 {X : Nat × (Nat → Int32)} {d : Nat}  (M : rM) : fn X (d + 1) 212 [rv 59, rv 78, rv 63] M = kb X d 212 FU 2 [none, some (rv 78), some (rv 63), some (iv 0)] [] M := rfl
set_option maxRecDepth 20000 in
theorem q_212_59_78_63_at2 {X : Nat × (Nat → Int32)} {d n : Nat} (l3 : Int) (M : rM) : kb X d 212 (n + 1) 2 [none, some (rv 78), some (rv 63), some (iv l3)] [] M = if l3 < 8 then gd (0 ≤ l3 ∧ l3 < 8) (gd (0 ≤ l3 ∧ l3 < 8) (kb X d 212 n 2 [none, some (rv 78), some (rv 63), some (iv (wr (l3 + 1)))] [] (puI M 63 l3.toNat (M.2.1 78 l3.toNat)))) else oV M := rfl
set_option maxRecDepth 20000 in
theorem q_212_59_79_64 {X : Nat × (Nat → Int32)} {d : Nat}  (M : rM) : fn X (d + 1) 212 [rv 59, rv 79, rv 64] M = kb X d 212 FU 2 [none, some (rv 79), some (rv 64), some (iv 0)] [] M := rfl
set_option maxRecDepth 20000 in
theorem q_212_59_79_64_at2 {X : Nat × (Nat → Int32)} {d n : Nat} (l3 : Int) (M : rM) : kb X d 212 (n + 1) 2 [none, some (rv 79), some (rv 64), some (iv l3)] [] M = if l3 < 8 then gd (0 ≤ l3 ∧ l3 < 8) (gd (0 ≤ l3 ∧ l3 < 8) (kb X d 212 n 2 [none, some (rv 79), some (rv 64), some (iv (wr (l3 + 1)))] [] (puI M 64 l3.toNat (M.2.1 79 l3.toNat)))) else oV M := rfl
set_option maxRecDepth 20000 in
theorem q_212_59_80_65 {X : Nat × (Nat → Int32)} {d : Nat}  (M : rM) : fn X (d + 1) 212 [rv 59, rv 80, rv 65] M = kb X d 212 FU 2 [none, some (rv 80), some (rv 65), some (iv 0)] [] M := rfl
set_option maxRecDepth 20000 in
theorem q_212_59_80_65_at2 {X : Nat × (Nat → Int32)} {d n : Nat} (l3 : Int) (M : rM) : kb X d 212 (n + 1) 2 [none, some (rv 80), some (rv 65), some (iv l3)] [] M = if l3 < 8 then gd (0 ≤ l3 ∧ l3 < 8) (gd (0 ≤ l3 ∧ l3 < 8) (kb X d 212 n 2 [none, some (rv 80), some (rv 65), some (iv (wr (l3 + 1)))] [] (puI M 65 l3.toNat (M.2.1 80 l3.toNat)))) else oV M := rfl
set_option maxRecDepth 20000 in
theorem q_212_59_81_66 {X : Nat × (Nat → Int32)} {d : Nat}  (M : rM) : fn X (d + 1) 212 [rv 59, rv 81, rv 66] M = kb X d 212 FU 2 [none, some (rv 81), some (rv 66), some (iv 0)] [] M := rfl
set_option maxRecDepth 20000 in
theorem q_212_59_81_66_at2 {X : Nat × (Nat → Int32)} {d n : Nat} (l3 : Int) (M : rM) : kb X d 212 (n + 1) 2 [none, some (rv 81), some (rv 66), some (iv l3)] [] M = if l3 < 8 then gd (0 ≤ l3 ∧ l3 < 8) (gd (0 ≤ l3 ∧ l3 < 8) (kb X d 212 n 2 [none, some (rv 81), some (rv 66), some (iv (wr (l3 + 1)))] [] (puI M 66 l3.toNat (M.2.1 81 l3.toNat)))) else oV M := rfl
set_option maxRecDepth 20000 in
theorem q_212_59_82_67 {X : Nat × (Nat → Int32)} {d : Nat}  (M : rM) : fn X (d + 1) 212 [rv 59, rv 82, rv 67] M = kb X d 212 FU 2 [none, some (rv 82), some (rv 67), some (iv 0)] [] M := rfl
set_option maxRecDepth 20000 in
theorem q_212_59_82_67_at2 {X : Nat × (Nat → Int32)} {d n : Nat} (l3 : Int) (M : rM) : kb X d 212 (n + 1) 2 [none, some (rv 82), some (rv 67), some (iv l3)] [] M = if l3 < 8 then gd (0 ≤ l3 ∧ l3 < 8) (gd (0 ≤ l3 ∧ l3 < 8) (kb X d 212 n 2 [none, some (rv 82), some (rv 67), some (iv (wr (l3 + 1)))] [] (puI M 67 l3.toNat (M.2.1 82 l3.toNat)))) else oV M := rfl
set_option maxRecDepth 20000 in
theorem q_212_59_83_68 {X : Nat × (Nat → Int32)} {d : Nat}  (M : rM) : fn X (d + 1) 212 [rv 59, rv 83, rv 68] M = kb X d 212 FU 2 [none, some (rv 83), some (rv 68), some (iv 0)] [] M := rfl
set_option maxRecDepth 20000 in
theorem q_212_59_83_68_at2 {X : Nat × (Nat → Int32)} {d n : Nat} (l3 : Int) (M : rM) : kb X d 212 (n + 1) 2 [none, some (rv 83), some (rv 68), some (iv l3)] [] M = if l3 < 8 then gd (0 ≤ l3 ∧ l3 < 8) (gd (0 ≤ l3 ∧ l3 < 8) (kb X d 212 n 2 [none, some (rv 83), some (rv 68), some (iv (wr (l3 + 1)))] [] (puI M 68 l3.toNat (M.2.1 83 l3.toNat)))) else oV M := rfl
set_option maxRecDepth 20000 in
theorem q_212_59_84_69 {X : Nat × (Nat → Int32)} {d : Nat}  (M : rM) : fn X (d + 1) 212 [rv 59, rv 84, rv 69] M = kb X d 212 FU 2 [none, some (rv 84), some (rv 69), some (iv 0)] [] M := rfl
set_option maxRecDepth 20000 in
theorem q_212_59_84_69_at2 {X : Nat × (Nat → Int32)} {d n : Nat} (l3 : Int) (M : rM) : kb X d 212 (n + 1) 2 [none, some (rv 84), some (rv 69), some (iv l3)] [] M = if l3 < 6 then gd (0 ≤ l3 ∧ l3 < 6) (gd (0 ≤ l3 ∧ l3 < 6) (kb X d 212 n 2 [none, some (rv 84), some (rv 69), some (iv (wr (l3 + 1)))] [] (puI M 69 l3.toNat (M.2.1 84 l3.toNat)))) else oV M := rfl
set_option maxRecDepth 20000 in
theorem q_212_59_85_70 {X : Nat × (Nat → Int32)} {d : Nat}  (M : rM) : fn X (d + 1) 212 [rv 59, rv 85, rv 70] M = kb X d 212 FU 2 [none, some (rv 85), some (rv 70), some (iv 0)] [] M := rfl
set_option maxRecDepth 20000 in
theorem q_212_59_85_70_at2 {X : Nat × (Nat → Int32)} {d n : Nat} (l3 : Int) (M : rM) : kb X d 212 (n + 1) 2 [none, some (rv 85), some (rv 70), some (iv l3)] [] M = if l3 < 6 then gd (0 ≤ l3 ∧ l3 < 6) (gd (0 ≤ l3 ∧ l3 < 6) (kb X d 212 n 2 [none, some (rv 85), some (rv 70), some (iv (wr (l3 + 1)))] [] (puI M 70 l3.toNat (M.2.1 85 l3.toNat)))) else oV M := rfl
set_option maxRecDepth 20000 in
theorem q_212_59_86_71 {X : Nat × (Nat → Int32)} {d : Nat}  (M : rM) : fn X (d + 1) 212 [rv 59, rv 86, rv 71] M = kb X d 212 FU 2 [none, some (rv 86), some (rv 71), some (iv 0)] [] M := rfl
set_option maxRecDepth 20000 in
theorem q_212_59_86_71_at2 {X : Nat × (Nat → Int32)} {d n : Nat} (l3 : Int) (M : rM) : kb X d 212 (n + 1) 2 [none, some (rv 86), some (rv 71), some (iv l3)] [] M = if l3 < 8 then gd (0 ≤ l3 ∧ l3 < 8) (gd (0 ≤ l3 ∧ l3 < 8) (kb X d 212 n 2 [none, some (rv 86), some (rv 71), some (iv (wr (l3 + 1)))] [] (puI M 71 l3.toNat (M.2.1 86 l3.toNat)))) else oV M := rfl
set_option maxRecDepth 20000 in
theorem q_212_59_88_72 {X : Nat × (Nat → Int32)} {d : Nat}  (M : rM) : fn X (d + 1) 212 [rv 59, rv 88, rv 72] M = kb X d 212 FU 2 [none, some (rv 88), some (rv 72), some (iv 0)] [] M := rfl
set_option maxRecDepth 20000 in
theorem q_212_59_88_72_at2 {X : Nat × (Nat → Int32)} {d n : Nat} (l3 : Int) (M : rM) : kb X d 212 (n + 1) 2 [none, some (rv 88), some (rv 72), some (iv l3)] [] M = if l3 < 1400 then gd (0 ≤ l3 ∧ l3 < 1400) (gd (0 ≤ l3 ∧ l3 < 1400) (kb X d 212 n 2 [none, some (rv 88), some (rv 72), some (iv (wr (l3 + 1)))] [] (puI M 72 l3.toNat (M.2.1 88 l3.toNat)))) else oV M := rfl
set_option maxRecDepth 20000 in
theorem q_216_59 {X : Nat × (Nat → Int32)} {d : Nat} (a0 : Int) (M : rM) : fn X (d + 1) 216 [rv 59, iv a0] M = if a0 < M.2.1 59 25 then gd (0 ≤ a0 ∧ a0 < 700) (oI (M.2.1 73 a0.toNat) M) else oI 0 M := rfl
set_option maxRecDepth 20000 in
theorem q_217 {X : Nat × (Nat → Int32)} {d : Nat} (a0 : Int) (M : rM) : fn X (d + 1) 217 [iv a0] M = if a0 < 97 then oI 0 M else if 122 < a0 then oI 0 M else oI 1 M := rfl
set_option maxRecDepth 20000 in
theorem q_218 {X : Nat × (Nat → Int32)} {d : Nat} (a0 : Int) (M : rM) : fn X (d + 1) 218 [iv a0] M = if a0 < 48 then oI 0 M else if 57 < a0 then oI 0 M else oI 1 M := rfl
set_option maxRecDepth 20000 in
theorem q_219_59 {X : Nat × (Nat → Int32)} {d : Nat}  (M : rM) : fn X (d + 1) 219 [rv 59] M = if M.2.1 59 26 < M.2.1 59 25 then cI (fn X d 216 [rv 59, iv (M.2.1 59 26)] M) (fun x2 M1 => if x2 = 32 then kb X d 219 FU 0 [some (rv 59), none] [] (puI M1 59 26 (wr ((M1.2.1 59 26) + 1))) else cI (fn X d 216 [rv 59, iv (M1.2.1 59 26)] M1) (fun x4 M3 => if x4 = 10 then kb X d 219 FU 0 [some (rv 59), none] [] (puI M3 59 26 (wr ((M3.2.1 59 26) + 1))) else kb X d 219 FU 50 [some (rv 59), none] [] M3)) else kb X d 219 FU 50 [some (rv 59), none] [] M := rfl
set_option maxRecDepth 20000 in
theorem q_219_59_at0 {X : Nat × (Nat → Int32)} {d n : Nat}  (M : rM) : kb X d 219 (n + 1) 0 [some (rv 59), none] [] M = if M.2.1 59 26 < M.2.1 59 25 then cI (fn X d 216 [rv 59, iv (M.2.1 59 26)] M) (fun x2 M1 => if x2 = 32 then kb X d 219 n 0 [some (rv 59), none] [] (puI M1 59 26 (wr ((M1.2.1 59 26) + 1))) else cI (fn X d 216 [rv 59, iv (M1.2.1 59 26)] M1) (fun x4 M3 => if x4 = 10 then kb X d 219 n 0 [some (rv 59), none] [] (puI M3 59 26 (wr ((M3.2.1 59 26) + 1))) else kb X d 219 n 50 [some (rv 59), none] [] M3)) else kb X d 219 n 50 [some (rv 59), none] [] M := rfl
set_option maxRecDepth 20000 in
theorem q_219_59_at50 {X : Nat × (Nat → Int32)} {d n : Nat}  (M : rM) : kb X d 219 (n + 1) 50 [some (rv 59), none] [] M = cI (fn X d 216 [rv 59, iv (M.2.1 59 26)] (puI (puJ (puI M 59 28 (M.2.1 59 26)) 59 32 (Int64.ofNat 0)) 59 30 0)) (fun x2 M1 => if M1.2.1 59 26 < M1.2.1 59 25 then cI (fn X d 217 [iv x2] (puI M1 59 31 x2)) (fun x4 M3 => if x4 = 0 then cI (fn X d 218 [iv x2] M3) (fun x6 M5 => if x6 = 0 then if x2 = 59 then kb X d 219 n 323 [some (rv 59), none] [rv 59] (puI M5 59 26 (wr ((M5.2.1 59 26) + 1))) else if x2 = 40 then kb X d 219 n 323 [some (rv 59), none] [rv 59] (puI M5 59 26 (wr ((M5.2.1 59 26) + 1))) else if x2 = 41 then kb X d 219 n 323 [some (rv 59), none] [rv 59] (puI M5 59 26 (wr ((M5.2.1 59 26) + 1))) else if x2 = 43 then kb X d 219 n 323 [some (rv 59), none] [rv 59] (puI M5 59 26 (wr ((M5.2.1 59 26) + 1))) else if x2 = 45 then kb X d 219 n 323 [some (rv 59), none] [rv 59] (puI M5 59 26 (wr ((M5.2.1 59 26) + 1))) else if x2 = 42 then kb X d 219 n 323 [some (rv 59), none] [rv 59] (puI M5 59 26 (wr ((M5.2.1 59 26) + 1))) else if x2 = 47 then kb X d 219 n 323 [some (rv 59), none] [rv 59] (puI M5 59 26 (wr ((M5.2.1 59 26) + 1))) else if x2 = 60 then kb X d 219 n 323 [some (rv 59), none] [rv 59] (puI M5 59 26 (wr ((M5.2.1 59 26) + 1))) else if x2 = 61 then kb X d 219 n 323 [some (rv 59), none] [rv 59] (puI M5 59 26 (wr ((M5.2.1 59 26) + 1))) else oV (puI (puI (puI M5 59 26 (wr ((M5.2.1 59 26) + 1))) 59 27 4) 59 29 (wr ((wr ((M5.2.1 59 26) + 1)) - (M5.2.1 59 28)))) else kb X d 219 n 187 [some (rv 59), none] [] M5) else kb X d 219 n 108 [some (rv 59), none] [] M3) else oV (puI (puI (puI M1 59 31 x2) 59 27 0) 59 29 (wr ((M1.2.1 59 26) - (M1.2.1 59 28))))) := rfl
set_option maxRecDepth 20000 in
theorem q_219_59_at323 {X : Nat × (Nat → Int32)} {d n : Nat}  (M : rM) : kb X d 219 (n + 1) 323 [some (rv 59), none] [rv 59] M = oV (puI (puI M 59 27 3) 59 29 (wr ((M.2.1 59 26) - (M.2.1 59 28)))) := rfl
set_option maxRecDepth 20000 in
theorem q_219_59_at187 {X : Nat × (Nat → Int32)} {d n : Nat}  (M : rM) : kb X d 219 (n + 1) 187 [some (rv 59), none] [] M = cI (fn X d 216 [rv 59, iv (M.2.1 59 26)] M) (fun x2 M1 => cI (fn X d 218 [iv x2] M1) (fun x4 M3 => if x4 = 0 then oV (puI (puI M3 59 27 2) 59 29 (wr ((M3.2.1 59 26) - (M3.2.1 59 28)))) else if wr ((M3.2.1 59 26) - (M3.2.1 59 28)) < 4 then cI (fn X d 216 [rv 59, iv (M3.2.1 59 26)] M3) (fun x6 M5 => kb X d 219 n 187 [some (rv 59), none] [] (puI (puI M5 59 30 (wr ((wr ((wr (10 * (M3.2.1 59 30))) + x6)) - 48))) 59 26 (wr ((M5.2.1 59 26) + 1)))) else kb X d 219 n 187 [some (rv 59), none] [] (puI M3 59 26 (wr ((M3.2.1 59 26) + 1))))) := rfl
set_option maxRecDepth 20000 in
theorem q_219_59_at108 {X : Nat × (Nat → Int32)} {d n : Nat}  (M : rM) : kb X d 219 (n + 1) 108 [some (rv 59), none] [] M = cI (fn X d 216 [rv 59, iv (M.2.1 59 26)] M) (fun x2 M1 => cI (fn X d 217 [iv x2] M1) (fun x4 M3 => if x4 = 0 then oV (puI (puI M3 59 27 1) 59 29 (wr ((M3.2.1 59 26) - (M3.2.1 59 28)))) else if wr ((M3.2.1 59 26) - (M3.2.1 59 28)) < 8 then cI (fn X d 216 [rv 59, iv (M3.2.1 59 26)] M3) (fun x6 M5 => kb X d 219 n 108 [some (rv 59), none] [] (puI (puJ M5 59 32 ((jshl (M3.2.2 59 32) 5) ||| (i2j (wr (x6 - 96))))) 59 26 (wr ((M5.2.1 59 26) + 1)))) else kb X d 219 n 108 [some (rv 59), none] [] (puI M3 59 26 (wr ((M3.2.1 59 26) + 1))))) := rfl
set_option maxRecDepth 20000 in
theorem q_224_59 {X : Nat × (Nat → Int32)} {d : Nat}  (M : rM) : fn X (d + 1) 224 [rv 59] M = if M.2.1 59 22 = 0 then oI 1 M else oI 0 M := rfl
set_option maxRecDepth 20000 in
theorem q_220 {X : Nat × (Nat → Int32)} {d : Nat} (a0 : Int) (a1 : Int) (a2 : Int) (a3 : Int) (a4 : Int) (a5 : Int) (a6 : Int) (a7 : Int) (M : rM) : fn X (d + 1) 220 [iv a0, iv a1, iv a2, iv a3, iv a4, iv a5, iv a6, iv a7] M = if a2 = 0 then kb X d 220 FU 32 [none, none, none, some (iv a3), some (iv a4), some (iv a5), some (iv a6), some (iv a7), some (jv ((jshl ((i2j a0) - (96 : Int64)) 5) ||| (i2j (wr (a1 - 96))))), none] [] M else kb X d 220 FU 32 [none, none, none, some (iv a3), some (iv a4), some (iv a5), some (iv a6), some (iv a7), some (jv ((jshl ((jshl ((i2j a0) - (96 : Int64)) 5) ||| (i2j (wr (a1 - 96)))) 5) ||| (i2j (wr (a2 - 96))))), none] [] M := rfl
set_option maxRecDepth 20000 in
theorem q_220_at32 {X : Nat × (Nat → Int32)} {d n : Nat} (l3 : Int) (l4 : Int) (l5 : Int) (l6 : Int) (l7 : Int) (l8 : Int64) (M : rM) : kb X d 220 (n + 1) 32 [none, none, none, some (iv l3), some (iv l4), some (iv l5), some (iv l6), some (iv l7), some (jv l8), none] [] M = if l3 = 0 then kb X d 220 n 48 [none, none, none, none, some (iv l4), some (iv l5), some (iv l6), some (iv l7), some (jv l8), none] [] M else kb X d 220 n 48 [none, none, none, none, some (iv l4), some (iv l5), some (iv l6), some (iv l7), some (jv ((jshl l8 5) ||| (i2j (wr (l3 - 96))))), none] [] M := rfl
set_option maxRecDepth 20000 in
theorem q_220_at48 {X : Nat × (Nat → Int32)} {d n : Nat} (l4 : Int) (l5 : Int) (l6 : Int) (l7 : Int) (l8 : Int64) (M : rM) : kb X d 220 (n + 1) 48 [none, none, none, none, some (iv l4), some (iv l5), some (iv l6), some (iv l7), some (jv l8), none] [] M = if l4 = 0 then kb X d 220 n 66 [none, none, none, none, none, some (iv l5), some (iv l6), some (iv l7), some (jv l8), none] [] M else kb X d 220 n 66 [none, none, none, none, none, some (iv l5), some (iv l6), some (iv l7), some (jv ((jshl l8 5) ||| (i2j (wr (l4 - 96))))), none] [] M := rfl
set_option maxRecDepth 20000 in
theorem q_220_at66 {X : Nat × (Nat → Int32)} {d n : Nat} (l5 : Int) (l6 : Int) (l7 : Int) (l8 : Int64) (M : rM) : kb X d 220 (n + 1) 66 [none, none, none, none, none, some (iv l5), some (iv l6), some (iv l7), some (jv l8), none] [] M = if l5 = 0 then kb X d 220 n 84 [none, none, none, none, none, none, some (iv l6), some (iv l7), some (jv l8), none] [] M else kb X d 220 n 84 [none, none, none, none, none, none, some (iv l6), some (iv l7), some (jv ((jshl l8 5) ||| (i2j (wr (l5 - 96))))), none] [] M := rfl
set_option maxRecDepth 20000 in
theorem q_220_at84 {X : Nat × (Nat → Int32)} {d n : Nat} (l6 : Int) (l7 : Int) (l8 : Int64) (M : rM) : kb X d 220 (n + 1) 84 [none, none, none, none, none, none, some (iv l6), some (iv l7), some (jv l8), none] [] M = if l6 = 0 then if l7 = 0 then oJ l8 M else oJ ((jshl l8 5) ||| (i2j (wr (l7 - 96)))) M else if l7 = 0 then oJ ((jshl l8 5) ||| (i2j (wr (l6 - 96)))) M else oJ ((jshl ((jshl l8 5) ||| (i2j (wr (l6 - 96)))) 5) ||| (i2j (wr (l7 - 96)))) M := rfl
