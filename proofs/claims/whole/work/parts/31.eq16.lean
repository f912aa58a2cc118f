/-! block equations -/
set_option maxRecDepth 20000 in
theorem q_321_59 {X : Nat × (Nat → Int32)} {d : Nat}  (M : rM) : fn X (d + 1) 321 [rv 59] M = kb X d 321 FU 28 [some (rv 59), some (iv 0)] [] (puI (puI (puI (puI M 59 0 0) 59 85 1) 59 86 (M.2.1 59 61)) 59 87 (M.2.1 59 76)) := rfl
set_option maxRecDepth 20000 in
theorem q_321_59_at28 {X : Nat × (Nat → Int32)} {d n : Nat} (l1 : Int) (M : rM) : kb X d 321 (n + 1) 28 [some (rv 59), some (iv l1)] [] M = if l1 < 27 then gd (0 ≤ l1 ∧ l1 < 54) (gd (0 ≤ l1 ∧ l1 < 27) (kb X d 321 n 28 [some (rv 59), some (iv (wr (l1 + 1)))] [] (puI M 108 l1.toNat (M.2.1 91 l1.toNat)))) else cV (fn X d 212 [rv 59, rv 92, rv 109] M) (fun M1 => cV (fn X d 212 [rv 59, rv 104, rv 110] M1) (fun M2 => oV M2)) := rfl
set_option maxRecDepth 20000 in
theorem q_212_59_109_92 {X : Nat × (Nat → Int32)} {d : Nat}  (M : rM) : fn X (d + 1) 212 [rv 59, rv 109, rv 92] M = kb X d 212 FU 2 [none, some (rv 109), some (rv 92), some (iv 0)] [] M := rfl
set_option maxRecDepth 20000 in
theorem q_212_59_109_92_at2 {X : Nat × (Nat → Int32)} {d n : Nat} (l3 : Int) (M : rM) : kb X d 212 (n + 1) 2 [none, some (rv 109), some (rv 92), some (iv l3)] [] M = if l3 < 1080 then gd (0 ≤ l3 ∧ l3 < 1080) (gd (0 ≤ l3 ∧ l3 < 1080) (kb X d 212 n 2 [none, some (rv 109), some (rv 92), some (iv (wr (l3 + 1)))] [] (puI M 92 l3.toNat (M.2.1 109 l3.toNat)))) else oV M := rfl
set_option maxRecDepth 20000 in
theorem q_212_59_110_104 {X : Nat × (Nat → Int32)} {d : Nat}  (M : rM) : fn X (d + 1) 212 [rv 59, rv 110, rv 104] M = kb X d 212 FU 2 [none, some (rv 110), some (rv 104), some (iv 0)] [] M := rfl
set_option maxRecDepth 20000 in
theorem q_212_59_110_104_at2 {X : Nat × (Nat → Int32)} {d n : Nat} (l3 : Int) (M : rM) : kb X d 212 (n + 1) 2 [none, some (rv 110), some (rv 104), some (iv l3)] [] M = if l3 < 32 then gd (0 ≤ l3 ∧ l3 < 32) (gd (0 ≤ l3 ∧ l3 < 32) (kb X d 212 n 2 [none, some (rv 110), some (rv 104), some (iv (wr (l3 + 1)))] [] (puI M 104 l3.toNat (M.2.1 110 l3.toNat)))) else oV M := rfl
set_option maxRecDepth 20000 in
theorem q_322_59 {X : Nat × (Nat → Int32)} {d : Nat}  (M : rM) : fn X (d + 1) 322 [rv 59] M = if M.2.1 59 85 = 0 then oI 0 (puI M 59 0 0) else kb X d 322 FU 32 [some (rv 59), some (iv 0)] [] (puI (puI (puI M 59 0 0) 59 61 (M.2.1 59 86)) 59 76 (M.2.1 59 87)) := rfl
set_option maxRecDepth 20000 in
theorem q_322_59_at32 {X : Nat × (Nat → Int32)} {d n : Nat} (l1 : Int) (M : rM) : kb X d 322 (n + 1) 32 [some (rv 59), some (iv l1)] [] M = if l1 < 27 then gd (0 ≤ l1 ∧ l1 < 27) (gd (0 ≤ l1 ∧ l1 < 54) (kb X d 322 n 32 [some (rv 59), some (iv (wr (l1 + 1)))] [] (puI M 91 l1.toNat (M.2.1 108 l1.toNat)))) else cV (fn X d 212 [rv 59, rv 109, rv 92] M) (fun M1 => cV (fn X d 212 [rv 59, rv 110, rv 104] M1) (fun M2 => oI 1 M2)) := rfl
