/-! the templates of the two worlds; the shadows: what each method answers and leaves, as a function of the matrix (laid by program) -/
def tmC : List cellT := [.inr (.inl (3, [some 1, some 13, some 63])), .inr (.inl (2, [none, some 2, some 3, some 4, some 5, some 6, some 7, some 8, some 9, some 10, some 11, some 12, none])), .inl 6, .inl 6, .inl 6, .inl 6, .inl 6, .inl 6, .inl 6, .inl 6, .inl 6, .inl 6, .inl 36, .inr (.inl (1, [some 14, none, none])), .inr (.inr [15, 27, 39, 51]), .inr (.inl (2, [none, some 16, some 17, some 18, some 19, some 20, some 21, some 22, some 23, some 24, some 25, some 26, none])), .inl 6, .inl 6, .inl 6, .inl 6, .inl 6, .inl 6, .inl 6, .inl 6, .inl 6, .inl 6, .inl 36, .inr (.inl (2, [none, some 28, some 29, some 30, some 31, some 32, some 33, some 34, some 35, some 36, some 37, some 38, none])), .inl 6, .inl 6, .inl 6, .inl 6, .inl 6, .inl 6, .inl 6, .inl 6, .inl 6, .inl 6, .inl 36, .inr (.inl (2, [none, some 40, some 41, some 42, some 43, some 44, some 45, some 46, some 47, some 48, some 49, some 50, none])), .inl 6, .inl 6, .inl 6, .inl 6, .inl 6, .inl 6, .inl 6, .inl 6, .inl 6, .inl 6, .inl 36, .inr (.inl (2, [none, some 52, some 53, some 54, some 55, some 56, some 57, some 58, some 59, some 60, some 61, some 62, none])), .inl 6, .inl 6, .inl 6, .inl 6, .inl 6, .inl 6, .inl 6, .inl 6, .inl 6, .inl 6, .inl 36, .inr (.inl (0, [some 64, none, some 65, some 66, none])), .inl 90, .inl 45, .inl 45]
def tmS (b : Nat) : List cellT := [.inr (.inl (2, [none, some (b + 1), some (b + 2), some (b + 3), some (b + 4), some (b + 5), some (b + 6), some (b + 7), some (b + 8), some (b + 9), some (b + 10), some (b + 11), none])), .inl 6, .inl 6, .inl 6, .inl 6, .inl 6, .inl 6, .inl 6, .inl 6, .inl 6, .inl 6, .inl 36]
def rgL : List Nat := [15, 27, 39, 51]
theorem st_ok1 : ∀ o, o < 12 → tmC[1 + o]? = (tmS 1)[o]? := by
  intro o ho
  have h9 : o = 0 ∨ o = 1 ∨ o = 2 ∨ o = 3 ∨ o = 4 ∨ o = 5 ∨ o = 6 ∨ o = 7 ∨ o = 8 ∨ o = 9 ∨ o = 10 ∨ o = 11 := by omega
  rcases h9 with rfl | rfl | rfl | rfl | rfl | rfl | rfl | rfl | rfl | rfl | rfl | rfl <;> rfl
theorem st_ok15 : ∀ o, o < 12 → tmC[15 + o]? = (tmS 15)[o]? := by
  intro o ho
  have h9 : o = 0 ∨ o = 1 ∨ o = 2 ∨ o = 3 ∨ o = 4 ∨ o = 5 ∨ o = 6 ∨ o = 7 ∨ o = 8 ∨ o = 9 ∨ o = 10 ∨ o = 11 := by omega
  rcases h9 with rfl | rfl | rfl | rfl | rfl | rfl | rfl | rfl | rfl | rfl | rfl | rfl <;> rfl
theorem st_ok27 : ∀ o, o < 12 → tmC[27 + o]? = (tmS 27)[o]? := by
  intro o ho
  have h9 : o = 0 ∨ o = 1 ∨ o = 2 ∨ o = 3 ∨ o = 4 ∨ o = 5 ∨ o = 6 ∨ o = 7 ∨ o = 8 ∨ o = 9 ∨ o = 10 ∨ o = 11 := by omega
  rcases h9 with rfl | rfl | rfl | rfl | rfl | rfl | rfl | rfl | rfl | rfl | rfl | rfl <;> rfl
theorem st_ok39 : ∀ o, o < 12 → tmC[39 + o]? = (tmS 39)[o]? := by
  intro o ho
  have h9 : o = 0 ∨ o = 1 ∨ o = 2 ∨ o = 3 ∨ o = 4 ∨ o = 5 ∨ o = 6 ∨ o = 7 ∨ o = 8 ∨ o = 9 ∨ o = 10 ∨ o = 11 := by omega
  rcases h9 with rfl | rfl | rfl | rfl | rfl | rfl | rfl | rfl | rfl | rfl | rfl | rfl <;> rfl
theorem st_ok51 : ∀ o, o < 12 → tmC[51 + o]? = (tmS 51)[o]? := by
  intro o ho
  have h9 : o = 0 ∨ o = 1 ∨ o = 2 ∨ o = 3 ∨ o = 4 ∨ o = 5 ∨ o = 6 ∨ o = 7 ∨ o = 8 ∨ o = 9 ∨ o = 10 ∨ o = 11 := by omega
  rcases h9 with rfl | rfl | rfl | rfl | rfl | rfl | rfl | rfl | rfl | rfl | rfl | rfl <;> rfl
theorem rg_ok0 : ∀ i, i < 4 → ∀ o, o < 12 → tmC[rgL.getD i 0 + o]? = (tmS (rgL.getD i 0))[o]? := by
  intro i hi
  have h9 : i = 0 ∨ i = 1 ∨ i = 2 ∨ i = 3 := by omega
  rcases h9 with rfl | rfl | rfl | rfl
  · exact st_ok15
  · exact st_ok27
  · exact st_ok39
  · exact st_ok51
theorem rg_ok {x : Int32} (h : inb x 4 = true) : ∀ o, o < 12 → tmC[rgL.getD x.toNatClampNeg 0 + o]? = (tmS (rgL.getD x.toNatClampNeg 0))[o]? := rg_ok0 _ (by simp only [inb, Bool.and_eq_true, decide_eq_true_eq] at h; exact h.2)
def sX2_copyFrom (K : Nat) (G : Nat → Nat → Int32) (p0 : Nat) (p1 : Nat) : Option (Nat → Nat → Int32) := olet (up2 G p0 0 (G p1 0)) fun G7 => olet (upR G7 (p0 + 1) (va_cpy (G7 (p1 + 1)) (G7 (p0 + 1)) 0 0 (6 : Int32).toNatClampNeg)) fun G22 => olet (upR G22 (p0 + 2) (va_cpy (G22 (p1 + 2)) (G22 (p0 + 2)) 0 0 (6 : Int32).toNatClampNeg)) fun G37 => olet (upR G37 (p0 + 3) (va_cpy (G37 (p1 + 3)) (G37 (p0 + 3)) 0 0 (6 : Int32).toNatClampNeg)) fun G52 => olet (upR G52 (p0 + 4) (va_cpy (G52 (p1 + 4)) (G52 (p0 + 4)) 0 0 (6 : Int32).toNatClampNeg)) fun G67 => olet (upR G67 (p0 + 5) (va_cpy (G67 (p1 + 5)) (G67 (p0 + 5)) 0 0 (6 : Int32).toNatClampNeg)) fun G82 => olet (upR G82 (p0 + 6) (va_cpy (G82 (p1 + 6)) (G82 (p0 + 6)) 0 0 (6 : Int32).toNatClampNeg)) fun G97 => olet (upR G97 (p0 + 7) (va_cpy (G97 (p1 + 7)) (G97 (p0 + 7)) 0 0 (6 : Int32).toNatClampNeg)) fun G112 => olet (upR G112 (p0 + 8) (va_cpy (G112 (p1 + 8)) (G112 (p0 + 8)) 0 0 (6 : Int32).toNatClampNeg)) fun G127 => olet (upR G127 (p0 + 9) (va_cpy (G127 (p1 + 9)) (G127 (p0 + 9)) 0 0 (6 : Int32).toNatClampNeg)) fun G142 => olet (upR G142 (p0 + 10) (va_cpy (G142 (p1 + 10)) (G142 (p0 + 10)) 0 0 (6 : Int32).toNatClampNeg)) fun G157 => olet (upR G157 (p0 + 11) (va_cpy (G157 (p1 + 11)) (G157 (p0 + 11)) 0 0 (36 : Int32).toNatClampNeg)) fun G172 => olet (up2 G172 p0 12 (G172 p1 12)) fun G180 => some G180
def sX1_save (K : Nat) (G : Nat → Nat → Int32) : Option (Nat → Nat → Int32) := grd (inb (G 13 1) 4) ((sX2_copyFrom K G (rgL.getD (G 13 1).toNatClampNeg 0) 1).bind fun r10 => olet (up2 r10 13 1 (((r10 13 1) + (1 : Int32)) - ((r10 13 1) + (1 : Int32)) / (4 : Int32) * (4 : Int32))) fun G24 => olet (up2 G24 13 2 (if ((G24 13 2) + (1 : Int32)) < (4 : Int32) then ((G24 13 2) + (1 : Int32)) else (4 : Int32))) fun G38 => some G38)
def sX1_restore (K : Nat) (G : Nat → Nat → Int32) : Option (Int32 × (Nat → Nat → Int32)) := olet (up2 G 13 1 ((((G 13 1) + (4 : Int32)) - (1 : Int32)) - (((G 13 1) + (4 : Int32)) - (1 : Int32)) / (4 : Int32) * (4 : Int32))) fun G13 => olet (up2 G13 13 2 ((G13 13 2) - (1 : Int32))) fun G23 => grd (inb (G23 13 1) 4) ((sX2_copyFrom K G23 1 (rgL.getD (G23 13 1).toNatClampNeg 0)).bind fun r34 => some ((r34 13 2), r34))
def sX2_putKind (K : Nat) (G : Nat → Nat → Int32) (p1 : Int32) (p2 : Int32) (p3 : Int32) : Option (Int32 × (Nat → Nat → Int32)) := grd (inb (G 1 0) 6) (olet (up2 G 2 (G 1 0).toNatClampNeg p1) fun G15 => grd (inb (G 1 0) 6) (olet (up2 G15 3 (G 1 0).toNatClampNeg p2) fun G23 => grd (inb (G 1 0) 6) (olet (up2 G23 4 (G 1 0).toNatClampNeg p3) fun G31 => olet (up2 G31 1 0 ((G31 1 0) + (1 : Int32))) fun G39 => some ((G 1 0), G39))))
def sX2_isStuck (K : Nat) (G : Nat → Nat → Int32) (p1 : Int32) : Option Int32 := grd (inb p1 6) ((if (G 9 p1.toNatClampNeg) = (-1 : Int32) then some (0 : Int32) else some (1 : Int32)))
def sX2_coinsIn_L4 (K : Nat) (G : Nat → Nat → Int32) (p1 : Int32) : Nat → Int32 → Int32 → Option Int32
  | 0, _, _ => none
  | n + 1, x2, x3 => (if (6 : Int32) ≤ x3 then some x2 else grd (inb ((p1 * (6 : Int32)) + x3) 36) (sX2_coinsIn_L4 K G p1 n (x2 + (G 12 ((p1 * (6 : Int32)) + x3).toNatClampNeg)) (x3 + 1)))
def sX2_coinsIn (K : Nat) (G : Nat → Nat → Int32) (p1 : Int32) : Option Int32 := sX2_coinsIn_L4 K G p1 K (0 : Int32) (0 : Int32)
def sX2_isFull (K : Nat) (G : Nat → Nat → Int32) (p1 : Int32) : Option Int32 := (sX2_coinsIn K G p1).bind fun r2 => (if r2 < (40 : Int32) then some (0 : Int32) else some (1 : Int32))
def sX2_wearAt (K : Nat) (G : Nat → Nat → Int32) (p1 : Int32) (p2 : Int32) : Option Int32 := some (if (p2 + p1) < (999 : Int32) then (p2 + p1) else (999 : Int32))
def sX2_size (K : Nat) (G : Nat → Nat → Int32) (p1 : Int32) (p2 : Int32) : Option Int32 := grd (inb p1 6) (some (if (1 : Int32) < ((G 2 p1.toNatClampNeg) - p2) then ((G 2 p1.toNatClampNeg) - p2) else (1 : Int32)))
def sX2_placeFor_L2 (K : Nat) (G : Nat → Nat → Int32) (p1 : Int32) (p2 : Int32) : Nat → Int32 → Option Int32
  | 0, _ => none
  | n + 1, x3 => (if (6 : Int32) ≤ x3 then some (-1 : Int32) else grd (inb x3 6) ((sX2_wearAt K G x3 p2).bind fun r19 => (sX2_size K G p1 r19).bind fun r22 => (if ((G 7 x3.toNatClampNeg) - r22) ≤ 0 then (if (1 : Int32) = 0 then (if (5 : Int32) ≤ ((G 7 x3.toNatClampNeg) - r22) then some x3 else some ((10 : Int32) + x3)) else sX2_placeFor_L2 K G p1 p2 n (x3 + 1)) else (sX2_isStuck K G x3).bind fun r35 => (if r35 = 0 then (sX2_isFull K G x3).bind fun r43 => (if r43 = 0 then (if (0 : Int32) = 0 then (if (5 : Int32) ≤ ((G 7 x3.toNatClampNeg) - r22) then some x3 else some ((10 : Int32) + x3)) else sX2_placeFor_L2 K G p1 p2 n (x3 + 1)) else (if (1 : Int32) = 0 then (if (5 : Int32) ≤ ((G 7 x3.toNatClampNeg) - r22) then some x3 else some ((10 : Int32) + x3)) else sX2_placeFor_L2 K G p1 p2 n (x3 + 1))) else (if (1 : Int32) = 0 then (if (5 : Int32) ≤ ((G 7 x3.toNatClampNeg) - r22) then some x3 else some ((10 : Int32) + x3)) else sX2_placeFor_L2 K G p1 p2 n (x3 + 1))))))
def sX2_placeFor (K : Nat) (G : Nat → Nat → Int32) (p1 : Int32) (p2 : Int32) : Option Int32 := sX2_placeFor_L2 K G p1 p2 K (0 : Int32)
def sX2_rollOver_L2 (K : Nat) (p1 : Int32) : Nat → (Nat → Nat → Int32) → Int32 → Option (Nat → Nat → Int32)
  | 0, _, _ => none
  | n + 1, G1, x2 => (if p1 ≤ x2 then some G1 else grd (inb x2 6) (grd (inb x2 6) (olet (up2 G1 11 x2.toNatClampNeg ((G1 11 x2.toNatClampNeg) + (1 : Int32))) fun G18 => sX2_rollOver_L2 K p1 n G18 (x2 + 1))))
def sX2_rollOver (K : Nat) (G : Nat → Nat → Int32) (p1 : Int32) : Option (Nat → Nat → Int32) := sX2_rollOver_L2 K p1 K G (0 : Int32)
def sX2_useRail (K : Nat) (G : Nat → Nat → Int32) (p1 : Int32) : Option (Nat → Nat → Int32) := grd (inb p1 6) (grd (inb p1 6) (olet (up2 G 8 p1.toNatClampNeg ((G 8 p1.toNatClampNeg) + (1 : Int32))) fun G11 => grd (inb p1 6) ((if (G11 8 p1.toNatClampNeg) < (20 : Int32) then some G11 else grd (inb p1 6) (olet (up2 G11 8 p1.toNatClampNeg (0 : Int32)) fun G29 => grd (inb p1 6) (grd (inb p1 6) (olet (up2 G29 7 p1.toNatClampNeg (if ((G29 7 p1.toNatClampNeg) + (1 : Int32)) < (4100 : Int32) then ((G29 7 p1.toNatClampNeg) + (1 : Int32)) else (4100 : Int32))) fun G49 => some G49)))))))
def sX2_putCoin (K : Nat) (G : Nat → Nat → Int32) (p1 : Int32) (p2 : Int32) : Option (Int32 × (Nat → Nat → Int32)) := (sX2_placeFor K G p1 p2).bind fun r3 => grd (inb p1 6) (grd (inb p1 6) (olet (up2 G 5 p1.toNatClampNeg ((G 5 p1.toNatClampNeg) + (1 : Int32))) fun G18 => (if r3 = (-1 : Int32) then (sX2_rollOver K G18 (6 : Int32)).bind fun r25 => grd (inb p1 6) (grd (inb p1 6) (olet (up2 r25 6 p1.toNatClampNeg ((r25 6 p1.toNatClampNeg) + (1 : Int32))) fun G39 => some (r3, G39))) else (if r3 < (10 : Int32) then (sX2_rollOver K G18 r3).bind fun r86 => grd (inb ((r3 * (6 : Int32)) + p1) 36) (grd (inb ((r3 * (6 : Int32)) + p1) 36) (olet (up2 r86 12 ((r3 * (6 : Int32)) + p1).toNatClampNeg ((r86 12 ((r3 * (6 : Int32)) + p1).toNatClampNeg) + (1 : Int32))) fun G105 => (sX2_useRail K G105 r3).bind fun r106 => some (r3, r106))) else (sX2_rollOver K G18 (r3 - (10 : Int32))).bind fun r56 => grd (inb (r3 - (10 : Int32)) 6) (olet (up2 r56 9 (r3 - (10 : Int32)).toNatClampNeg p1) fun G68 => (sX2_wearAt K G68 (r3 - (10 : Int32)) p2).bind fun r77 => grd (inb (r3 - (10 : Int32)) 6) (olet (up2 G68 10 (r3 - (10 : Int32)).toNatClampNeg r77) fun G82 => some (r3, G82)))))))
def sX2_putCoinsByChance_L9 (K : Nat) (p1 : Int32) (p2 : Int32) : Nat → (Nat → Nat → Int32) → Int64 → Int32 → Int32 → Option (Int32 × (Nat → Nat → Int32))
  | 0, _, _, _, _ => none
  | n + 1, G1, x3, x5, x6 => (if p1 ≤ x6 then some (x5, G1) else grd (decide (¬ (G1 1 0).toInt64 = 0)) ((sX2_putCoin K G1 (((((((1103515245 : Int64) * x3) + (12345 : Int64)) - (((1103515245 : Int64) * x3) + (12345 : Int64)) / (2147483648 : Int64) * (2147483648 : Int64)) / (65536 : Int64)) - (((((1103515245 : Int64) * x3) + (12345 : Int64)) - (((1103515245 : Int64) * x3) + (12345 : Int64)) / (2147483648 : Int64) * (2147483648 : Int64)) / (65536 : Int64)) / (G1 1 0).toInt64 * (G1 1 0).toInt64).toInt32) (((((((1103515245 : Int64) * x3) + (12345 : Int64)) - (((1103515245 : Int64) * x3) + (12345 : Int64)) / (2147483648 : Int64) * (2147483648 : Int64)) / (1048576 : Int64)) - (((((1103515245 : Int64) * x3) + (12345 : Int64)) - (((1103515245 : Int64) * x3) + (12345 : Int64)) / (2147483648 : Int64) * (2147483648 : Int64)) / (1048576 : Int64)) / (40 : Int64) * (40 : Int64)).toInt32)).bind fun r60 => (if r60.1 = (-1 : Int32) then sX2_putCoinsByChance_L9 K p1 p2 n r60.2 ((((1103515245 : Int64) * x3) + (12345 : Int64)) - (((1103515245 : Int64) * x3) + (12345 : Int64)) / (2147483648 : Int64) * (2147483648 : Int64)) (x5 + 1) (x6 + 1) else sX2_putCoinsByChance_L9 K p1 p2 n r60.2 ((((1103515245 : Int64) * x3) + (12345 : Int64)) - (((1103515245 : Int64) * x3) + (12345 : Int64)) / (2147483648 : Int64) * (2147483648 : Int64)) x5 (x6 + 1))))
def sX2_putCoinsByChance (K : Nat) (G : Nat → Nat → Int32) (p1 : Int32) (p2 : Int32) : Option (Int32 × (Nat → Nat → Int32)) := sX2_putCoinsByChance_L9 K p1 p2 K G p2.toInt64 (0 : Int32) (0 : Int32)
def sX2_loosen (K : Nat) (G : Nat → Nat → Int32) (p1 : Int32) : Option (Int32 × (Nat → Nat → Int32)) := grd (inb p1 6) ((sX2_isFull K G p1).bind fun r9 => (if r9 = 0 then grd (inb ((p1 * (6 : Int32)) + (G 9 p1.toNatClampNeg)) 36) (grd (inb ((p1 * (6 : Int32)) + (G 9 p1.toNatClampNeg)) 36) (olet (up2 G 12 ((p1 * (6 : Int32)) + (G 9 p1.toNatClampNeg)).toNatClampNeg ((G 12 ((p1 * (6 : Int32)) + (G 9 p1.toNatClampNeg)).toNatClampNeg) + (1 : Int32))) fun G44 => grd (inb p1 6) (olet (up2 G44 9 p1.toNatClampNeg (-1 : Int32)) fun G51 => grd (inb p1 6) (olet (up2 G51 10 p1.toNatClampNeg (-1 : Int32)) fun G58 => some ((G 9 p1.toNatClampNeg), G58))))) else grd (inb (G 9 p1.toNatClampNeg) 6) (grd (inb (G 9 p1.toNatClampNeg) 6) (olet (up2 G 6 (G 9 p1.toNatClampNeg).toNatClampNeg ((G 6 (G 9 p1.toNatClampNeg).toNatClampNeg) + (1 : Int32))) fun G26 => grd (inb p1 6) (olet (up2 G26 9 p1.toNatClampNeg (-1 : Int32)) fun G51 => grd (inb p1 6) (olet (up2 G51 10 p1.toNatClampNeg (-1 : Int32)) fun G58 => some ((G 9 p1.toNatClampNeg), G58)))))))
def sX2_emptyBag_L8 (K : Nat) (p1 : Int32) : Nat → (Nat → Nat → Int32) → Int32 → Int32 → Option (Int32 × (Nat → Nat → Int32))
  | 0, _, _, _ => none
  | n + 1, G1, x2, x3 => (if (6 : Int32) ≤ x3 then olet (up2 G1 1 12 ((G1 1 12) + x2)) fun G41 => some (x2, G41) else grd (inb ((p1 * (6 : Int32)) + x3) 36) (olet (up2 G1 12 ((p1 * (6 : Int32)) + x3).toNatClampNeg (0 : Int32)) fun G27 => sX2_emptyBag_L8 K p1 n G27 x2 (x3 + 1)))
def sX2_emptyBag (K : Nat) (G : Nat → Nat → Int32) (p1 : Int32) : Option (Int32 × (Nat → Nat → Int32)) := (sX2_coinsIn K G p1).bind fun r2 => sX2_emptyBag_L8 K p1 K G r2 (0 : Int32)
def sX2_sum_L10 (K : Nat) (G : Nat → Nat → Int32) (p1 : Nat) (n1 : Nat) : Nat → Int32 → Int32 → Int32 → Option Int32
  | 0, _, _, _ => none
  | n + 1, x1, x3, x4 => (if x3 ≤ x4 then some x1 else grd (inb x4 n1) (sX2_sum_L10 K G p1 n1 n (x1 + (G p1 x4.toNatClampNeg)) x3 (x4 + 1)))
def sX2_sum (K : Nat) (G : Nat → Nat → Int32) (p1 : Nat) (n1 : Nat) : Option Int32 := sX2_sum_L10 K G p1 n1 K (0 : Int32) (Int32.ofNat n1) (0 : Int32)
def sX2_removeRejects_L10 (K : Nat) : Nat → (Nat → Nat → Int32) → Int32 → Int32 → Option (Int32 × (Nat → Nat → Int32))
  | 0, _, _, _ => none
  | n + 1, G1, x1, x2 => (if (6 : Int32) ≤ x2 then olet (up2 G1 1 12 ((G1 1 12) + x1)) fun G38 => some (x1, G38) else grd (inb x2 6) (olet (up2 G1 6 x2.toNatClampNeg (0 : Int32)) fun G24 => sX2_removeRejects_L10 K n G24 x1 (x2 + 1)))
def sX2_removeRejects (K : Nat) (G : Nat → Nat → Int32) : Option (Int32 × (Nat → Nat → Int32)) := (sX2_sum K G 6 6).bind fun r4 => sX2_removeRejects_L10 K K G r4 (0 : Int32)
def sX2_coinsOfKind (K : Nat) (G : Nat → Nat → Int32) (p1 : Int32) (p2 : Int32) : Option Int32 := grd (inb ((p1 * (6 : Int32)) + p2) 36) (some (G 12 ((p1 * (6 : Int32)) + p2).toNatClampNeg))
def sX2_coinsOfKindInBags_L4 (K : Nat) (G : Nat → Nat → Int32) (p1 : Int32) : Nat → Int32 → Int32 → Option Int32
  | 0, _, _ => none
  | n + 1, x2, x3 => (if (6 : Int32) ≤ x3 then some x2 else (sX2_coinsOfKind K G x3 p1).bind fun r14 => sX2_coinsOfKindInBags_L4 K G p1 n (x2 + r14) (x3 + 1))
def sX2_coinsOfKindInBags (K : Nat) (G : Nat → Nat → Int32) (p1 : Int32) : Option Int32 := sX2_coinsOfKindInBags_L4 K G p1 K (0 : Int32) (0 : Int32)
def sX2_stuckOfKind_L4 (K : Nat) (G : Nat → Nat → Int32) (p1 : Int32) : Nat → Int32 → Int32 → Option Int32
  | 0, _, _ => none
  | n + 1, x2, x3 => (if (6 : Int32) ≤ x3 then some x2 else grd (inb x3 6) ((if (G 9 x3.toNatClampNeg) = p1 then sX2_stuckOfKind_L4 K G p1 n (x2 + 1) (x3 + 1) else sX2_stuckOfKind_L4 K G p1 n x2 (x3 + 1))))
def sX2_stuckOfKind (K : Nat) (G : Nat → Nat → Int32) (p1 : Int32) : Option Int32 := sX2_stuckOfKind_L4 K G p1 K (0 : Int32) (0 : Int32)
def sX2_aboutKind (K : Nat) (G : Nat → Nat → Int32) (p1 : Int32) (p2 : Int32) : Option Int32 := (if p2 = (0 : Int32) then grd (inb p1 6) (some (G 2 p1.toNatClampNeg)) else if p2 = (1 : Int32) then grd (inb p1 6) (some (G 3 p1.toNatClampNeg)) else if p2 = (2 : Int32) then grd (inb p1 6) (some (G 4 p1.toNatClampNeg)) else if p2 = (3 : Int32) then (sX2_coinsOfKindInBags K G p1).bind fun r63 => some r63 else if p2 = (4 : Int32) then (sX2_stuckOfKind K G p1).bind fun r69 => some r69 else if p2 = (5 : Int32) then grd (inb p1 6) (some (G 6 p1.toNatClampNeg)) else grd (inb p1 6) (some (G 5 p1.toNatClampNeg)))
def sX2_kindOfRail_L2 (K : Nat) (G : Nat → Nat → Int32) (p1 : Int32) : Nat → Int32 → Option Int32
  | 0, _ => none
  | n + 1, x2 => (if (G 1 0) ≤ x2 then some (-1 : Int32) else grd (inb x2 6) ((if (G 4 x2.toNatClampNeg) = p1 then some x2 else sX2_kindOfRail_L2 K G p1 n (x2 + 1))))
def sX2_kindOfRail (K : Nat) (G : Nat → Nat → Int32) (p1 : Int32) : Option Int32 := sX2_kindOfRail_L2 K G p1 K (0 : Int32)
def sX2_supposedWorth (K : Nat) (G : Nat → Nat → Int32) (p1 : Int32) : Option Int32 := (sX2_kindOfRail K G p1).bind fun r2 => (if r2 = (-1 : Int32) then some (0 : Int32) else (sX2_coinsIn K G p1).bind fun r17 => grd (inb r2 6) (some (r17 * (G 3 r2.toNatClampNeg))))
def sX2_trueWorth_L4 (K : Nat) (G : Nat → Nat → Int32) (p1 : Int32) : Nat → Int32 → Int32 → Option Int32
  | 0, _, _ => none
  | n + 1, x2, x3 => (if (G 1 0) ≤ x3 then some x2 else (sX2_coinsOfKind K G p1 x3).bind fun r16 => grd (inb x3 6) (sX2_trueWorth_L4 K G p1 n (x2 + (r16 * (G 3 x3.toNatClampNeg))) (x3 + 1)))
def sX2_trueWorth (K : Nat) (G : Nat → Nat → Int32) (p1 : Int32) : Option Int32 := sX2_trueWorth_L4 K G p1 K (0 : Int32) (0 : Int32)
def sX2_misfitsIn_L4 (K : Nat) (G : Nat → Nat → Int32) (p1 : Int32) : Nat → Int32 → Int32 → Option Int32
  | 0, _, _ => none
  | n + 1, x2, x3 => (if (G 1 0) ≤ x3 then some x2 else grd (inb x3 6) ((if (G 4 x3.toNatClampNeg) = p1 then sX2_misfitsIn_L4 K G p1 n x2 (x3 + 1) else (sX2_coinsOfKind K G p1 x3).bind fun r26 => sX2_misfitsIn_L4 K G p1 n (x2 + r26) (x3 + 1))))
def sX2_misfitsIn (K : Nat) (G : Nat → Nat → Int32) (p1 : Int32) : Option Int32 := sX2_misfitsIn_L4 K G p1 K (0 : Int32) (0 : Int32)
def sX2_aboutRail (K : Nat) (G : Nat → Nat → Int32) (p1 : Int32) (p2 : Int32) : Option Int32 := (if p2 = (0 : Int32) then grd (inb p1 6) (some (G 7 p1.toNatClampNeg)) else if p2 = (1 : Int32) then grd (inb p1 6) (some (G 8 p1.toNatClampNeg)) else if p2 = (2 : Int32) then (sX2_coinsIn K G p1).bind fun r68 => some r68 else if p2 = (3 : Int32) then grd (inb p1 6) (some (G 9 p1.toNatClampNeg)) else if p2 = (4 : Int32) then grd (inb p1 6) (some (G 10 p1.toNatClampNeg)) else if p2 = (5 : Int32) then (sX2_supposedWorth K G p1).bind fun r88 => some r88 else if p2 = (6 : Int32) then (sX2_trueWorth K G p1).bind fun r94 => some r94 else if p2 = (7 : Int32) then (sX2_misfitsIn K G p1).bind fun r100 => some r100 else if p2 = (8 : Int32) then (sX2_kindOfRail K G p1).bind fun r106 => some r106 else grd (inb p1 6) (some (G 11 p1.toNatClampNeg)))
def sX2_coinsInBags (K : Nat) (G : Nat → Nat → Int32) : Option Int32 := (sX2_sum K G 12 36).bind fun r4 => some r4
def sX2_stuckRails_L4 (K : Nat) (G : Nat → Nat → Int32) : Nat → Int32 → Int32 → Option Int32
  | 0, _, _ => none
  | n + 1, x1, x2 => (if (6 : Int32) ≤ x2 then some x1 else (sX2_isStuck K G x2).bind fun r12 => (if r12 = 0 then sX2_stuckRails_L4 K G n x1 (x2 + 1) else sX2_stuckRails_L4 K G n (x1 + 1) (x2 + 1)))
def sX2_stuckRails (K : Nat) (G : Nat → Nat → Int32) : Option Int32 := sX2_stuckRails_L4 K G K (0 : Int32) (0 : Int32)
def sX2_misfits_L4 (K : Nat) (G : Nat → Nat → Int32) : Nat → Int32 → Int32 → Option Int32
  | 0, _, _ => none
  | n + 1, x1, x2 => (if (6 : Int32) ≤ x2 then some x1 else (sX2_misfitsIn K G x2).bind fun r13 => sX2_misfits_L4 K G n (x1 + r13) (x2 + 1))
def sX2_misfits (K : Nat) (G : Nat → Nat → Int32) : Option Int32 := sX2_misfits_L4 K G K (0 : Int32) (0 : Int32)
def sX2_supposedWorthOfAll_L4 (K : Nat) (G : Nat → Nat → Int32) : Nat → Int32 → Int32 → Option Int32
  | 0, _, _ => none
  | n + 1, x1, x2 => (if (6 : Int32) ≤ x2 then some x1 else (sX2_supposedWorth K G x2).bind fun r13 => sX2_supposedWorthOfAll_L4 K G n (x1 + r13) (x2 + 1))
def sX2_supposedWorthOfAll (K : Nat) (G : Nat → Nat → Int32) : Option Int32 := sX2_supposedWorthOfAll_L4 K G K (0 : Int32) (0 : Int32)
def sX2_trueWorthOfAll_L4 (K : Nat) (G : Nat → Nat → Int32) : Nat → Int32 → Int32 → Option Int32
  | 0, _, _ => none
  | n + 1, x1, x2 => (if (6 : Int32) ≤ x2 then some x1 else (sX2_trueWorth K G x2).bind fun r13 => sX2_trueWorthOfAll_L4 K G n (x1 + r13) (x2 + 1))
def sX2_trueWorthOfAll (K : Nat) (G : Nat → Nat → Int32) : Option Int32 := sX2_trueWorthOfAll_L4 K G K (0 : Int32) (0 : Int32)
def sX2_fullBags_L4 (K : Nat) (G : Nat → Nat → Int32) : Nat → Int32 → Int32 → Option Int32
  | 0, _, _ => none
  | n + 1, x1, x2 => (if (6 : Int32) ≤ x2 then some x1 else (sX2_isFull K G x2).bind fun r12 => (if r12 = 0 then sX2_fullBags_L4 K G n x1 (x2 + 1) else sX2_fullBags_L4 K G n (x1 + 1) (x2 + 1)))
def sX2_fullBags (K : Nat) (G : Nat → Nat → Int32) : Option Int32 := sX2_fullBags_L4 K G K (0 : Int32) (0 : Int32)
def sX2_aboutAll (K : Nat) (G : Nat → Nat → Int32) (p1 : Int32) : Option Int32 := (if p1 = (0 : Int32) then some (G 1 0) else if p1 = (1 : Int32) then (sX2_sum K G 5 6).bind fun r61 => some r61 else if p1 = (2 : Int32) then (sX2_coinsInBags K G).bind fun r66 => some r66 else if p1 = (3 : Int32) then (sX2_stuckRails K G).bind fun r71 => some r71 else if p1 = (4 : Int32) then (sX2_sum K G 6 6).bind fun r79 => some r79 else if p1 = (5 : Int32) then some (G 1 12) else if p1 = (6 : Int32) then (sX2_misfits K G).bind fun r89 => some r89 else if p1 = (7 : Int32) then (sX2_supposedWorthOfAll K G).bind fun r94 => some r94 else if p1 = (8 : Int32) then (sX2_trueWorthOfAll K G).bind fun r99 => some r99 else (sX2_fullBags K G).bind fun r104 => some r104)
def sX2_fallsHome (K : Nat) (G : Nat → Nat → Int32) (p1 : Int32) (p2 : Int32) : Option Int32 := (sX2_placeFor K G p1 p2).bind fun r3 => grd (inb p1 6) ((if r3 = (G 4 p1.toNatClampNeg) then some (1 : Int32) else some (0 : Int32)))
def sX2_mostFittingWear_L17 (K : Nat) (G : Nat → Nat → Int32) (p1 : Int32) : Nat → Int32 → Int32 → Option Int32
  | 0, _, _ => none
  | n + 1, x2, x3 => (if x3 ≤ 0 then some x2 else (if (999 : Int32) < (x2 + x3) then sX2_mostFittingWear_L17 K G p1 n x2 (x3 / (2 : Int32)) else (sX2_fallsHome K G p1 (x2 + x3)).bind fun r35 => (if r35 = 0 then sX2_mostFittingWear_L17 K G p1 n x2 (x3 / (2 : Int32)) else sX2_mostFittingWear_L17 K G p1 n (x2 + x3) (x3 / (2 : Int32)))))
def sX2_mostFittingWear (K : Nat) (G : Nat → Nat → Int32) (p1 : Int32) : Option Int32 := (sX2_fallsHome K G p1 (0 : Int32)).bind fun r3 => (if r3 = 0 then some (-1 : Int32) else sX2_mostFittingWear_L17 K G p1 K (0 : Int32) (512 : Int32))
def sX2_leastSortingGap_L9 (K : Nat) (G : Nat → Nat → Int32) (p1 : Int32) : Nat → Int32 → Int32 → Int32 → Option Int32
  | 0, _, _, _ => none
  | n + 1, x2, x3, x4 => (if (G 1 0) ≤ x4 then (if x3 < x2 then some (-1 : Int32) else some x2) else grd (inb x4 6) ((if (G 4 x4.toNatClampNeg) = p1 then grd (inb x4 6) (sX2_leastSortingGap_L9 K G p1 n (if x2 < ((G 2 x4.toNatClampNeg) + (5 : Int32)) then ((G 2 x4.toNatClampNeg) + (5 : Int32)) else x2) x3 (x4 + 1)) else grd (inb x4 6) ((if (G 4 x4.toNatClampNeg) ≤ p1 then sX2_leastSortingGap_L9 K G p1 n x2 x3 (x4 + 1) else grd (inb x4 6) (sX2_leastSortingGap_L9 K G p1 n x2 (if (G 2 x4.toNatClampNeg) < x3 then (G 2 x4.toNatClampNeg) else x3) (x4 + 1)))))))
def sX2_leastSortingGap (K : Nat) (G : Nat → Nat → Int32) (p1 : Int32) : Option Int32 := sX2_leastSortingGap_L9 K G p1 K (-1 : Int32) (4100 : Int32) (0 : Int32)
def sX2_coinsUntilAstray (K : Nat) (G : Nat → Nat → Int32) (p1 : Int32) : Option Int32 := (sX2_fallsHome K G p1 (0 : Int32)).bind fun r3 => (if r3 = 0 then some (0 : Int32) else grd (inb p1 6) ((sX2_coinsIn K G (G 4 p1.toNatClampNeg)).bind fun r18 => some ((40 : Int32) - r18)))
def sX3_checkArgument (K : Nat) (G : Nat → Nat → Int32) (p1 : Int32) (p2 : Int32) (p3 : Int32) : Option Unit := (if p1 < p2 then none else (if p1 ≤ p3 then some () else none))
def sX3_addKind (K : Nat) (G : Nat → Nat → Int32) (p1 : Int32) (p2 : Int32) (p3 : Int32) : Option (Int32 × (Nat → Nat → Int32)) := (sX3_checkArgument K G p1 (1000 : Int32) (4000 : Int32)).bind fun r7 => (sX3_checkArgument K G p2 (1 : Int32) (500 : Int32)).bind fun r15 => (sX3_checkArgument K G p3 (0 : Int32) (5 : Int32)).bind fun r21 => (if (G 1 0) < (6 : Int32) then (sX1_save K G).bind fun r54 => (sX2_putKind K r54 p1 p2 p3).bind fun r64 => some (r64.1, r64.2) else none)
def sX3_isRail (K : Nat) (G : Nat → Nat → Int32) (p1 : Int32) : Option Int32 := (if p1 < 0 then some (0 : Int32) else (if (6 : Int32) ≤ p1 then some (0 : Int32) else some (1 : Int32)))
def sX3_checkRail (K : Nat) (G : Nat → Nat → Int32) (p1 : Int32) : Option Unit := (sX3_isRail K G p1).bind fun r1 => (if r1 = 0 then none else some ())
def sX3_setGap (K : Nat) (G : Nat → Nat → Int32) (p1 : Int32) (p2 : Int32) : Option (Int32 × (Nat → Nat → Int32)) := (sX3_checkRail K G p1).bind fun r1 => (sX3_checkArgument K G p2 (900 : Int32) (4100 : Int32)).bind fun r11 => (sX2_isStuck K G p1).bind fun r19 => (if r19 = 0 then (sX1_save K G).bind fun r43 => grd (inb p1 6) (grd (inb p1 6) (olet (up2 r43 7 p1.toNatClampNeg p2) fun G67 => grd (inb p1 6) (olet (up2 G67 8 p1.toNatClampNeg (0 : Int32)) fun G77 => some ((r43 7 p1.toNatClampNeg), G77)))) else none)
def sX3_checkKind (K : Nat) (G : Nat → Nat → Int32) (p1 : Int32) : Option Unit := (if p1 < 0 then none else (if p1 < (G 1 0) then some () else none))
def sX3_feed (K : Nat) (G : Nat → Nat → Int32) (p1 : Int32) (p2 : Int32) : Option (Int32 × (Nat → Nat → Int32)) := (sX3_checkKind K G p1).bind fun r2 => (sX3_checkArgument K G p2 (0 : Int32) (999 : Int32)).bind fun r10 => (sX1_save K G).bind fun r21 => (sX2_putCoin K r21 p1 p2).bind fun r30 => some (r30.1, r30.2)
def sX3_feedSome (K : Nat) (G : Nat → Nat → Int32) (p1 : Int32) (p2 : Int32) : Option (Int32 × (Nat → Nat → Int32)) := (sX3_checkArgument K G p1 (0 : Int32) (200 : Int32)).bind fun r5 => (sX3_checkArgument K G p2 (0 : Int32) (999999 : Int32)).bind fun r12 => (if (G 1 0) = 0 then none else (sX1_save K G).bind fun r43 => (sX2_putCoinsByChance K r43 p1 p2).bind fun r52 => some (r52.1, r52.2))
def sX3_free (K : Nat) (G : Nat → Nat → Int32) (p1 : Int32) : Option (Int32 × (Nat → Nat → Int32)) := (sX3_checkRail K G p1).bind fun r1 => (sX2_isStuck K G p1).bind fun r9 => (if r9 = 0 then none else (sX1_save K G).bind fun r33 => (sX2_loosen K r33 p1).bind fun r41 => some (r41.1, r41.2))
def sX3_takeBag (K : Nat) (G : Nat → Nat → Int32) (p1 : Int32) : Option (Int32 × (Nat → Nat → Int32)) := (sX3_checkRail K G p1).bind fun r1 => (sX1_save K G).bind fun r12 => (sX2_emptyBag K r12 p1).bind fun r20 => some (r20.1, r20.2)
def sX3_takeRejects (K : Nat) (G : Nat → Nat → Int32) : Option (Int32 × (Nat → Nat → Int32)) := (sX1_save K G).bind fun r8 => (sX2_removeRejects K r8).bind fun r15 => some (r15.1, r15.2)
def sX3_kind (K : Nat) (G : Nat → Nat → Int32) (p1 : Int32) (p2 : Int32) : Option Int32 := (sX3_checkKind K G p1).bind fun r2 => (sX3_checkArgument K G p2 (0 : Int32) (6 : Int32)).bind fun r9 => (sX2_aboutKind K G p1 p2).bind fun r18 => some r18
def sX3_rail (K : Nat) (G : Nat → Nat → Int32) (p1 : Int32) (p2 : Int32) : Option Int32 := (sX3_checkRail K G p1).bind fun r1 => (sX3_checkArgument K G p2 (0 : Int32) (9 : Int32)).bind fun r8 => (sX2_aboutRail K G p1 p2).bind fun r17 => some r17
def sX3_count (K : Nat) (G : Nat → Nat → Int32) (p1 : Int32) (p2 : Int32) : Option Int32 := (sX3_checkRail K G p1).bind fun r1 => (sX3_checkKind K G p2).bind fun r6 => (sX2_coinsOfKind K G p1 p2).bind fun r15 => some r15
def sX3_value (K : Nat) (G : Nat → Nat → Int32) (p1 : Int32) : Option Int32 := (sX3_checkArgument K G p1 (0 : Int32) (9 : Int32)).bind fun r4 => (sX2_aboutAll K G p1).bind fun r12 => some r12
def sX3_where (K : Nat) (G : Nat → Nat → Int32) (p1 : Int32) (p2 : Int32) : Option Int32 := (sX3_checkKind K G p1).bind fun r2 => (sX3_checkArgument K G p2 (0 : Int32) (999 : Int32)).bind fun r10 => (sX2_placeFor K G p1 p2).bind fun r19 => some r19
def sX3_mostWear (K : Nat) (G : Nat → Nat → Int32) (p1 : Int32) : Option Int32 := (sX3_checkKind K G p1).bind fun r2 => (sX2_mostFittingWear K G p1).bind fun r10 => some r10
def sX3_bestGap (K : Nat) (G : Nat → Nat → Int32) (p1 : Int32) : Option Int32 := (sX3_checkRail K G p1).bind fun r1 => (sX2_leastSortingGap K G p1).bind fun r9 => some r9
def sX3_supply (K : Nat) (G : Nat → Nat → Int32) (p1 : Int32) : Option Int32 := (sX3_checkKind K G p1).bind fun r2 => (sX2_coinsUntilAstray K G p1).bind fun r10 => some r10
def sX3_right (K : Nat) (G : Nat → Nat → Int32) : Option UInt64 := (sX2_coinsInBags K G).bind fun r4 => (if r4 = 0 then some FP.dconst1 else (sX2_misfits K G).bind fun r19 => grd (nn64 (FP.ddiv (FP.i2d (r4 - r19)) (FP.i2d r4))) (some (FP.ddiv (FP.i2d (r4 - r19)) (FP.i2d r4))))
def sX3_undo (K : Nat) (G : Nat → Nat → Int32) : Option (Int32 × (Nat → Nat → Int32)) := (if (G 13 2) = 0 then none else (sX1_restore K G).bind fun r28 => some (r28.1, r28.2))
