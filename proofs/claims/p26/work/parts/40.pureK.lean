/-! PURE, part K: what the checks say; the operations that only answer -/
section CK
variable {K : Nat} {G M : Nat → Nat → Int32}
theorem nI_ofI {p : Int32} (h : 0 ≤ p.toInt) : ∃ v : Nat, p = nI v ∧ (v : Int) = p.toInt := by
  have h2 := Int32.toInt_lt p
  refine ⟨p.toInt.toNat, ?_, by omega⟩
  apply Int32.toInt_inj.mp
  rw [nI_toInt (by omega)]
  omega
theorem bv1 : bv (1 : Int32) = true := by decide
theorem bv0 : bv (0 : Int32) = true := by decide
theorem hiK {n : Nat} (h : n ≤ 6) : ((nI n).toInt64 - 1).toInt = (n : Int) - 1 := by
  have h7 : n = 0 ∨ n = 1 ∨ n = 2 ∨ n = 3 ∨ n = 4 ∨ n = 5 ∨ n = 6 := by omega
  rcases h7 with rfl | rfl | rfl | rfl | rfl | rfl | rfl <;> decide
theorem rail_c (p : Int32) : sX3_isRail K G p = some (if 0 ≤ p.toInt ∧ p.toInt ≤ 5 then 1 else 0) := by
  unfold sX3_isRail
  have h6 : (6 : Int32).toInt = 6 := by decide
  simp only [Int32.lt_iff_toInt_lt, Int32.le_iff_toInt_le, Int32.toInt_zero, h6]
  by_cases c : 0 ≤ p.toInt ∧ p.toInt ≤ 5
  · rw [if_neg (by omega), if_neg (by omega), if_pos c]
  · rw [if_neg c]
    by_cases c2 : p.toInt < 0
    · rw [if_pos c2]
    · rw [if_neg c2, if_pos (by omega)]
end CK
theorem duF_none {f : Nat → Int32} {x : Int32} : ∀ (m i : Nat), i + m ≤ 6 → duF f x i m = -1 → ∀ k, i ≤ k → k < i + m → ¬ f (5 + 5 * k) = x
  | 0, i, _, _, k, h1, h2 => absurd h1 (by omega)
  | m + 1, i, hi, e, k, h1, h2 => by
    by_cases c : f (5 + 5 * i) = x
    · have e2 : duF f x i (m + 1) = nI i := if_pos c
      rw [e2] at e
      exact absurd e (m1ne (by omega))
    · have e2 : duF f x i (m + 1) = duF f x (i + 1) m := if_neg c
      rw [e2] at e
      by_cases q : k = i
      · subst q; exact c
      · exact duF_none m (i + 1) (by omega) e k (by omega) (by omega)
section OPR
variable {K : Nat} {G M : Nat → Nat → Int32}
end OPR

