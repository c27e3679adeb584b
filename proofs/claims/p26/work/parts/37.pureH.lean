/-! PURE, part H: bestGap, supply, worstKind -/
def loF (f : Nat → Int32) (x : Int32) : Nat → Int32
  | 0 => -1
  | j + 1 => if f (5 + 5 * j) = x then (if loF f x j < f (3 + 5 * j) + 5 then f (3 + 5 * j) + 5 else loF f x j) else loF f x j
def hiF (f : Nat → Int32) (x : Int32) : Nat → Int32
  | 0 => 4100
  | j + 1 => if f (5 + 5 * j) = x then hiF f x j else if f (5 + 5 * j) ≤ x then hiF f x j else (if f (3 + 5 * j) < hiF f x j then f (3 + 5 * j) else hiF f x j)
def bgF (f : Nat → Int32) (n : Nat) (x : Int32) : Int32 := if hiF f x n < loF f x n then -1 else loF f x n
def dob (f : Nat → Int32) (x g : Int32) : Nat → Int32
  | 0 => 1
  | j + 1 => if dob f x g j = 0 then 0 else if f (5 + 5 * j) = x then (if g - f (3 + 5 * j) < 5 then 0 else 1) else if f (5 + 5 * j) ≤ x then 1 else if 0 < g - f (3 + 5 * j) then 0 else 1
theorem dob_01 (f : Nat → Int32) (x g : Int32) : ∀ j, dob f x g j = 0 ∨ dob f x g j = 1
  | 0 => Or.inr rfl
  | j + 1 => by
    unfold dob
    split
    · exact Or.inl rfl
    · split
      · split
        · exact Or.inl rfl
        · exact Or.inr rfl
      · split
        · exact Or.inr rfl
        · split
          · exact Or.inl rfl
          · exact Or.inr rfl
section CH
variable {K : Nat} {G : Nat → Nat → Int32} {f : Nat → Int32} {n : Nat}
theorem c_gapF (hK : 4000 ≤ K) (h : SR G 1 f) (hn : n ≤ 6) (h0 : f 0 = nI n) (x : Int32) : sX2_leastSortingGap K G x = some (bgF f n x) := by
  unfold sX2_leastSortingGap
  refine lpn (N := n) (P := fun m j => sX2_leastSortingGap_L9 K G x m (loF f x j) (hiF f x j) (nI j)) ?_ ?_ K 0 (by omega) (by omega)
  · intro m j hj
    show sX2_leastSortingGap_L9 K G x (m + 1) (loF f x j) (hiF f x j) (nI j) = sX2_leastSortingGap_L9 K G x m (if f (5 + 5 * j) = x then (if loF f x j < f (3 + 5 * j) + 5 then f (3 + 5 * j) + 5 else loF f x j) else loF f x j) (if f (5 + 5 * j) = x then hiF f x j else if f (5 + 5 * j) ≤ x then hiF f x j else (if f (3 + 5 * j) < hiF f x j then f (3 + 5 * j) else hiF f x j)) (nI (j + 1))
    rw [sX2_leastSortingGap_L9, h.kinds, h0, if_neg (nleI hj (by omega)), grd_i (by omega) (by decide), grd_i (by omega) (by decide), grd_i (by omega) (by decide), grd_i (by omega) (by decide), tnI (by omega), h.hm (by omega), h.dm (by omega), nI1]
    by_cases e : f (5 + 5 * j) = x
    · rw [if_pos e, if_pos e, if_pos e]
    · rw [if_neg e, if_neg e, if_neg e]
      by_cases e2 : f (5 + 5 * j) ≤ x
      · rw [if_pos e2, if_pos e2]
      · rw [if_neg e2, if_neg e2]
  · intro m
    show sX2_leastSortingGap_L9 K G x (m + 1) _ _ (nI n) = _
    rw [sX2_leastSortingGap_L9, h.kinds, h0, if_pos (yleI (Nat.le_refl _) (by omega))]
    unfold bgF
    split <;> rfl
end CH
section PH
variable {f : Nat → Int32} {n : Nat}
theorem loF_of (h : SN f n) (r : Nat) : ∀ j, j ≤ n → (loF f (nI r) j = -1 ∧ ∀ k, k < j → ¬ f (5 + 5 * k) = nI r) ∨ ∃ a, a ≤ 4005 ∧ 1005 ≤ a ∧ loF f (nI r) j = nI a ∧ (∀ k d, k < j → f (5 + 5 * k) = nI r → f (3 + 5 * k) = nI d → d ≤ 4000 → d + 5 ≤ a) ∧ ∃ k d, k < j ∧ f (5 + 5 * k) = nI r ∧ f (3 + 5 * k) = nI d ∧ d + 5 = a
  | 0, _ => Or.inl ⟨rfl, fun k hk => absurd hk (by omega)⟩
  | j + 1, hj => by
    obtain ⟨d, d1, d2, ed⟩ := h.dm (show j < n by omega)
    have ih := loF_of h r j (by omega)
    by_cases e : f (5 + 5 * j) = nI r
    · refine Or.inr ?_
      have el : loF f (nI r) (j + 1) = if loF f (nI r) j < nI (d + 5) then nI (d + 5) else loF f (nI r) j := by
        show (if f (5 + 5 * j) = nI r then _ else _) = _
        rw [if_pos e, ed, show nI d + (5 : Int32) = nI (d + 5) from nI_add d 5]
      rcases ih with ⟨z1, z2⟩ | ⟨a, a1, a2, a3, a4, a5⟩
      · refine ⟨d + 5, by omega, by omega, ?_, fun k d' hk q1 q2 q3 => ?_, j, d, by omega, e, ed, rfl⟩
        · rw [el, z1, if_pos]
          rw [Int32.lt_iff_toInt_lt, nI_toInt (by omega), show (-1 : Int32).toInt = -1 by decide]
          omega
        · by_cases q : k = j
          · subst q
            rw [ed] at q2
            have := (nI_eq (by omega) (by omega)).mp q2
            omega
          · exact absurd q1 (z2 k (by omega))
      · by_cases c : a < d + 5
        · refine ⟨d + 5, by omega, by omega, ?_, fun k d' hk q1 q2 q3 => ?_, j, d, by omega, e, ed, rfl⟩
          · rw [el, a3, if_pos (yltI c (by omega))]
          · by_cases q : k = j
            · subst q
              rw [ed] at q2
              have := (nI_eq (by omega) (by omega)).mp q2
              omega
            · have := a4 k d' (by omega) q1 q2 q3
              omega
        · obtain ⟨k0, d0, b1, b2, b3, b4⟩ := a5
          refine ⟨a, a1, a2, ?_, fun k d' hk q1 q2 q3 => ?_, k0, d0, by omega, b2, b3, b4⟩
          · rw [el, a3, if_neg (nltI (by omega) (by omega))]
          · by_cases q : k = j
            · subst q
              rw [ed] at q2
              have := (nI_eq (by omega) (by omega)).mp q2
              omega
            · exact a4 k d' (by omega) q1 q2 q3
    · have el : loF f (nI r) (j + 1) = loF f (nI r) j := if_neg e
      rw [el]
      rcases ih with ⟨z1, z2⟩ | ⟨a, a1, a2, a3, a4, a5⟩
      · refine Or.inl ⟨z1, fun k hk => ?_⟩
        by_cases q : k = j
        · subst q; exact e
        · exact z2 k (by omega)
      · obtain ⟨k0, d0, b1, b2, b3, b4⟩ := a5
        refine Or.inr ⟨a, a1, a2, a3, fun k d' hk q1 q2 q3 => ?_, k0, d0, by omega, b2, b3, b4⟩
        by_cases q : k = j
        · subst q; exact absurd q1 e
        · exact a4 k d' (by omega) q1 q2 q3
theorem hiF_of (h : SN f n) {r : Nat} (hr : r < 6) : ∀ j, j ≤ n → ∃ b, b ≤ 4100 ∧ hiF f (nI r) j = nI b ∧ (∀ k d x, k < j → f (5 + 5 * k) = nI x → x < 6 → r < x → f (3 + 5 * k) = nI d → d ≤ 4000 → b ≤ d) ∧ (b = 4100 ∨ ∃ k d x, k < j ∧ f (5 + 5 * k) = nI x ∧ x < 6 ∧ r < x ∧ f (3 + 5 * k) = nI d ∧ d = b)
  | 0, _ => ⟨4100, by omega, rfl, fun k d x hk => absurd hk (by omega), Or.inl rfl⟩
  | j + 1, hj => by
    obtain ⟨d, d1, d2, ed⟩ := h.dm (show j < n by omega)
    obtain ⟨x, hx, ex⟩ := h.hm (show j < n by omega)
    obtain ⟨b, b1, b2, b3, b4⟩ := hiF_of h hr j (by omega)
    by_cases c : r < x
    · have el : hiF f (nI r) (j + 1) = if nI d < nI b then nI d else nI b := by
        show (if f (5 + 5 * j) = nI r then _ else _) = _
        rw [ex, if_neg (neI (by omega) (by omega) (by omega)), if_neg (nleI c (by omega)), ed, b2]
      by_cases c2 : d < b
      · refine ⟨d, by omega, by rw [el, if_pos (yltI c2 (by omega))], fun k d' x' hk q1 q2 q3 q4 q5 => ?_, Or.inr ⟨j, d, x, by omega, ex, hx, c, ed, rfl⟩⟩
        by_cases q : k = j
        · subst q
          rw [ed] at q4
          have := (nI_eq (by omega) (by omega)).mp q4
          omega
        · have := b3 k d' x' (by omega) q1 q2 q3 q4 q5
          omega
      · refine ⟨b, b1, by rw [el, if_neg (nltI (by omega) (by omega))], fun k d' x' hk q1 q2 q3 q4 q5 => ?_, ?_⟩
        · by_cases q : k = j
          · subst q
            rw [ed] at q4
            have := (nI_eq (by omega) (by omega)).mp q4
            omega
          · exact b3 k d' x' (by omega) q1 q2 q3 q4 q5
        · rcases b4 with z | ⟨k, d', x', z1, z2⟩
          · exact Or.inl z
          · exact Or.inr ⟨k, d', x', by omega, z2⟩
    · have el : hiF f (nI r) (j + 1) = hiF f (nI r) j := by
        show (if f (5 + 5 * j) = nI r then _ else _) = _
        by_cases q : f (5 + 5 * j) = nI r
        · rw [if_pos q]
        · rw [if_neg q, ex, if_pos (yleI (by omega) (by omega))]
      rw [el]
      refine ⟨b, b1, b2, fun k d' x' hk q1 q2 q3 q4 q5 => ?_, ?_⟩
      · by_cases q : k = j
        · subst q
          rw [ex] at q1
          have := (nI_eq (by omega) (by omega)).mp q1
          omega
        · exact b3 k d' x' (by omega) q1 q2 q3 q4 q5
      · rcases b4 with z | ⟨k, d', x', z1, z2⟩
        · exact Or.inl z
        · exact Or.inr ⟨k, d', x', by omega, z2⟩
theorem dob_of (h : SN f n) {r g : Nat} (hr : r < 6) (hg : g ≤ 4100) : ∀ j, j ≤ n → (dob f (nI r) (nI g) j = 1 ↔ (∀ k d, k < j → f (5 + 5 * k) = nI r → f (3 + 5 * k) = nI d → d ≤ 4000 → d + 5 ≤ g) ∧ ∀ k d x, k < j → f (5 + 5 * k) = nI x → x < 6 → r < x → f (3 + 5 * k) = nI d → d ≤ 4000 → g ≤ d)
  | 0, _ => ⟨fun _ => ⟨fun k d hk => absurd hk (by omega), fun k d x hk => absurd hk (by omega)⟩, fun _ => rfl⟩
  | j + 1, hj => by
    obtain ⟨d, d1, d2, ed⟩ := h.dm (show j < n by omega)
    obtain ⟨x, hx, ex⟩ := h.hm (show j < n by omega)
    have ih := dob_of h hr hg j (by omega)
    have el : dob f (nI r) (nI g) (j + 1) = if dob f (nI r) (nI g) j = 0 then 0 else if nI x = nI r then (if nI g - nI d < 5 then 0 else 1) else if nI x ≤ nI r then 1 else if 0 < nI g - nI d then 0 else 1 := by
      show (if dob f (nI r) (nI g) j = 0 then _ else _) = _
      rw [ex, ed]
    have t1 : (nI g - nI d).toInt = (g : Int) - d := pk_sub_toInt (by omega) (by omega)
    have k1 : ∀ k d', k < j + 1 → f (5 + 5 * k) = nI r → f (3 + 5 * k) = nI d' → d' ≤ 4000 → k = j → d' = d ∧ x = r := fun k d' hk q1 q2 q3 q => by
      subst q
      rw [ed] at q2
      rw [ex] at q1
      exact ⟨((nI_eq (by omega) (by omega)).mp q2).symm, (nI_eq (by omega) (by omega)).mp q1⟩
    have k2 : ∀ k d' x', f (5 + 5 * k) = nI x' → x' < 6 → f (3 + 5 * k) = nI d' → d' ≤ 4000 → k = j → d' = d ∧ x' = x := fun k d' x' q1 q0 q2 q3 q => by
      subst q
      rw [ed] at q2
      rw [ex] at q1
      exact ⟨((nI_eq (by omega) (by omega)).mp q2).symm, ((nI_eq (by omega) (by omega)).mp q1).symm⟩
    rw [el]
    rcases dob_01 f (nI r) (nI g) j with z | z
    · rw [if_pos z]
      constructor
      · intro q; exact absurd q (by decide)
      · rintro ⟨q1, q2⟩
        have := ih.mpr ⟨fun k d' hk => q1 k d' (by omega), fun k d' x' hk => q2 k d' x' (by omega)⟩
        rw [z] at this
        exact absurd this (by decide)
    · rw [if_neg (by rw [z]; decide)]
      obtain ⟨i1, i2⟩ := ih.mp z
      by_cases c : x = r
      · rw [c, if_pos rfl]
        by_cases c2 : g < d + 5
        · rw [if_pos (by rw [Int32.lt_iff_toInt_lt, t1, show (5 : Int32).toInt = 5 by decide]; omega)]
          constructor
          · intro q; exact absurd q (by decide)
          · rintro ⟨q1, -⟩
            have := q1 j d (by omega) (by rw [ex, c]) ed d2
            omega
        · rw [if_neg (by rw [Int32.lt_iff_toInt_lt, t1, show (5 : Int32).toInt = 5 by decide]; omega)]
          refine ⟨fun _ => ⟨fun k d' hk q1 q2 q3 => ?_, fun k d' x' hk q1 q0 q4 q2 q3 => ?_⟩, fun _ => rfl⟩
          · by_cases q : k = j
            · obtain ⟨e1, -⟩ := k1 k d' hk q1 q2 q3 q
              omega
            · exact i1 k d' (by omega) q1 q2 q3
          · by_cases q : k = j
            · obtain ⟨-, e2⟩ := k2 k d' x' q1 q0 q2 q3 q
              omega
            · exact i2 k d' x' (by omega) q1 q0 q4 q2 q3
      · rw [if_neg (neI c (by omega) (by omega))]
        by_cases c3 : x ≤ r
        · rw [if_pos (yleI c3 (by omega))]
          refine ⟨fun _ => ⟨fun k d' hk q1 q2 q3 => ?_, fun k d' x' hk q1 q0 q4 q2 q3 => ?_⟩, fun _ => rfl⟩
          · by_cases q : k = j
            · obtain ⟨-, e2⟩ := k1 k d' hk q1 q2 q3 q
              omega
            · exact i1 k d' (by omega) q1 q2 q3
          · by_cases q : k = j
            · obtain ⟨-, e2⟩ := k2 k d' x' q1 q0 q2 q3 q
              omega
            · exact i2 k d' x' (by omega) q1 q0 q4 q2 q3
        · rw [if_neg (nleI (by omega) (by omega))]
          by_cases c4 : d < g
          · rw [if_pos (by rw [Int32.lt_iff_toInt_lt, t1, Int32.toInt_zero]; omega)]
            constructor
            · intro q; exact absurd q (by decide)
            · rintro ⟨-, q2⟩
              have := q2 j d x (by omega) ex hx (by omega) ed d2
              omega
          · rw [if_neg (by rw [Int32.lt_iff_toInt_lt, t1, Int32.toInt_zero]; omega)]
            refine ⟨fun _ => ⟨fun k d' hk q1 q2 q3 => ?_, fun k d' x' hk q1 q0 q4 q2 q3 => ?_⟩, fun _ => rfl⟩
            · by_cases q : k = j
              · obtain ⟨-, e2⟩ := k1 k d' hk q1 q2 q3 q
                omega
              · exact i1 k d' (by omega) q1 q2 q3
            · by_cases q : k = j
              · obtain ⟨e1, -⟩ := k2 k d' x' q1 q0 q2 q3 q
                omega
              · exact i2 k d' x' (by omega) q1 q0 q4 q2 q3
end PH
section MH
variable {K : Nat} {M : Nat → Nat → Int32} {n : Nat}
end MH

