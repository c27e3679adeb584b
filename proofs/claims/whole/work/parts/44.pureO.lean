/-! PURE, part O: the text is read alike: b the bytes, len how many -/
section TX
variable (b : Nat → Nat) (len : Nat)
def dgB (j : Nat) : Bool := decide (j < len ∧ 48 ≤ b j ∧ b j ≤ 57)
def byB (j v : Nat) : Bool := decide (j < len ∧ b j = v)
def dkB (n j : Nat) : Bool := decide (j < len ∧ 48 ≤ b j ∧ b j < 48 + n)
def ndB (p : Nat) : Nat := if dgB b len p = true then (if dgB b len (p + 1) = true then (if dgB b len (p + 2) = true then 3 else 2) else 1) else 0
def vlB (p : Nat) : Nat → Nat
  | 0 => 0
  | d + 1 => 10 * vlB p d + (b (p + d) - 48)
def eow (j : Nat) : Nat := if byB b len (j + 1) 119 = true then j + 2 + ndB b len (j + 2) else j + 1
def wvB (j : Nat) : Nat := if byB b len (j + 1) 119 = true then vlB b (j + 2) (ndB b len (j + 2)) else 0
def lkB (j : Nat) : Bool := byB b len (j + 1) 119 && decide (ndB b len (j + 2) = 0)
def gdB (j : Nat) : Bool := !lkB b len j && byB b len (eow b len j) 59
def ps : Nat → Nat
  | 0 => 0
  | i + 1 => eow b len (ps i) + 1
end TX
section TX2
variable {b : Nat → Nat} {len : Nat}
theorem dgB_i {j : Nat} : dgB b len j = true ↔ j < len ∧ 48 ≤ b j ∧ b j ≤ 57 := decide_eq_true_iff
theorem byB_i {j v : Nat} : byB b len j v = true ↔ j < len ∧ b j = v := decide_eq_true_iff
theorem dkB_i {n j : Nat} : dkB b len n j = true ↔ j < len ∧ 48 ≤ b j ∧ b j < 48 + n := decide_eq_true_iff
theorem ndB_le (p : Nat) : ndB b len p ≤ 3 := by
  unfold ndB
  split <;> (try split) <;> (try split) <;> omega
theorem ndB_d (p i : Nat) (h : i < ndB b len p) : dgB b len (p + i) = true := by
  unfold ndB at h
  by_cases c1 : dgB b len p = true
  · rw [if_pos c1] at h
    by_cases c2 : dgB b len (p + 1) = true
    · rw [if_pos c2] at h
      by_cases c3 : dgB b len (p + 2) = true
      · rw [if_pos c3] at h
        have : i = 0 ∨ i = 1 ∨ i = 2 := by omega
        rcases this with rfl | rfl | rfl
        · exact c1
        · exact c2
        · exact c3
      · rw [if_neg c3] at h
        have : i = 0 ∨ i = 1 := by omega
        rcases this with rfl | rfl
        · exact c1
        · exact c2
    · rw [if_neg c2] at h
      obtain rfl : i = 0 := by omega
      exact c1
  · rw [if_neg c1] at h
    omega
theorem vlB_le (p : Nat) : ∀ d, (∀ i, i < d → dgB b len (p + i) = true) → vlB b p d < 10 ^ d
  | 0, _ => by show 0 < 1; omega
  | d + 1, h => by
    have ih := vlB_le p d (fun i hi => h i (by omega))
    obtain ⟨-, h1, h2⟩ := dgB_i.mp (h d (by omega))
    show 10 * vlB b p d + (b (p + d) - 48) < 10 ^ (d + 1)
    rw [Nat.pow_succ]
    omega
theorem wvB_le (j : Nat) : wvB b len j ≤ 999 := by
  unfold wvB
  split
  · have h1 := vlB_le (len := len) (b := b) (j + 2) (ndB b len (j + 2)) (ndB_d (j + 2))
    have h2 : 10 ^ ndB b len (j + 2) ≤ 10 ^ 3 := Nat.pow_le_pow_right (by decide) (ndB_le _)
    omega
  · omega
theorem eow_ge (j : Nat) : j + 1 ≤ eow b len j := by
  unfold eow
  split <;> omega
theorem eow_le (j : Nat) : eow b len j ≤ j + 5 := by
  have := ndB_le (b := b) (len := len) (j + 2)
  unfold eow
  split <;> omega
theorem gd_lt {j : Nat} (h : gdB b len j = true) : eow b len j < len := by
  unfold gdB at h
  rw [Bool.and_eq_true] at h
  exact (byB_i.mp h.2).1
/-- the class's text, the reference's -/
def TC (b : Nat → Nat) (len : Nat) (G : Nat → Nat → Int32) : Prop := G 63 1 = nI len ∧ ∀ j, j < len → G 64 j = nI (b j)
def TM (b : Nat → Nat) (len : Nat) (M : Nat → Nat → Int32) : Prop := M 0 6 = nI len ∧ ∀ j, j < len → M 4 j = nI (b j)
section CT
variable {K : Nat} {G : Nat → Nat → Int32}
theorem c_isD (hl : len ≤ 90) (hb : ∀ j, j < len → b j < 128) (h : TC b len G) {j : Nat} (hj : j < 1000) : sX0_isDigit K G (nI j) = some (if dgB b len j = true then 1 else 0) := by
  unfold sX0_isDigit
  rw [if_neg (show ¬ nI j < 0 from nltI (b := 0) (by omega) (by omega)), h.1]
  by_cases c : j < len
  · have hj9 : j < 90 := by omega
    have b1 := hb j c
    rw [if_neg (nleI c (by omega)), grd_i hj9 (by decide), grd_i hj9 (by decide), tnI (by omega), h.2 j c]
    by_cases c2 : b j < 48
    · rw [if_pos (show nI (b j) < 48 from yltI (b := 48) c2 (by decide)), if_neg (fun q => by have := dgB_i.mp q; omega)]
    · rw [if_neg (show ¬ nI (b j) < 48 from nltI (b := 48) (by omega) (by omega))]
      by_cases c3 : 57 < b j
      · rw [if_pos (show 57 < nI (b j) from yltI (a := 57) c3 (by omega)), if_neg (fun q => by have := dgB_i.mp q; omega)]
      · rw [if_neg (show ¬ 57 < nI (b j) from nltI (a := 57) (by omega) (by decide)), if_pos (dgB_i.mpr (by omega))]
  · rw [if_pos (yleI (by omega) (by omega)), if_neg (fun q => by have := dgB_i.mp q; omega)]
theorem c_isB (hl : len ≤ 90) (hb : ∀ j, j < len → b j < 128) (h : TC b len G) {j v : Nat} (hj : j < 1000) (hv : v < 128) : sX0_isByte K G (nI j) (nI v) = some (if byB b len j v = true then 1 else 0) := by
  unfold sX0_isByte
  rw [if_neg (show ¬ nI j < 0 from nltI (b := 0) (by omega) (by omega)), h.1]
  by_cases c : j < len
  · have b1 := hb j c
    rw [if_neg (nleI c (by omega)), grd_i (show j < 90 by omega) (by decide), tnI (by omega), h.2 j c]
    by_cases c2 : b j = v
    · rw [if_pos (by rw [c2]), if_pos (byB_i.mpr ⟨c, c2⟩)]
    · rw [if_neg (neI c2 (by omega) (by omega)), if_neg (fun q => c2 (byB_i.mp q).2)]
  · rw [if_pos (yleI (by omega) (by omega)), if_neg (fun q => c (byB_i.mp q).1)]
theorem c_dig (hl : len ≤ 90) (hb : ∀ j, j < len → b j < 128) (h : TC b len G) {j : Nat} (hj : j < len) (h1 : 48 ≤ b j) : sX0_digit K G (nI j) = some (nI (b j - 48)) := by
  unfold sX0_digit
  rw [grd_i (show j < 90 by omega) (by decide), tnI (by omega), h.2 j hj]
  exact congrArg some (pk_sub (b := 48) h1)
theorem c_eow (hK : 4000 ≤ K) (hl : len ≤ 90) (hb : ∀ j, j < len → b j < 128) (h : TC b len G) {j : Nat} (hj : j < 100) : sX0_endOfWear K G (nI (j + 1)) = some (nI (eow b len j)) := by
  unfold sX0_endOfWear eow
  rw [show sX0_isByte K G (nI (j + 1)) (119 : Int32) = _ from c_isB (v := 119) hl hb h (by omega) (by decide), bind_e]
  by_cases c : byB b len (j + 1) 119 = true
  · rw [if_pos c, if_pos c, if_neg (by decide), nI1]
    obtain ⟨a, rfl⟩ : ∃ a, K = a + 4 := ⟨K - 4, by omega⟩
    have e3 : nI (j + 1) + (3 : Int32) = nI (j + 4) := nI_add (j + 1) 3
    rw [show j + 1 + 1 = j + 2 from rfl]
    unfold ndB
    rw [sX0_endOfWear_L16, e3, if_neg (nltI (by omega) (by omega)), c_isD hl hb h (by omega), bind_e]
    by_cases c1 : dgB b len (j + 2) = true
    · rw [if_pos c1, if_pos c1, if_neg (by decide), nI1, sX0_endOfWear_L16, e3, if_neg (nltI (by omega) (by omega)), c_isD hl hb h (by omega), bind_e]
      by_cases c2 : dgB b len (j + 2 + 1) = true
      · rw [if_pos c2, if_pos c2, if_neg (by decide), nI1, sX0_endOfWear_L16, e3, if_neg (nltI (by omega) (by omega)), c_isD hl hb h (by omega), bind_e]
        by_cases c3 : dgB b len (j + 2 + 1 + 1) = true
        · rw [if_pos c3, if_pos (show dgB b len (j + 2 + 2) = true from c3), if_neg (by decide), nI1, sX0_endOfWear_L16, e3, if_pos (yltI (by omega) (by omega))]
        · rw [if_neg c3, if_neg (show ¬ dgB b len (j + 2 + 2) = true from c3), if_pos rfl]
      · rw [if_neg c2, if_neg c2, if_pos rfl]
    · rw [if_neg c1, if_neg c1, if_pos rfl]
  · rw [if_neg c, if_neg c, if_pos rfl]
theorem c_num (hK : 4000 ≤ K) (hl : len ≤ 90) (hb : ∀ j, j < len → b j < 128) (h : TC b len G) {p d : Nat} (hp : p < 200) (hd : d ≤ 3) (hh : ∀ i, i < d → dgB b len (p + i) = true) : sX0_number K G (nI p) (nI (p + d)) = some (nI (vlB b p d)) := by
  unfold sX0_number
  refine lpn (N := d) (P := fun m i => sX0_number_L5 K G (nI p) (nI (p + d)) m (nI (vlB b p i)) (nI (p + i))) ?_ ?_ K 0 (by omega) (by omega)
  · intro m i hi
    obtain ⟨h1, h2, h3⟩ := dgB_i.mp (hh i hi)
    show sX0_number_L5 K G (nI p) (nI (p + d)) (m + 1) (nI (vlB b p i)) (nI (p + i)) = sX0_number_L5 K G (nI p) (nI (p + d)) m (nI (10 * vlB b p i + (b (p + i) - 48))) (nI (p + i + 1))
    rw [sX0_number_L5, if_neg (nleI (by omega) (by omega)), c_dig hl hb h h1 h2, bind_e, nI1]
    have e : (10 : Int32) * nI (vlB b p i) + nI (b (p + i) - 48) = nI (10 * vlB b p i + (b (p + i) - 48)) := by
      show nI 10 * nI (vlB b p i) + _ = _
      rw [pk_mul, nI_add]
    rw [e]
  · intro m
    show sX0_number_L5 K G (nI p) (nI (p + d)) (m + 1) (nI (vlB b p d)) (nI (p + d)) = _
    rw [sX0_number_L5, if_pos (yleI (Nat.le_refl _) (by omega))]
theorem c_step (hK : 4000 ≤ K) (hl : len ≤ 90) (hb : ∀ j, j < len → b j < 128) (h : TC b len G) {n j cn z : Nat} (hn : n ≤ 6) (hj : j < len) (hc : cn < 45) (e4 : G 63 4 = nI cn) :
    (¬ dkB b len n j = true → sX0_readCoins_L7 K (nI n) (z + 1) G (nI j) = some (nI j, G)) ∧ (dkB b len n j = true → ¬ gdB b len j = true → sX0_readCoins_L7 K (nI n) (z + 1) G (nI j) = some (nI (eow b len j), G)) ∧ (dkB b len n j = true → gdB b len j = true → sX0_readCoins_L7 K (nI n) (z + 1) G (nI j) = sX0_readCoins_L7 K (nI n) z (up2 (up2 (up2 G 65 cn (nI (b j - 48))) 66 cn (nI (wvB b len j))) 63 4 (nI (cn + 1))) (nI (eow b len j + 1))) := by
  have b1 := hb j hj
  have hge := eow_ge (b := b) (len := len) j
  have hle := eow_le (b := b) (len := len) j
  have hhead : sX0_readCoins_L7 K (nI n) (z + 1) G (nI j) = if (if dgB b len j = true then (1 : Int32) else 0) = 0 then some (nI j, G) else (sX0_digit K G (nI j)).bind fun r34 => (if r34 < nI n then (if lkB b len j = true then some (nI (eow b len j), G) else if byB b len (eow b len j) 59 = true then (sX0_readCoins_L7 K (nI n) z (up2 (up2 (up2 G 65 cn (nI (b j - 48))) 66 cn (nI (wvB b len j))) 63 4 (nI (cn + 1))) (nI (eow b len j + 1))) else some (nI (eow b len j), G)) else some (nI j, G)) := by
    rw [sX0_readCoins_L7, h.1, if_neg (nleI hj (by omega)), e4, if_neg (show ¬ (45 : Int32) ≤ nI cn from nleI (a := 45) hc (by decide)), c_isD hl hb h (by omega), bind_e]
    by_cases c : dgB b len j = true
    · obtain ⟨d0, d1, d2⟩ := dgB_i.mp c
      rw [if_pos c, if_neg (by decide), if_neg (by decide), c_dig hl hb h hj d1, bind_e, bind_e]
      by_cases c2 : nI (b j - 48) < nI n
      · have e1 : nI (eow b len j) - (1 : Int32) = nI (eow b len j - 1) := pk_sub (b := 1) (by omega)
        rw [if_pos c2, if_pos c2, show nI j + (1 : Int32) = nI (j + 1) from nI1 j, c_eow hK hl hb h (by omega), bind_e, e1, show sX0_isByte K G (nI (eow b len j - 1)) (119 : Int32) = _ from c_isB (v := 119) hl hb h (by omega) (by decide), bind_e]
        have el : byB b len (eow b len j - 1) 119 = lkB b len j := by
          unfold lkB
          by_cases q : byB b len (j + 1) 119 = true
          · by_cases q2 : ndB b len (j + 2) = 0
            · have : eow b len j - 1 = j + 1 := by
                unfold eow
                rw [if_pos q, q2]
                omega
              rw [this, q, q2]
              rfl
            · have q3 : byB b len (eow b len j - 1) 119 = false := by
                apply Bool.eq_false_iff.mpr
                intro q4
                have q5 := (byB_i.mp q4).2
                have q6 : eow b len j - 1 = j + 2 + (ndB b len (j + 2) - 1) := by
                  unfold eow
                  rw [if_pos q]
                  omega
                have q7 := dgB_i.mp (ndB_d (b := b) (len := len) (j + 2) (ndB b len (j + 2) - 1) (by omega))
                rw [q6] at q5
                omega
              rw [q3, q, decide_eq_false q2]
              rfl
          · have q1 : eow b len j - 1 = j := by
              unfold eow
              rw [if_neg q]
              omega
            have q3 : byB b len (eow b len j - 1) 119 = false := by
              apply Bool.eq_false_iff.mpr
              intro q4
              have q5 := (byB_i.mp q4).2
              rw [q1] at q5
              omega
            rw [q3, Bool.eq_false_iff.mpr q]
            rfl
        rw [el]
        by_cases c3 : lkB b len j = true
        · rw [if_pos c3, if_pos c3, if_neg (by decide)]
        · rw [if_neg c3, if_neg c3, if_pos rfl, show sX0_isByte K G (nI (eow b len j)) (59 : Int32) = _ from c_isB (v := 59) hl hb h (by omega) (by decide), bind_e]
          by_cases c4 : byB b len (eow b len j) 59 = true
          · rw [if_pos c4, if_pos c4, if_neg (by decide), bind_e, grd_i hc (by decide), tnI (by omega), olet_e]
            have h2 : TC b len (up2 G 65 cn (nI (b j - 48))) := ⟨by rw [up2_n (by decide)]; exact h.1, fun i hi => by rw [up2_n (by decide)]; exact h.2 i hi⟩
            have hnum : sX0_number K (up2 G 65 cn (nI (b j - 48))) (nI j + (2 : Int32)) (nI (eow b len j)) = some (nI (wvB b len j)) := by
              rw [show nI j + (2 : Int32) = nI (j + 2) from nI_add j 2]
              unfold eow wvB
              by_cases q : byB b len (j + 1) 119 = true
              · rw [if_pos q, if_pos q]
                exact c_num hK hl hb h2 (by omega) (ndB_le _) (ndB_d (j + 2))
              · rw [if_neg q, if_neg q]
                unfold sX0_number
                obtain ⟨a, rfl⟩ : ∃ a, K = a + 1 := ⟨K - 1, by omega⟩
                rw [sX0_number_L5, if_pos (yleI (by omega) (by omega))]
                rfl
            rw [hnum, bind_e, show up2 G 65 cn (nI (b j - 48)) 63 4 = nI cn by rw [up2_n (by decide)]; exact e4, grd_i hc (by decide), tnI (by omega), olet_e, olet_e, show up2 (up2 G 65 cn (nI (b j - 48))) 66 cn (nI (wvB b len j)) 63 4 = nI cn by rw [up2_n (by decide), up2_n (by decide)]; exact e4, show nI cn + (1 : Int32) = nI (cn + 1) from nI1 cn, show nI (eow b len j) + (1 : Int32) = nI (eow b len j + 1) from nI1 _]
          · rw [if_neg c4, if_neg c4, if_pos rfl]
      · rw [if_neg c2, if_neg c2]
    · rw [if_neg c, if_pos rfl, if_pos rfl]
  rw [hhead]
  refine ⟨fun q => ?_, fun q q2 => ?_, fun q q2 => ?_⟩
  · by_cases c : dgB b len j = true
    · obtain ⟨d0, d1, d2⟩ := dgB_i.mp c
      rw [if_pos c, if_neg (by decide), c_dig hl hb h hj d1, bind_e, if_neg (nltI ?_ (by omega))]
      rcases Nat.lt_or_ge (b j - 48) n with z | z
      · exact absurd (dkB_i.mpr ⟨hj, d1, by omega⟩) q
      · exact z
    · rw [if_neg c, if_pos rfl]
  · obtain ⟨d0, d1, d2⟩ := dkB_i.mp q
    rw [if_pos (dgB_i.mpr ⟨d0, d1, by omega⟩), if_neg (by decide), c_dig hl hb h hj d1, bind_e, if_pos (yltI (by omega) (by omega))]
    unfold gdB at q2
    by_cases c : lkB b len j = true
    · rw [if_pos c]
    · rw [if_neg c, if_neg]
      intro c2
      rw [Bool.eq_false_iff.mpr c, c2] at q2
      exact q2 rfl
  · obtain ⟨d0, d1, d2⟩ := dkB_i.mp q
    rw [if_pos (dgB_i.mpr ⟨d0, d1, by omega⟩), if_neg (by decide), c_dig hl hb h hj d1, bind_e, if_pos (yltI (by omega) (by omega))]
    unfold gdB at q2
    rw [Bool.and_eq_true] at q2
    rw [if_neg, if_pos q2.2]
    intro c
    rw [c] at q2
    exact absurd q2.1 (by decide)
end CT
section MT
variable {K : Nat} {M : Nat → Nat → Int32}
def MR (M M' : Nat → Nat → Int32) : Prop := (∀ i, i ≠ 0 → M' i = M i) ∧ ∀ i, i ≠ 7 → i ≠ 8 → i ≠ 9 → M' 0 i = M 0 i
theorem MR.rf (M : Nat → Nat → Int32) : MR M M := ⟨fun _ _ => rfl, fun _ _ _ _ => rfl⟩
theorem MR.up {M M' : Nat → Nat → Int32} (h : MR M M') {j : Nat} (hj : j = 7 ∨ j = 8 ∨ j = 9) (x : Int32) : MR M (up2 M' 0 j x) := ⟨fun i hi => by rw [up2_n hi]; exact h.1 i hi, fun i a1 a2 a3 => by rw [up2_s, upd_n (by omega)]; exact h.2 i a1 a2 a3⟩
theorem MR.tr {M M' M'' : Nat → Nat → Int32} (h : MR M M') (h' : MR M' M'') : MR M M'' := ⟨fun i hi => (h'.1 i hi).trans (h.1 i hi), fun i a1 a2 a3 => (h'.2 i a1 a2 a3).trans (h.2 i a1 a2 a3)⟩
theorem TM.mr {M M' : Nat → Nat → Int32} (h : TM b len M) (hr : MR M M') : TM b len M' := ⟨(hr.2 6 (by decide) (by decide) (by decide)).trans h.1, fun j hj => by rw [hr.1 4 (by decide)]; exact h.2 j hj⟩
theorem m_here (hl : len ≤ 90) (h : TM b len M) {j : Nat} (hj : j < 1000) (e : M 0 7 = nI j) : sX4_here K M = some (if j < len then nI (b j) else -1) := by
  unfold sX4_here
  rw [h.1, e]
  by_cases c : j < len
  · rw [if_neg (nleI c (by omega)), if_pos c, grd_i (show j < 90 by omega) (by decide), tnI (by omega), h.2 j c]
  · rw [if_pos (yleI (by omega) (by omega)), if_neg c]
theorem m_pass (hl : len ≤ 90) (hb : ∀ j, j < len → b j < 128) (h : TM b len M) {j v : Nat} (hj : j < 1000) (hv : v < 128) (e : M 0 7 = nI j) : sX4_passes K M (nI v) = some (if byB b len j v = true then 1 else 0, up2 M 0 7 (nI (if byB b len j v = true then j + 1 else j))) := by
  unfold sX4_passes
  rw [m_here hl h hj e, bind_e, e]
  by_cases c : byB b len j v = true
  · obtain ⟨c1, c2⟩ := byB_i.mp c
    rw [if_pos c1, c2, if_pos rfl, if_neg (by decide), olet_e, if_pos c, if_pos c, nI1]
  · rw [if_neg c, if_neg c, if_neg, if_pos rfl, olet_e, add0]
    intro q
    by_cases c1 : j < len
    · rw [if_pos c1] at q
      have b1 := hb j c1
      exact c (byB_i.mpr ⟨c1, (nI_eq (by omega) (by omega)).mp q⟩)
    · rw [if_neg c1] at q
      exact m1ne (by omega) q.symm
theorem m_dig (hl : len ≤ 90) (hb : ∀ j, j < len → b j < 128) {j : Nat} : sX4_in K M (if j < len then nI (b j) else (-1 : Int32)).toInt64 (48 : Int64) (57 : Int64) = some (if dgB b len j = true then 1 else 0) := by
  rw [in4, show (48 : Int64).toInt = 48 by decide, show (57 : Int64).toInt = 57 by decide]
  by_cases c1 : j < len
  · have b1 := hb j c1
    rw [if_pos c1, nI_toInt (by omega)]
    by_cases c : dgB b len j = true
    · have := dgB_i.mp c
      rw [if_pos c, if_pos (by omega)]
    · rw [if_neg c, if_neg]
      intro q
      exact c (dgB_i.mpr (by omega))
  · rw [if_neg c1, show (-1 : Int32).toInt = -1 by decide, if_neg (by omega), if_neg]
    intro q
    have := dgB_i.mp q
    omega
end MT
end TX2
