/-! PURE, part D: where a coin goes; what feeding it does -/
theorem upd_s (f : Nat → Int32) (i : Nat) (x : Int32) : upd f i x i = x := if_pos rfl
theorem upd_n {f : Nat → Int32} {i j : Nat} {x : Int32} (h : j ≠ i) : upd f i x j = f j := if_neg h
/-- the vector's place of the class's cell a, place j -/
def fx (a j : Nat) : Nat := if a = 0 then (if j = 0 then 0 else 2) else if a ≤ 5 then 2 + a + 5 * j else if a ≤ 10 then 27 + a + 5 * j else 63 + j
def vd (a j : Nat) : Prop := (a = 0 ∧ (j = 0 ∨ j = 12)) ∨ (1 ≤ a ∧ a ≤ 10 ∧ j < 6) ∨ (a = 11 ∧ j < 36)
theorem fx_inj {a j a' j' : Nat} (h : vd a j) (h' : vd a' j') (e : fx a j = fx a' j') : a = a' ∧ j = j' := by
  unfold fx at e
  unfold vd at h h'
  split at e <;> (try split at e) <;> (try split at e) <;> (try split at e) <;> (try split at e) <;> (try split at e) <;> omega
theorem SR.all {G : Nat → Nat → Int32} {b : Nat} {f : Nat → Int32} (h : SR G b f) : ∀ a j, vd a j → G (b + a) j = f (fx a j) := by
  intro a j hv
  obtain ⟨h1, h2, h3, h4, h5⟩ := h
  rcases hv with ⟨rfl, rfl | rfl⟩ | ⟨ha, hb, hj⟩ | ⟨rfl, hj⟩
  · exact h1
  · exact h2
  · have hc : a = 1 ∨ a = 2 ∨ a = 3 ∨ a = 4 ∨ a = 5 ∨ a = 6 ∨ a = 7 ∨ a = 8 ∨ a = 9 ∨ a = 10 := by omega
    obtain ⟨k1, k2, k3, k4, k5⟩ := h3 j hj
    obtain ⟨r1, r2, r3, r4, r5⟩ := h4 j hj
    rcases hc with rfl | rfl | rfl | rfl | rfl | rfl | rfl | rfl | rfl | rfl
    · exact k1
    · exact k2
    · exact k3
    · exact k4
    · exact k5
    · exact r1
    · exact r2
    · exact r3
    · exact r4
    · exact r5
  · exact h5 j hj
theorem SR.of {G : Nat → Nat → Int32} {b : Nat} {f : Nat → Int32} (h : ∀ a j, vd a j → G (b + a) j = f (fx a j)) : SR G b f := by
  have z : ∀ a j, 1 ≤ a → a ≤ 10 → j < 6 → G (b + a) j = f (fx a j) := fun a j h1 h2 h3 => h a j (Or.inr (Or.inl ⟨h1, h2, h3⟩))
  exact ⟨h 0 0 (Or.inl ⟨rfl, Or.inl rfl⟩), h 0 12 (Or.inl ⟨rfl, Or.inr rfl⟩),
    fun k hk => ⟨z 1 k (by decide) (by decide) hk, z 2 k (by decide) (by decide) hk, z 3 k (by decide) (by decide) hk, z 4 k (by decide) (by decide) hk, z 5 k (by decide) (by decide) hk⟩,
    fun k hk => ⟨z 6 k (by decide) (by decide) hk, z 7 k (by decide) (by decide) hk, z 8 k (by decide) (by decide) hk, z 9 k (by decide) (by decide) hk, z 10 k (by decide) (by decide) hk⟩,
    fun j hj => h 11 j (Or.inr (Or.inr ⟨rfl, hj⟩))⟩
theorem SR.u {G : Nat → Nat → Int32} {b : Nat} {f : Nat → Int32} (h : SR G b f) (a j : Nat) (hv : vd a j) (x : Int32) : SR (up2 G (b + a) j x) b (upd f (fx a j) x) := by
  refine SR.of fun a' j' hv' => ?_
  by_cases e : a' = a
  · subst e
    rw [up2_s]
    by_cases e2 : j' = j
    · subst e2
      rw [upd_s, upd_s]
    · rw [upd_n e2, upd_n (fun z => e2 (fx_inj hv' hv z).2)]
      exact h.all a' j' hv'
  · rw [up2_n (by omega), upd_n (fun z => e (fx_inj hv' hv z).1)]
    exact h.all a' j' hv'
theorem SR.congr {G : Nat → Nat → Int32} {b : Nat} {f g : Nat → Int32} (h : SR G b f) (e : ∀ a j, vd a j → g (fx a j) = f (fx a j)) : SR G b g := SR.of fun a j hv => (h.all a j hv).trans (e a j hv).symm
theorem fx_ne1 {a j : Nat} (h : vd a j) : fx a j ≠ 1 := by
  unfold fx
  unfold vd at h
  split <;> (try split) <;> (try split) <;> omega
theorem SR.u1 {G : Nat → Nat → Int32} {b : Nat} {f : Nat → Int32} (h : SR G b f) (x : Int32) : SR G b (upd f 1 x) := h.congr fun _ _ hv => upd_n (fx_ne1 hv)
/-- the class's cells but the present state's -/
def Oth (G G' : Nat → Nat → Int32) : Prop := ∀ i, (i = 0 ∨ 13 ≤ i) → G' i = G i
theorem Oth.rf (G : Nat → Nat → Int32) : Oth G G := fun _ _ => rfl
theorem Oth.tr {G G' G'' : Nat → Nat → Int32} (h : Oth G G') (h' : Oth G' G'') : Oth G G'' := fun i hi => (h' i hi).trans (h i hi)
theorem Oth.up {G G' : Nat → Nat → Int32} (h : Oth G G') (c j : Nat) (x : Int32) (h1 : 1 ≤ c) (h2 : c ≤ 12) : Oth G (up2 G' c j x) := fun i hi => (up2_n (by omega)).trans (h i hi)
def MO (M M' : Nat → Nat → Int32) : Prop := ∀ i, i ≠ 1 → M' i = M i
theorem MO.rf (M : Nat → Nat → Int32) : MO M M := fun _ _ => rfl
theorem MO.up {M M' : Nat → Nat → Int32} (h : MO M M') (j : Nat) (x : Int32) : MO M (up2 M' 1 j x) := fun i hi => (up2_n hi).trans (h i hi)
theorem MO.tr {G G' G'' : Nat → Nat → Int32} (h : MO G G') (h' : MO G' G'') : MO G G'' := fun i hi => (h' i hi).trans (h i hi)
/-- the wear at a rail; the size there; the gap's spare -/
def wrs (w r : Nat) : Nat := if w + r < 999 then w + r else 999
def szN (f : Nat → Int32) (k w r : Nat) : Nat := (f (3 + 5 * k)).toNatClampNeg - wrs w r
def spr (f : Nat → Int32) (k w r : Nat) : Int32 := f (33 + 5 * r) - nI (szN f k w r)
def rll (f : Nat → Int32) (k w r : Nat) : Prop := spr f k w r ≤ 0 ∨ ¬ f (35 + 5 * r) = -1 ∨ ¬ cIn f r < 40
/-- where a coin goes, from rail r on, m rails -/
def plc (f : Nat → Int32) (k w : Nat) : Nat → Nat → Int32
  | _, 0 => -1
  | r, m + 1 => if spr f k w r ≤ 0 then plc f k w (r + 1) m else if ¬ f (35 + 5 * r) = -1 then plc f k w (r + 1) m else if ¬ cIn f r < 40 then plc f k w (r + 1) m else if 5 ≤ spr f k w r then nI r else nI (10 + r)
theorem plc_of (f : Nat → Int32) (k w : Nat) : ∀ m r, plc f k w r m = -1 ∨ ∃ x, r ≤ x ∧ x < r + m ∧ (plc f k w r m = nI x ∨ plc f k w r m = nI (10 + x)) ∧ ¬ spr f k w x ≤ 0 ∧ f (35 + 5 * x) = -1 ∧ cIn f x < 40
  | 0, _ => Or.inl rfl
  | m + 1, r => by
    have up : (plc f k w (r + 1) m = -1 ∨ ∃ x, r + 1 ≤ x ∧ x < r + 1 + m ∧ (plc f k w (r + 1) m = nI x ∨ plc f k w (r + 1) m = nI (10 + x)) ∧ ¬ spr f k w x ≤ 0 ∧ f (35 + 5 * x) = -1 ∧ cIn f x < 40) := plc_of f k w m (r + 1)
    have up2' : plc f k w r (m + 1) = plc f k w (r + 1) m → plc f k w r (m + 1) = -1 ∨ ∃ x, r ≤ x ∧ x < r + (m + 1) ∧ (plc f k w r (m + 1) = nI x ∨ plc f k w r (m + 1) = nI (10 + x)) ∧ ¬ spr f k w x ≤ 0 ∧ f (35 + 5 * x) = -1 ∧ cIn f x < 40 := fun e => by
      rw [e]
      rcases up with z | ⟨x, h1, h2, h3⟩
      · exact Or.inl z
      · exact Or.inr ⟨x, by omega, by omega, h3⟩
    by_cases a1 : spr f k w r ≤ 0
    · exact up2' (if_pos a1)
    · by_cases a2 : f (35 + 5 * r) = -1
      · by_cases a3 : cIn f r < 40
        · refine Or.inr ⟨r, Nat.le_refl _, by omega, ?_, a1, a2, a3⟩
          have e : plc f k w r (m + 1) = if 5 ≤ spr f k w r then nI r else nI (10 + r) := by
            show (if spr f k w r ≤ 0 then _ else _) = _
            rw [if_neg a1, if_neg (fun z => z a2), if_neg (fun z => z a3)]
          rw [e]
          by_cases a4 : 5 ≤ spr f k w r
          · exact Or.inl (if_pos a4)
          · exact Or.inr (if_neg a4)
        · refine up2' ?_
          show (if spr f k w r ≤ 0 then _ else _) = _
          rw [if_neg a1, if_neg (fun z => z a2), if_pos a3]
      · refine up2' ?_
        show (if spr f k w r ≤ 0 then _ else _) = _
        rw [if_neg a1, if_pos a2]
section CP
variable {K : Nat} {G : Nat → Nat → Int32} {f : Nat → Int32} {n : Nat}
theorem c_wearAt {w r : Nat} (hw : w ≤ 999) (hr : r < 6) : sX2_wearAt K G (nI r) (nI w) = some (nI (wrs w r)) := by
  unfold sX2_wearAt wrs
  rw [nI_add]
  show some (if nI (w + r) < nI 999 then _ else nI 999) = _
  by_cases h : w + r < 999
  · rw [if_pos h, if_pos (yltI h (by decide))]
  · rw [if_neg h, if_neg (nltI (by omega) (by omega))]
theorem wrs_le (w r : Nat) : wrs w r ≤ 999 := by
  unfold wrs
  split <;> omega
theorem c_size (h : SR G 1 f) (hS : SN f n) {k w r : Nat} (hk : k < n) : sX2_size K G (nI k) (nI (wrs w r)) = some (nI (szN f k w r)) := by
  have hn := hS.n6
  have hw := wrs_le w r
  obtain ⟨d, h1, h2, h3⟩ := hS.dm hk
  unfold sX2_size szN
  rw [grd_i (by omega) (by decide), tnI (by omega), h.dm (by omega), h3, tnI (by omega), pk_sub (by omega)]
  show some (if nI 1 < nI (d - wrs w r) then nI (d - wrs w r) else nI 1) = _
  by_cases e : 1 < d - wrs w r
  · rw [if_pos (yltI e (by omega))]
  · rw [if_neg (nltI (by omega) (by omega)), show d - wrs w r = 1 by omega]
theorem c_plc (hK : 4000 ≤ K) (h : SR G 1 f) (hS : SN f n) {k w : Nat} (hk : k < n) (hw : w ≤ 999) : sX2_placeFor K G (nI k) (nI w) = some (plc f k w 0 6) := by
  unfold sX2_placeFor
  have key : ∀ (m i a : Nat), i + m = 6 → m < a → sX2_placeFor_L2 K G (nI k) (nI w) a (nI i) = some (plc f k w i m) := by
    intro m
    induction m with
    | zero =>
      intro i a hi ha
      obtain ⟨b, rfl⟩ : ∃ b, a = b + 1 := ⟨a - 1, by omega⟩
      obtain rfl : i = 6 := by omega
      rw [sX2_placeFor_L2, if_pos y6]
      rfl
    | succ m ih =>
      intro i a hi ha
      obtain ⟨b, rfl⟩ : ∃ b, a = b + 1 := ⟨a - 1, by omega⟩
      have hi6 : i < 6 := by omega
      have ihb := ih (i + 1) b (by omega) (by omega)
      rw [sX2_placeFor_L2, if_neg (n6 hi6), grd_i hi6 (by decide), c_wearAt hw hi6, bind_e, c_size h hS hk, bind_e, tnI (by omega), h.gp hi6, nI1]
      show (if spr f k w i ≤ 0 then _ else _) = some (if spr f k w i ≤ 0 then _ else _)
      by_cases a1 : spr f k w i ≤ 0
      · rw [if_pos a1, if_pos a1, if_neg (by decide), ihb]
      · rw [if_neg a1, if_neg a1, c_isStuck h hi6, bind_e]
        by_cases a2 : f (35 + 5 * i) = -1
        · rw [if_pos a2, if_pos rfl, if_neg (show ¬ ¬ f (35 + 5 * i) = -1 from fun z => z a2), c_isFull hK h hi6, bind_e]
          by_cases a3 : cIn f i < 40
          · rw [if_pos a3, if_pos rfl, if_pos rfl, if_neg (show ¬ ¬ cIn f i < 40 from fun z => z a3)]
            show (if 5 ≤ spr f k w i then some (nI i) else some ((10 : Int32) + nI i)) = _
            by_cases a4 : 5 ≤ spr f k w i
            · rw [if_pos a4, if_pos a4]
            · rw [if_neg a4, if_neg a4]
              show some (nI 10 + nI i) = _
              rw [nI_add]
          · rw [if_neg a3, if_neg (by decide), if_neg (by decide), if_pos a3, ihb]
        · rw [if_neg a2, if_neg (by decide), if_neg (by decide), if_pos a2, ihb]
  exact key 6 0 K (by omega) (by omega)
end CP

