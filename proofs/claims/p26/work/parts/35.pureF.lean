/-! PURE, part F: the class's putCoin and the reference's feeds do the same -/
section CF
variable {K : Nat} {G : Nat → Nat → Int32} {f : Nat → Int32} {n : Nat}
theorem vdK {a j : Nat} (h1 : 1 ≤ a) (h2 : a ≤ 10) (h3 : j < 6) : vd a j := Or.inr (Or.inl ⟨h1, h2, h3⟩)
theorem vdB {j : Nat} (h3 : j < 36) : vd 11 j := Or.inr (Or.inr ⟨rfl, h3⟩)
theorem c_roll (hK : 4000 ≤ K) (h : SR G 1 f) {r : Nat} (hr : r ≤ 6) : ∃ G', sX2_rollOver K G (nI r) = some G' ∧ SR G' 1 (rollF f r) ∧ Oth G G' := by
  unfold sX2_rollOver
  have key : ∀ (m i a : Nat) (G1 : Nat → Nat → Int32), i + m = r → m < a → SR G1 1 (rollF f i) → Oth G G1 → ∃ G', sX2_rollOver_L2 K (nI r) a G1 (nI i) = some G' ∧ SR G' 1 (rollF f r) ∧ Oth G G' := by
    intro m
    induction m with
    | zero =>
      intro i a G1 hi ha h1 h2
      obtain ⟨b, rfl⟩ : ∃ b, a = b + 1 := ⟨a - 1, by omega⟩
      obtain rfl : i = r := by omega
      rw [sX2_rollOver_L2, if_pos (yleI (Nat.le_refl _) (by omega))]
      exact ⟨G1, rfl, h1, h2⟩
    | succ m ih =>
      intro i a G1 hi ha h1 h2
      obtain ⟨b, rfl⟩ : ∃ b, a = b + 1 := ⟨a - 1, by omega⟩
      have hi6 : i < 6 := by omega
      rw [sX2_rollOver_L2, if_neg (nleI (by omega) (by omega)), grd_i hi6 (by decide), grd_i hi6 (by decide), tnI (by omega), olet_e, nI1]
      refine ih (i + 1) b _ (by omega) (by omega) ?_ (h2.up 11 _ _ (by decide) (by decide))
      have e := h1.u 10 i (vdK (by decide) (by decide) hi6) (G1 11 i + 1)
      rw [h1.ro hi6] at e
      rw [h1.ro hi6]
      exact e
  exact key r 0 K G (by omega) (by omega) h (Oth.rf G)
theorem c_use (h : SR G 1 f) {r u g : Nat} (hr : r < 6) (hu : u ≤ 19) (eu : f (34 + 5 * r) = nI u) (g2 : g ≤ 4100) (eg : f (33 + 5 * r) = nI g) : ∃ G', sX2_useRail K G (nI r) = some G' ∧ SR G' 1 (usF f r) ∧ Oth G G' := by
  unfold sX2_useRail usF
  rw [grd_i hr (by decide), grd_i hr (by decide), tnI (by omega), olet_e, h.us hr, grd_i hr (by decide), up2_s, upd_s, eu, nI1]
  have h1 := h.u 7 r (vdK (by decide) (by decide) hr) (nI (u + 1))
  by_cases c : u + 1 = 20
  · rw [c, if_neg (show ¬ nI 20 < (20 : Int32) by decide), if_pos (show nI 20 = (20 : Int32) from rfl), grd_i hr (by decide), olet_e, grd_i hr (by decide), grd_i hr (by decide), up2_n (show 7 ≠ 8 by decide), up2_n (show 7 ≠ 8 by decide), h.gp hr, eg, nI1, olet_e]
    rw [c] at h1
    have h2 := h1.u 7 r (vdK (by decide) (by decide) hr) 0
    have ev : (if nI (g + 1) < (4100 : Int32) then nI (g + 1) else 4100) = if (4100 : Int32) ≤ nI g then nI g + 0 else nI (g + 1) := by
      show (if nI (g + 1) < nI 4100 then nI (g + 1) else nI 4100) = if nI 4100 ≤ nI g then nI g + 0 else nI (g + 1)
      by_cases z : g = 4100
      · subst z
        rw [if_neg (nltI (by omega) (by omega)), if_pos (yleI (Nat.le_refl _) (by omega)), add0]
      · rw [if_neg (nleI (by omega) (by omega))]
        by_cases z2 : g + 1 < 4100
        · rw [if_pos (yltI z2 (by omega))]
        · rw [if_neg (nltI (by omega) (by omega)), show g + 1 = 4100 by omega]
    rw [ev]
    exact ⟨_, rfl, h2.u 6 r (vdK (by decide) (by decide) hr) _, ((((Oth.rf G).up 8 _ _ (by decide) (by decide)).up 8 _ _ (by decide) (by decide)).up 7 _ _ (by decide) (by decide))⟩
  · rw [if_pos (show nI (u + 1) < 20 from yltI (b := 20) (by omega) (by decide)), if_neg (show ¬ nI (u + 1) = 20 from neI (b := 20) c (by omega) (by decide))]
    exact ⟨_, rfl, h1, (Oth.rf G).up 8 _ _ (by decide) (by decide)⟩
theorem c_put (hK : 4000 ≤ K) (h : SR G 1 f) (hS : SN f n) {k w : Nat} (hk : k < n) (hw : w ≤ 999) : ∃ G', sX2_putCoin K G (nI k) (nI w) = some (plc f k w 0 6, G') ∧ SR G' 1 (feF f k w) ∧ Oth G G' := by
  have hn := hS.n6
  have hk6 : k < 6 := by omega
  unfold sX2_putCoin
  rw [c_plc hK h hS hk hw, bind_e, grd_i hk6 (by decide), grd_i hk6 (by decide), tnI (by omega), olet_e, h.fd hk6]
  have h1 : SR (up2 G 5 k (f (6 + 5 * k) + 1)) 1 (fdF f k) := (h.u1 (f 1 + 1)).u 4 k (vdK (by decide) (by decide) hk6) (f (6 + 5 * k) + 1)
  have o1 : Oth G (up2 G 5 k (f (6 + 5 * k) + 1)) := (Oth.rf G).up 5 _ _ (by decide) (by decide)
  have s1 := hS.fd1 hk
  unfold feF
  generalize up2 G 5 k (f (6 + 5 * k) + 1) = G1 at h1 o1 ⊢
  rcases plc_of f k w 6 0 with e | ⟨x, -, hx, e | e, -, -, hc⟩
  · rw [e, enF_none, if_pos rfl]
    obtain ⟨G2, e2, h2, o2⟩ := c_roll (K := K) hK h1 (Nat.le_refl 6)
    rw [show sX2_rollOver K G1 (6 : Int32) = some G2 from e2, bind_e, grd_i hk6 (by decide), grd_i hk6 (by decide), olet_e, h2.rj hk6]
    exact ⟨_, rfl, h2.u 5 k (vdK (by decide) (by decide) hk6) _, (o1.tr o2).up 6 _ _ (by decide) (by decide)⟩
  · rw [e, enF_fall _ _ _ (by omega), if_neg (m1ne (by omega)), if_pos (show nI x < 10 from yltI (b := 10) (by omega) (by decide))]
    obtain ⟨G2, e2, h2, o2⟩ := c_roll (K := K) hK h1 (show x ≤ 6 by omega)
    have s2 := s1.roll x (by omega)
    rw [e2, bind_e, ix6, grd_i (by omega) (by decide), grd_i (by omega) (by decide), tnI (by omega), olet_e, h2.bg (by omega), ← Nat.add_assoc]
    have h3 := h2.u 11 (6 * x + k) (vdB (by omega)) (rollF (fdF f k) x (63 + 6 * x + k) + 1)
    have h3 : SR (up2 G2 12 (6 * x + k) (rollF (fdF f k) x (63 + 6 * x + k) + 1)) 1 (upd (rollF (fdF f k) x) (63 + 6 * x + k) (rollF (fdF f k) x (63 + 6 * x + k) + 1)) := by
      have e9 : fx 11 (6 * x + k) = 63 + 6 * x + k := by
        show 63 + (6 * x + k) = _
        omega
      rw [e9] at h3
      exact h3
    have s3 := s2.bag1 (r0 := x) (k0 := k) (by omega) hk (by rw [rollF_cIn _ _ (by omega), fdF_cIn _ _ hk6]; exact hc)
    obtain ⟨u, hu, eu⟩ := s3.us (show x < 6 by omega)
    obtain ⟨g, -, g2, eg⟩ := s3.gp (show x < 6 by omega)
    obtain ⟨G4, e4, h4, o4⟩ := c_use (K := K) h3 (show x < 6 by omega) hu eu g2 eg
    rw [e4, bind_e]
    exact ⟨_, rfl, h4, ((o1.tr o2).up 12 _ _ (by decide) (by decide)).tr o4⟩
  · have hx6 : x < 6 := by omega
    rw [e, enF_stuck _ _ _ hx6, if_neg (m1ne (by omega)), if_neg (show ¬ nI (10 + x) < 10 from nltI (b := 10) (by omega) (by omega))]
    have es : nI (10 + x) - (10 : Int32) = nI x := by
      show nI (10 + x) - nI 10 = _
      rw [pk_sub (by omega), Nat.add_sub_cancel_left]
    rw [es]
    obtain ⟨G2, e2, h2, o2⟩ := c_roll (K := K) hK h1 (show x ≤ 6 by omega)
    rw [e2, bind_e, grd_i hx6 (by decide), tnI (by omega), olet_e, c_wearAt hw hx6, bind_e, grd_i hx6 (by decide), olet_e]
    exact ⟨_, rfl, (h2.u 8 x (vdK (by decide) (by decide) hx6) (nI k)).u 9 x (vdK (by decide) (by decide) hx6) (nI (wrs w x)), ((o1.tr o2).up 9 _ _ (by decide) (by decide)).up 10 _ _ (by decide) (by decide)⟩
end CF
section MF
variable {K : Nat} {M : Nat → Nat → Int32} {n : Nat}
end MF

