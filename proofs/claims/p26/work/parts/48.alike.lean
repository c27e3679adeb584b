/-! PURE, part V: turned states are alike -/
section AL
variable {K : Nat} {G P : Nat → Nat → Int32} {f g : Nat → Int32}
theorem al_179 (hK : 4000 ≤ K) (hG : St G f 4) (hP : St P g 4) (T : Turn f g) (hm : Hm f) : sL_areAlike_L179 K G P K 0 (0 : Int32) 0 = some () := by
  have p1 : ∀ (k : Nat), k < 4 → ∀ (m i y : Nat), i + m = 7 → m < y → sL_areAlike_L179 K G P y 1 (nI k) (nI i) = sL_areAlike_L179 K G P (y - m) 1 (nI k) (nI 7) := by
    intro k hk m
    induction m with
    | zero =>
      intro i y hi hy
      obtain rfl : i = 7 := by omega
      rfl
    | succ m ih =>
      intro i y hi hy
      obtain ⟨z, rfl⟩ : ∃ z, y = z + 1 := ⟨y - 1, by omega⟩
      rw [sL_areAlike_L179, if_neg (show ¬ (7 : Int32) ≤ nI i from nleI (a := 7) (by omega) (by decide)), o_kind hK hG hk (by omega), bind_e, show (3 : Int32) - nI k = nI (3 - k) from pk_sub (a := 3) (by omega), o_kind hK hP (by omega) (by omega), bind_e, grd_t (decide_eq_true (T.t_abK hk (by omega)).symm), nI1]
      have := ih (i + 1) z (by omega) (by omega)
      rw [show z + 1 - (m + 1) = z - m by omega]
      exact this
  have key : ∀ (m i y : Nat), i + m = 4 → (m + 1) * 10 ≤ y → sL_areAlike_L179 K G P y 0 (nI i) 0 = some () := by
    intro m
    induction m with
    | zero =>
      intro i y hi hy
      obtain ⟨z, rfl⟩ : ∃ z, y = z + 1 := ⟨y - 1, by omega⟩
      obtain rfl : i = 4 := by omega
      rw [sL_areAlike_L179, if_pos (show (4 : Int32) ≤ nI 4 by decide)]
    | succ m ih =>
      intro i y hi hy
      have hi4 : i < 4 := by omega
      obtain ⟨z, rfl⟩ : ∃ z, y = z + 1 := ⟨y - 1, by omega⟩
      obtain ⟨w, ew⟩ : ∃ w, z - 7 = w + 1 := ⟨z - 8, by omega⟩
      have h3 : 3 - (3 - i) = i := by omega
      have hh : f (5 + 5 * i) = nI i := hm i hi4
      have hh2 : g (5 + 5 * (3 - i)) = nI i := by rw [T.hm (by omega), h3]; exact hh
      obtain ⟨c, hc⟩ := mwN_ex f i
      have es : ∃ s, sX3_supply K G (nI i) = some s ∧ sX3_supply K P (nI (3 - i)) = some s := by
        rcases o_supply hK hG hi4 (show i < 6 by omega) hh with ⟨a, b⟩ | ⟨a, b⟩
        · rcases o_supply hK hP (k := 3 - i) (by omega) (show i < 6 by omega) hh2 with ⟨a2, b2⟩ | ⟨a2, b2⟩
          · exact ⟨_, b, by rw [b2, T.t_cIn]⟩
          · exact absurd ((T.t_fH hi4 0).mpr a) a2
        · rcases o_supply hK hP (k := 3 - i) (by omega) (show i < 6 by omega) hh2 with ⟨a2, b2⟩ | ⟨a2, b2⟩
          · exact absurd ((T.t_fH hi4 0).mp a2) a
          · exact ⟨_, b, b2⟩
      obtain ⟨sv, s1, s2⟩ := es
      have ec : g (63 + 6 * i + (3 - i)) = f (63 + 6 * i + i) := by rw [T.bg (by omega), h3]
      rw [sL_areAlike_L179, if_neg (show ¬ (4 : Int32) ≤ nI i from nleI (a := 4) hi4 (by decide)), show sL_areAlike_L179 K G P z 1 (nI i) (0 : Int32) = _ from p1 i hi4 7 0 z (by omega) (by omega), ew, sL_areAlike_L179, if_pos (show (7 : Int32) ≤ nI 7 by decide), s1, bind_e, show (3 : Int32) - nI i = nI (3 - i) from pk_sub (a := 3) (by omega), s2, bind_e, grd_t (decide_eq_true rfl), o_mostWear hK hG hi4 hc, bind_e, o_mostWear hK hP (by omega) (T.t_mwN hi4 hc), bind_e, grd_t (decide_eq_true rfl), o_count K hG (by omega) hi4, bind_e, o_count K hP (by omega) (by omega), bind_e, grd_t (decide_eq_true ec.symm), nI1]
      exact ih (i + 1) w (by omega) (by omega)
  exact key 4 0 K (by omega) (by omega)
theorem al_57 (hK : 4000 ≤ K) (hG : St G f 4) (hP : St P g 4) (T : Turn f g) (hm : Hm f) : sL_areAlike_L57 K G P K 0 (0 : Int32) 0 = some () := by
  have tkl : ∀ {x y : Int32} (h : tk x y), (¬ 0 ≤ x ∧ x = y) ∨ (0 ≤ x ∧ (3 : Int32) - x = y) := fun {x y} h => by
    rcases h with ⟨a, b⟩ | ⟨k, hk, a, b⟩
    · exact Or.inl ⟨by rw [a]; decide, by rw [a, b]⟩
    · exact Or.inr ⟨by rw [a]; exact nI_pos' (by omega), by rw [a, b]; exact pk_sub (a := 3) (by omega)⟩
  have p1 : ∀ (r : Nat), r < 6 → ∀ (m i y : Nat), i + m = 10 → m < y → sL_areAlike_L57 K G P y 1 (nI r) (nI i) = sL_areAlike_L57 K G P (y - m) 1 (nI r) (nI 10) := by
    intro r hr m
    induction m with
    | zero =>
      intro i y hi hy
      obtain rfl : i = 10 := by omega
      rfl
    | succ m ih =>
      intro i y hi hy
      obtain ⟨z, rfl⟩ : ∃ z, y = z + 1 := ⟨y - 1, by omega⟩
      have := ih (i + 1) z (by omega) (by omega)
      rw [show z + 1 - (m + 1) = z - m by omega, ← this]
      rw [sL_areAlike_L57, if_neg (show ¬ (10 : Int32) ≤ nI i from nleI (a := 10) (by omega) (by decide)), o_rail hK hG hr (by omega), bind_e, nI1, o_rail hK hP hr (by omega)]
      by_cases c3 : i = 3
      · subst c3
        rw [if_pos (show nI 3 = (3 : Int32) from rfl)]
        rcases tkl (show tk (abR f 4 r 3) (abR g 4 r 3) from T.2 r hr) with ⟨a, b⟩ | ⟨a, b⟩
        · rw [if_neg a, bind_e, grd_t (decide_eq_true b)]
        · rw [if_pos a, bind_e, grd_t (decide_eq_true b)]
      · rw [if_neg (show ¬ nI i = (3 : Int32) from neI (b := 3) c3 (by omega) (by omega))]
        by_cases c8 : i = 8
        · subst c8
          rw [if_pos (show nI 8 = (8 : Int32) from rfl)]
          rcases tkl (show tk (abR f 4 r 8) (abR g 4 r 8) from (T.t_due hm hr).1) with ⟨a, b⟩ | ⟨a, b⟩
          · rw [if_neg a, bind_e, grd_t (decide_eq_true b)]
          · rw [if_pos a, bind_e, grd_t (decide_eq_true b)]
        · rw [if_neg (show ¬ nI i = (8 : Int32) from neI (b := 8) c8 (by omega) (by omega)), bind_e, grd_t (decide_eq_true (T.t_abR hm hr (by omega) c3 c8).symm)]
  have key : ∀ (m i y : Nat), i + m = 6 → (m + 1) * 13 ≤ y → sL_areAlike_L57 K G P y 0 (nI i) 0 = some () := by
    intro m
    induction m with
    | zero =>
      intro i y hi hy
      obtain ⟨z, rfl⟩ : ∃ z, y = z + 1 := ⟨y - 1, by omega⟩
      obtain rfl : i = 6 := by omega
      rw [sL_areAlike_L57, if_pos (show (6 : Int32) ≤ nI 6 by decide)]
      exact al_179 hK hG hP T hm
    | succ m ih =>
      intro i y hi hy
      obtain ⟨z, rfl⟩ : ∃ z, y = z + 1 := ⟨y - 1, by omega⟩
      obtain ⟨w, ew⟩ : ∃ w, z - 10 = w + 1 := ⟨z - 11, by omega⟩
      rw [sL_areAlike_L57, if_neg (n6 (show i < 6 by omega)), show sL_areAlike_L57 K G P z 1 (nI i) (0 : Int32) = _ from p1 i (by omega) 10 0 z (by omega) (by omega), ew, sL_areAlike_L57, if_pos (show (10 : Int32) ≤ nI 10 by decide), o_bestGap hK hG (by omega), bind_e, o_bestGap hK hP (by omega), bind_e, grd_t (decide_eq_true (T.t_bg hG.2.1 hP.2.1 (by omega)).symm), nI1]
      exact ih (i + 1) w (by omega) (by omega)
  exact key 6 0 K (by omega) (by omega)
theorem p_alike (hK : 4000 ≤ K) (hG : St G f 4) (hP : St P g 4) (T : Turn f g) (hm : Hm f) : sL_areAlike K G P = some () := by
  unfold sL_areAlike
  rw [o_rt hK hG, bind_e, o_rt hK hP, bind_e, T.t_rt, grd_t (decide_eq_true (rtG_eq (rt_good hG.2.1).1))]
  refine lpn (N := 10) (P := fun m j => sL_areAlike_L20 K G P m (nI j)) ?_ ?_ K 0 (by omega) (by omega)
  · intro n j hj
    show sL_areAlike_L20 K G P (n + 1) (nI j) = sL_areAlike_L20 K G P n (nI (j + 1))
    rw [sL_areAlike_L20, if_neg (show ¬ (10 : Int32) ≤ nI j from nleI (a := 10) hj (by decide)), o_value hK hG hj, bind_e, o_value hK hP hj, bind_e, grd_t (decide_eq_true (T.t_abA hm hj).symm), nI1]
  · intro n
    show sL_areAlike_L20 K G P (n + 1) (nI 10) = _
    rw [sL_areAlike_L20, if_pos (show (10 : Int32) ≤ nI 10 by decide)]
    exact al_57 hK hG hP T hm
end AL
