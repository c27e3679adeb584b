/-! PURE, part Z: the law's four kinds; the first states; the law's end -/
section KD
variable {K L : Nat} {xs : Nat → Int32} {G P : Nat → Nat → Int32}
theorem p_cell (K : Nat) (hL : L ≤ 260) (xs : Nat → Int32) {j : Nat} (hj : j < 1000) : ∃ v, sL_cell K L xs (nI j) = some v := by
  unfold sL_cell
  show ∃ v, (if nI L ≤ nI j then _ else _) = some v
  by_cases c : L ≤ j
  · rw [if_pos (yleI c (by omega))]
    exact ⟨_, rfl⟩
  · rw [if_neg (nleI (by omega) (by omega)), grd_i (by omega) (by omega)]
    exact ⟨_, rfl⟩
theorem iM_z {i : Nat} (h : i < 33 ∨ 63 ≤ i) : ∀ n, n ≤ 6 → iM n 1 i = 0
  | 0, _ => rfl
  | n + 1, hn => by
    show up2 (up2 (up2 (iM n) 1 (33 + 5 * n) (nI (1500 + 400 * n))) 1 (35 + 5 * n) (-1)) 1 (36 + 5 * n) (-1) 1 i = 0
    rw [up2_s, upd_n (by omega), up2_s, upd_n (by omega), up2_s, upd_n (by omega)]
    exact iM_z h n (by omega)
theorem iM_tau (i : Nat) : iM 6 1 (tau i) = iM 6 1 i := by
  by_cases h1 : 3 ≤ i ∧ i < 23
  · have e : i = 3 + 5 * ((i - 3) / 5) + (i - 3) % 5 := by omega
    have h2 : tau i = 3 + 5 * (3 - (i - 3) / 5) + (i - 3) % 5 := if_pos h1
    rw [iM_z (i := tau i) (by omega) 6 (Nat.le_refl _), iM_z (i := i) (by omega) 6 (Nat.le_refl _)]
  · by_cases h3 : 63 ≤ i ∧ (i - 63) % 6 < 4
    · have h2 : tau i = 63 + 6 * ((i - 63) / 6) + (3 - (i - 63) % 6) := by
        unfold tau
        rw [if_neg h1, if_pos h3]
      rw [iM_z (i := tau i) (by omega) 6 (Nat.le_refl _), iM_z (i := i) (by omega) 6 (Nat.le_refl _)]
    · have h2 : tau i = i := by
        unfold tau
        rw [if_neg h1, if_neg h3]
      rw [h2]
theorem St0 : St GC (iM 6 1) 0 := ⟨SR0, SN0, 0, 0, by omega, by omega, by decide +kernel, by decide +kernel⟩
theorem z0W : ∀ r, r < 6 → iM 6 1 (36 + 5 * r) = -1 := by decide +kernel
theorem z0T : tot (iM 6 1) = 0 := by decide +kernel
/-- n kinds: d, v, x of each; all else as at the start -/
def AK (f : Nat → Int32) (d v x : Nat → Nat) (n : Nat) : Prop := (∀ k, k < n → f (3 + 5 * k) = nI (d k) ∧ f (4 + 5 * k) = nI (v k) ∧ f (5 + 5 * k) = nI (x k)) ∧ ∀ i, i ≠ 0 → ¬ (3 ≤ i ∧ i < 3 + 5 * n ∧ (i - 3) % 5 < 3) → f i = iM 6 1 i
theorem AK.more {f : Nat → Int32} {d v x : Nat → Nat} {n : Nat} (h : AK f d v x n) : AK (akF f n (d n) (v n) (x n)) d v x (n + 1) := by
  refine ⟨fun k hk => ?_, fun i h0 hi => ?_⟩
  · unfold akF
    by_cases q : k = n
    · subst q
      refine ⟨?_, ?_, ?_⟩
      · rw [upd_n (by omega), upd_n (by omega), upd_n (by omega), upd_s]
      · rw [upd_n (by omega), upd_n (by omega), upd_s]
      · rw [upd_n (by omega), upd_s]
    · have z := h.1 k (by omega)
      refine ⟨?_, ?_, ?_⟩
      · rw [upd_n (by omega), upd_n (by omega), upd_n (by omega), upd_n (by omega)]; exact z.1
      · rw [upd_n (by omega), upd_n (by omega), upd_n (by omega), upd_n (by omega)]; exact z.2.1
      · rw [upd_n (by omega), upd_n (by omega), upd_n (by omega), upd_n (by omega)]; exact z.2.2
  · unfold akF
    rw [upd_n (by omega), upd_n (by omega), upd_n (by omega), upd_n (by omega)]
    exact h.2 i h0 (by omega)
theorem AK.turn {f g : Nat → Int32} {d v : Nat → Nat} (hf : AK f d v (fun k => k) 4) (hg : AK g (fun k => d (3 - k)) (fun k => v (3 - k)) (fun k => 3 - k) 4) (h0 : f 0 = nI 4) (k0 : g 0 = nI 4) : Turn f g ∧ Gd f := by
  have fz : ∀ i, i ≠ 0 → ¬ (3 ≤ i ∧ i < 23 ∧ (i - 3) % 5 < 3) → f i = iM 6 1 i := hf.2
  have gz : ∀ i, i ≠ 0 → ¬ (3 ≤ i ∧ i < 23 ∧ (i - 3) % 5 < 3) → g i = iM 6 1 i := hg.2
  refine ⟨⟨fun i hi => ?_, fun r hr => ?_⟩, fun k hk => (hf.1 k hk).2.2, fun r hr => ?_, ?_⟩
  · by_cases q0 : i = 0
    · subst q0
      rw [k0, tau_o (by omega), h0]
    · by_cases q : 3 ≤ i ∧ i < 23 ∧ (i - 3) % 5 < 3
      · obtain ⟨k, c, hk, hc, rfl⟩ : ∃ k c, k < 4 ∧ c < 3 ∧ i = 3 + 5 * k + c := ⟨(i - 3) / 5, (i - 3) % 5, by omega, by omega, by omega⟩
        obtain ⟨a1, a2, a3⟩ := hg.1 k hk
        obtain ⟨b1, b2, b3⟩ := hf.1 (3 - k) (by omega)
        rw [tau_k hk (by omega)]
        have hc3 : c = 0 ∨ c = 1 ∨ c = 2 := by omega
        rcases hc3 with rfl | rfl | rfl
        · exact a1.trans b1.symm
        · rw [show 3 + 5 * k + 1 = 4 + 5 * k by omega, show 3 + 5 * (3 - k) + 1 = 4 + 5 * (3 - k) by omega]
          exact a2.trans b2.symm
        · rw [show 3 + 5 * k + 2 = 5 + 5 * k by omega, show 3 + 5 * (3 - k) + 2 = 5 + 5 * (3 - k) by omega]
          exact a3.trans b3.symm
      · have t0 : tau i ≠ 0 := fun e => q0 (tau_inj (e.trans (tau_o (i := 0) (by omega)).symm))
        have t1 : ¬ (3 ≤ tau i ∧ tau i < 23 ∧ (tau i - 3) % 5 < 3) := fun ⟨z1, z2, z3⟩ => q (by
          have e : tau i = 3 + 5 * ((tau i - 3) / 5) + (tau i - 3) % 5 := by omega
          have e2 : tau (tau i) = 3 + 5 * (3 - (tau i - 3) / 5) + (tau i - 3) % 5 := if_pos ⟨z1, z2⟩
          rw [tau_tau] at e2
          omega)
        rw [gz i q0 q, fz _ t0 t1, iM_tau]
  · rw [fz _ (by omega) (by omega), gz _ (by omega) (by omega)]
    exact Or.inl ⟨(z0S r hr).1, (z0S r hr).1⟩
  · rw [fz _ (by omega) (by omega), fz _ (by omega) (by omega)]
    exact Or.inl ⟨(z0S r hr).1, z0W r hr⟩
  · rw [fz 1 (by omega) (by omega), iM_z (i := 1) (by omega) 6 (Nat.le_refl _)]
    rw [show tot f = tot (iM 6 1) from tot_congr (fun j hj => fz _ (by omega) (by omega)) (fun r hr => fz _ (by omega) (by omega)) (fun k hk => fz _ (by omega) (by omega)) (fz _ (by omega) (by omega)), z0T]
theorem p_kinds (hK : 4000 ≤ K) (hL : L ≤ 260) (xs : Nat → Int32) : ∃ G P, sL_kinds K L xs GC GC = some (G, P) ∧ Iv G P := by
  have H : ∀ k : Nat, ∃ z : Int32 × Nat × Nat, k < 4 → sL_cell K L xs (nI k) = some z.1 ∧ sL_up K z.1 (2800 : Int32) = some (nI z.2.1) ∧ z.2.1 < 2800 ∧ sL_up K (z.1 >>> ((4 : Int32) &&& 31)) (500 : Int32) = some (nI z.2.2) ∧ z.2.2 < 500 := fun k => by
    by_cases hk : k < 4
    · obtain ⟨c, hc⟩ := p_cell K hL xs (j := k) (by omega)
      obtain ⟨d, d1, d2⟩ := p_up K c (n := 2800) (by decide) (by decide)
      obtain ⟨w, w1, w2⟩ := p_up K (c >>> ((4 : Int32) &&& 31)) (n := 500) (by decide) (by decide)
      exact ⟨(c, d, w), fun _ => ⟨hc, d2, d1, w2, w1⟩⟩
    · exact ⟨(0, 0, 0), fun z => absurd z hk⟩
  obtain ⟨Z, hZ⟩ := Classical.skolem.mp H
  have key : ∀ (m i y : Nat) (G P : Nat → Nat → Int32) (f g : Nat → Int32), i + m = 4 → m < y → St G f i → St P g i → AK f (fun k => 1200 + (Z k).2.1) (fun k => 1 + (Z k).2.2) (fun k => k) i → AK g (fun k => 1200 + (Z (3 - k)).2.1) (fun k => 1 + (Z (3 - k)).2.2) (fun k => 3 - k) i → ∃ G' P', sL_kinds_L5 K L xs y G P (nI i) = some (G', P') ∧ Iv G' P' := by
    intro m
    induction m with
    | zero =>
      intro i y G P f g hi hy hG hP hf hg
      obtain ⟨z, rfl⟩ : ∃ z, y = z + 1 := ⟨y - 1, by omega⟩
      obtain rfl : i = 4 := by omega
      obtain ⟨T, hd⟩ := AK.turn (d := fun k => 1200 + (Z k).2.1) (v := fun k => 1 + (Z k).2.2) hf hg hG.2.1.k0 hP.2.1.k0
      refine ⟨G, P, ?_, f, g, hG, hP, T, hd⟩
      rw [sL_kinds_L5, if_pos (show (4 : Int32) ≤ nI 4 by decide)]
    | succ m ih =>
      intro i y G P f g hi hy hG hP hf hg
      obtain ⟨z, rfl⟩ : ∃ z, y = z + 1 := ⟨y - 1, by omega⟩
      obtain ⟨a1, a2, a3, a4, a5⟩ := hZ i (by omega)
      obtain ⟨b1, b2, b3, b4, b5⟩ := hZ (3 - i) (by omega)
      obtain ⟨G1, q1, q2⟩ := o_addKind (K := K) hG (show i < 6 by omega) (d := 1200 + (Z i).2.1) (v := 1 + (Z i).2.2) (x := i) (by omega) (by omega) (by omega) (by omega) (by omega)
      obtain ⟨P1, p1, p2⟩ := o_addKind (K := K) hP (show i < 6 by omega) (d := 1200 + (Z (3 - i)).2.1) (v := 1 + (Z (3 - i)).2.2) (x := 3 - i) (by omega) (by omega) (by omega) (by omega) (by omega)
      obtain ⟨G', P', e, hI⟩ := ih (i + 1) z G1 P1 _ _ (by omega) (by omega) q2 p2 hf.more hg.more
      refine ⟨G', P', ?_, hI⟩
      have ex : ∀ n : Nat, (1200 : Int32) + nI n = nI (1200 + n) := fun n => nI_add 1200 n
      have ey : ∀ n : Nat, (1 : Int32) + nI n = nI (1 + n) := fun n => nI_add 1 n
      rw [sL_kinds_L5, if_neg (show ¬ (4 : Int32) ≤ nI i from nleI (a := 4) (by omega) (by decide)), a1, bind_e, show (3 : Int32) - nI i = nI (3 - i) from pk_sub (a := 3) (by omega), b1, bind_e, a2, bind_e, a4, bind_e, ex, ey, q1, bind_e, grd_t (decide_eq_true rfl), b2, bind_e, b4, bind_e, ex, ey, p1, bind_e, grd_t (decide_eq_true rfl), nI1]
      exact e
  have h0 : ∀ d v x : Nat → Nat, AK (iM 6 1) d v x 0 := fun d v x => ⟨fun k hk => absurd hk (by omega), fun _ _ _ => rfl⟩
  exact key 4 0 K GC GC _ _ (by omega) (by omega) St0 St0 (h0 _ _ _) (h0 _ _ _)
/-- the law's end: fifty coins more, and back -/
theorem p_tail (hK : 4000 ≤ K) (hI : Iv G P) : ∃ a b j G1 j2 G2, sX3_value K G (1 : Int32) = some a ∧ sX3_value K G (2 : Int32) = some b ∧ sX3_feedSome K G (50 : Int32) (12345 : Int32) = some (nI j, G1) ∧ j ≤ 50 ∧ sX3_value K G1 (1 : Int32) = some (a + (50 : Int32)) ∧ sL_isSound K G1 = some () ∧ sX3_undo K G1 = some (nI j2, G2) ∧ j2 ≤ 4 ∧ sX3_value K G2 (1 : Int32) = some a ∧ sX3_value K G2 (2 : Int32) = some b := by
  obtain ⟨f, g, hG, hP, T, hg⟩ := hI
  obtain ⟨j, G1, f1, b0, b1, b2, b3, b4, b5⟩ := o_feedSome hK hG (by decide) (N := 50) (v := 12345) (by decide) (by decide) (Q := Gd) (fun f k w _ h hk _ => h.fe hk) hg
  obtain ⟨G2, j2, c0, c1, c2⟩ := o_undo K b4 hG.2.1
  have v1 : ∀ {G : Nat → Nat → Int32} {f : Nat → Int32}, St G f 4 → sX3_value K G (1 : Int32) = some (f 1) := fun h => o_value hK h (w := 1) (by decide)
  have v2 : ∀ {G : Nat → Nat → Int32} {f : Nat → Int32}, St G f 4 → sX3_value K G (2 : Int32) = some (abA f 4 2) := fun h => o_value hK h (w := 2) (by decide)
  refine ⟨f 1, abA f 4 2, j, G1, j2, G2, v1 hG, v2 hG, b1, b0, ?_, p_sound hK b2 b3, c1, c0, v1 c2, v2 c2⟩
  rw [v1 b2, b5]
  rfl
/-- a turn of the law's loop -/
theorem p_turn (hK : 4000 ≤ K) (hI : Iv G P) (v : Int32) : ∃ G' P', sL_isStep K G P v = some (G', P') ∧ sL_areAlike K G' P' = some () ∧ sL_isSound K G' = some () ∧ Iv G' P' := by
  obtain ⟨G', P', e, hI'⟩ := p_step hK hI v
  obtain ⟨f, g, hG, hP, T, hg⟩ := id hI'
  exact ⟨G', P', e, p_alike hK hG hP T hg.1, p_sound hK hG hg, hI'⟩
end KD
