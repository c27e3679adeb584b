/-! PURE, part T: what two turned states answer -/
def Hm (f : Nat → Int32) : Prop := ∀ k, k < 4 → f (5 + 5 * k) = nI k
section AN
variable {f g : Nat → Int32}
theorem duF_4 {f : Nat → Int32} {u : Nat → Nat} (hm : ∀ k, k < 4 → f (5 + 5 * k) = nI (u k)) (hu : ∀ k, k < 4 → u k < 4) (hj : ∀ k j, k < 4 → j < 4 → u k = u j → k = j) {x : Nat} (hx : x < 6) : (∀ k, k < 4 → u k ≠ x) ∧ duF f (nI x) 0 4 = -1 ∨ ∃ k, k < 4 ∧ u k = x ∧ duF f (nI x) 0 4 = nI k := by
  rcases duF_of f (nI x) 4 0 with e | ⟨k, h1, h2, h3, h4⟩
  · refine Or.inl ⟨fun k hk q => ?_, e⟩
    have := duF_none 4 0 (by omega) e k (by omega) (by omega)
    rw [hm k hk, q] at this
    exact this rfl
  · refine Or.inr ⟨k, by omega, ?_, h3⟩
    rw [hm k (by omega)] at h4
    have := hu k (by omega)
    exact (nI_eq (by omega) (by omega)).mp h4
theorem Turn.t_due (h : Turn f g) (hm : Hm f) {r : Nat} (hr : r < 6) : tk (duF f (nI r) 0 4) (duF g (nI r) 0 4) ∧ ∀ k, k < 4 → duF f (nI r) 0 4 = nI k → k = r := by
  have hg : ∀ k, k < 4 → g (5 + 5 * k) = nI (3 - k) := fun k hk => by rw [h.hm hk]; exact hm (3 - k) (by omega)
  have a := duF_4 (f := f) (u := fun k => k) hm (fun k hk => hk) (fun k j _ _ e => e) hr
  have b := duF_4 (f := g) (u := fun k => 3 - k) hg (fun k hk => by omega) (fun k j hk hj e => by omega) hr
  rcases a with ⟨a1, a2⟩ | ⟨k, a1, a2, a3⟩
  · rcases b with ⟨b1, b2⟩ | ⟨j, b1, b2, b3⟩
    · exact ⟨Or.inl ⟨a2, b2⟩, fun k hk e => absurd (a2.symm.trans e).symm (m1ne (by omega))⟩
    · exact absurd b2 (a1 (3 - j) (by omega))
  · rcases b with ⟨b1, b2⟩ | ⟨j, b1, b2, b3⟩
    · exact absurd (show 3 - (3 - k) = r by omega) (b1 (3 - k) (by omega))
    · refine ⟨Or.inr ⟨k, a1, a3, by rw [b3]; congr 1; omega⟩, fun z hz e => ?_⟩
      rw [a3] at e
      have := (nI_eq (by omega) (by omega)).mp e
      omega
theorem Turn.t_spW (h : Turn f g) (hm : Hm f) {r : Nat} (hr : r < 6) : spW g 4 r = spW f 4 r := by
  unfold spW
  rcases (h.t_due hm hr).1 with ⟨a, b⟩ | ⟨k, hk, a, b⟩
  · rw [if_pos a, if_pos b]
  · rw [a, b, if_neg (m1ne (by omega)), if_neg (m1ne (by omega)), tnI (by omega), tnI (by omega), h.t_cIn, h.vl (by omega), show 3 - (3 - k) = k by omega]
theorem Turn.t_trW (h : Turn f g) (r : Nat) : trW g 4 r = trW f 4 r := sm_t4 fun k hk => by rw [h.bg hk, h.vl hk]
theorem Turn.t_mis (h : Turn f g) (r : Nat) : mis g 4 r = mis f 4 r := sm_t4 fun k hk => by rw [h.bg hk, h.hm hk]
theorem Turn.t_stR (h : Turn f g) : stR g = stR f := sm_cong 6 fun r hr => by
  have e := (h.2 r hr).m1
  by_cases c : f (35 + 5 * r) = -1
  · rw [if_pos c, if_pos (e.mp c)]
  · rw [if_neg c, if_neg (fun z => c (e.mpr z))]
theorem Turn.t_rej (h : Turn f g) : sm (fun k => g (7 + 5 * k)) 6 = sm (fun k => f (7 + 5 * k)) 6 := sm_t6 (fun k hk => h.rj hk) (h.at (by omega) (tau_o (Or.inr (by omega)))) (h.at (by omega) (tau_o (Or.inr (by omega))))
theorem Turn.t_abA (h : Turn f g) (hm : Hm f) {w : Nat} (hw : w < 10) : abA g 4 w = abA f 4 w := by
  have hc : w = 0 ∨ w = 1 ∨ w = 2 ∨ w = 3 ∨ w = 4 ∨ w = 5 ∨ w = 6 ∨ w = 7 ∨ w = 8 ∨ w = 9 := by omega
  rcases hc with rfl | rfl | rfl | rfl | rfl | rfl | rfl | rfl | rfl | rfl
  · exact h.e0
  · exact h.e1
  · exact sm_cong 6 fun r _ => h.t_cIn r
  · exact h.t_stR
  · exact h.t_rej
  · exact h.e2
  · exact sm_cong 6 fun r _ => h.t_mis r
  · exact sm_cong 6 fun r hr => h.t_spW hm hr
  · exact sm_cong 6 fun r _ => h.t_trW r
  · exact sm_cong 6 fun r _ => by rw [h.t_cIn]
theorem Turn.t_abR (h : Turn f g) (hm : Hm f) {r w : Nat} (hr : r < 6) (hw : w < 10) (h3 : w ≠ 3) (h8 : w ≠ 8) : abR g 4 r w = abR f 4 r w := by
  have hc : w = 0 ∨ w = 1 ∨ w = 2 ∨ w = 4 ∨ w = 5 ∨ w = 6 ∨ w = 7 ∨ w = 9 := by omega
  rcases hc with rfl | rfl | rfl | rfl | rfl | rfl | rfl | rfl
  · exact h.gp hr
  · exact h.us hr
  · exact h.t_cIn r
  · exact h.sw hr
  · exact h.t_spW hm hr
  · exact h.t_trW r
  · exact h.t_mis r
  · exact h.ro hr
theorem Turn.t_abK (h : Turn f g) {k w : Nat} (hk : k < 4) (hw : w < 7) : abK g (3 - k) w = abK f k w := by
  have e : 3 - (3 - k) = k := by omega
  have hc : w = 0 ∨ w = 1 ∨ w = 2 ∨ w = 3 ∨ w = 4 ∨ w = 5 ∨ w = 6 := by omega
  rcases hc with rfl | rfl | rfl | rfl | rfl | rfl | rfl
  · show g (3 + 5 * (3 - k)) = f (3 + 5 * k)
    rw [h.dm (by omega), e]
  · show g (4 + 5 * (3 - k)) = f (4 + 5 * k)
    rw [h.vl (by omega), e]
  · show g (5 + 5 * (3 - k)) = f (5 + 5 * k)
    rw [h.hm (by omega), e]
  · exact sm_cong 6 fun r _ => by rw [h.bg (by omega), e]
  · refine sm_cong 6 fun r hr => ?_
    rcases h.2 r hr with ⟨a, b⟩ | ⟨j, hj, a, b⟩
    · rw [a, b, if_neg (fun z => m1ne (by omega) z.symm), if_neg (fun z => m1ne (by omega) z.symm)]
    · rw [a, b]
      by_cases q : j = k
      · rw [if_pos (by rw [q]), if_pos (by rw [q])]
      · rw [if_neg (neI (by omega) (by omega) (by omega)), if_neg (neI q (by omega) (by omega))]
  · show g (7 + 5 * (3 - k)) = f (7 + 5 * k)
    rw [h.rj (by omega), e]
  · show g (6 + 5 * (3 - k)) = f (6 + 5 * k)
    rw [h.fd (by omega), e]
theorem Turn.lo1 (h : Turn f g) (sf : SN f 4) (sg : SN g 4) (r : Nat) {a : Nat} (ea : loF f (nI r) 4 = nI a) (ha : a ≤ 4005) : ∃ b, b ≤ 4005 ∧ loF g (nI r) 4 = nI b ∧ a ≤ b := by
  rcases loF_of sf r 4 (Nat.le_refl _) with ⟨z, -⟩ | ⟨a', a1, a2, a3, a4, k, d, k1, k2, k3, k4⟩
  · rw [z] at ea
    exact absurd ea.symm (m1ne (by omega))
  · rw [a3] at ea
    have ea := (nI_eq (by omega) (by omega)).mp ea
    subst ea
    obtain ⟨d0, d1, d2, d3⟩ := sf.dm k1
    rw [k3] at d3
    have hd : d = d0 := (nI_eq (by omega) (by omega)).mp d3
    have e : 3 - (3 - k) = k := by omega
    have g1 : g (5 + 5 * (3 - k)) = nI r := by rw [h.hm (by omega), e]; exact k2
    have g2 : g (3 + 5 * (3 - k)) = nI d := by rw [h.dm (by omega), e]; exact k3
    rcases loF_of sg r 4 (Nat.le_refl _) with ⟨-, z⟩ | ⟨b, b1, b2, b3, b4, -⟩
    · exact absurd g1 (z (3 - k) (by omega))
    · exact ⟨b, b1, b3, by have := b4 (3 - k) d (by omega) g1 g2 (by omega); omega⟩
theorem Turn.t_lo (h : Turn f g) (sf : SN f 4) (sg : SN g 4) (r : Nat) : loF g (nI r) 4 = loF f (nI r) 4 := by
  rcases loF_of sf r 4 (Nat.le_refl _) with ⟨z, -⟩ | ⟨a, a1, a2, a3, -⟩
  · rcases loF_of sg r 4 (Nat.le_refl _) with ⟨y, -⟩ | ⟨b, b1, b2, b3, -⟩
    · rw [z, y]
    · obtain ⟨c, c1, c2, -⟩ := h.symm.lo1 sg sf r b3 b1
      rw [z] at c2
      exact absurd c2.symm (m1ne (by omega))
  · obtain ⟨b, b1, b2, b3⟩ := h.lo1 sf sg r a3 a1
    obtain ⟨c, c1, c2, c3⟩ := h.symm.lo1 sg sf r b2 b1
    rw [a3] at c2
    have := (nI_eq (by omega) (by omega)).mp c2
    rw [a3, b2]
    congr 1
    omega
theorem Turn.hi1 (h : Turn f g) (sf : SN f 4) (sg : SN g 4) {r : Nat} (hr : r < 6) : ∃ a b, a ≤ 4100 ∧ b ≤ 4100 ∧ hiF f (nI r) 4 = nI a ∧ hiF g (nI r) 4 = nI b ∧ b ≤ a := by
  obtain ⟨a, a1, a2, -, a4⟩ := hiF_of sf hr 4 (Nat.le_refl _)
  obtain ⟨b, b1, b2, b3, -⟩ := hiF_of sg hr 4 (Nat.le_refl _)
  refine ⟨a, b, a1, b1, a2, b2, ?_⟩
  rcases a4 with e | ⟨k, d, x, k1, k2, k3, k4, k5, k6⟩
  · omega
  · obtain ⟨d0, d1, d2, d3⟩ := sf.dm k1
    rw [k5] at d3
    have hd : d = d0 := (nI_eq (by omega) (by omega)).mp d3
    have e : 3 - (3 - k) = k := by omega
    have := b3 (3 - k) d x (by omega) (by rw [h.hm (by omega), e]; exact k2) k3 k4 (by rw [h.dm (by omega), e]; exact k5) (by omega)
    omega
theorem Turn.t_hi (h : Turn f g) (sf : SN f 4) (sg : SN g 4) {r : Nat} (hr : r < 6) : hiF g (nI r) 4 = hiF f (nI r) 4 := by
  obtain ⟨a, b, a1, b1, a2, b2, hab⟩ := h.hi1 sf sg hr
  obtain ⟨c, d, c1, d1, c2, d2, hcd⟩ := h.symm.hi1 sg sf hr
  rw [b2] at c2
  rw [a2] at d2
  have e1 := (nI_eq (by omega) (by omega)).mp c2
  have e2 := (nI_eq (by omega) (by omega)).mp d2
  rw [a2, b2]
  congr 1
  omega
theorem Turn.t_bg (h : Turn f g) (sf : SN f 4) (sg : SN g 4) {r : Nat} (hr : r < 6) : bgF g 4 (nI r) = bgF f 4 (nI r) := by
  unfold bgF
  rw [h.t_lo sf sg, h.t_hi sf sg hr]
theorem Turn.t_rt (h : Turn f g) : rtF g 4 = rtF f 4 := by
  have e1 : sm (fun r => cIn g r) 6 = sm (fun r => cIn f r) 6 := sm_cong 6 fun r _ => h.t_cIn r
  have e2 : sm (fun r => mis g 4 r) 6 = sm (fun r => mis f 4 r) 6 := sm_cong 6 fun r _ => h.t_mis r
  unfold rtF
  rw [e1, e2]
end AN
