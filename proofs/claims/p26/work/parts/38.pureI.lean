/-! PURE, part I: supply, worstKind, right -/
section PI
variable {f : Nat → Int32} {n k w x : Nat}
theorem feF_n (hx : x < 6) (e : plc f k w 0 6 = nI x) {i : Nat} (h1 : i ≠ 1) (h2 : i ≠ 6 + 5 * k) (h3 : ∀ a, a < x → i ≠ 37 + 5 * a) (h4 : i ≠ 63 + 6 * x + k) (h5 : i ≠ 34 + 5 * x) (h6 : i ≠ 33 + 5 * x) : feF f k w i = f i := by
  unfold feF
  rw [e, enF_fall _ _ _ hx]
  unfold falF
  rw [usF_n _ h6 h5, upd_n h4, rollF_n _ _ h3, fdF_n _ h1 h2]
theorem feF_b (hk : k < 6) (hx : x < 6) (e : plc f k w 0 6 = nI x) : feF f k w (63 + 6 * x + k) = f (63 + 6 * x + k) + 1 := by
  unfold feF
  rw [e, enF_fall _ _ _ hx]
  unfold falF
  rw [usF_n _ (by omega) (by omega), upd_s, rollF_n _ _ (fun a ha => by omega), fdF_n _ (by omega) (by omega)]
theorem usF_gp {F : Nat → Int32} {r a : Nat} (h1 : F (33 + 5 * r) = nI a) (h2 : a ≤ 4100) : ∃ b, usF F r (33 + 5 * r) = nI b ∧ a ≤ b ∧ b ≤ 4100 := by
  unfold usF
  by_cases c : F (34 + 5 * r) + 1 = 20
  · rw [if_pos c, upd_s, h1]
    by_cases c2 : (4100 : Int32) ≤ nI a
    · rw [if_pos c2, add0]
      exact ⟨a, rfl, Nat.le_refl _, h2⟩
    · rw [if_neg c2, nI1]
      refine ⟨a + 1, rfl, by omega, ?_⟩
      rcases Nat.lt_or_ge a 4100 with z | z
      · exact z
      · exact absurd (show nI 4100 ≤ nI a from yleI z (by omega)) c2
  · rw [if_neg c, upd_n (by omega), h1]
    exact ⟨a, rfl, Nat.le_refl _, h2⟩
theorem feF_gp (h : SN f n) (hk : k < n) (hx : x < 6) (e : plc f k w 0 6 = nI x) : ∃ a b, f (33 + 5 * x) = nI a ∧ feF f k w (33 + 5 * x) = nI b ∧ a ≤ b ∧ b ≤ 4100 := by
  have hn := h.n6
  obtain ⟨a, _, a2, ea⟩ := h.gp hx
  unfold feF
  rw [e, enF_fall _ _ _ hx]
  unfold falF
  have e1 : upd (rollF (fdF f k) x) (63 + 6 * x + k) (rollF (fdF f k) x (63 + 6 * x + k) + 1) (33 + 5 * x) = nI a := by
    rw [upd_n (by omega), rollF_n _ _ (fun b hb => by omega), fdF_n _ (by omega) (by omega), ea]
  obtain ⟨b, b1, b2, b3⟩ := usF_gp e1 a2
  exact ⟨a, b, ea, b1, b2, b3⟩
theorem feF_cI (hk : k < 6) (hx : x < 6) (e : plc f k w 0 6 = nI x) : cIn (feF f k w) x = cIn f x + 1 := by
  unfold cIn
  rw [← sm_inc 6 hk]
  refine sm_cong 6 (fun j hj => ?_)
  by_cases q : j = k
  · subst q; rw [if_pos rfl]; exact feF_b hk hx e
  · rw [if_neg q]; exact feF_n hx e (by omega) (by omega) (fun a ha => by omega) (by omega) (by omega) (by omega)
theorem feF_cO (hk : k < 6) (hx : x < 6) (e : plc f k w 0 6 = nI x) {r : Nat} (hr : r < 6) (hne : r ≠ x) : cIn (feF f k w) r = cIn f r :=
  sm_cong 6 (fun j hj => feF_n hx e (by omega) (by omega) (fun a ha => by omega) (by omega) (by omega) (by omega))
theorem fH_next (h : SN f n) (hk : k < n) (hx : x < 6) (hh : f (5 + 5 * k) = nI x) (hf : fH f k w) : feF f k w (5 + 5 * k) = nI x ∧ cIn (feF f k w) x = cIn f x + 1 ∧ cIn f x < 40 ∧ (cIn (feF f k w) x < 40 → fH (feF f k w) k w) := by
  have hn := h.n6
  have e : plc f k w 0 6 = nI x := hf.trans hh
  obtain ⟨-, -, h3, h4, h5⟩ := (plc_iff f k w 6 0 x hx (by omega)).mp e
  have nn : ∀ {i : Nat}, i ≠ 1 → i ≠ 6 + 5 * k → (∀ a, a < x → i ≠ 37 + 5 * a) → i ≠ 63 + 6 * x + k → i ≠ 34 + 5 * x → i ≠ 33 + 5 * x → feF f k w i = f i := fun a b c d e' f' => feF_n hx e a b c d e' f'
  have g5 : feF f k w (5 + 5 * k) = nI x := (nn (by omega) (by omega) (fun a ha => by omega) (by omega) (by omega) (by omega)).trans hh
  have g3 : feF f k w (3 + 5 * k) = f (3 + 5 * k) := nn (by omega) (by omega) (fun a ha => by omega) (by omega) (by omega) (by omega)
  have gs : ∀ j, j < 6 → feF f k w (35 + 5 * j) = f (35 + 5 * j) := fun j hj => nn (by omega) (by omega) (fun a ha => by omega) (by omega) (by omega) (by omega)
  have sz : ∀ j, szN (feF f k w) k w j = szN f k w j := fun j => by unfold szN; rw [g3]
  refine ⟨g5, feF_cI (by omega) hx e, Decidable.byContradiction fun z => h4 (Or.inr (Or.inr z)), fun hc => ?_⟩
  unfold fH
  rw [g5]
  refine (plc_iff _ k w 6 0 x hx (by omega)).mpr ⟨by omega, by omega, fun j q1 q2 => ?_, ?_, ?_⟩
  · have s : spr (feF f k w) k w j = spr f k w j := by
      unfold spr
      rw [sz, nn (i := 33 + 5 * j) (by omega) (by omega) (fun a ha => by omega) (by omega) (by omega) (by omega)]
    have := h3 j q1 q2
    unfold rll at this ⊢
    rw [s, gs j (by omega), feF_cO (by omega) hx e (by omega) (by omega)]
    exact this
  · have hS2 := h.fe1 hk w
    obtain ⟨a, b, ea, eb, ab, b4⟩ := feF_gp h hk hx e
    rintro (z | z | z)
    · rw [spr_le hS2 w b4 eb hk, sz] at z
      exact h4 (Or.inl ((spr_le h w (by omega) ea hk).mpr (by omega)))
    · rw [gs x hx] at z
      exact h4 (Or.inr (Or.inl z))
    · exact z hc
  · have hS2 := h.fe1 hk w
    obtain ⟨a, b, ea, eb, ab, b4⟩ := feF_gp h hk hx e
    rw [spr_ge h w (by omega) ea hk] at h5
    rw [spr_ge hS2 w b4 eb hk, sz]
    omega
theorem fH_bag (h : SN f n) (hx : x < 6) (hh : f (5 + 5 * k) = nI x) (hf : fH f k w) : cIn f x < 40 := by
  obtain ⟨-, -, h3, h4, h5⟩ := (plc_iff f k w 6 0 x hx (by omega)).mp (hf.trans hh)
  exact Decidable.byContradiction fun z => h4 (Or.inr (Or.inr z))
end PI
def mK (f : Nat → Int32) (k : Nat) : Int32 := kIn f k - f (63 + 6 * (f (5 + 5 * k)).toNatClampNeg + k)
def wkF (f : Nat → Int32) : Nat → Nat → Int32 → Int32 → Int32
  | _, 0, a, _ => a
  | i, m + 1, a, b => if mK f i ≤ b then wkF f (i + 1) m a b else wkF f (i + 1) m (nI i) (mK f i)
section CI
variable {K : Nat} {G : Nat → Nat → Int32} {f : Nat → Int32} {n : Nat}
theorem c_supply (hK : 4000 ≤ K) (h : SR G 1 f) (hS : SN f n) {k x : Nat} (hk : k < n) (hx : x < 6) (hh : f (5 + 5 * k) = nI x) : (fH f k 0 ∧ sX2_coinsUntilAstray K G (nI k) = some (40 - cIn f x)) ∨ (¬ fH f k 0 ∧ sX2_coinsUntilAstray K G (nI k) = some 0) := by
  have hn := hS.n6
  unfold sX2_coinsUntilAstray
  rcases c_falls hK h hS hk (w := 0) (by omega) with ⟨e1, e2⟩ | ⟨e1, e2⟩
  · refine Or.inl ⟨e1, ?_⟩
    rw [show sX2_fallsHome K G (nI k) (0 : Int32) = some 1 from e2, bind_e, if_neg (by decide), grd_i (by omega) (by decide), tnI (by omega), h.hm (by omega), hh, c_coinsIn hK h hx, bind_e]
  · refine Or.inr ⟨e1, ?_⟩
    rw [show sX2_fallsHome K G (nI k) (0 : Int32) = some 0 from e2, bind_e, if_pos rfl]
def rtF (f : Nat → Int32) (n : Nat) : UInt64 := if sm (fun r => cIn f r) 6 = 0 then FP.dconst1 else FP.ddiv (FP.i2d (sm (fun r => cIn f r) 6 - sm (fun r => mis f n r) 6)) (FP.i2d (sm (fun r => cIn f r) 6))
end CI
section MII
variable {K : Nat} {M : Nat → Nat → Int32} {n : Nat}
end MII

