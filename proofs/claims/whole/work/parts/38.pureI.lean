/-! PURE, part I: supply, worstKind, right -/
section PI
variable {f : Nat → Int32} {n k w x : Nat}
theorem feF_n (hx : x < 6) (e : plc f k w 0 6 = nI x) {i : Nat} (h1 : i ≠ 1) (h2 : i ≠ 6 + 5 * k) (h3 : ∀ a, a < x → i ≠ 37 + 5 * a) (h4 : i ≠ 63 + 6 * x + k) (h5 : i ≠ 34 + 5 * x) (h6 : i ≠ 33 + 5 * x) : feF f k w i = f i := by
  unfold feF
  rw [e, enF_fall _ _ _ hx]
  unfold falF
  rw [usF_n _ h6 h5, upd_n h4, rollF_n _ _ h3, fdF_n _ h1 h2]
theorem feF_b (hk : k < 6) (hx : x < 6) (e : plc f k w 0 6 = nI x) : feF f k w (63 + 6 * x + k) = f (63 + 6 * x + k) + 1 := by
  unfold feF
  rw [e, enF_fall _ _ _ hx]
  unfold falF
  rw [usF_n _ (by omega) (by omega), upd_s, rollF_n _ _ (fun a ha => by omega), fdF_n _ (by omega) (by omega)]
theorem usF_gp {F : Nat → Int32} {r a : Nat} (h1 : F (33 + 5 * r) = nI a) (h2 : a ≤ 4100) : ∃ b, usF F r (33 + 5 * r) = nI b ∧ a ≤ b ∧ b ≤ 4100 := by
  unfold usF
  by_cases c : F (34 + 5 * r) + 1 = 20
  · rw [if_pos c, upd_s, h1]
    by_cases c2 : (4100 : Int32) ≤ nI a
    · rw [if_pos c2, add0]
      exact ⟨a, rfl, Nat.le_refl _, h2⟩
    · rw [if_neg c2, nI1]
      refine ⟨a + 1, rfl, by omega, ?_⟩
      rcases Nat.lt_or_ge a 4100 with z | z
      · exact z
      · exact absurd (show nI 4100 ≤ nI a from yleI z (by omega)) c2
  · rw [if_neg c, upd_n (by omega), h1]
    exact ⟨a, rfl, Nat.le_refl _, h2⟩
theorem feF_gp (h : SN f n) (hk : k < n) (hx : x < 6) (e : plc f k w 0 6 = nI x) : ∃ a b, f (33 + 5 * x) = nI a ∧ feF f k w (33 + 5 * x) = nI b ∧ a ≤ b ∧ b ≤ 4100 := by
  have hn := h.n6
  obtain ⟨a, _, a2, ea⟩ := h.gp hx
  unfold feF
  rw [e, enF_fall _ _ _ hx]
  unfold falF
  have e1 : upd (rollF (fdF f k) x) (63 + 6 * x + k) (rollF (fdF f k) x (63 + 6 * x + k) + 1) (33 + 5 * x) = nI a := by
    rw [upd_n (by omega), rollF_n _ _ (fun b hb => by omega), fdF_n _ (by omega) (by omega), ea]
  obtain ⟨b, b1, b2, b3⟩ := usF_gp e1 a2
  exact ⟨a, b, ea, b1, b2, b3⟩
theorem feF_cI (hk : k < 6) (hx : x < 6) (e : plc f k w 0 6 = nI x) : cIn (feF f k w) x = cIn f x + 1 := by
  unfold cIn
  rw [← sm_inc 6 hk]
  refine sm_cong 6 (fun j hj => ?_)
  by_cases q : j = k
  · subst q; rw [if_pos rfl]; exact feF_b hk hx e
  · rw [if_neg q]; exact feF_n hx e (by omega) (by omega) (fun a ha => by omega) (by omega) (by omega) (by omega)
theorem feF_cO (hk : k < 6) (hx : x < 6) (e : plc f k w 0 6 = nI x) {r : Nat} (hr : r < 6) (hne : r ≠ x) : cIn (feF f k w) r = cIn f r :=
  sm_cong 6 (fun j hj => feF_n hx e (by omega) (by omega) (fun a ha => by omega) (by omega) (by omega) (by omega))
theorem fH_next (h : SN f n) (hk : k < n) (hx : x < 6) (hh : f (5 + 5 * k) = nI x) (hf : fH f k w) : feF f k w (5 + 5 * k) = nI x ∧ cIn (feF f k w) x = cIn f x + 1 ∧ cIn f x < 40 ∧ (cIn (feF f k w) x < 40 → fH (feF f k w) k w) := by
  have hn := h.n6
  have e : plc f k w 0 6 = nI x := hf.trans hh
  obtain ⟨-, -, h3, h4, h5⟩ := (plc_iff f k w 6 0 x hx (by omega)).mp e
  have nn : ∀ {i : Nat}, i ≠ 1 → i ≠ 6 + 5 * k → (∀ a, a < x → i ≠ 37 + 5 * a) → i ≠ 63 + 6 * x + k → i ≠ 34 + 5 * x → i ≠ 33 + 5 * x → feF f k w i = f i := fun a b c d e' f' => feF_n hx e a b c d e' f'
  have g5 : feF f k w (5 + 5 * k) = nI x := (nn (by omega) (by omega) (fun a ha => by omega) (by omega) (by omega) (by omega)).trans hh
  have g3 : feF f k w (3 + 5 * k) = f (3 + 5 * k) := nn (by omega) (by omega) (fun a ha => by omega) (by omega) (by omega) (by omega)
  have gs : ∀ j, j < 6 → feF f k w (35 + 5 * j) = f (35 + 5 * j) := fun j hj => nn (by omega) (by omega) (fun a ha => by omega) (by omega) (by omega) (by omega)
  have sz : ∀ j, szN (feF f k w) k w j = szN f k w j := fun j => by unfold szN; rw [g3]
  refine ⟨g5, feF_cI (by omega) hx e, Decidable.byContradiction fun z => h4 (Or.inr (Or.inr z)), fun hc => ?_⟩
  unfold fH
  rw [g5]
  refine (plc_iff _ k w 6 0 x hx (by omega)).mpr ⟨by omega, by omega, fun j q1 q2 => ?_, ?_, ?_⟩
  · have s : spr (feF f k w) k w j = spr f k w j := by
      unfold spr
      rw [sz, nn (i := 33 + 5 * j) (by omega) (by omega) (fun a ha => by omega) (by omega) (by omega) (by omega)]
    have := h3 j q1 q2
    unfold rll at this ⊢
    rw [s, gs j (by omega), feF_cO (by omega) hx e (by omega) (by omega)]
    exact this
  · have hS2 := h.fe1 hk w
    obtain ⟨a, b, ea, eb, ab, b4⟩ := feF_gp h hk hx e
    rintro (z | z | z)
    · rw [spr_le hS2 w b4 eb hk, sz] at z
      exact h4 (Or.inl ((spr_le h w (by omega) ea hk).mpr (by omega)))
    · rw [gs x hx] at z
      exact h4 (Or.inr (Or.inl z))
    · exact z hc
  · have hS2 := h.fe1 hk w
    obtain ⟨a, b, ea, eb, ab, b4⟩ := feF_gp h hk hx e
    rw [spr_ge h w (by omega) ea hk] at h5
    rw [spr_ge hS2 w b4 eb hk, sz]
    omega
theorem fH_bag (h : SN f n) (hx : x < 6) (hh : f (5 + 5 * k) = nI x) (hf : fH f k w) : cIn f x < 40 := by
  obtain ⟨-, -, h3, h4, h5⟩ := (plc_iff f k w 6 0 x hx (by omega)).mp (hf.trans hh)
  exact Decidable.byContradiction fun z => h4 (Or.inr (Or.inr z))
end PI
def mK (f : Nat → Int32) (k : Nat) : Int32 := kIn f k - f (63 + 6 * (f (5 + 5 * k)).toNatClampNeg + k)
def wkF (f : Nat → Int32) : Nat → Nat → Int32 → Int32 → Int32
  | _, 0, a, _ => a
  | i, m + 1, a, b => if mK f i ≤ b then wkF f (i + 1) m a b else wkF f (i + 1) m (nI i) (mK f i)
section CI
variable {K : Nat} {G : Nat → Nat → Int32} {f : Nat → Int32} {n : Nat}
theorem c_supply (hK : 4000 ≤ K) (h : SR G 1 f) (hS : SN f n) {k x : Nat} (hk : k < n) (hx : x < 6) (hh : f (5 + 5 * k) = nI x) : (fH f k 0 ∧ sX2_coinsUntilAstray K G (nI k) = some (40 - cIn f x)) ∨ (¬ fH f k 0 ∧ sX2_coinsUntilAstray K G (nI k) = some 0) := by
  have hn := hS.n6
  unfold sX2_coinsUntilAstray
  rcases c_falls hK h hS hk (w := 0) (by omega) with ⟨e1, e2⟩ | ⟨e1, e2⟩
  · refine Or.inl ⟨e1, ?_⟩
    rw [show sX2_fallsHome K G (nI k) (0 : Int32) = some 1 from e2, bind_e, if_neg (by decide), grd_i (by omega) (by decide), tnI (by omega), h.hm (by omega), hh, c_coinsIn hK h hx, bind_e]
  · refine Or.inr ⟨e1, ?_⟩
    rw [show sX2_fallsHome K G (nI k) (0 : Int32) = some 0 from e2, bind_e, if_pos rfl]
theorem c_worst (hK : 4000 ≤ K) (h : SR G 1 f) (hS : SN f n) : sX2_kindMostAstray K G = some (wkF f 0 n (-1) 0) := by
  have hn := hS.n6
  unfold sX2_kindMostAstray
  have key : ∀ (m i y : Nat) (a b : Int32), i + m = n → m < y → sX2_kindMostAstray_L6 K G y a b (nI i) = some (wkF f i m a b) := by
    intro m
    induction m with
    | zero =>
      intro i y a b hi hy
      obtain ⟨z, rfl⟩ : ∃ z, y = z + 1 := ⟨y - 1, by omega⟩
      rw [sX2_kindMostAstray_L6, h.kinds, hS.k0, if_pos (yleI (by omega) (by omega))]
      rfl
    | succ m ih =>
      intro i y a b hi hy
      obtain ⟨z, rfl⟩ : ∃ z, y = z + 1 := ⟨y - 1, by omega⟩
      obtain ⟨x, hx, hh⟩ := hS.hm (show i < n by omega)
      have e : sX2_misfitsOfKind K G (nI i) = some (mK f i) := by
        rw [c_misK hK h (by omega) hx hh]
        unfold mK
        rw [hh, tnI (by omega)]
      rw [sX2_kindMostAstray_L6, h.kinds, hS.k0, if_neg (nleI (by omega) (by omega)), e, bind_e, nI1]
      show _ = some (if mK f i ≤ b then wkF f (i + 1) m a b else wkF f (i + 1) m (nI i) (mK f i))
      by_cases c : mK f i ≤ b
      · rw [if_pos c, if_pos c, ih (i + 1) z _ _ (by omega) (by omega)]
      · rw [if_neg c, if_neg c, ih (i + 1) z _ _ (by omega) (by omega)]
  exact key n 0 K _ _ (by omega) (by omega)
def rtF (f : Nat → Int32) (n : Nat) : UInt64 := if sm (fun r => cIn f r) 6 = 0 then FP.dconst1 else FP.ddiv (FP.i2d (sm (fun r => cIn f r) 6 - sm (fun r => mis f n r) 6)) (FP.i2d (sm (fun r => cIn f r) 6))
theorem c_right (hK : 4000 ≤ K) (h : SR G 1 f) (hS : SN f n) : sX3_right K G = some (rtF f n) := by
  unfold sX3_right rtF
  rw [c_bagsA hK h, bind_e, sm36]
  by_cases c : sm (fun r => cIn f r) 6 = 0
  · rw [if_pos c, if_pos c]
  · rw [if_neg c, if_neg c, c_misA hK h hS.n6 hS.k0, bind_e]
end CI
section MII
variable {K : Nat} {M : Nat → Nat → Int32} {n : Nat}
theorem m_worst (hK : 4000 ≤ K) (hS : SN (M 1) n) : sX4_worstKind K M = some (wkF (M 1) 0 n (-1) 0, up2 M 0 4 0) := by
  have hn := hS.n6
  unfold sX4_worstKind
  have key : ∀ (m i y : Nat) (a b : Int32), i + m = n → m < y → sX4_worstKind_L6 K M y a b (nI i) = some (wkF (M 1) i m a b, up2 M 0 4 0) := by
    intro m
    induction m with
    | zero =>
      intro i y a b hi hy
      obtain ⟨z, rfl⟩ : ∃ z, y = z + 1 := ⟨y - 1, by omega⟩
      rw [sX4_worstKind_L6, grd_t i099, t0, hS.k0, if_pos (yleI (by omega) (by omega)), m_fine, bind_e]
      rfl
    | succ m ih =>
      intro i y a b hi hy
      obtain ⟨z, rfl⟩ : ∃ z, y = z + 1 := ⟨y - 1, by omega⟩
      obtain ⟨x, hx, hh⟩ := hS.hm (show i < n by omega)
      have e : kIn (M 1) i - M 1 (63 + 6 * x + i) = mK (M 1) i := by
        unfold mK
        rw [hh, tnI (by omega)]
      rw [sX4_worstKind_L6, grd_t i099, t0, hS.k0, if_neg (nleI (by omega) (by omega)), m_kIn hK (by omega), bind_e, m_hm (by omega), bind_e, hh, m_countAt, bind_e, grd_i (by omega) (by decide), tnI (by omega), e, nI1]
      show _ = some ((if mK (M 1) i ≤ b then wkF (M 1) (i + 1) m a b else wkF (M 1) (i + 1) m (nI i) (mK (M 1) i)), _)
      by_cases c : mK (M 1) i ≤ b
      · rw [if_pos c, if_pos c, if_pos c, ih (i + 1) z _ _ (by omega) (by omega)]
      · rw [if_neg c, if_neg c, if_neg c, ih (i + 1) z _ _ (by omega) (by omega)]
  exact key n 0 K _ _ (by omega) (by omega)
theorem m_right (hK : 4000 ≤ K) (hS : SN (M 1) n) : sX4_right K M = some (rtF (M 1) n, up2 M 0 4 0) := by
  have h1 : (up2 M 0 4 0) 1 = M 1 := up2_n (by decide)
  have hS' : SN ((up2 M 0 4 0) 1) n := by rw [h1]; exact hS
  have e2 : sX4_sumOf K (up2 M 0 4 0) (2 : Int32) = some (sm (fun r => cIn (M 1) r) 6) := by
    rw [← h1]
    exact m_sumOf hK hS' (w := 2) (by decide)
  have e7 : sX4_sumOf K (up2 M 0 4 0) (7 : Int32) = some (sm (fun r => mis (M 1) n r) 6) := by
    rw [← h1]
    exact m_sumOf hK hS' (w := 7) (by decide)
  unfold sX4_right rtF
  rw [olet_e, e2, bind_e, e7, bind_e, bind_e, bind_e]
  by_cases c : sm (fun r => cIn (M 1) r) 6 = 0
  · rw [if_pos c, if_pos c]
  · rw [if_neg c, if_neg c]
theorem m_supL (hK : 4000 ≤ K) {k x : Nat} (hk : k < n) (hx : x < 6) : ∀ (d j y r : Nat) (M1 : Nat → Nat → Int32), j + d = 40 → d < y → SN (M1 1) n → M1 1 (5 + 5 * k) = nI x → ((¬ fH (M1 1) k 0 ∧ r = j) ∨ (fH (M1 1) k 0 ∧ ∃ c, j ≤ c ∧ c < 40 ∧ cIn (M1 1) x = nI c ∧ r + c = j + 40)) → ∃ M', sX4_supply_L20 K (nI k) y M1 (nI j) = some (nI r, up2 M' 0 4 0) ∧ (∀ i, i < 99 → M' 1 i = M1 3 i) ∧ (∀ i, 99 ≤ i → M' 1 i = M1 1 i) ∧ ∀ i, i ≠ 1 → M' i = M1 i := by
  intro d
  induction d with
  | zero =>
    intro j y r M1 hj hy h1 h2 h3
    obtain ⟨z, rfl⟩ : ∃ z, y = z + 1 := ⟨y - 1, by omega⟩
    obtain rfl : j = 40 := by omega
    obtain ⟨M2, e2, a2, b2, c2⟩ := m_takes (M := M1) hK
    have hr : r = 40 := by
      rcases h3 with ⟨-, q⟩ | ⟨-, c, q1, q2, -⟩
      · exact q
      · omega
    subst hr
    rw [sX4_supply_L20, if_pos (show (40 : Int32) ≤ nI 40 by decide), e2, bind_e, m_fine, bind_e]
    exact ⟨M2, rfl, a2, b2, c2⟩
  | succ d ih =>
    intro j y r M1 hj hy h1 h2 h3
    have hn := h1.n6
    obtain ⟨z, rfl⟩ : ∃ z, y = z + 1 := ⟨y - 1, by omega⟩
    obtain ⟨M2, e2, a2, b2⟩ := m_feeds (M := M1) hK h1 hk (w := 0) (by omega)
    rw [sX4_supply_L20, if_neg (show ¬ (40 : Int32) ≤ nI j from nleI (a := 40) (by omega) (by decide)), show sX4_feeds K M1 (nI k) (0 : Int32) = _ from e2, bind_e, m_hm (by omega), bind_e]
    dsimp only
    rcases h3 with ⟨q, rfl⟩ | ⟨q, c, c1, c2, c3, c4⟩
    · have q2 : ¬ plc (M1 1) k 0 0 6 = M2 1 (5 + 5 * k) := by
        rw [a2]
        intro q2
        refine q ?_
        unfold fH
        rw [q2]
        have key : ∀ (g : Nat → Int32) (p : Int32), (p = -1 ∨ ∃ x, x < 6 ∧ (p = nI x ∨ p = nI (10 + x))) → enF g k 0 p (5 + 5 * k) = g (5 + 5 * k) := by
          intro g p hp
          rcases hp with rfl | ⟨x, hx, rfl | rfl⟩
          · rw [enF_none, upd_n (by omega), rollF_n _ _ (fun a ha => by omega)]
          · rw [enF_fall _ _ _ hx]
            unfold falF
            rw [usF_n _ (by omega) (by omega), upd_n (by omega), rollF_n _ _ (fun a ha => by omega)]
          · rw [enF_stuck _ _ _ hx, upd_n (by omega), upd_n (by omega), rollF_n _ _ (fun a ha => by omega)]
        unfold feF
        rw [key (fdF (M1 1) k) _ ?_, fdF_n _ (by omega) (by omega)]
        rcases plc_of (M1 1) k 0 6 0 with s | ⟨x', -, s1, s2, -⟩
        · exact Or.inl s
        · exact Or.inr ⟨x', by omega, s2⟩
      rw [if_neg q2]
      obtain ⟨M3, e3, a3, b3, c3⟩ := m_takes (M := M2) hK
      rw [e3, bind_e, m_fine, bind_e]
      refine ⟨M3, rfl, fun i hi => ?_, fun i hi => ?_, fun i hi => ?_⟩
      · rw [a3 i hi, b2 3 (by decide)]
      · rw [b3 i hi, a2, feF_out _ (by omega) _ hi]
      · rw [c3 i hi, b2 i hi]
    · obtain ⟨f1, f2, f3, f4⟩ := fH_next h1 hk hx h2 q
      rw [if_pos (show plc (M1 1) k 0 0 6 = M2 1 (5 + 5 * k) by rw [a2, f1]; exact q.trans h2), nI1]
      have hS2 : SN (M2 1) n := by rw [a2]; exact h1.fe1 hk 0
      have f5 : cIn (M2 1) x = nI (c + 1) := by rw [a2, f2, c3, nI1]
      obtain ⟨M3, e3, a3, b3, c3'⟩ := ih (j + 1) z r M2 (by omega) (by omega) hS2 (by rw [a2]; exact f1) (by
        by_cases q3 : c + 1 < 40
        · refine Or.inr ⟨?_, c + 1, by omega, q3, f5, by omega⟩
          rw [a2]
          refine f4 ?_
          rw [← a2, f5]
          exact yltI (b := 40) q3 (by omega)
        · refine Or.inl ⟨fun q4 => ?_, by omega⟩
          have := fH_bag hS2 hx (by rw [a2]; exact f1) q4
          rw [f5] at this
          exact nltI (b := 40) (by omega) (by omega) this)
      rw [e3]
      refine ⟨M3, rfl, fun i hi => ?_, fun i hi => ?_, fun i hi => ?_⟩
      · rw [a3 i hi, b2 3 (by decide)]
      · rw [b3 i hi, a2, feF_out _ (by omega) _ hi]
      · rw [c3' i hi, b2 i hi]
end MII
