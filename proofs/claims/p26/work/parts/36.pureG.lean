/-! PURE, part G: what-if questions -/
section PG
variable {f : Nat → Int32} {n : Nat}
theorem spr_le (h : SN f n) {k r g : Nat} (w : Nat) (hg : g ≤ 4100) (eg : f (33 + 5 * r) = nI g) (hk : k < n) : spr f k w r ≤ 0 ↔ g ≤ szN f k w r := by
  obtain ⟨d, h1, h2, h3⟩ := h.dm hk
  have hs : szN f k w r ≤ 4000 := by
    unfold szN
    rw [h3, tnI (by omega)]
    omega
  unfold spr
  rw [eg, Int32.le_iff_toInt_le, pk_sub_toInt (by omega) (by omega), Int32.toInt_zero]
  omega
theorem spr_ge (h : SN f n) {k r g : Nat} (w : Nat) (hg : g ≤ 4100) (eg : f (33 + 5 * r) = nI g) (hk : k < n) : 5 ≤ spr f k w r ↔ szN f k w r + 5 ≤ g := by
  obtain ⟨d, h1, h2, h3⟩ := h.dm hk
  have hs : szN f k w r ≤ 4000 := by
    unfold szN
    rw [h3, tnI (by omega)]
    omega
  unfold spr
  rw [eg, Int32.le_iff_toInt_le, pk_sub_toInt (by omega) (by omega), show (5 : Int32).toInt = 5 by decide]
  omega
/-- a coin falls into the bag of x -/
theorem plc_iff (f : Nat → Int32) (k w : Nat) : ∀ m r x, x < 6 → r + m ≤ 6 → (plc f k w r m = nI x ↔ r ≤ x ∧ x < r + m ∧ (∀ j, r ≤ j → j < x → rll f k w j) ∧ ¬ rll f k w x ∧ 5 ≤ spr f k w x)
  | 0, r, x, hx, hr => by
    constructor
    · intro e
      exact absurd e.symm (m1ne (by omega))
    · rintro ⟨h1, h2, -⟩
      omega
  | m + 1, r, x, hx, hr => by
    have ih := plc_iff f k w m (r + 1) x hx (by omega)
    by_cases c : rll f k w r
    · have e : plc f k w r (m + 1) = plc f k w (r + 1) m := by
        show (if spr f k w r ≤ 0 then _ else _) = _
        by_cases a1 : spr f k w r ≤ 0
        · rw [if_pos a1]
        · by_cases a2 : f (35 + 5 * r) = -1
          · by_cases a3 : cIn f r < 40
            · rcases c with c | c | c
              · exact absurd c a1
              · exact absurd a2 c
              · exact absurd a3 c
            · rw [if_neg a1, if_neg (show ¬ ¬ f (35 + 5 * r) = -1 from fun z => z a2), if_pos a3]
          · rw [if_neg a1, if_pos a2]
      rw [e, ih]
      constructor
      · rintro ⟨h1, h2, h3, h4⟩
        refine ⟨by omega, by omega, fun j q1 q2 => ?_, h4⟩
        by_cases q : j = r
        · subst q; exact c
        · exact h3 j (by omega) q2
      · rintro ⟨h1, h2, h3, h4⟩
        have hne : r ≠ x := fun z => h4.1 (by rw [← z]; exact c)
        exact ⟨by omega, by omega, fun j q1 q2 => h3 j (by omega) q2, h4⟩
    · have c0 := c
      unfold rll at c
      have a1 : ¬ spr f k w r ≤ 0 := fun z => c (Or.inl z)
      have a2 : f (35 + 5 * r) = -1 := Decidable.byContradiction fun z => c (Or.inr (Or.inl z))
      have a3 : cIn f r < 40 := Decidable.byContradiction fun z => c (Or.inr (Or.inr z))
      have e : plc f k w r (m + 1) = if 5 ≤ spr f k w r then nI r else nI (10 + r) := by
        show (if spr f k w r ≤ 0 then _ else _) = _
        rw [if_neg a1, if_neg (show ¬ ¬ f (35 + 5 * r) = -1 from fun z => z a2), if_neg (show ¬ ¬ cIn f r < 40 from fun z => z a3)]
      rw [e]
      by_cases a4 : 5 ≤ spr f k w r
      · rw [if_pos a4]
        constructor
        · intro z
          obtain rfl := (nI_eq (by omega) (by omega)).mp z
          exact ⟨Nat.le_refl _, by omega, fun j q1 q2 => absurd q1 (by omega), c0, a4⟩
        · rintro ⟨h1, h2, h3, h4, h5⟩
          by_cases q : r = x
          · rw [q]
          · exact absurd (h3 r (Nat.le_refl _) (by omega)) c0
      · rw [if_neg a4]
        constructor
        · intro z
          have := (nI_eq (by omega) (by omega)).mp z
          omega
        · rintro ⟨h1, h2, h3, h4, h5⟩
          by_cases q : r = x
          · rw [← q] at h5
            exact absurd h5 a4
          · exact absurd (h3 r (Nat.le_refl _) (by omega)) c0
/-- a coin of kind k with the wear w falls home -/
def fH (f : Nat → Int32) (k w : Nat) : Prop := plc f k w 0 6 = f (5 + 5 * k)
theorem wrs_mono {w w' r : Nat} (h : w ≤ w') : wrs w r ≤ wrs w' r := by
  unfold wrs
  split <;> split <;> omega
theorem szN_mono (f : Nat → Int32) {k w w' r : Nat} (h : w ≤ w') : szN f k w' r ≤ szN f k w r := by
  have := wrs_mono (r := r) h
  unfold szN
  omega
theorem fH_mono (h : SN f n) {k x y : Nat} (hk : k < n) (h0 : fH f k 0) (hx : fH f k x) (hy : y ≤ x) : fH f k y := by
  obtain ⟨c, hc, ec⟩ := h.hm hk
  unfold fH at h0 hx ⊢
  rw [ec] at h0 hx ⊢
  obtain ⟨-, q2, q3, q4, q5⟩ := (plc_iff f k 0 6 0 c hc (by omega)).mp h0
  obtain ⟨-, -, p3, p4, p5⟩ := (plc_iff f k x 6 0 c hc (by omega)).mp hx
  have g0 : ∀ r, r < 6 → spr f k x r ≤ 0 → spr f k y r ≤ 0 := fun r hr z => by
    obtain ⟨g, g1, g2, eg⟩ := h.gp hr
    rw [spr_le h _ g2 eg hk] at z ⊢
    have := szN_mono f (k := k) (r := r) hy
    omega
  have g5 : 5 ≤ spr f k y c := by
    obtain ⟨g, g1, g2, eg⟩ := h.gp hc
    rw [spr_ge h _ g2 eg hk] at q5 ⊢
    have := szN_mono f (k := k) (r := c) (Nat.zero_le y)
    omega
  refine (plc_iff f k y 6 0 c hc (by omega)).mpr ⟨Nat.zero_le _, q2, fun j h1 h2 => ?_, ?_, g5⟩
  · rcases p3 j h1 h2 with z | z
    · exact Or.inl (g0 j (by omega) z)
    · exact Or.inr z
  · rintro (z | z)
    · obtain ⟨g, g1, g2, eg⟩ := h.gp hc
      rw [spr_ge h _ g2 eg hk] at g5
      rw [spr_le h _ g2 eg hk] at z
      omega
    · exact q4 (Or.inr z)
/-- how many wears from 0 on bring it home: c of them -/
def mwN (f : Nat → Int32) (k c : Nat) : Prop := c ≤ 1000 ∧ (∀ w, w < c → fH f k w) ∧ (c = 1000 ∨ ¬ fH f k c)
theorem mwN_ex (f : Nat → Int32) (k : Nat) : ∃ c, mwN f k c := by
  have key : ∀ m i, i + m = 1000 → (∀ w, w < i → fH f k w) → ∃ c, mwN f k c := by
    intro m
    induction m with
    | zero => exact fun i hi h => ⟨i, by omega, h, Or.inl (by omega)⟩
    | succ m ih =>
      intro i hi h
      by_cases c : fH f k i
      · exact ih (i + 1) (by omega) (fun w hw => by
          by_cases q : w = i
          · subst q; exact c
          · exact h w (by omega))
      · exact ⟨i, by omega, h, Or.inr c⟩
  exact key 1000 0 (by omega) (fun w hw => absurd hw (by omega))
end PG
section CG
variable {K : Nat} {G : Nat → Nat → Int32} {f : Nat → Int32} {n : Nat}
theorem c_falls (hK : 4000 ≤ K) (h : SR G 1 f) (hS : SN f n) {k w : Nat} (hk : k < n) (hw : w ≤ 999) : (fH f k w ∧ sX2_fallsHome K G (nI k) (nI w) = some 1) ∨ (¬ fH f k w ∧ sX2_fallsHome K G (nI k) (nI w) = some 0) := by
  have hn := hS.n6
  unfold sX2_fallsHome
  rw [c_plc hK h hS hk hw, bind_e, grd_i (by omega) (by decide), tnI (by omega), h.hm (by omega)]
  by_cases c : plc f k w 0 6 = f (5 + 5 * k)
  · rw [if_pos c]; exact Or.inl ⟨c, rfl⟩
  · rw [if_neg c]; exact Or.inr ⟨c, rfl⟩
theorem half {s : Nat} (hs : s < 1000) : nI s / (2 : Int32) = nI (s / 2) := pk_div (d := 2) (by omega) (by decide) (by decide)
theorem c_mwr (hK : 4000 ≤ K) (h : SR G 1 f) (hS : SN f n) {k c : Nat} (hk : k < n) (hc : mwN f k c) : sX2_mostFittingWear K G (nI k) = some (nI c - 1) := by
  obtain ⟨c1, c2, c3⟩ := hc
  unfold sX2_mostFittingWear
  rcases c_falls hK h hS hk (Nat.zero_le 999) with ⟨e0, e⟩ | ⟨e0, e⟩
  · rw [show sX2_fallsHome K G (nI k) (0 : Int32) = some 1 from e, bind_e, if_neg (by decide)]
    have hc0 : 1 ≤ c := by
      rcases Nat.eq_zero_or_pos c with z | z
      · subst z
        rcases c3 with q | q
        · omega
        · exact absurd e0 q
      · exact z
    have fin : ∀ {a : Nat}, a = c - 1 → nI a = nI c - 1 := fun {a} z => by
      have e1 : c = a + 1 := by omega
      rw [e1]
      exact (nI_pred a).symm
    -- the steps
    have key : ∀ (j a m : Nat), j < m → j ≤ 10 → a ≤ c - 1 → c - 1 < a + 2 ^ j → sX2_mostFittingWear_L17 K G (nI k) m (nI a) (nI (2 ^ j / 2)) = some (nI c - 1) := by
      intro j
      induction j with
      | zero =>
        intro a m hm _ h1 h2
        obtain ⟨b, rfl⟩ : ∃ b, m = b + 1 := ⟨m - 1, by omega⟩
        rw [sX2_mostFittingWear_L17, if_pos (show nI (2 ^ 0 / 2) ≤ 0 from by decide)]
        exact congrArg some (fin (by omega))
      | succ j ih =>
        intro a m hm hj h1 h2
        obtain ⟨b, rfl⟩ : ∃ b, m = b + 1 := ⟨m - 1, by omega⟩
        have hp : 2 ^ (j + 1) / 2 = 2 ^ j := by
          rw [Nat.pow_succ]
          omega
        have hp2 : 2 ^ (j + 1) = 2 * 2 ^ j := by
          rw [Nat.pow_succ]
          omega
        have hlo : 1 ≤ 2 ^ j := Nat.one_le_two_pow
        have hhi : 2 ^ j ≤ 512 := Nat.pow_le_pow_right (by decide) (show j ≤ 9 by omega)
        rw [hp, sX2_mostFittingWear_L17, if_neg (show ¬ nI (2 ^ j) ≤ 0 from nI_nle hlo (by omega)), nI_add, half (by omega)]
        by_cases q : 999 < a + 2 ^ j
        · rw [if_pos (show (999 : Int32) < nI (a + 2 ^ j) from yltI (a := 999) q (by omega))]
          exact ih a b (by omega) (by omega) h1 (by omega)
        · rw [if_neg (show ¬ (999 : Int32) < nI (a + 2 ^ j) from nltI (a := 999) (by omega) (by decide))]
          rcases c_falls hK h hS hk (show a + 2 ^ j ≤ 999 by omega) with ⟨q0, qe⟩ | ⟨q0, qe⟩
          · rw [qe, bind_e, if_neg (by decide)]
            refine ih (a + 2 ^ j) b (by omega) (by omega) ?_ (by omega)
            rcases Nat.lt_or_ge (a + 2 ^ j) c with z | z
            · omega
            · rcases c3 with z3 | z3
              · omega
              · exact absurd (fH_mono hS hk e0 q0 z) z3
          · rw [qe, bind_e, if_pos rfl]
            refine ih a b (by omega) (by omega) h1 ?_
            rcases Nat.lt_or_ge (a + 2 ^ j) c with z | z
            · exact absurd (c2 _ z) q0
            · omega
    exact key 10 0 K (by omega) (by omega) (Nat.zero_le _) (by omega)
  · rw [show sX2_fallsHome K G (nI k) (0 : Int32) = some 0 from e, bind_e, if_pos rfl]
    have hc0 : c = 0 := by
      rcases Nat.eq_zero_or_pos c with z | z
      · exact z
      · exact absurd (c2 0 z) e0
    subst hc0
    rfl
end CG
section MG
variable {K : Nat} {M : Nat → Nat → Int32} {n : Nat}
theorem feF_out (f : Nat → Int32) {k : Nat} (hk : k < 6) (w : Nat) {i : Nat} (hi : 99 ≤ i) : feF f k w i = f i := by
  have r1 : ∀ x, x ≤ 6 → rollF (fdF f k) x i = f i := fun x hx => by
    rw [rollF_n _ _ (fun a ha => by omega), fdF_n _ (by omega) (by omega)]
  unfold feF
  rcases plc_of f k w 6 0 with e | ⟨x, -, hx, e | e, -⟩
  · rw [e, enF_none, upd_n (by omega), r1 6 (by omega)]
  · rw [e, enF_fall _ _ _ (by omega)]
    unfold falF
    rw [usF_n _ (by omega) (by omega), upd_n (by omega), r1 x (by omega)]
  · rw [e, enF_stuck _ _ _ (by omega), upd_n (by omega), upd_n (by omega), r1 x (by omega)]
end MG

