/-! PURE, part Y: a step of the law keeps two turned states -/
section TS
variable {f g : Nat → Int32}
theorem Turn.t_roll (h : Turn f g) : ∀ r, r ≤ 6 → Turn (rollF f r) (rollF g r)
  | 0, _ => h
  | r + 1, hr => by
    have ih := h.t_roll r (by omega)
    exact ih.u (i := 37 + 5 * r) (by omega) (tau_o (Or.inr (by omega))) (by rw [ih.ro (by omega)])
theorem Turn.t_fd (h : Turn f g) {k : Nat} (hk : k < 4) : Turn (fdF f k) (fdF g (3 - k)) := by
  have e : 3 - (3 - k) = k := by omega
  unfold fdF
  exact (h.u (i := 1) (by omega) (tau_o (Or.inl (by omega))) (by rw [h.e1])).u (i := 6 + 5 * (3 - k)) (by omega) (by rw [tau6 (by omega), e]) (by rw [h.fd (by omega), e])
theorem Turn.t_us (h : Turn f g) {r : Nat} (hr : r < 6) : Turn (usF f r) (usF g r) := by
  have t4 : tau (34 + 5 * r) = 34 + 5 * r := tau_o (Or.inr (by omega))
  have t3 : tau (33 + 5 * r) = 33 + 5 * r := tau_o (Or.inr (by omega))
  unfold usF
  rw [h.us hr, h.gp hr]
  by_cases c : f (34 + 5 * r) + 1 = 20
  · rw [if_pos c, if_pos c]
    exact ((h.u (by omega) t4 rfl).u (by omega) t4 rfl).u (by omega) t3 rfl
  · rw [if_neg c, if_neg c]
    exact h.u (by omega) t4 rfl
theorem Turn.t_bg1 (h : Turn f g) {r k : Nat} (hr : r < 6) (hk : k < 4) : Turn (upd f (63 + 6 * r + k) (f (63 + 6 * r + k) + 1)) (upd g (63 + 6 * r + (3 - k)) (g (63 + 6 * r + (3 - k)) + 1)) := by
  have e : 3 - (3 - k) = k := by omega
  exact h.u (by omega) (by rw [tau_b (by omega), e]) (by rw [h.bg (by omega), e])
theorem Turn.t_rj1 (h : Turn f g) {k : Nat} (hk : k < 4) : Turn (upd f (7 + 5 * k) (f (7 + 5 * k) + 1)) (upd g (7 + 5 * (3 - k)) (g (7 + 5 * (3 - k)) + 1)) := by
  have e : 3 - (3 - k) = k := by omega
  exact h.u (by omega) (by rw [tau7 (by omega), e]) (by rw [h.rj (by omega), e])
theorem Turn.t_fe (h : Turn f g) {k : Nat} (hk : k < 4) (w : Nat) : Turn (feF f k w) (feF g (3 - k) w) := by
  have hd := h.t_fd hk
  have e3 : 3 - (3 - k) = k := by omega
  unfold feF
  rw [h.t_plc hk w 6 0 (Nat.le_refl _)]
  rcases plc_of f k w 6 0 with e | ⟨x, x1, x2, e | e, -⟩
  · rw [e, enF_none, enF_none]
    exact (hd.t_roll 6 (Nat.le_refl _)).t_rj1 hk
  · rw [e, enF_fall _ _ _ (show x < 6 by omega), enF_fall _ _ _ (show x < 6 by omega)]
    unfold falF
    exact ((hd.t_roll x (by omega)).t_bg1 (by omega) hk).t_us (by omega)
  · rw [e, enF_stuck _ _ _ (show x < 6 by omega), enF_stuck _ _ _ (show x < 6 by omega)]
    exact ((hd.t_roll x (by omega)).s (show x < 6 by omega) (Or.inr ⟨k, hk, rfl, rfl⟩)).u (by omega) (tau_o (Or.inr (by omega))) rfl
theorem Turn.t_gap (h : Turn f g) {r : Nat} (hr : r < 6) (x y : Int32) : Turn (upd (upd f (33 + 5 * r) x) (34 + 5 * r) y) (upd (upd g (33 + 5 * r) x) (34 + 5 * r) y) :=
  (h.u (by omega) (tau_o (Or.inr (by omega))) rfl).u (by omega) (tau_o (Or.inr (by omega))) rfl
theorem Turn.t_fr (h : Turn f g) {r k : Nat} (hr : r < 6) (hk : k < 4) : Turn (frF f r k) (frF g r (3 - k)) := by
  have t6 : tau (36 + 5 * r) = 36 + 5 * r := tau_o (Or.inr (by omega))
  unfold frF
  rw [h.t_cIn]
  by_cases c : cIn f r < 40
  · rw [if_pos c, if_pos c]
    exact ((h.t_bg1 hr hk).s hr (Or.inl ⟨rfl, rfl⟩)).u (by omega) t6 rfl
  · rw [if_neg c, if_neg c]
    exact ((h.t_rj1 hk).s hr (Or.inl ⟨rfl, rfl⟩)).u (by omega) t6 rfl
theorem tau_row {r i : Nat} (h : 63 + 6 * r ≤ i ∧ i < 63 + 6 * r + 6) : 63 + 6 * r ≤ tau i ∧ tau i < 63 + 6 * r + 6 := by
  obtain ⟨k, rfl⟩ : ∃ k, i = 63 + 6 * r + k := ⟨i - (63 + 6 * r), by omega⟩
  by_cases c : k < 4
  · rw [tau_b c]; omega
  · rw [tau_z (by omega) (by omega)]; omega
theorem Turn.t_zb (h : Turn f g) {r : Nat} (hr : r < 6) : Turn (upd (zbF f r 6) 2 (f 2 + cIn f r)) (upd (zbF g r 6) 2 (g 2 + cIn g r)) := by
  have h1 : Turn (zbF f r 6) (zbF g r 6) := by
    refine ⟨fun i hi => ?_, fun j hj => ?_⟩
    · rw [zbF_at, zbF_at]
      by_cases c : 63 + 6 * r ≤ i ∧ i < 63 + 6 * r + 6
      · rw [if_pos c, if_pos (tau_row c)]
      · rw [if_neg c, if_neg (fun z => c (by have := tau_row z; rw [tau_tau] at this; exact this))]
        exact h.1 i hi
    · rw [zbF_at, zbF_at, if_neg (by omega), if_neg (by omega)]
      exact h.2 j hj
  exact h1.u (by omega) (tau_o (Or.inl (by omega))) (by rw [h.e2, h.t_cIn])
theorem Turn.t_zr (h : Turn f g) : Turn (upd (zrF f 6) 2 (f 2 + sm (fun k => f (7 + 5 * k)) 6)) (upd (zrF g 6) 2 (g 2 + sm (fun k => g (7 + 5 * k)) 6)) := by
  have tz : ∀ i, (∃ a, a < 6 ∧ i = 7 + 5 * a) → ∃ a, a < 6 ∧ tau i = 7 + 5 * a := fun i ⟨a, ha, e⟩ => by
    subst e
    by_cases c : a < 4
    · exact ⟨3 - a, by omega, tau7 c⟩
    · exact ⟨a, ha, tau_o (Or.inr (by omega))⟩
  have h1 : Turn (zrF f 6) (zrF g 6) := by
    refine ⟨fun i hi => ?_, fun j hj => ?_⟩
    · by_cases c : ∃ a, a < 6 ∧ i = 7 + 5 * a
      · obtain ⟨b, hb, e⟩ := tz i c
        obtain ⟨a, ha, rfl⟩ := c
        rw [e, zrF_z _ _ _ ha, zrF_z _ _ _ hb]
      · rw [zrF_o _ _ _ (fun a ha e => c ⟨a, ha, e⟩), zrF_o _ _ _ (fun a ha e => c (by
          have := tz (tau i) ⟨a, ha, e⟩
          rw [tau_tau] at this
          exact this))]
        exact h.1 i hi
    · rw [zrF_o _ _ _ (fun a ha => by omega), zrF_o _ _ _ (fun a ha => by omega)]
      exact h.2 j hj
  exact h1.u (by omega) (tau_o (Or.inl (by omega))) (by rw [h.e2, h.t_rej])
end TS
/-- what holds of the two sorters at each step -/
def Iv (G P : Nat → Nat → Int32) : Prop := ∃ f g, St G f 4 ∧ St P g 4 ∧ Turn f g ∧ Gd f
section ST
variable {K : Nat} {G P : Nat → Nat → Int32}
theorem p_up (K : Nat) (v : Int32) {n : Nat} (h0 : 0 < n) (hn : n < 2147483648) : ∃ m, m < n ∧ sL_up K v (nI n) = some (nI m) := by
  obtain ⟨j, h1, h2⟩ := pk_andE v (m := 2147483647) 31 (by decide)
  refine ⟨j % n, Nat.mod_lt _ h0, ?_⟩
  unfold sL_up
  rw [grd_t (decide_eq_true (show ¬ nI n = 0 from neI (b := 0) (by omega) hn (by omega))), h2, pk_rem (by omega) h0 (by omega)]
theorem st_gap (hK : 4000 ≤ K) {f g : Nat → Int32} (hG : St G f 4) (hP : St P g 4) (T : Turn f g) (hg : Gd f) {r x : Nat} (hr : r < 6) (x1 : 900 ≤ x) (x2 : x ≤ 4100) : ∃ G' P', ((sX3_rail K G (nI r) (3 : Int32)).bind fun r130 => if 0 ≤ r130 then some (G, P) else (sX3_setGap K G (nI r) (nI x)).bind fun r141 => (sX3_setGap K P (nI r) (nI x)).bind fun r149 => grd (decide (r141.1 = r149.1)) (some (r141.2, r149.2))) = some (G', P') ∧ Iv G' P' := by
  have r3 : sX3_rail K G (nI r) (3 : Int32) = some (f (35 + 5 * r)) := o_rail hK hG hr (w := 3) (by decide)
  rcases T.2 r hr with ⟨a, b⟩ | ⟨k, hk, a, b⟩
  · obtain ⟨G1, a1, a2⟩ := o_setGap (K := K) hG hr x1 x2 a
    obtain ⟨P1, b1, b2⟩ := o_setGap (K := K) hP hr x1 x2 b
    refine ⟨G1, P1, ?_, _, _, a2, b2, T.t_gap hr _ _, hg.gap hr _ _⟩
    rw [r3, bind_e, a, if_neg (by decide), a1, bind_e, b1, bind_e, grd_t (decide_eq_true (T.gp hr).symm)]
  · refine ⟨G, P, ?_, f, g, hG, hP, T, hg⟩
    rw [r3, bind_e, a, if_pos (nI_pos' (by omega))]
theorem st_feed (hK : 4000 ≤ K) (p3 : Int32) {k w N : Nat} (hk : k < 4) (hw : w ≤ 999) (hN : N ≤ 6) {f g : Nat → Int32} (hG : St G f 4) (hP : St P g 4) (T : Turn f g) (hg : Gd f) : ∃ G' P', sL_isStep_L319 K p3 K G P (nI k) (nI w) (nI N) (0 : Int32) = some (G', P') ∧ Iv G' P' := by
  have key : ∀ (m i y : Nat) (G P : Nat → Nat → Int32) (f g : Nat → Int32), i + m = N → m < y → St G f 4 → St P g 4 → Turn f g → Gd f → ∃ G' P', sL_isStep_L319 K p3 y G P (nI k) (nI w) (nI N) (nI i) = some (G', P') ∧ Iv G' P' := by
    intro m
    induction m with
    | zero =>
      intro i y G P f g hi hy hG hP T hg
      obtain ⟨z, rfl⟩ : ∃ z, y = z + 1 := ⟨y - 1, by omega⟩
      obtain rfl : i = N := by omega
      refine ⟨G, P, ?_, f, g, hG, hP, T, hg⟩
      rw [sL_isStep_L319, if_pos (yleI (Nat.le_refl _) (by omega))]
    | succ m ih =>
      intro i y G P f g hi hy hG hP T hg
      obtain ⟨z, rfl⟩ : ∃ z, y = z + 1 := ⟨y - 1, by omega⟩
      obtain ⟨G1, a1, a2⟩ := o_feed hK hG hk hw
      obtain ⟨P1, b1, b2⟩ := o_feed hK hP (k := 3 - k) (by omega) hw
      obtain ⟨G', P', e, hI⟩ := ih (i + 1) z G1 P1 _ _ (by omega) (by omega) a2 b2 (T.t_fe hk w) (hg.fe hk)
      refine ⟨G', P', ?_, hI⟩
      rw [sL_isStep_L319, if_neg (nleI (by omega) (by omega)), a1, bind_e, show (3 : Int32) - nI k = nI (3 - k) from pk_sub (a := 3) (by omega), b1, bind_e, grd_t (decide_eq_true (T.t_plc hk w 6 0 (Nat.le_refl _)).symm), nI1]
      exact e
  exact key N 0 K G P f g (by omega) (by omega) hG hP T hg
theorem st_where (hK : 4000 ≤ K) {k w : Nat} (hk : k < 4) (hw : w ≤ 999) {f g : Nat → Int32} (hG : St G f 4) (hP : St P g 4) (T : Turn f g) {F : Option ((Nat → Nat → Int32) × (Nat → Nat → Int32))} : ((sX3_where K G (nI k) (nI w)).bind fun r293 => (sX3_where K P ((3 : Int32) - nI k) (nI w)).bind fun r303 => grd (decide (r293 = r303)) F) = F := by
  rw [o_where hK hG hk hw, bind_e, show (3 : Int32) - nI k = nI (3 - k) from pk_sub (a := 3) (by omega), o_where hK hP (by omega) hw, bind_e, grd_t (decide_eq_true (T.t_plc hk w 6 0 (Nat.le_refl _)).symm)]
theorem p_step (hK : 4000 ≤ K) (hI : Iv G P) (v : Int32) : ∃ G' P', sL_isStep K G P v = some (G', P') ∧ Iv G' P' := by
  obtain ⟨f, g, hG, hP, T, hg⟩ := hI
  unfold sL_isStep
  generalize hy : v >>> ((4 : Int32) &&& 31) = y
  obtain ⟨r, hr, er⟩ := p_up K y (n := 6) (by decide) (by decide)
  obtain ⟨c, hc, ec⟩ := p_up K v (n := 14) (by decide) (by decide)
  obtain ⟨k, hk, ek⟩ := pk_andE (y >>> ((3 : Int32) &&& 31)) (m := 3) 2 (by decide)
  have hk : k < 4 := hk
  rw [show sL_up K y (6 : Int32) = some (nI r) from er, bind_e, show sL_up K v (14 : Int32) = some (nI c) from ec, bind_e, ek]
  have gaps : ∃ G' P', ((sL_up K (y >>> ((5 : Int32) &&& 31)) (2 : Int32)).bind fun r64 => (if r64 = 0 then (sX3_kind K G (nI k) (0 : Int32)).bind fun r74 => (sL_up K (y >>> ((7 : Int32) &&& 31)) (12 : Int32)).bind fun r83 => (if ((r74 + r83) - (2 : Int32)) ≤ (4100 : Int32) then (sX3_rail K G (nI r) (3 : Int32)).bind fun r130 => (if 0 ≤ r130 then some (G, P) else (sX3_setGap K G (nI r) ((r74 + r83) - (2 : Int32))).bind fun r141 => (sX3_setGap K P (nI r) ((r74 + r83) - (2 : Int32))).bind fun r149 => grd (decide (r141.1 = r149.1)) (some (r141.2, r149.2))) else (sX3_rail K G (nI r) (3 : Int32)).bind fun r130 => (if 0 ≤ r130 then some (G, P) else (sX3_setGap K G (nI r) (4100 : Int32)).bind fun r141 => (sX3_setGap K P (nI r) (4100 : Int32)).bind fun r149 => grd (decide (r141.1 = r149.1)) (some (r141.2, r149.2)))) else (sL_up K (y >>> ((7 : Int32) &&& 31)) (3201 : Int32)).bind fun r102 => (if ((900 : Int32) + r102) ≤ (4100 : Int32) then (sX3_rail K G (nI r) (3 : Int32)).bind fun r130 => (if 0 ≤ r130 then some (G, P) else (sX3_setGap K G (nI r) ((900 : Int32) + r102)).bind fun r141 => (sX3_setGap K P (nI r) ((900 : Int32) + r102)).bind fun r149 => grd (decide (r141.1 = r149.1)) (some (r141.2, r149.2))) else (sX3_rail K G (nI r) (3 : Int32)).bind fun r130 => (if 0 ≤ r130 then some (G, P) else (sX3_setGap K G (nI r) (4100 : Int32)).bind fun r141 => (sX3_setGap K P (nI r) (4100 : Int32)).bind fun r149 => grd (decide (r141.1 = r149.1)) (some (r141.2, r149.2)))))) = some (G', P') ∧ Iv G' P' := by
    obtain ⟨z, -, ez⟩ := p_up K (y >>> ((5 : Int32) &&& 31)) (n := 2) (by decide) (by decide)
    obtain ⟨s, hs, es⟩ := p_up K (y >>> ((7 : Int32) &&& 31)) (n := 12) (by decide) (by decide)
    obtain ⟨t, ht, et⟩ := p_up K (y >>> ((7 : Int32) &&& 31)) (n := 3201) (by decide) (by decide)
    obtain ⟨d, d1, d2, d3⟩ := hG.2.1.dm hk
    have ed : sX3_kind K G (nI k) (0 : Int32) = some (nI d) := (o_kind hK hG hk (w := 0) (by decide)).trans (congrArg some d3)
    rw [show sL_up K (y >>> ((5 : Int32) &&& 31)) (2 : Int32) = some (nI z) from ez, bind_e, ed, bind_e, show sL_up K (y >>> ((7 : Int32) &&& 31)) (12 : Int32) = some (nI s) from es, bind_e, show sL_up K (y >>> ((7 : Int32) &&& 31)) (3201 : Int32) = some (nI t) from et, bind_e, nI_add, show nI (d + s) - (2 : Int32) = nI (d + s - 2) from pk_sub (b := 2) (by omega), show (900 : Int32) + nI t = nI (900 + t) from nI_add 900 t, if_pos (show nI (d + s - 2) ≤ (4100 : Int32) from yleI (b := 4100) (by omega) (by decide)), if_pos (show nI (900 + t) ≤ (4100 : Int32) from yleI (b := 4100) (by omega) (by decide))]
    by_cases q : nI z = 0
    · rw [if_pos q]
      exact st_gap hK hG hP T hg hr (x := d + s - 2) (by omega) (by omega)
    · rw [if_neg q]
      exact st_gap hK hG hP T hg hr (x := 900 + t) (by omega) (by omega)
  by_cases c0 : nI c = (0 : Int32)
  · rw [if_pos c0]
    exact gaps
  rw [if_neg c0]
  by_cases c1 : nI c = (1 : Int32)
  · rw [if_pos c1]
    exact gaps
  rw [if_neg c1]
  by_cases c2 : nI c = (2 : Int32)
  · rw [if_pos c2]
    have r3 : sX3_rail K G (nI r) (3 : Int32) = some (f (35 + 5 * r)) := o_rail hK hG hr (w := 3) (by decide)
    have s3 : sX3_rail K P (nI r) (3 : Int32) = some (g (35 + 5 * r)) := o_rail hK hP hr (w := 3) (by decide)
    rcases T.2 r hr with ⟨a, b⟩ | ⟨j, hj, a, b⟩
    · refine ⟨G, P, ?_, f, g, hG, hP, T, hg⟩
      rw [r3, bind_e, a, if_neg (by decide), s3, bind_e, b, grd_t (by decide)]
    · obtain ⟨G1, a1, a2⟩ := o_free hK hG hr hj a
      obtain ⟨P1, b1, b2⟩ := o_free hK hP hr (k := 3 - j) (by omega) b
      refine ⟨G1, P1, ?_, _, _, a2, b2, T.t_fr hr hj, hg.fr hr hj a⟩
      rw [r3, bind_e, a, if_pos (nI_pos' (by omega)), a1, bind_e, b1, bind_e, grd_t (decide_eq_true (show nI j = (3 : Int32) - nI (3 - j) by rw [show (3 : Int32) - nI (3 - j) = nI (3 - (3 - j)) from pk_sub (a := 3) (by omega), show 3 - (3 - j) = j by omega]))]
  rw [if_neg c2]
  by_cases c3 : nI c = (3 : Int32)
  · rw [if_pos c3]
    obtain ⟨G1, a1, a2⟩ := o_takeBag hK hG hr
    obtain ⟨P1, b1, b2⟩ := o_takeBag hK hP hr
    refine ⟨G1, P1, ?_, _, _, a2, b2, T.t_zb hr, hg.zb hr⟩
    rw [a1, bind_e, b1, bind_e, grd_t (decide_eq_true (T.t_cIn r).symm)]
  rw [if_neg c3]
  by_cases c4 : nI c = (4 : Int32)
  · rw [if_pos c4]
    obtain ⟨G1, a1, a2⟩ := o_takeRejects hK hG
    obtain ⟨P1, b1, b2⟩ := o_takeRejects hK hP
    refine ⟨G1, P1, ?_, _, _, a2, b2, T.t_zr, hg.zr⟩
    rw [a1, bind_e, b1, bind_e, grd_t (decide_eq_true T.t_rej.symm)]
  rw [if_neg c4]
  obtain ⟨z, -, ez⟩ := p_up K y (n := 3) (by decide) (by decide)
  obtain ⟨s, hs, es⟩ := p_up K (y >>> ((6 : Int32) &&& 31)) (n := 1000) (by decide) (by decide)
  obtain ⟨t, ht, et⟩ := p_up K (y >>> ((6 : Int32) &&& 31)) (n := 40) (by decide) (by decide)
  obtain ⟨u, hu, eu⟩ := p_up K (y >>> ((16 : Int32) &&& 31)) (n := 6) (by decide) (by decide)
  rw [show sL_up K y (3 : Int32) = some (nI z) from ez, bind_e, show sL_up K (y >>> ((6 : Int32) &&& 31)) (1000 : Int32) = some (nI s) from es, bind_e, show sL_up K (y >>> ((6 : Int32) &&& 31)) (40 : Int32) = some (nI t) from et, bind_e, show sL_up K (y >>> ((16 : Int32) &&& 31)) (6 : Int32) = some (nI u) from eu, bind_e, bind_e, show (1 : Int32) + nI u = nI (1 + u) from nI_add 1 u, st_where hK hk (w := s) (by omega) hG hP T, st_where hK hk (w := t) (by omega) hG hP T]
  by_cases q : nI z = 0
  · rw [if_pos q]
    exact st_feed hK v hk (by omega) (by omega) hG hP T hg
  · rw [if_neg q]
    exact st_feed hK v hk (by omega) (by omega) hG hP T hg
end ST
