/-! PURE, part R: the class's calls, none of them refused: what they answer, what they leave -/
def HC (G : Nat → Nat → Int32) : Prop := ∃ c nx, c ≤ 4 ∧ nx < 4 ∧ G 13 1 = nI nx ∧ G 13 2 = nI c
/-- the last saved state is f -/
def HU (G : Nat → Nat → Int32) (f : Nat → Int32) : Prop := ∃ c nx, 1 ≤ c ∧ c ≤ 4 ∧ nx < 4 ∧ G 13 1 = nI nx ∧ G 13 2 = nI c ∧ SR G (15 + 12 * ((nx + 3) % 4)) f
def St (G : Nat → Nat → Int32) (f : Nat → Int32) (n : Nat) : Prop := SR G 1 f ∧ SN f n ∧ HC G
section RC
variable {K : Nat} {G G' : Nat → Nat → Int32} {f : Nat → Int32} {n : Nat}
theorem HU.hc (h : HU G f) : HC G := by
  obtain ⟨c, nx, -, h1, h2, h3, h4, -⟩ := h
  exact ⟨c, nx, h1, h2, h3, h4⟩
theorem HU.mv (h : HU G f) (o : Oth G G') : HU G' f := by
  obtain ⟨c, nx, h0, h1, h2, h3, h4, h5⟩ := h
  exact ⟨c, nx, h0, h1, h2, (congrFun (o 13 (by omega)) 1).trans h3, (congrFun (o 13 (by omega)) 2).trans h4, h5.same fun a ha => o _ (by omega)⟩
theorem o_save (K : Nat) (h : St G f n) : ∃ G1, sX1_save K G = some G1 ∧ SR G1 1 f ∧ HU G1 f := by
  obtain ⟨h1, h2, c, nx, e1, e2, e3, e4⟩ := h
  obtain ⟨G1, a1, a2, a3, a4, a5⟩ := c_save K h1 e1 e2 e3 e4
  refine ⟨G1, a1, h1.same fun a ha => a5 _ (by omega) (Or.inl (by omega)), if c < 4 then c + 1 else 4, (nx + 1) % 4, ?_, ?_, by omega, a3, a4, ?_⟩
  · split <;> omega
  · split <;> omega
  · rw [show ((nx + 1) % 4 + 3) % 4 = nx by omega]; exact a2
theorem k_arg (K : Nat) (G : Nat → Nat → Int32) {v lo hi : Nat} (h1 : lo ≤ v) (h2 : v ≤ hi) (h3 : hi < 2147483648) : sX3_checkArgument K G (nI v) (nI lo) (nI hi) = some () := by
  unfold sX3_checkArgument
  rw [if_neg (nltI h1 (by omega)), if_pos (yleI h2 h3)]
theorem k_kind (K : Nat) (h : SR G 1 f) (hS : SN f n) {k : Nat} (hk : k < n) : sX3_checkKind K G (nI k) = some () := by
  have hn := hS.n6
  unfold sX3_checkKind
  rw [if_neg (nI_pos (show k < 2 ^ 31 by omega)), h.kinds, hS.k0, if_pos (yltI hk (by omega))]
theorem k_rail (K : Nat) (G : Nat → Nat → Int32) {r : Nat} (hr : r < 6) : sX3_checkRail K G (nI r) = some () := by
  unfold sX3_checkRail
  rw [rail_c, if_pos (by rw [nI_toInt (by omega)]; omega), bind_e, if_neg (by decide)]
theorem o_kind (hK : 4000 ≤ K) (h : St G f n) {k w : Nat} (hk : k < n) (hw : w < 7) : sX3_kind K G (nI k) (nI w) = some (abK f k w) := by
  have hn := h.2.1.n6
  unfold sX3_kind
  rw [k_kind K h.1 h.2.1 hk, bind_e, show sX3_checkArgument K G (nI w) (0 : Int32) (6 : Int32) = some () from k_arg K G (lo := 0) (hi := 6) (Nat.zero_le w) (by omega) (by decide), bind_e, c_abK hK h.1 (by omega) hw, bind_e]
theorem o_rail (hK : 4000 ≤ K) (h : St G f n) {r w : Nat} (hr : r < 6) (hw : w < 10) : sX3_rail K G (nI r) (nI w) = some (abR f n r w) := by
  unfold sX3_rail
  rw [k_rail K G hr, bind_e, show sX3_checkArgument K G (nI w) (0 : Int32) (9 : Int32) = some () from k_arg K G (lo := 0) (hi := 9) (Nat.zero_le w) (by omega) (by decide), bind_e, c_abR hK h.1 h.2.1.n6 h.2.1.k0 hr hw, bind_e]
theorem o_count (K : Nat) (h : St G f n) {r k : Nat} (hr : r < 6) (hk : k < n) : sX3_count K G (nI r) (nI k) = some (f (63 + 6 * r + k)) := by
  have hn := h.2.1.n6
  unfold sX3_count
  rw [k_rail K G hr, bind_e, k_kind K h.1 h.2.1 hk, bind_e, c_ofKind h.1 hr (by omega), bind_e]
theorem o_value (hK : 4000 ≤ K) (h : St G f n) {w : Nat} (hw : w < 10) : sX3_value K G (nI w) = some (abA f n w) := by
  unfold sX3_value
  rw [show sX3_checkArgument K G (nI w) (0 : Int32) (9 : Int32) = some () from k_arg K G (lo := 0) (hi := 9) (Nat.zero_le w) (by omega) (by decide), bind_e, c_abA hK h.1 h.2.1 hw, bind_e]
theorem o_where (hK : 4000 ≤ K) (h : St G f n) {k w : Nat} (hk : k < n) (hw : w ≤ 999) : sX3_where K G (nI k) (nI w) = some (plc f k w 0 6) := by
  unfold sX3_where
  rw [k_kind K h.1 h.2.1 hk, bind_e, show sX3_checkArgument K G (nI w) (0 : Int32) (999 : Int32) = some () from k_arg K G (lo := 0) (hi := 999) (Nat.zero_le w) hw (by decide), bind_e, c_plc hK h.1 h.2.1 hk hw, bind_e]
theorem o_mostWear (hK : 4000 ≤ K) (h : St G f n) {k c : Nat} (hk : k < n) (hc : mwN f k c) : sX3_mostWear K G (nI k) = some (nI c - 1) := by
  unfold sX3_mostWear
  rw [k_kind K h.1 h.2.1 hk, bind_e, c_mwr hK h.1 h.2.1 hk hc, bind_e]
theorem o_bestGap (hK : 4000 ≤ K) (h : St G f n) {r : Nat} (hr : r < 6) : sX3_bestGap K G (nI r) = some (bgF f n (nI r)) := by
  unfold sX3_bestGap
  rw [k_rail K G hr, bind_e, c_gapF hK h.1 h.2.1.n6 h.2.1.k0, bind_e]
theorem o_supply (hK : 4000 ≤ K) (h : St G f n) {k x : Nat} (hk : k < n) (hx : x < 6) (hh : f (5 + 5 * k) = nI x) : (fH f k 0 ∧ sX3_supply K G (nI k) = some (40 - cIn f x)) ∨ (¬ fH f k 0 ∧ sX3_supply K G (nI k) = some 0) := by
  unfold sX3_supply
  rw [k_kind K h.1 h.2.1 hk, bind_e]
  rcases c_supply hK h.1 h.2.1 hk hx hh with ⟨a, b⟩ | ⟨a, b⟩
  · exact Or.inl ⟨a, by rw [b, bind_e]⟩
  · exact Or.inr ⟨a, by rw [b, bind_e]⟩
theorem o_right (hK : 4000 ≤ K) (h : St G f n) (hz : ¬ sm (fun r => cIn f r) 6 = 0 → nn64 (FP.ddiv (FP.i2d (sm (fun r => cIn f r) 6 - sm (fun r => mis f n r) 6)) (FP.i2d (sm (fun r => cIn f r) 6))) = true) : sX3_right K G = some (rtF f n) := by
  unfold sX3_right rtF
  rw [c_bagsA hK h.1, bind_e, sm36]
  by_cases c : sm (fun r => cIn f r) 6 = 0
  · rw [if_pos c, if_pos c]
  · rw [if_neg c, if_neg c, c_misA hK h.1 h.2.1.n6 h.2.1.k0, bind_e, grd_t (hz c)]
theorem o_feed (hK : 4000 ≤ K) (h : St G f n) {k w : Nat} (hk : k < n) (hw : w ≤ 999) : ∃ G', sX3_feed K G (nI k) (nI w) = some (plc f k w 0 6, G') ∧ St G' (feF f k w) n := by
  obtain ⟨G1, a1, a2, a3⟩ := o_save K h
  obtain ⟨G2, b1, b2, b3⟩ := c_put hK a2 h.2.1 hk hw
  refine ⟨G2, ?_, b2, h.2.1.fe1 hk w, (a3.mv b3).hc⟩
  unfold sX3_feed
  rw [k_kind K h.1 h.2.1 hk, bind_e, show sX3_checkArgument K G (nI w) (0 : Int32) (999 : Int32) = some () from k_arg K G (lo := 0) (hi := 999) (Nat.zero_le w) hw (by decide), bind_e, a1, bind_e, b1, bind_e]
theorem o_setGap (h : St G f n) {r g : Nat} (hr : r < 6) (h1 : 900 ≤ g) (h2 : g ≤ 4100) (e : f (35 + 5 * r) = -1) : ∃ G', sX3_setGap K G (nI r) (nI g) = some (f (33 + 5 * r), G') ∧ St G' (upd (upd f (33 + 5 * r) (nI g)) (34 + 5 * r) 0) n := by
  obtain ⟨G1, a1, a2, a3⟩ := o_save K h
  refine ⟨up2 (up2 G1 7 r (nI g)) 8 r 0, ?_, (a2.u 6 r (vdK (by decide) (by decide) hr) (nI g)).u 7 r (vdK (by decide) (by decide) hr) 0, (h.2.1.gap1 hr h1 h2).use1 (x := 0) hr (by omega), (a3.mv (((Oth.rf G1).up 7 _ _ (by decide) (by decide)).up 8 _ _ (by decide) (by decide))).hc⟩
  unfold sX3_setGap
  rw [k_rail K G hr, bind_e, show sX3_checkArgument K G (nI g) (900 : Int32) (4100 : Int32) = some () from k_arg K G (lo := 900) (hi := 4100) h1 h2 (by decide), bind_e, c_isStuck h.1 hr, bind_e, if_pos e, if_pos rfl, a1, bind_e, grd_i hr (by decide), grd_i hr (by decide), tnI (show r < 2147483648 by omega), olet_e, grd_i hr (by decide), olet_e, a2.gp hr]
theorem o_free (hK : 4000 ≤ K) (h : St G f n) {r k : Nat} (hr : r < 6) (hk : k < n) (e : f (35 + 5 * r) = nI k) : ∃ G', sX3_free K G (nI r) = some (nI k, G') ∧ St G' (frF f r k) n := by
  have hn := h.2.1.n6
  obtain ⟨G1, a1, a2, a3⟩ := o_save K h
  obtain ⟨G2, b1, b2, b3⟩ := c_loosen hK a2 h.2.1 hr hk e
  refine ⟨G2, ?_, b2, h.2.1.fr1 hr hk, (a3.mv b3).hc⟩
  unfold sX3_free
  rw [k_rail K G hr, bind_e, c_isStuck h.1 hr, bind_e, if_neg (show ¬ f (35 + 5 * r) = -1 by rw [e]; exact m1ne (by omega)), if_neg (by decide), a1, bind_e, b1, bind_e]
theorem o_takeBag (hK : 4000 ≤ K) (h : St G f n) {r : Nat} (hr : r < 6) : ∃ G', sX3_takeBag K G (nI r) = some (cIn f r, G') ∧ St G' (upd (zbF f r 6) 2 (f 2 + cIn f r)) n := by
  obtain ⟨G1, a1, a2, a3⟩ := o_save K h
  obtain ⟨G2, b1, b2, b3⟩ := c_empty hK a2 hr
  refine ⟨G2, ?_, b2, (h.2.1.zb1 hr).tk1 _, (a3.mv b3).hc⟩
  unfold sX3_takeBag
  rw [k_rail K G hr, bind_e, a1, bind_e, b1, bind_e]
theorem zr_more (h : SN f n) : SN (zrF f 6) n := by
  have hn := h.n6
  have key : ∀ j, j ≤ 6 → SN (zrF f j) n := by
    intro j
    induction j with
    | zero => exact fun _ => h
    | succ j ih =>
      intro hj
      have hN := ih (by omega)
      by_cases q : j < n
      · exact hN.rej1 q 0
      · have e : zrF f (j + 1) = upd (zrF f j) (7 + 5 * j) 0 := rfl
        have e2 : zrF f j (7 + 5 * j) = 0 := hN.rz (by omega) (by omega)
        have e3 : upd (zrF f j) (7 + 5 * j) 0 = zrF f j := by
          funext i
          by_cases z : i = 7 + 5 * j
          · subst z; rw [upd_s, e2]
          · rw [upd_n z]
        rw [e, e3]
        exact hN
  exact key 6 (Nat.le_refl _)
theorem o_takeRejects (hK : 4000 ≤ K) (h : St G f n) : ∃ G', sX3_takeRejects K G = some (sm (fun k => f (7 + 5 * k)) 6, G') ∧ St G' (upd (zrF f 6) 2 (f 2 + sm (fun k => f (7 + 5 * k)) 6)) n := by
  obtain ⟨G1, a1, a2, a3⟩ := o_save K h
  obtain ⟨G2, b1, b2, b3⟩ := c_removeR hK a2
  refine ⟨G2, ?_, b2, (zr_more h.2.1).tk1 _, (a3.mv b3).hc⟩
  unfold sX3_takeRejects
  rw [a1, bind_e, b1, bind_e]
/-- one kind more -/
def akF (f : Nat → Int32) (n d v x : Nat) : Nat → Int32 := upd (upd (upd (upd f (3 + 5 * n) (nI d)) (4 + 5 * n) (nI v)) (5 + 5 * n) (nI x)) 0 (nI (n + 1))
theorem o_addKind (h : St G f n) (hn : n < 6) {d v x : Nat} (d1 : 1000 ≤ d) (d2 : d ≤ 4000) (v1 : 1 ≤ v) (v2 : v ≤ 500) (hx : x < 6) : ∃ G', sX3_addKind K G (nI d) (nI v) (nI x) = some (nI n, G') ∧ St G' (akF f n d v x) (n + 1) := by
  obtain ⟨G1, a1, a2, a3⟩ := o_save K h
  have z0 : up2 (up2 (up2 G1 2 n (nI d)) 3 n (nI v)) 4 n (nI x) 1 0 = nI n := by
    rw [up2_n (by decide), up2_n (by decide), up2_n (by decide), a2.kinds]
    exact h.2.1.k0
  refine ⟨up2 (up2 (up2 (up2 G1 2 n (nI d)) 3 n (nI v)) 4 n (nI x)) 1 0 (nI (n + 1)), ?_, (((a2.u 1 n (vdK (by decide) (by decide) hn) (nI d)).u 2 n (vdK (by decide) (by decide) hn) (nI v)).u 3 n (vdK (by decide) (by decide) hn) (nI x)).u 0 0 (Or.inl ⟨rfl, Or.inl rfl⟩) (nI (n + 1)), h.2.1.kind1 hn d1 d2 hx, (a3.mv (((((Oth.rf G1).up 2 _ _ (by decide) (by decide)).up 3 _ _ (by decide) (by decide)).up 4 _ _ (by decide) (by decide)).up 1 _ _ (by decide) (by decide))).hc⟩
  unfold sX3_addKind sX2_putKind
  rw [show sX3_checkArgument K G (nI d) (1000 : Int32) (4000 : Int32) = some () from k_arg K G (lo := 1000) (hi := 4000) d1 d2 (by decide), bind_e, show sX3_checkArgument K G (nI v) (1 : Int32) (500 : Int32) = some () from k_arg K G (lo := 1) (hi := 500) v1 v2 (by decide), bind_e, show sX3_checkArgument K G (nI x) (0 : Int32) (5 : Int32) = some () from k_arg K G (lo := 0) (hi := 5) (Nat.zero_le x) (by omega) (by decide), bind_e, h.1.kinds, h.2.1.k0, if_pos (show nI n < 6 from yltI (b := 6) hn (by decide)), a1, bind_e, a2.kinds, h.2.1.k0, grd_i hn (by decide), tnI (show n < 2147483648 by omega), olet_e, grd_i hn (by decide), olet_e, grd_i hn (by decide), olet_e, olet_e, bind_e, z0, nI1]
theorem o_undo (K : Nat) (hU : HU G f) (hS : SN f n) : ∃ G' j, j ≤ 4 ∧ sX3_undo K G = some (nI j, G') ∧ St G' f n := by
  obtain ⟨c, nx, h0, h1, h2, h3, h4, h5⟩ := hU
  have q2 : ¬ nI c = 0 := neI (b := 0) (by omega) (by omega) (by omega)
  have e1 : nI c - 1 = nI (c - 1) := pk_sub (b := 1) h0
  have e2 : (nI nx + (4 : Int32)) - (1 : Int32) = nI (nx + 3) := by
    rw [show nI nx + (4 : Int32) = nI (nx + 4) from nI_add nx 4]
    exact pk_sub (b := 1) (by omega)
  have e3 : nI (nx + 3) - nI (nx + 3) / (4 : Int32) * (4 : Int32) = nI ((nx + 3) % 4) := pk_rem (d := 4) (by omega) (by decide) (by decide)
  have s3 : SR (up2 (up2 G 13 1 (nI ((nx + 3) % 4))) 13 2 (nI (c - 1))) (15 + 12 * ((nx + 3) % 4)) f := h5.same fun a ha => by rw [up2_n (by omega), up2_n (by omega)]
  obtain ⟨G2, g1, g2, g3⟩ := c_copy (p0 := 1) (p1 := 15 + 12 * ((nx + 3) % 4)) K (by omega) s3
  have r1 : G2 13 1 = nI ((nx + 3) % 4) := by rw [g3 13 (by omega), up2_s, upd_n (by decide), up2_s, upd_s]
  have r2 : G2 13 2 = nI (c - 1) := by rw [g3 13 (by omega), up2_s, upd_s]
  refine ⟨G2, c - 1, by omega, ?_, g2, hS, c - 1, (nx + 3) % 4, by omega, by omega, r1, r2⟩
  unfold sX3_undo sX1_restore
  rw [h4, if_neg q2, h3, e2, e3, olet_e, olet_e, show up2 G 13 1 (nI ((nx + 3) % 4)) 13 2 = nI c by rw [up2_s, upd_n (by decide)]; exact h4, e1, show up2 (up2 G 13 1 (nI ((nx + 3) % 4))) 13 2 (nI (c - 1)) 13 1 = nI ((nx + 3) % 4) by rw [up2_s, upd_n (by decide), up2_s, upd_s], grd_i (by omega) (by decide), rgL_at (by omega), g1, bind_e, bind_e, r2]
/-- fed by chance: what every feeding keeps, holds after all -/
theorem c_some (hK : 4000 ≤ K) {N : Nat} (h0 : 0 < n) (hN200 : N ≤ 200) (p2 : Int32) {Q : (Nat → Int32) → Prop} (hQ : ∀ f k w, SN f n → Q f → k < n → w ≤ 999 → Q (feF f k w)) : ∀ (m i y v : Nat) (x5 : Int32) (G1 : Nat → Nat → Int32) (f1 : Nat → Int32), i + m = N → m < y → v < 2147483648 → SR G1 1 f1 → SN f1 n → Q f1 → ∃ j G' f', j ≤ m ∧ sX2_putCoinsByChance_L9 K (nI N) p2 y G1 (lN v) x5 (nI i) = some (x5 + nI j, G') ∧ SR G' 1 f' ∧ SN f' n ∧ Q f' ∧ Oth G1 G' ∧ f' 1 = f1 1 + nI m := by
  intro m
  induction m with
  | zero =>
    intro i y v x5 G1 f1 hi hy hv h1 h2 h3
    obtain ⟨z, rfl⟩ : ∃ z, y = z + 1 := ⟨y - 1, by omega⟩
    refine ⟨0, G1, f1, by omega, ?_, h1, h2, h3, Oth.rf G1, (add0 _).symm⟩
    rw [sX2_putCoinsByChance_L9, if_pos (yleI (by omega) (by omega)), show x5 + nI 0 = x5 from add0 x5]
  | succ m ih =>
    intro i y v x5 G1 f1 hi hy hv h1 h2 h3
    have hn := h2.n6
    obtain ⟨z, rfl⟩ : ∃ z, y = z + 1 := ⟨y - 1, by omega⟩
    have hl : lN n ≠ 0 := fun q => by
      have := (pk_lEQ (a := n) (b := 0) (by omega) (by omega)).mp q
      omega
    have hk : lcN v / 65536 % n < n := Nat.mod_lt _ h0
    have hw : lcN v / 1048576 % 40 ≤ 999 := by
      have := Nat.mod_lt (lcN v / 1048576) (show 0 < 40 by decide)
      omega
    obtain ⟨G2, a1, a2, a3⟩ := c_put hK h1 h2 hk hw
    have N2 := h2.fe1 hk (lcN v / 1048576 % 40)
    have Q2 := hQ f1 _ _ h2 h3 hk hw
    have F2 : ∀ k w, k < n → feF f1 k w 1 = f1 1 + 1 := fun k w hk9 => by
      rcases plc_of f1 k w 6 0 with e | ⟨x, x1, x2, e | e, -⟩
      · unfold feF
        rw [e, enF_none, upd_n (by omega), rollF_n _ _ (fun a ha => by omega)]
        unfold fdF
        rw [upd_n (by omega), upd_s]
      · unfold feF
        rw [e, enF_fall _ _ _ (by omega)]
        unfold falF
        rw [usF_n _ (by omega) (by omega), upd_n (by omega), rollF_n _ _ (fun a ha => by omega)]
        unfold fdF
        rw [upd_n (by omega), upd_s]
      · unfold feF
        rw [e, enF_stuck _ _ _ (by omega), upd_n (by omega), upd_n (by omega), rollF_n _ _ (fun a ha => by omega)]
        unfold fdF
        rw [upd_n (by omega), upd_s]
    rw [sX2_putCoinsByChance_L9, if_neg (nleI (by omega) (by omega)), h1.kinds, h2.k0, nI_l (show n < 2 ^ 31 by omega), grd_t (decide_eq_true hl), lc hv, lcK (lcN_lt v) h0 hn, lcW (lcN_lt v), a1, bind_e, nI1]
    dsimp only
    have e1 : ∀ j, (x5 + 1) + nI j = x5 + nI (j + 1) := fun j => by
      rw [← nI1 j, Int32.add_assoc, Int32.add_comm 1 (nI j)]
    have e2 : (f1 1 + 1) + nI m = f1 1 + nI (m + 1) := by
      rw [← nI1 m, Int32.add_assoc, Int32.add_comm 1 (nI m)]
    by_cases q : plc f1 (lcN v / 65536 % n) (lcN v / 1048576 % 40) 0 6 = -1
    · rw [if_pos q]
      obtain ⟨j, G', f', b0, b1, b2, b3, b4, b5, b6⟩ := ih (i + 1) z (lcN v) (x5 + 1) G2 _ (by omega) (by omega) (lcN_lt v) a2 N2 Q2
      refine ⟨j + 1, G', f', by omega, ?_, b2, b3, b4, a3.tr b5, ?_⟩
      · rw [b1, e1]
      · rw [b6, F2 _ _ hk, e2]
    · rw [if_neg q]
      obtain ⟨j, G', f', b0, b1, b2, b3, b4, b5, b6⟩ := ih (i + 1) z (lcN v) x5 G2 _ (by omega) (by omega) (lcN_lt v) a2 N2 Q2
      refine ⟨j, G', f', by omega, b1, b2, b3, b4, a3.tr b5, ?_⟩
      rw [b6, F2 _ _ hk, e2]
theorem o_feedSome (hK : 4000 ≤ K) (h : St G f n) (h0 : 0 < n) {N v : Nat} (hN : N ≤ 200) (hv : v ≤ 999999) {Q : (Nat → Int32) → Prop} (hQ : ∀ f k w, SN f n → Q f → k < n → w ≤ 999 → Q (feF f k w)) (q0 : Q f) : ∃ j G' f', j ≤ N ∧ sX3_feedSome K G (nI N) (nI v) = some (nI j, G') ∧ St G' f' n ∧ Q f' ∧ HU G' f ∧ f' 1 = f 1 + nI N := by
  have hn := h.2.1.n6
  obtain ⟨G1, a1, a2, a3⟩ := o_save K h
  obtain ⟨j, G2, f2, b0, b1, b2, b3, b4, b5, b6⟩ := c_some (K := K) hK h0 hN (nI v) hQ N 0 K v 0 G1 f (by omega) (by omega) (by omega) a2 h.2.1 q0
  refine ⟨j, G2, f2, b0, ?_, ⟨b2, b3, (a3.mv b5).hc⟩, b4, a3.mv b5, b6⟩
  unfold sX3_feedSome sX2_putCoinsByChance
  rw [show sX3_checkArgument K G (nI N) (0 : Int32) (200 : Int32) = some () from k_arg K G (lo := 0) (hi := 200) (Nat.zero_le N) hN (by decide), bind_e, show sX3_checkArgument K G (nI v) (0 : Int32) (999999 : Int32) = some () from k_arg K G (lo := 0) (hi := 999999) (Nat.zero_le v) hv (by decide), bind_e, h.1.kinds, h.2.1.k0, if_neg (show ¬ nI n = 0 from neI (b := 0) (by omega) (by omega) (by omega)), a1, bind_e, nI_l (show v < 2 ^ 31 by omega), show sX2_putCoinsByChance_L9 K (nI N) (nI v) K G1 (lN v) (0 : Int32) (0 : Int32) = _ from b1, bind_e, show (0 : Int32) + nI j = nI j from Int32.zero_add _]
end RC
