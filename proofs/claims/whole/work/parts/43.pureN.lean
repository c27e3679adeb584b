/-! PURE, part N: append, clearText, feedSome, digest -/
theorem His.mv {G G' M M' : Nat → Nat → Int32} (h : His G M) (hG : ∀ i, 13 ≤ i → i < 63 → G' i = G i) (e2 : M' 2 = M 2) (e3 : M' 0 3 = M 0 3) : His G' M' := by
  obtain ⟨c, nx, h1, h2, h3, h4, h5, h6⟩ := h
  refine ⟨c, nx, h1, h2, (congrFun (hG 13 (by omega) (by omega)) 1).trans h3, (congrFun (hG 13 (by omega) (by omega)) 2).trans h4, e3.trans h5, fun i hi => ?_⟩
  have e : svF M' i = svF M i := by
    unfold svF
    rw [e2]
  rw [e]
  exact ⟨(h6 i hi).1.same fun a ha => hG _ (by unfold slt; omega) (by unfold slt; omega), (h6 i hi).2⟩
section CN
variable {K : Nat} {G M : Nat → Nat → Int32}
theorem op_append (R : Rel G M) (p : Int32) : OpT G hAS (sX3_append K G p) (sX4_append K M p) := by
  obtain ⟨⟨n, hR, hN⟩, hH, len, t1, t2, t3, t4⟩ := id R
  unfold sX3_append sX4_append
  rcases in_both (K := K) (G := G) (M := M) (p := p) (A := 0) (B := 127) (A' := 0) (B' := 127) 0 127 (by decide) (by decide) (by decide) (by decide) with ⟨v, v1, v2, rfl, e1, e2⟩ | ⟨e1, e2⟩
  · rw [e1, othr_r, e2, bind_e, if_neg (show ¬ (1 : Int32) = 0 by decide), t2, t3]
    by_cases c : len < 90
    · unfold sX0_addByte
      rw [if_pos (show nI len < 90 from yltI (b := 90) c (by decide)), if_neg (show ¬ nI len = 90 from neI (b := 90) (by omega) (by omega) (by decide)), t2, grd_i c (by decide), tnI (by omega), olet_e, olet_e, bind_e, grd_i c (by decide), olet_e, olet_e, m_fine, bind_e]
      have z1 : up2 G 64 len (nI v) 63 1 = nI len := by rw [up2_n (by decide)]; exact t2
      have z2 : up2 M 4 len (nI v) 0 6 = nI len := by rw [up2_n (by decide)]; exact t3
      rw [z1, z2, nI1]
      have z3 : up2 (up2 G 64 len (nI v)) 63 1 (nI (len + 1)) 63 1 = nI (len + 1) := by rw [up2_s, upd_s]
      have z4 : up2 (up2 M 4 len (nI v)) 0 6 (nI (len + 1)) 0 6 = nI (len + 1) := by rw [up2_s, upd_s]
      rw [z3, z4]
      refine okT (M' := up2 (up2 M 4 len (nI v)) 0 6 (nI (len + 1))) ⟨⟨n, ?_, ?_⟩, hH.mv (fun i i1 i2 => ?_) ?_ ?_, len + 1, by omega, z3, z4, fun j hj => ?_⟩ rfl rfl
      · rw [up2_n (by decide), up2_n (by decide)]
        exact hR.same fun a ha => by rw [up2_n (by omega), up2_n (by omega)]
      · rw [up2_n (by decide), up2_n (by decide)]; exact hN
      · rw [up2_n (by omega), up2_n (by omega)]
      · rw [up2_n (by decide), up2_n (by decide)]
      · rw [up2_s, upd_n (by decide), up2_n (by decide)]
      · rw [up2_n (by decide), up2_s, up2_n (by decide), up2_s]
        by_cases q : j = len
        · subst q
          rw [upd_s, upd_s]
          exact ⟨rfl, v, by omega, rfl⟩
        · rw [upd_n q, upd_n q]
          exact t4 j (by omega)
    · obtain rfl : len = 90 := by omega
      rw [if_neg (show ¬ nI 90 < 90 by decide), if_pos (show nI 90 = 90 from rfl), m_throwing, bind_e]
      exact thT R 2 rfl rfl (List.Mem.tail _ (List.Mem.head _))
  · rw [e1, othr_l, e2, bind_e, if_pos (show (0 : Int32) = 0 from rfl), m_throwing, bind_e]
    exact thT R 1 rfl rfl (List.Mem.head _)
theorem op_clear (R : Rel G M) : ∃ r G' M', sX3_clearText K G = some (r, G') ∧ sX4_clearText K M = some (r, M') ∧ Rel G' M' := by
  obtain ⟨⟨n, hR, hN⟩, hH, len, t1, t2, t3, t4⟩ := id R
  unfold sX3_clearText sX4_clearText
  rw [olet_e, olet_e, m_fine, bind_e, t2, t3]
  refine ⟨_, _, _, rfl, rfl, Rel.up4 ⟨⟨n, ?_, ?_⟩, hH.mv (fun i i1 i2 => ?_) ?_ ?_, 0, by omega, ?_, ?_, fun j hj => absurd hj (by omega)⟩ 0⟩
  · rw [up2_n (by decide)]
    exact hR.same fun a ha => by rw [up2_n (by omega)]
  · rw [up2_n (by decide)]; exact hN
  · rw [up2_n (by omega)]
  · rw [up2_n (by decide)]
  · rw [up2_s, upd_n (by decide)]
  · rw [up2_s, upd_s]; rfl
  · rw [up2_s, upd_s]; rfl
def lcN (m : Nat) : Nat := (1103515245 * m + 12345) % 2147483648
theorem lcN_lt (m : Nat) : lcN m < 2147483648 := Nat.mod_lt _ (by decide)
theorem lc {m : Nat} (hm : m < 2147483648) : (((1103515245 : Int64) * lN m) + (12345 : Int64)) - (((1103515245 : Int64) * lN m) + (12345 : Int64)) / (2147483648 : Int64) * (2147483648 : Int64) = lN (lcN m) := by
  show (lN 1103515245 * lN m + lN 12345) - (lN 1103515245 * lN m + lN 12345) / lN 2147483648 * lN 2147483648 = _
  rw [lN_mul, lN_add]
  exact pk_lRem (by omega) (by decide) (by decide)
theorem lcK {v n : Nat} (hv : v < 2147483648) (h0 : 0 < n) (hn : n ≤ 6) : ((lN v / (65536 : Int64)) - (lN v / (65536 : Int64)) / lN n * lN n).toInt32 = nI (v / 65536 % n) := by
  have e : lN v / (65536 : Int64) = lN (v / 65536) := pk_lDiv (b := 65536) (by omega) (by decide) (by decide)
  rw [e, pk_lRem (by omega) h0 (by omega), lN_i]
theorem lcW {v : Nat} (hv : v < 2147483648) : ((lN v / (1048576 : Int64)) - (lN v / (1048576 : Int64)) / (40 : Int64) * (40 : Int64)).toInt32 = nI (v / 1048576 % 40) := by
  have e : lN v / (1048576 : Int64) = lN (v / 1048576) := pk_lDiv (b := 1048576) (by omega) (by decide) (by decide)
  have e2 : lN (v / 1048576) - lN (v / 1048576) / (40 : Int64) * (40 : Int64) = lN (v / 1048576 % 40) := pk_lRem (b := 40) (by omega) (by decide) (by decide)
  rw [e, e2, lN_i]
theorem some_both (hK : 4000 ≤ K) {n N : Nat} (h0 : 0 < n) (hN200 : N ≤ 200) (p2 p2' : Int32) : ∀ (m i y v : Nat) (x5 : Int32) (G1 M1 : Nat → Nat → Int32), i + m = N → m < y → v < 2147483648 → SR G1 1 (M1 1) → SN (M1 1) n → HT G1 M1 → ∃ r G' M', sX2_putCoinsByChance_L9 K (nI N) p2 y G1 (lN v) x5 (nI i) = some (r, G') ∧ sX4_feedSome_L58 K (nI N) p2' y M1 (lN v) x5 (nI i) = some (r, up2 M' 0 4 0) ∧ Rel G' M' := by
  intro m
  induction m with
  | zero =>
    intro i y v x5 G1 M1 hi hy hv h1 h2 h3
    obtain ⟨z, rfl⟩ : ∃ z, y = z + 1 := ⟨y - 1, by omega⟩
    rw [sX2_putCoinsByChance_L9, sX4_feedSome_L58, if_pos (yleI (by omega) (by omega)), if_pos (yleI (by omega) (by omega)), m_fine, bind_e]
    exact ⟨_, _, _, rfl, rfl, Rel.mk h1 h2 h3⟩
  | succ m ih =>
    intro i y v x5 G1 M1 hi hy hv h1 h2 h3
    have hn := h2.n6
    obtain ⟨z, rfl⟩ : ∃ z, y = z + 1 := ⟨y - 1, by omega⟩
    have hl : lN n ≠ 0 := fun q => by
      have := (pk_lEQ (a := n) (b := 0) (by omega) (by omega)).mp q
      omega
    have hk : lcN v / 65536 % n < n := Nat.mod_lt _ h0
    have hw : lcN v / 1048576 % 40 ≤ 999 := by
      have := Nat.mod_lt (lcN v / 1048576) (show 0 < 40 by decide)
      omega
    obtain ⟨G2, a1, a2, a3⟩ := c_put hK h1 h2 hk hw
    obtain ⟨M2, b1, b2, b3⟩ := m_feeds hK h2 hk hw
    rw [sX2_putCoinsByChance_L9, sX4_feedSome_L58, if_neg (nleI (by omega) (by omega)), if_neg (nleI (by omega) (by omega)), h1.kinds, grd_t i099, t0, h2.k0, nI_l (show n < 2 ^ 31 by omega), grd_t (decide_eq_true hl), grd_t (decide_eq_true hl), lc hv, lcK (lcN_lt v) h0 hn, lcW (lcN_lt v), a1, bind_e, b1, bind_e, nI1]
    dsimp only
    have R2 : SR G2 1 (M2 1) := by rw [b2]; exact a2
    have N2 : SN (M2 1) n := by rw [b2]; exact h2.fe1 hk _
    have T2 : HT G2 M2 := h3.mv a3 (b3 2 (by decide)) (b3 4 (by decide)) (congrFun (b3 0 (by decide)) 3) (congrFun (b3 0 (by decide)) 6)
    by_cases q : plc (M1 1) (lcN v / 65536 % n) (lcN v / 1048576 % 40) 0 6 = -1
    · rw [if_pos q, if_pos q]
      exact ih (i + 1) z (lcN v) _ G2 M2 (by omega) (by omega) (lcN_lt v) R2 N2 T2
    · rw [if_neg q, if_neg q, add0]
      exact ih (i + 1) z (lcN v) _ G2 M2 (by omega) (by omega) (lcN_lt v) R2 N2 T2
theorem op_feedSome (hK : 4000 ≤ K) (R : Rel G M) (p1 p2 : Int32) : OpT G hAS (sX3_feedSome K G p1 p2) (sX4_feedSome K M p1 p2) := by
  obtain ⟨⟨n, hR, hN⟩, hT⟩ := id R
  have hn := hN.n6
  unfold sX3_feedSome sX4_feedSome
  rcases in_both (K := K) (G := G) (M := M) (p := p1) (A := 0) (B := 200) (A' := 0) (B' := 200) 0 200 (by decide) (by decide) (by decide) (by decide) with ⟨N, N1, N2, rfl, e1, e2⟩ | ⟨e1, e2⟩
  · rw [e1, othr_r, e2, bind_e, if_neg (show ¬ (1 : Int32) = 0 by decide)]
    rcases in_both (K := K) (G := G) (M := M) (p := p2) (A := 0) (B := 999999) (A' := 0) (B' := 999999) 0 999999 (by decide) (by decide) (by decide) (by decide) with ⟨v, v1, v2, rfl, e3, e4⟩ | ⟨e3, e4⟩
    · rw [e3, othr_r, e4, bind_e, if_neg (show ¬ (1 : Int32) = 0 by decide), hR.kinds, grd_t i099, t0, hN.k0]
      by_cases c : n = 0
      · subst c
        rw [if_pos (show nI 0 = 0 from rfl), if_pos (show nI 0 = 0 from rfl), m_throwing, bind_e]
        exact thT R 2 rfl rfl (List.Mem.tail _ (List.Mem.head _))
      · have c2 : ¬ nI n = 0 := neI (b := 0) c (by omega) (by omega)
        obtain ⟨G1, M1, s1, s2, s3, s4, s5, s6⟩ := save_both hK hR hN hT
        rw [← s3] at hN s4
        unfold sX2_putCoinsByChance
        rw [if_neg c2, if_neg c2, s1, bind_e, s2, bind_e, nI_l (show v < 2 ^ 31 by omega)]
        obtain ⟨r, G2, M2, a1, a2, a3⟩ := some_both (K := K) hK (n := n) (N := N) (by omega) N2 (nI v) (nI v) N 0 K v 0 G1 M1 (by omega) (by omega) (by omega) s4 hN s5
        rw [show sX2_putCoinsByChance_L9 K (nI N) (nI v) K G1 (lN v) (0 : Int32) (0 : Int32) = _ from a1, bind_e, show sX4_feedSome_L58 K (nI N) (nI v) K M1 (lN v) (0 : Int32) (0 : Int32) = _ from a2]
        exact okT a3 rfl rfl
    · rw [e3, othr_l, e4, bind_e, if_pos (show (0 : Int32) = 0 from rfl), m_throwing, bind_e]
      exact thT R 1 rfl rfl (List.Mem.head _)
  · rw [e1, othr_l, e2, bind_e, if_pos (show (0 : Int32) = 0 from rfl), m_throwing, bind_e]
    exact thT R 1 rfl rfl (List.Mem.head _)
def fo (g : Nat → Int32) : Nat → Int64 → Int64
  | 0, h => h
  | m + 1, h => (31 : Int64) * fo g m h + (g m).toInt64
theorem mw_all (f : Nat → Int32) : ∀ N : Nat, ∃ mw : Nat → Nat, ∀ k, k < N → mwN f k (mw k)
  | 0 => ⟨fun _ => 0, fun k hk => absurd hk (by omega)⟩
  | N + 1 => by
    obtain ⟨mw, h⟩ := mw_all f N
    obtain ⟨c, hc⟩ := mwN_ex f N
    refine ⟨fun k => if k = N then c else mw k, fun k hk => ?_⟩
    by_cases q : k = N
    · subst q
      show mwN f k (if k = k then c else mw k)
      rw [if_pos rfl]; exact hc
    · show mwN f k (if k = N then c else mw k)
      rw [if_neg q]; exact h k (by omega)
/-- a digest's way over kinds, over rails -/
def foK (f : Nat → Int32) (mw : Nat → Nat) : Nat → Int64 → Int64
  | 0, h => h
  | k + 1, h => (31 : Int64) * fo (abK f k) 7 (foK f mw k h) + (nI (mw k) - 1).toInt64
def foR (f : Nat → Int32) (n : Nat) : Nat → Int64 → Int64
  | 0, h => h
  | r + 1, h => fo (fun k => f (63 + 6 * r + k)) n (fo (abR f n r) 10 (foR f n r h))
end CN
section DG
variable {K : Nat} {G M : Nat → Nat → Int32} {f : Nat → Int32} {n : Nat} {mw : Nat → Nat}
theorem c_hashK (hK : 4000 ≤ K) (h : SR G 1 f) (hS : SN f n) (hmw : ∀ k, k < 6 → mwN f k (mw k)) (x : Int64) {k : Nat} (hk : k < n) : sX3_hashOfKind K G x (nI k) = some ((31 : Int64) * fo (abK f k) 7 x + (nI (mw k) - 1).toInt64) := by
  have hn := hS.n6
  unfold sX3_hashOfKind
  refine lpn (N := 7) (P := fun m j => sX3_hashOfKind_L6 K G x (nI k) m (fo (abK f k) j x) (nI j)) ?_ ?_ K 0 (by omega) (by omega)
  · intro m j hj
    show sX3_hashOfKind_L6 K G x (nI k) (m + 1) _ (nI j) = sX3_hashOfKind_L6 K G x (nI k) m ((31 : Int64) * fo (abK f k) j x + (abK f k j).toInt64) (nI (j + 1))
    rw [sX3_hashOfKind_L6, if_neg (show ¬ (7 : Int32) ≤ nI j from nleI (a := 7) hj (by decide)), c_abK hK h (by omega) hj, bind_e, nI1]
  · intro m
    show sX3_hashOfKind_L6 K G x (nI k) (m + 1) _ (nI 7) = _
    rw [sX3_hashOfKind_L6, if_pos (show (7 : Int32) ≤ nI 7 by decide), c_mwr hK h hS hk (hmw k (by omega)), bind_e]
theorem c_hashR (hK : 4000 ≤ K) (h : SR G 1 f) (hS : SN f n) (x : Int64) {r : Nat} (hr : r < 6) : sX3_hashOfRail K G x (nI r) = some (fo (fun k => f (63 + 6 * r + k)) n (fo (abR f n r) 10 x)) := by
  have hn := hS.n6
  unfold sX3_hashOfRail
  refine lpn (N := 10) (P := fun m j => sX3_hashOfRail_L6 K G x (nI r) m (fo (abR f n r) j x) (nI j)) ?_ ?_ K 0 (by omega) (by omega)
  · intro m j hj
    show sX3_hashOfRail_L6 K G x (nI r) (m + 1) _ (nI j) = sX3_hashOfRail_L6 K G x (nI r) m ((31 : Int64) * fo (abR f n r) j x + (abR f n r j).toInt64) (nI (j + 1))
    rw [sX3_hashOfRail_L6, if_neg (show ¬ (10 : Int32) ≤ nI j from nleI (a := 10) hj (by decide)), c_abR hK h hn hS.k0 hr hj, bind_e, nI1]
  · intro m
    show sX3_hashOfRail_L6 K G x (nI r) (m + 1) _ (nI 10) = _
    rw [sX3_hashOfRail_L6, if_pos (show (10 : Int32) ≤ nI 10 by decide)]
    generalize fo (abR f n r) 10 x = y
    refine lpn (N := n) (P := fun m j => sX3_hashOfRail_L42 K G x (nI r) m (fo (fun k => f (63 + 6 * r + k)) j y) (nI j)) ?_ ?_ K 0 (by omega) (by omega)
    · intro m j hj
      show sX3_hashOfRail_L42 K G x (nI r) (m + 1) _ (nI j) = sX3_hashOfRail_L42 K G x (nI r) m ((31 : Int64) * fo (fun k => f (63 + 6 * r + k)) j y + (f (63 + 6 * r + j)).toInt64) (nI (j + 1))
      rw [sX3_hashOfRail_L42, h.kinds, hS.k0, if_neg (nleI hj (by omega)), c_ofKind h hr (by omega), bind_e, nI1]
    · intro m
      show sX3_hashOfRail_L42 K G x (nI r) (m + 1) _ (nI n) = _
      rw [sX3_hashOfRail_L42, h.kinds, hS.k0, if_pos (yleI (Nat.le_refl _) (by omega))]
def dgF (f : Nat → Int32) (n : Nat) (mw : Nat → Nat) (len c : Nat) : Int64 := (31 : Int64) * foR f n 6 (foK f mw n (fo (abA f n) 10 ((111383 : Int64) + (nI len).toInt64))) + (nI c).toInt64
theorem c_digest (hK : 4000 ≤ K) (h : SR G 1 f) (hS : SN f n) (hmw : ∀ k, k < 6 → mwN f k (mw k)) {len c : Nat} (h1 : G 63 1 = nI len) (h2 : G 13 2 = nI c) : sX3_digest K G = some (dgF f n mw len c) := by
  have hn := hS.n6
  unfold sX3_digest dgF
  rw [h1]
  generalize (111383 : Int64) + (nI len).toInt64 = x0
  refine lpn (N := 10) (P := fun m j => sX3_digest_L15 K G m (fo (abA f n) j x0) (nI j)) ?_ ?_ K 0 (by omega) (by omega)
  · intro m j hj
    show sX3_digest_L15 K G (m + 1) _ (nI j) = sX3_digest_L15 K G m ((31 : Int64) * fo (abA f n) j x0 + (abA f n j).toInt64) (nI (j + 1))
    rw [sX3_digest_L15, if_neg (show ¬ (10 : Int32) ≤ nI j from nleI (a := 10) hj (by decide)), c_abA hK h hS hj, bind_e, nI1]
  · intro m
    show sX3_digest_L15 K G (m + 1) _ (nI 10) = _
    rw [sX3_digest_L15, if_pos (show (10 : Int32) ≤ nI 10 by decide)]
    generalize fo (abA f n) 10 x0 = x1
    refine lpn (N := n) (P := fun m j => sX3_digest_L45 K G m (foK f mw j x1) (nI j)) ?_ ?_ K 0 (by omega) (by omega)
    · intro m j hj
      show sX3_digest_L45 K G (m + 1) _ (nI j) = sX3_digest_L45 K G m ((31 : Int64) * fo (abK f j) 7 (foK f mw j x1) + (nI (mw j) - 1).toInt64) (nI (j + 1))
      rw [sX3_digest_L45, h.kinds, hS.k0, if_neg (nleI hj (by omega)), c_hashK hK h hS hmw _ hj, bind_e, nI1]
    · intro m
      show sX3_digest_L45 K G (m + 1) _ (nI n) = _
      rw [sX3_digest_L45, h.kinds, hS.k0, if_pos (yleI (Nat.le_refl _) (by omega))]
      generalize foK f mw n x1 = x2
      refine lpn (N := 6) (P := fun m j => sX3_digest_L71 K G m (foR f n j x2) (nI j)) ?_ ?_ K 0 (by omega) (by omega)
      · intro m j hj
        show sX3_digest_L71 K G (m + 1) _ (nI j) = sX3_digest_L71 K G m (fo (fun k => f (63 + 6 * j + k)) n (fo (abR f n j) 10 (foR f n j x2))) (nI (j + 1))
        rw [sX3_digest_L71, if_neg (n6 hj), c_hashR hK h hS _ hj, bind_e, nI1]
      · intro m
        show sX3_digest_L71 K G (m + 1) _ (nI 6) = _
        rw [sX3_digest_L71, if_pos y6, h2]
/-- a loop of more phases: P fuel j; each turn takes at most d -/
theorem lpd {β : Type} {N d : Nat} {P : Nat → Nat → Option β} {res : Option β} (hs : ∀ n j, j < N → d ≤ n → ∃ n', n < n' + d + 1 ∧ P n j = P n' (j + 1)) (he : ∀ n, 0 < n → P n N = res) : ∀ (m i n : Nat), i + m = N → (m + 1) * (d + 1) ≤ n → P n i = res
  | 0, i, n, hi, hn => by
    obtain rfl : i = N := by omega
    exact he n (by omega)
  | m + 1, i, n, hi, hn => by
    have e : (m + 1 + 1) * (d + 1) = (m + 1) * (d + 1) + (d + 1) := by rw [Nat.succ_mul]
    obtain ⟨n', h1, h2⟩ := hs n i (by omega) (by omega)
    rw [h2]
    exact lpd hs he m (i + 1) n' (by omega) (by omega)
theorem m_dig106 (hK : 4000 ≤ K) (hS : SN (M 1) n) {c : Nat} (h3 : M 0 3 = nI c) (x : Int64) : sX4_digest_L106 K M K 0 x (0 : Int32) 0 = some ((31 : Int64) * foR (M 1) n 6 x + (nI c).toInt64, M) := by
  have hn := hS.n6
  have p1 : ∀ (r : Nat), r < 6 → ∀ (m i y : Nat) (a : Int64), i + m = 10 → m < y → sX4_digest_L106 K M y 1 (fo (abR (M 1) n r) i a) (nI r) (nI i) = sX4_digest_L106 K M (y - m - 1) 2 (fo (abR (M 1) n r) 10 a) (nI r) (0 : Int32) := by
    intro r hr m
    induction m with
    | zero =>
      intro i y a hi hy
      obtain ⟨z, rfl⟩ : ∃ z, y = z + 1 := ⟨y - 1, by omega⟩
      obtain rfl : i = 10 := by omega
      rw [sX4_digest_L106, if_pos (show (10 : Int32) ≤ nI 10 by decide)]
      rfl
    | succ m ih =>
      intro i y a hi hy
      obtain ⟨z, rfl⟩ : ∃ z, y = z + 1 := ⟨y - 1, by omega⟩
      rw [sX4_digest_L106, if_neg (show ¬ (10 : Int32) ≤ nI i from nleI (a := 10) (by omega) (by decide)), m_railOf hK hS hr (by omega), bind_e, nI1]
      have := ih (i + 1) z a (by omega) (by omega)
      rw [show z + 1 - (m + 1) - 1 = z - m - 1 by omega]
      exact this
  have p2 : ∀ (r : Nat), r < 6 → ∀ (m i y : Nat) (a : Int64), i + m = n → m < y → sX4_digest_L106 K M y 2 (fo (fun k => M 1 (63 + 6 * r + k)) i a) (nI r) (nI i) = sX4_digest_L106 K M (y - m - 1) 0 (fo (fun k => M 1 (63 + 6 * r + k)) n a) (nI (r + 1)) 0 := by
    intro r hr m
    induction m with
    | zero =>
      intro i y a hi hy
      obtain ⟨z, rfl⟩ : ∃ z, y = z + 1 := ⟨y - 1, by omega⟩
      obtain rfl : i = n := by omega
      rw [sX4_digest_L106, grd_t i099, t0, hS.k0, if_pos (yleI (Nat.le_refl _) (by omega)), nI1]
      rfl
    | succ m ih =>
      intro i y a hi hy
      obtain ⟨z, rfl⟩ : ∃ z, y = z + 1 := ⟨y - 1, by omega⟩
      rw [sX4_digest_L106, grd_t i099, t0, hS.k0, if_neg (nleI (by omega) (by omega)), m_countAt, bind_e, grd_i (by omega) (by decide), tnI (by omega), nI1]
      have := ih (i + 1) z a (by omega) (by omega)
      rw [show z + 1 - (m + 1) - 1 = z - m - 1 by omega]
      exact this
  refine lpd (N := 6) (d := 30) (P := fun m j => sX4_digest_L106 K M m 0 (foR (M 1) n j x) (nI j) 0) ?_ ?_ 6 0 K (by omega) (by omega)
  · intro y j hj hy
    obtain ⟨z, rfl⟩ : ∃ z, y = z + 1 := ⟨y - 1, by omega⟩
    refine ⟨z - 10 - 1 - n - 1, by omega, ?_⟩
    show sX4_digest_L106 K M (z + 1) 0 _ (nI j) 0 = sX4_digest_L106 K M (z - 10 - 1 - n - 1) 0 (fo (fun k => M 1 (63 + 6 * j + k)) n (fo (abR (M 1) n j) 10 (foR (M 1) n j x))) (nI (j + 1)) 0
    rw [sX4_digest_L106, if_neg (n6 hj)]
    have e1 := p1 j hj 10 0 z (foR (M 1) n j x) (by omega) (by omega)
    have e2 := p2 j hj n 0 (z - 10 - 1) (fo (abR (M 1) n j) 10 (foR (M 1) n j x)) (by omega) (by omega)
    exact e1.trans e2
  · intro y hy
    obtain ⟨z, rfl⟩ : ∃ z, y = z + 1 := ⟨y - 1, by omega⟩
    show sX4_digest_L106 K M (z + 1) 0 _ (nI 6) 0 = _
    rw [sX4_digest_L106, if_pos y6, h3]
theorem m_dig44 (hK : 4000 ≤ K) (hS : SN (M 1) n) (hmw : ∀ k, k < 6 → mwN (M 1) k (mw k)) {c : Nat} (h3 : M 0 3 = nI c) (x : Int64) : ∃ M', sX4_digest_L44 K K 0 M x (0 : Int32) 0 = some ((31 : Int64) * foR (M 1) n 6 (foK (M 1) mw n x) + (nI c).toInt64, M') ∧ ∀ i, i ≠ 3 → M' i = M i := by
  have hn := hS.n6
  have p1 : ∀ (k : Nat), k < n → ∀ (m i y : Nat) (a : Int64) (M1 : Nat → Nat → Int32), i + m = 7 → m < y → M1 1 = M 1 → sX4_digest_L44 K y 1 M1 (fo (abK (M 1) k) i a) (nI k) (nI i) = sX4_digest_L44 K (y - m) 1 M1 (fo (abK (M 1) k) 7 a) (nI k) (nI 7) := by
    intro k hk m
    induction m with
    | zero =>
      intro i y a M1 hi hy h1
      obtain rfl : i = 7 := by omega
      rfl
    | succ m ih =>
      intro i y a M1 hi hy h1
      obtain ⟨z, rfl⟩ : ∃ z, y = z + 1 := ⟨y - 1, by omega⟩
      rw [sX4_digest_L44, if_neg (show ¬ (7 : Int32) ≤ nI i from nleI (a := 7) (by omega) (by decide)), m_kindOf hK (by omega) (by omega), bind_e, nI1, h1]
      have := ih (i + 1) z a M1 (by omega) (by omega) h1
      rw [show z + 1 - (m + 1) = z - m by omega]
      exact this
  have key : ∀ (m i y : Nat) (M1 : Nat → Nat → Int32), i + m = n → (m + 1) * 10 ≤ y → (∀ j, j ≠ 3 → M1 j = M j) → ∃ M', sX4_digest_L44 K y 0 M1 (foK (M 1) mw i x) (nI i) 0 = some ((31 : Int64) * foR (M 1) n 6 (foK (M 1) mw n x) + (nI c).toInt64, M') ∧ ∀ i, i ≠ 3 → M' i = M i := by
    intro m
    induction m with
    | zero =>
      intro i y M1 hi hy h1
      obtain ⟨z, rfl⟩ : ∃ z, y = z + 1 := ⟨y - 1, by omega⟩
      obtain rfl : i = n := by omega
      have q1 : M1 1 = M 1 := h1 1 (by decide)
      rw [sX4_digest_L44, grd_t i099, t0, q1, hS.k0, if_pos (yleI (Nat.le_refl _) (by omega)), m_dig106 hK (n := i) (by rw [q1]; exact hS) (by rw [h1 0 (by decide)]; exact h3), q1]
      exact ⟨M1, rfl, h1⟩
    | succ m ih =>
      intro i y M1 hi hy h1
      obtain ⟨z, rfl⟩ : ∃ z, y = z + 1 := ⟨y - 1, by omega⟩
      have q1 : M1 1 = M 1 := h1 1 (by decide)
      obtain ⟨M2, e2, a2, b2⟩ := m_mwr (M := M1) hK (n := n) (k := i) (c := mw i) (by rw [q1]; exact hS) (by omega) (by rw [q1]; exact hmw i (by omega))
      obtain ⟨w, ew⟩ : ∃ w, z - 7 = w + 1 := ⟨z - 8, by omega⟩
      rw [sX4_digest_L44, grd_t i099, t0, q1, hS.k0, if_neg (nleI (by omega) (by omega)), show sX4_digest_L44 K z 1 M1 (foK (M 1) mw i x) (nI i) (0 : Int32) = _ from p1 i (by omega) 7 0 z (foK (M 1) mw i x) M1 (by omega) (by omega) q1, ew, sX4_digest_L44, if_pos (show (7 : Int32) ≤ nI 7 by decide), e2, bind_e, nI1]
      exact ih (i + 1) w M2 (by omega) (by omega) (fun j hj => (b2 j hj).trans (h1 j hj))
  exact key n 0 K M (by omega) (by omega) (fun _ _ => rfl)
theorem op_digest (hK : 4000 ≤ K) (R : Rel G M) : ∃ r M', sX3_digest K G = some r ∧ sX4_digest K M = some (r, M') ∧ Rel G M' := by
  obtain ⟨⟨n, hR, hN⟩, ⟨c, nx, h1, h2, h3, h4, h5, h6⟩, len, t1, t2, t3, t4⟩ := id R
  obtain ⟨mw, hmw⟩ := mw_all (M 1) 6
  refine ⟨dgF (M 1) n mw len c, ?_⟩
  rw [c_digest hK hR hN hmw t2 h4]
  unfold sX4_digest
  have q1 : (up2 M 0 4 0) 1 = M 1 := up2_n (by decide)
  have hN' : SN ((up2 M 0 4 0) 1) n := by rw [q1]; exact hN
  obtain ⟨M2, a1, a2⟩ := m_dig44 (M := up2 M 0 4 0) hK hN' (mw := mw) (by rw [q1]; exact hmw) (c := c) (by rw [up2_s, upd_n (by decide)]; exact h5) (fo (abA (M 1) n) 10 ((111383 : Int64) + (nI len).toInt64))
  have e : sX4_digest_L17 K (up2 M 0 4 0) K ((111383 : Int64) + (nI len).toInt64) (0 : Int32) = some (dgF (M 1) n mw len c, M2) := by
    unfold dgF
    generalize (111383 : Int64) + (nI len).toInt64 = x0 at a1 ⊢
    refine lpn (N := 10) (P := fun m j => sX4_digest_L17 K (up2 M 0 4 0) m (fo (abA (M 1) n) j x0) (nI j)) ?_ ?_ K 0 (by omega) (by omega)
    · intro m j hj
      show sX4_digest_L17 K (up2 M 0 4 0) (m + 1) _ (nI j) = sX4_digest_L17 K (up2 M 0 4 0) m ((31 : Int64) * fo (abA (M 1) n) j x0 + (abA (M 1) n j).toInt64) (nI (j + 1))
      rw [sX4_digest_L17, if_neg (show ¬ (10 : Int32) ≤ nI j from nleI (a := 10) hj (by decide)), m_valueOf hK hN' hj, bind_e, nI1, q1]
    · intro m
      show sX4_digest_L17 K (up2 M 0 4 0) (m + 1) _ (nI 10) = _
      rw [sX4_digest_L17, if_pos (show (10 : Int32) ≤ nI 10 by decide), a1, q1]
  rw [olet_e, show (up2 M 0 4 0) 0 6 = nI len by rw [up2_s, upd_n (by decide)]; exact t3, e]
  refine ⟨M2, rfl, rfl, R.mv ?_ ?_ ?_ ?_ ?_⟩
  · rw [a2 1 (by decide), q1]
  · rw [a2 2 (by decide), up2_n (by decide)]
  · rw [a2 4 (by decide), up2_n (by decide)]
  · rw [a2 0 (by decide), up2_s, upd_n (by decide)]
  · rw [a2 0 (by decide), up2_s, upd_n (by decide)]
end DG
