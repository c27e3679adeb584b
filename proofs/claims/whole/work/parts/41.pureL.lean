/-! PURE, part L: save and undo in both; the operations that change a state -/
section SVB
variable {K : Nat} {G M : Nat → Nat → Int32}
theorem save_bothX (hK : 4000 ≤ K) {n : Nat} (hR : SR G 1 (M 1)) (hN : SN (M 1) n) (hT : HT G M) : ∃ G' M', sX1_save K G = some G' ∧ sX4_save K M = some M' ∧ M' 1 = M 1 ∧ SR G' 1 (M 1) ∧ HT G' M' ∧ (∀ i, i ≠ 0 → i ≠ 2 → M' i = M i) ∧ (∀ i, i < 13 ∨ 63 ≤ i → G' i = G i) ∧ ∀ i, i ≠ 3 → M' 0 i = M 0 i := by
  obtain ⟨⟨c, nx, h1, h2, h3, h4, h5, h6⟩, len, t1, t2, t3, t4⟩ := hT
  obtain ⟨G', a1, a2, a3, a4, a5⟩ := c_save K hR h1 h2 h3 h4
  obtain ⟨M', b1, b2, b3, b4, b5, b6⟩ := m_save hK h1 h5
  refine ⟨G', M', a1, b1, b4 1 (by decide) (by decide), hR.same fun a ha => a5 _ (by omega) (by omega), ⟨⟨if c < 4 then c + 1 else 4, (nx + 1) % 4, ?_, by omega, a3, a4, b3, fun i hi => ?_⟩, len, t1, ?_, ?_, fun j hj => ?_⟩, b4, fun i hi => a5 i (by omega) (by omega), b2⟩
  · split <;> omega
  · by_cases q : i = (if c < 4 then c else 3)
    · have e1 : slt ((nx + 1) % 4) (if c < 4 then c + 1 else 4) i = 15 + 12 * nx := by
        unfold slt
        by_cases z : c < 4
        · rw [if_pos z] at q ⊢; omega
        · rw [if_neg z] at q ⊢; omega
      have e2 : ∀ j, j < 99 → svF M' i j = M 1 j := fun j hj => by
        unfold svF
        rw [q]
        exact b5 j hj
      rw [e1]
      exact ⟨a2.cong99 e2, n, hN.cong99 e2⟩
    · have hi2 : i < (if c < 4 then c else 3) := by
        by_cases z : c < 4
        · rw [if_pos z] at q hi ⊢; omega
        · rw [if_neg z] at q hi ⊢; omega
      have e1 : slt ((nx + 1) % 4) (if c < 4 then c + 1 else 4) i = slt nx c (i + if c < 4 then 0 else 1) := by
        unfold slt
        by_cases z : c < 4
        · rw [if_pos z, if_pos z]; omega
        · rw [if_neg z, if_neg z]; omega
      have hi3 : (i + if c < 4 then 0 else 1) < c := by
        by_cases z : c < 4
        · rw [if_pos z] at hi2 ⊢; omega
        · rw [if_neg z] at hi2 ⊢; omega
      have e2 : ∀ j, j < 99 → svF M' i j = svF M (i + if c < 4 then 0 else 1) j := fun j hj => by
        unfold svF
        by_cases z : c < 4
        · simp only [if_pos z] at hi2 b6 ⊢
          exact b6 _ (by omega)
        · simp only [if_neg z] at hi2 b6 ⊢
          rw [b6 _ (by omega), show 99 * i + j + 99 = 99 * (i + 1) + j by omega]
      obtain ⟨s1, n', s2⟩ := h6 _ hi3
      rw [e1]
      refine ⟨(s1.same fun a ha => a5 _ ?_ ?_).cong99 e2, n', s2.cong99 e2⟩
      · unfold slt; omega
      · unfold slt
        by_cases z : c < 4
        · rw [if_pos z] at hi2 ⊢; omega
        · rw [if_neg z] at hi2 ⊢; omega
  · rw [a5 63 (by omega) (by omega)]; exact t2
  · rw [b2 6 (by decide)]; exact t3
  · rw [a5 64 (by omega) (by omega), b4 4 (by decide) (by decide)]; exact t4 j hj
theorem save_both (hK : 4000 ≤ K) {n : Nat} (hR : SR G 1 (M 1)) (hN : SN (M 1) n) (hT : HT G M) : ∃ G' M', sX1_save K G = some G' ∧ sX4_save K M = some M' ∧ M' 1 = M 1 ∧ SR G' 1 (M 1) ∧ HT G' M' ∧ ∀ i, i < 13 → G' i = G i := by
  obtain ⟨G', M', h1, h2, h3, h4, h5, -, h7, -⟩ := save_bothX (K := K) hK hR hN hT
  exact ⟨G', M', h1, h2, h3, h4, h5, fun i hi => h7 i (Or.inl hi)⟩
theorem m_undoL (hK : 4000 ≤ K) {c : Nat} (hc : c < 4) (e : M 0 3 = nI c) : ∃ M', sX4_undo_L25 K K M (0 : Int32) = some (nI c, up2 M' 0 4 0) ∧ (∀ j, j < 99 → M' 1 j = M 2 (99 * c + j)) ∧ ∀ i, i ≠ 1 → M' i = M i := by
  have key : ∀ (m i a : Nat) (M1 : Nat → Nat → Int32), i + m = 99 → m < a → (∀ z, z < i → M1 1 z = M 2 (99 * c + z)) → (∀ j, j ≠ 1 → M1 j = M j) → ∃ M', sX4_undo_L25 K a M1 (nI i) = some (nI c, up2 M' 0 4 0) ∧ (∀ j, j < 99 → M' 1 j = M 2 (99 * c + j)) ∧ ∀ i, i ≠ 1 → M' i = M i := by
    intro m
    induction m with
    | zero =>
      intro i a M1 hi ha h1 h2
      obtain ⟨b, rfl⟩ : ∃ b, a = b + 1 := ⟨a - 1, by omega⟩
      obtain rfl : i = 99 := by omega
      rw [sX4_undo_L25, if_pos (show (99 : Int32) ≤ nI 99 by decide), m_fine, bind_e, show M1 0 3 = nI c by rw [h2 0 (by decide)]; exact e]
      exact ⟨M1, rfl, h1, h2⟩
    | succ m ih =>
      intro i a M1 hi ha h1 h2
      obtain ⟨b, rfl⟩ : ∃ b, a = b + 1 := ⟨a - 1, by omega⟩
      rw [sX4_undo_L25, if_neg (show ¬ (99 : Int32) ≤ nI i from nleI (a := 99) (by omega) (by decide)), show M1 0 3 = nI c by rw [h2 0 (by decide)]; exact e, ix99, grd_i (by omega) (by decide), grd_i (by omega) (by decide), tnI (by omega), tnI (by omega), olet_e, nI1]
      refine ih (i + 1) b _ (by omega) (by omega) (fun z hz => ?_) (fun j hj => (up2_n hj).trans (h2 j hj))
      rw [up2_s]
      by_cases q : z = i
      · subst q; rw [upd_s, h2 2 (by decide)]
      · rw [upd_n q]; exact h1 z (by omega)
  exact key 99 0 K M (by omega) (by omega) (fun z hz => absurd hz (by omega)) (fun _ _ => rfl)
theorem op_undo (hK : 4000 ≤ K) (R : Rel G M) : OpT G hS (sX3_undo K G) (sX4_undo K M) := by
  obtain ⟨hn0, ⟨c, nx, h1, h2, h3, h4, h5, h6⟩, len, t1, t2, t3, t4⟩ := id R
  unfold sX3_undo sX4_undo
  rw [h4, h5]
  by_cases q : c = 0
  · subst q
    rw [if_pos (show nI 0 = 0 from rfl), if_pos (show nI 0 = 0 from rfl), m_throwing, bind_e]
    exact thT R 1 rfl rfl (List.Mem.head _)
  · have q2 : ¬ nI c = 0 := neI (b := 0) q (by omega) (by omega)
    have e1 : nI c - (1 : Int32) = nI (c - 1) := pk_sub (b := 1) (by omega)
    rw [if_neg q2, if_neg q2, olet_e, e1]
    unfold sX1_restore
    have e2 : (nI nx + (4 : Int32)) - (1 : Int32) = nI (nx + 3) := by
      rw [show nI nx + (4 : Int32) = nI (nx + 4) from nI_add nx 4]
      exact pk_sub (b := 1) (by omega)
    have e3 : nI (nx + 3) - nI (nx + 3) / (4 : Int32) * (4 : Int32) = nI ((nx + 3) % 4) := pk_rem (d := 4) (by omega) (by decide) (by decide)
    rw [h3, e2, e3, olet_e, olet_e, show up2 G 13 1 (nI ((nx + 3) % 4)) 13 2 = nI c by rw [up2_s, upd_n (by decide)]; exact h4, e1, show up2 (up2 G 13 1 (nI ((nx + 3) % 4))) 13 2 (nI (c - 1)) 13 1 = nI ((nx + 3) % 4) by rw [up2_s, upd_n (by decide), up2_s, upd_s], grd_i (by omega) (by decide), rgL_at (by omega)]
    obtain ⟨s1, n', s2⟩ := h6 (c - 1) (by omega)
    have e4 : slt nx c (c - 1) = 15 + 12 * ((nx + 3) % 4) := by unfold slt; omega
    rw [e4] at s1
    have s3 : SR (up2 (up2 G 13 1 (nI ((nx + 3) % 4))) 13 2 (nI (c - 1))) (15 + 12 * ((nx + 3) % 4)) (svF M (c - 1)) := s1.same fun a ha => by rw [up2_n (by omega), up2_n (by omega)]
    obtain ⟨G2, g1, g2, g3⟩ := c_copy (p0 := 1) (p1 := 15 + 12 * ((nx + 3) % 4)) K (by omega) s3
    obtain ⟨M2, m1, m2, m3⟩ := m_undoL (M := up2 M 0 3 (nI (c - 1))) hK (c := c - 1) (by omega) (by rw [up2_s, upd_s])
    have r1 : G2 13 1 = nI ((nx + 3) % 4) := by rw [g3 13 (by omega), up2_s, upd_n (by decide), up2_s, upd_s]
    have r2 : G2 13 2 = nI (c - 1) := by rw [g3 13 (by omega), up2_s, upd_s]
    have r3 : M2 0 3 = nI (c - 1) := by rw [m3 0 (by decide), up2_s, upd_s]
    have r4 : M2 2 = M 2 := by rw [m3 2 (by decide), up2_n (by decide)]
    have oth : ∀ i, 14 ≤ i → G2 i = G i := fun i hi => by rw [g3 i (by omega), up2_n (by omega), up2_n (by omega)]
    have e5 : ∀ j, j < 99 → M2 1 j = svF M (c - 1) j := fun j hj => by
      rw [m2 j hj, up2_n (by decide)]
      rfl
    have RR : Rel G2 M2 := by
      refine ⟨⟨n', g2.cong99 e5, s2.cong99 e5⟩, ⟨c - 1, (nx + 3) % 4, by omega, by omega, r1, r2, r3, fun i hi => ?_⟩, len, t1, ?_, ?_, fun j hj => ?_⟩
      · have e6 : slt ((nx + 3) % 4) (c - 1) i = slt nx c i := by unfold slt; omega
        have e7 : svF M2 i = svF M i := by unfold svF; rw [r4]
        rw [e6, e7]
        obtain ⟨u1, u2⟩ := h6 i (by omega)
        exact ⟨u1.same fun a ha => oth _ (by unfold slt; omega), u2⟩
      · rw [oth 63 (by omega)]; exact t2
      · rw [m3 0 (by decide), up2_s, upd_n (by decide)]; exact t3
      · rw [oth 64 (by omega), m3 4 (by decide), up2_n (by decide)]; exact t4 j hj
    rw [g1, bind_e, bind_e, m1]
    refine okT RR ?_ rfl
    rw [r2]
end SVB
section SNN
variable {f : Nat → Int32} {n : Nat}
theorem SN.kind1 (h : SN f n) (hn : n < 6) {d x : Nat} {v : Int32} (d1 : 1000 ≤ d) (d2 : d ≤ 4000) (hx : x < 6) : SN (upd (upd (upd (upd f (3 + 5 * n) (nI d)) (4 + 5 * n) v) (5 + 5 * n) (nI x)) 0 (nI (n + 1))) (n + 1) := by
  have nn : ∀ {i : Nat}, i ≠ 0 → i ≠ 3 + 5 * n → i ≠ 4 + 5 * n → i ≠ 5 + 5 * n → upd (upd (upd (upd f (3 + 5 * n) (nI d)) (4 + 5 * n) v) (5 + 5 * n) (nI x)) 0 (nI (n + 1)) i = f i := fun a b c e => by rw [upd_n a, upd_n e, upd_n c, upd_n b]
  refine ⟨⟨by omega, upd_s _ _ _⟩, fun k hk => ⟨?_, ?_⟩, fun k h1 h2 => ⟨?_, ?_⟩, fun r k hr h1 h2 => ?_, fun r hr => ?_, fun r hr => ⟨?_, ?_, ?_⟩, ?_⟩
  · by_cases q : k = n
    · subst q
      rw [upd_n (by omega), upd_n (by omega), upd_n (by omega), upd_s]
      exact ⟨d, d1, d2, rfl⟩
    · rw [nn (by omega) (by omega) (by omega) (by omega)]
      exact h.dm (by omega)
  · by_cases q : k = n
    · subst q
      rw [upd_n (by omega), upd_s]
      exact ⟨x, hx, rfl⟩
    · rw [nn (by omega) (by omega) (by omega) (by omega)]
      exact h.hm (by omega)
  · rw [nn (by omega) (by omega) (by omega) (by omega)]; exact h.fz (by omega) h2
  · rw [nn (by omega) (by omega) (by omega) (by omega)]; exact h.rz (by omega) h2
  · rw [nn (by omega) (by omega) (by omega) (by omega)]; exact h.bz hr (by omega) h2
  · rw [nn (by omega) (by omega) (by omega) (by omega)]
    rcases h.st hr with z | ⟨k, z1, z2⟩
    · exact Or.inl z
    · exact Or.inr ⟨k, by omega, z2⟩
  · rw [nn (by omega) (by omega) (by omega) (by omega)]; exact h.gp hr
  · rw [nn (by omega) (by omega) (by omega) (by omega)]; exact h.us hr
  · obtain ⟨c, h1, h2⟩ := (h.2.2.2.2.2.1 r hr).2.2
    exact ⟨c, fun k hk => by rw [nn (by omega) (by omega) (by omega) (by omega)]; exact h1 k hk, h2⟩
  · rw [nn (by omega) (by omega) (by omega) (by omega), h.fed]
    exact sm_cong 6 (fun k hk => (nn (by omega) (by omega) (by omega) (by omega)).symm)
theorem SN.home1 (h : SN f n) {k0 x : Nat} (h0 : k0 < n) (hx : x < 6) : SN (upd f (5 + 5 * k0) (nI x)) n := by
  have hn := h.n6
  refine h.congr (upd_n (by omega)) (upd_n (by omega)) (fun k hk => ⟨Or.inl (upd_n (by omega)), ?_⟩) (fun k hk => upd_n (by omega)) (fun k h1 h2 => Or.inl (upd_n (by omega))) (fun k hk => Or.inl (upd_n (by omega))) (fun k hk => Or.inl (upd_n (by omega))) (fun k hk => Or.inl (upd_n (by omega))) (fun j hj => upd_n (by omega))
  by_cases e : k = k0
  · subst e
    exact Or.inr ⟨x, hx, upd_s _ _ _⟩
  · exact Or.inl (upd_n (by omega))
theorem SN.tk1 (h : SN f n) (x : Int32) : SN (upd f 2 x) n := by
  have hn := h.n6
  exact h.congr (upd_n (by omega)) (upd_n (by omega)) (fun k hk => ⟨Or.inl (upd_n (by omega)), Or.inl (upd_n (by omega))⟩) (fun k hk => upd_n (by omega)) (fun k h1 h2 => Or.inl (upd_n (by omega))) (fun k hk => Or.inl (upd_n (by omega))) (fun k hk => Or.inl (upd_n (by omega))) (fun k hk => Or.inl (upd_n (by omega))) (fun j hj => upd_n (by omega))
end SNN
section OPT
variable {K : Nat} {G M : Nat → Nat → Int32}
theorem op_addKind (hK : 4000 ≤ K) (R : Rel G M) (p1 p2 p3 : Int32) : OpT G hAS (sX3_addKind K G p1 p2 p3) (sX4_addKind K M p1 p2 p3) := by
  obtain ⟨⟨n, hR, hN⟩, hT⟩ := id R
  have hn := hN.n6
  have hm0 : List.Mem ("java/lang/IllegalArgumentException", 1) hAS := List.Mem.head _
  unfold sX3_addKind sX4_addKind
  rcases in_both (K := K) (G := G) (M := M) (p := p1) (A := 1000) (B := 4000) (A' := 1000) (B' := 4000) 1000 4000 (by decide) (by decide) (by decide) (by decide) with ⟨d, d1, d2, rfl, e1, e2⟩ | ⟨e1, e2⟩
  · rw [e1, othr_r, e2, bind_e, if_neg (show ¬ (1 : Int32) = 0 by decide)]
    rcases in_both (K := K) (G := G) (M := M) (p := p2) (A := 1) (B := 500) (A' := 1) (B' := 500) 1 500 (by decide) (by decide) (by decide) (by decide) with ⟨v, v1, v2, rfl, e3, e4⟩ | ⟨e3, e4⟩
    · rw [e3, othr_r, e4, bind_e, if_neg (show ¬ (1 : Int32) = 0 by decide)]
      rcases in_both (K := K) (G := G) (M := M) (p := p3) (A := 0) (B := 5) (A' := 0) (B' := 5) 0 5 (by decide) (by decide) (by decide) (by decide) with ⟨x, x1, x2, rfl, e5, e6⟩ | ⟨e5, e6⟩
      · unfold sX4_isRail
        rw [e5, othr_r, e6, bind_e, grd_t bv1, bind_e, if_neg (show ¬ (1 : Int32) = 0 by decide), grd_t i099, t0, hR.kinds, hN.k0]
        by_cases c : n < 6
        · obtain ⟨G1, M1, s1, s2, s3, s4, s5, s6⟩ := save_both hK hR hN hT
          rw [if_pos (show nI n < 6 from yltI (b := 6) c (by decide)), if_neg (show ¬ nI n = 6 from neI (b := 6) (by omega) (by omega) (by decide)), s1, bind_e, s2, bind_e, grd_t i099]
          rw [← s3] at hN s4
          unfold sX2_putKind
          rw [hN.k0, s4.kinds, hN.k0, grd_i c (by decide), tnI (show n < 2147483648 by omega), olet_e, grd_i c (by decide), olet_e, grd_i c (by decide), olet_e, olet_e, bind_e, m_kA0, bind_e, grd_i (by omega) (by decide), tnI (by omega), olet_e, m_kA1, bind_e, grd_i (by omega) (by decide), tnI (by omega), olet_e, m_kA2, bind_e, grd_i (by omega) (by decide), tnI (by omega), olet_e, grd_t i099, grd_t i099, olet_e, m_fine, bind_e]
          have u3 := ((s4.u 1 n (vdK (by decide) (by decide) c) (nI d)).u 2 n (vdK (by decide) (by decide) c) (nI v)).u 3 n (vdK (by decide) (by decide) c) (nI x)
          have z0 : up2 (up2 (up2 G1 2 n (nI d)) 3 n (nI v)) 4 n (nI x) 1 0 = nI n := by
            rw [up2_n (by decide), up2_n (by decide), up2_n (by decide), s4.kinds]
            exact hN.k0
          have z1 : up2 (up2 (up2 M1 1 (3 + 5 * n) (nI d)) 1 (4 + 5 * n) (nI v)) 1 (5 + 5 * n) (nI x) 1 0 = nI n := by
            rw [up2_s, upd_n (by omega), up2_s, upd_n (by omega), up2_s, upd_n (by omega)]
            exact hN.k0
          rw [z0, z1, nI1]
          have u4 := u3.u 0 0 (Or.inl ⟨rfl, Or.inl rfl⟩) (nI (n + 1))
          have hN' := hN.kind1 c (v := nI v) d1 d2 (show x < 6 by omega)
          refine okT (M' := up2 (up2 (up2 (up2 M1 1 (3 + 5 * n) (nI d)) 1 (4 + 5 * n) (nI v)) 1 (5 + 5 * n) (nI x)) 1 0 (nI (n + 1))) (Rel.mk (n := n + 1) ?_ ?_ ?_) rfl rfl
          · rw [up2_s, up2_s, up2_s, up2_s]
            exact u4
          · rw [up2_s, up2_s, up2_s, up2_s]
            exact hN'
          · refine s5.mv (((((Oth.rf G1).up 2 _ _ (by decide) (by decide)).up 3 _ _ (by decide) (by decide)).up 4 _ _ (by decide) (by decide)).up 1 _ _ (by decide) (by decide)) ?_ ?_ ?_ ?_
            · rw [up2_n (by decide), up2_n (by decide), up2_n (by decide), up2_n (by decide)]
            · rw [up2_n (by decide), up2_n (by decide), up2_n (by decide), up2_n (by decide)]
            · rw [up2_n (by decide), up2_n (by decide), up2_n (by decide), up2_n (by decide)]
            · rw [up2_n (by decide), up2_n (by decide), up2_n (by decide), up2_n (by decide)]
        · obtain rfl : n = 6 := by omega
          rw [if_neg (show ¬ nI 6 < 6 by decide), if_pos (show nI 6 = 6 from rfl), m_throwing, bind_e]
          exact thT R 2 rfl rfl (List.Mem.tail _ (List.Mem.head _))
      · unfold sX4_isRail
        rw [e5, othr_l, e6, bind_e, grd_t bv0, bind_e, if_pos (show (0 : Int32) = 0 from rfl), m_throwing, bind_e]
        exact thT R 1 rfl rfl hm0
    · rw [e3, othr_l, e4, bind_e, if_pos (show (0 : Int32) = 0 from rfl), m_throwing, bind_e]
      exact thT R 1 rfl rfl hm0
  · rw [e1, othr_l, e2, bind_e, if_pos (show (0 : Int32) = 0 from rfl), m_throwing, bind_e]
    exact thT R 1 rfl rfl hm0
theorem op_setHome (hK : 4000 ≤ K) (R : Rel G M) (p1 p2 : Int32) : OpT G hIA (sX3_setHome K G p1 p2) (sX4_setHome K M p1 p2) := by
  obtain ⟨⟨n, hR, hN⟩, hT⟩ := id R
  have hn := hN.n6
  unfold sX3_setHome sX4_setHome
  rcases kind_both (K := K) hR hN.k0 hN.k0 hn p1 with ⟨k, hk, rfl, e1, e2⟩ | ⟨e1, e2⟩
  · rw [e1, othr_r, e2, bind_e, if_neg (by decide)]
    rcases in_both (K := K) (G := G) (M := M) (p := p2) (A := 0) (B := 5) (A' := 0) (B' := 5) 0 5 (by decide) (by decide) (by decide) (by decide) with ⟨x, x1, x2, rfl, e3, e4⟩ | ⟨e3, e4⟩
    · obtain ⟨G1, M1, s1, s2, s3, s4, s5, s6⟩ := save_both hK hR hN hT
      have hk6 : k < 6 := by omega
      unfold sX4_isRail
      rw [e3, othr_r, e4, bind_e, grd_t bv1, bind_e, if_neg (by decide), s1, bind_e, grd_i hk6 (by decide), grd_i hk6 (by decide), tnI (show k < 2147483648 by omega), olet_e, s2, bind_e, m_hm hk6, bind_e, m_kA2, bind_e, grd_i (by omega) (by decide), tnI (by omega), olet_e, m_fine, bind_e]
      rw [← s3] at hN s4
      rw [s4.hm hk6]
      refine okT (M' := up2 M1 1 (5 + 5 * k) (nI x)) (Rel.mk (n := n) ?_ ?_ ?_) rfl rfl
      · rw [up2_s]; exact s4.u 3 k (vdK (by decide) (by decide) hk6) (nI x)
      · rw [up2_s]; exact hN.home1 hk (by omega)
      · exact s5.mv ((Oth.rf G1).up 4 _ _ (by decide) (by decide)) (up2_n (by decide)) (up2_n (by decide)) (by rw [up2_n (by decide)]) (by rw [up2_n (by decide)])
    · unfold sX4_isRail
      rw [e3, othr_l, e4, bind_e, grd_t bv0, bind_e, if_pos rfl, m_throwing, bind_e]
      exact thT R 2 rfl rfl (List.Mem.tail _ (List.Mem.head _))
  · rw [e1, othr_l, e2, bind_e, if_pos rfl, m_throwing, bind_e]
    exact thT R 1 rfl rfl (List.Mem.head _)
theorem op_setGap (hK : 4000 ≤ K) (R : Rel G M) (p1 p2 : Int32) : OpT G hIAS (sX3_setGap K G p1 p2) (sX4_setGap K M p1 p2) := by
  obtain ⟨⟨n, hR, hN⟩, hT⟩ := id R
  have hn := hN.n6
  unfold sX3_setGap sX4_setGap
  rcases rail_both (K := K) (G := G) (M := M) p1 with ⟨r, hr, rfl, e1, e2⟩ | ⟨e1, e2⟩
  · rw [e1, othr_r, e2, bind_e, if_neg (by decide)]
    rcases in_both (K := K) (G := G) (M := M) (p := p2) (A := 900) (B := 4100) (A' := 900) (B' := 4100) 900 4100 (by decide) (by decide) (by decide) (by decide) with ⟨g, g1, g2, rfl, e3, e4⟩ | ⟨e3, e4⟩
    · rw [e3, othr_r, e4, bind_e, if_neg (by decide), c_isStuck hR hr, bind_e, m_sk hr, bind_e]
      by_cases c : M 1 (35 + 5 * r) = -1
      · obtain ⟨G1, M1, s1, s2, s3, s4, s5, s6⟩ := save_both hK hR hN hT
        rw [if_pos c, if_pos rfl, if_pos c, s1, bind_e, grd_i hr (by decide), grd_i hr (by decide), tnI (show r < 2147483648 by omega), olet_e, grd_i hr (by decide), olet_e, s2, bind_e, m_gp hr, bind_e, m_rA0, bind_e, grd_i (by omega) (by decide), tnI (by omega), olet_e, m_rA1, bind_e, grd_i (by omega) (by decide), tnI (by omega), olet_e, m_fine, bind_e]
        rw [← s3] at hN s4
        rw [s4.gp hr]
        refine okT (M' := up2 (up2 M1 1 (33 + 5 * r) (nI g)) 1 (34 + 5 * r) 0) (Rel.mk (n := n) ?_ ?_ ?_) rfl rfl
        · rw [up2_s, up2_s]; exact (s4.u 6 r (vdK (by decide) (by decide) hr) (nI g)).u 7 r (vdK (by decide) (by decide) hr) 0
        · rw [up2_s, up2_s]; exact (hN.gap1 hr g1 g2).use1 (x := 0) hr (by omega)
        · refine s5.mv (((Oth.rf G1).up 7 _ _ (by decide) (by decide)).up 8 _ _ (by decide) (by decide)) ?_ ?_ ?_ ?_
          · rw [up2_n (by decide), up2_n (by decide)]
          · rw [up2_n (by decide), up2_n (by decide)]
          · rw [up2_n (by decide), up2_n (by decide)]
          · rw [up2_n (by decide), up2_n (by decide)]
      · rw [if_neg c, if_neg (by decide), if_neg c, m_throwing, bind_e]
        exact thT R 3 rfl rfl (List.Mem.tail _ (List.Mem.tail _ (List.Mem.head _)))
    · rw [e3, othr_l, e4, bind_e, if_pos rfl, m_throwing, bind_e]
      exact thT R 2 rfl rfl (List.Mem.tail _ (List.Mem.head _))
  · rw [e1, othr_l, e2, bind_e, if_pos rfl, m_throwing, bind_e]
    exact thT R 1 rfl rfl (List.Mem.head _)
theorem op_feed (hK : 4000 ≤ K) (R : Rel G M) (p1 p2 : Int32) : OpT G hIA (sX3_feed K G p1 p2) (sX4_feed K M p1 p2) := by
  obtain ⟨⟨n, hR, hN⟩, hT⟩ := id R
  have hn := hN.n6
  unfold sX3_feed sX4_feed
  rcases kind_both (K := K) hR hN.k0 hN.k0 hn p1 with ⟨k, hk, rfl, e1, e2⟩ | ⟨e1, e2⟩
  · rw [e1, othr_r, e2, bind_e, if_neg (by decide)]
    rcases in_both (K := K) (G := G) (M := M) (p := p2) (A := 0) (B := 999) (A' := 0) (B' := 999) 0 999 (by decide) (by decide) (by decide) (by decide) with ⟨w, w1, w2, rfl, e3, e4⟩ | ⟨e3, e4⟩
    · obtain ⟨G1, M1, s1, s2, s3, s4, s5, s6⟩ := save_both hK hR hN hT
      rw [← s3] at hN s4
      obtain ⟨G2, a1, a2, a3⟩ := c_put hK s4 hN hk w2
      obtain ⟨M2, b1, b2, b3⟩ := m_feeds hK hN hk w2
      rw [e3, othr_r, e4, bind_e, if_neg (by decide), s1, bind_e, s2, bind_e, a1, bind_e, b1, bind_e, m_fine, bind_e]
      refine okT (M' := M2) (Rel.mk (n := n) ?_ ?_ ?_) rfl rfl
      · rw [b2]; exact a2
      · rw [b2]; exact hN.fe1 hk w
      · exact s5.mv a3 (b3 2 (by decide)) (b3 4 (by decide)) (congrFun (b3 0 (by decide)) 3) (congrFun (b3 0 (by decide)) 6)
    · rw [e3, othr_l, e4, bind_e, if_pos rfl, m_throwing, bind_e]
      exact thT R 2 rfl rfl (List.Mem.tail _ (List.Mem.head _))
  · rw [e1, othr_l, e2, bind_e, if_pos rfl, m_throwing, bind_e]
    exact thT R 1 rfl rfl (List.Mem.head _)
end OPT
