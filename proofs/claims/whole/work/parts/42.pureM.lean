/-! PURE, part M: free, takeBag, takeRejects, append, clearText, feedSome, digest -/
def frF (f : Nat → Int32) (r k : Nat) : Nat → Int32 := upd (upd (if cIn f r < 40 then upd f (63 + 6 * r + k) (f (63 + 6 * r + k) + 1) else upd f (7 + 5 * k) (f (7 + 5 * k) + 1)) (35 + 5 * r) (-1)) (36 + 5 * r) (-1)
def zbF (f : Nat → Int32) (r : Nat) : Nat → Nat → Int32
  | 0 => f
  | j + 1 => upd (zbF f r j) (63 + 6 * r + j) 0
def zrF (f : Nat → Int32) : Nat → Nat → Int32
  | 0 => f
  | j + 1 => upd (zrF f j) (7 + 5 * j) 0
theorem zbF_at (f : Nat → Int32) (r i : Nat) : ∀ j, zbF f r j i = if 63 + 6 * r ≤ i ∧ i < 63 + 6 * r + j then 0 else f i
  | 0 => by rw [if_neg (by omega)]; rfl
  | j + 1 => by
    show upd (zbF f r j) (63 + 6 * r + j) 0 i = _
    by_cases q : i = 63 + 6 * r + j
    · subst q; rw [upd_s, if_pos (by omega)]
    · rw [upd_n q, zbF_at f r i j]
      by_cases c : 63 + 6 * r ≤ i ∧ i < 63 + 6 * r + j
      · rw [if_pos c, if_pos (by omega)]
      · rw [if_neg c, if_neg (by omega)]
theorem zrF_o (f : Nat → Int32) (i : Nat) : ∀ j, (∀ a, a < j → i ≠ 7 + 5 * a) → zrF f j i = f i
  | 0, _ => rfl
  | j + 1, h => by
    show upd (zrF f j) (7 + 5 * j) 0 i = _
    rw [upd_n (h j (by omega))]
    exact zrF_o f i j (fun a ha => h a (by omega))
theorem zrF_z (f : Nat → Int32) (a : Nat) : ∀ j, a < j → zrF f j (7 + 5 * a) = 0
  | 0, h => absurd h (by omega)
  | j + 1, h => by
    show upd (zrF f j) (7 + 5 * j) 0 (7 + 5 * a) = _
    by_cases q : a = j
    · subst q; rw [upd_s]
    · rw [upd_n (by omega)]
      exact zrF_z f a j (by omega)
section SNZ
variable {f : Nat → Int32} {n : Nat}
theorem SN.fr1 (h : SN f n) {r k : Nat} (hr : r < 6) (hk : k < n) : SN (frF f r k) n := by
  unfold frF
  by_cases c : cIn f r < 40
  · rw [if_pos c]
    exact ((h.bag1 hr hk c).stk1 hr (Or.inl rfl)).wear1 hr _
  · rw [if_neg c]
    exact ((h.rej1 hk _).stk1 hr (Or.inl rfl)).wear1 hr _
theorem SN.zb1 (h : SN f n) {r : Nat} (hr : r < 6) : SN (zbF f r 6) n := by
  have hn := h.n6
  have nn : ∀ {i : Nat}, (i < 63 + 6 * r ∨ 63 + 6 * r + 6 ≤ i) → zbF f r 6 i = f i := fun hi => by rw [zbF_at, if_neg (by omega)]
  refine ⟨⟨h.n6, (nn (by omega)).trans h.k0⟩, fun k hk => ⟨?_, ?_⟩, fun k h1 h2 => ⟨?_, ?_⟩, fun r' k hr' h1 h2 => ?_, fun r' hr' => ?_, fun r' hr' => ⟨?_, ?_, ?_⟩, ?_⟩
  · rw [nn (by omega)]; exact h.dm hk
  · rw [nn (by omega)]; exact h.hm hk
  · rw [nn (by omega)]; exact h.fz h1 h2
  · rw [nn (by omega)]; exact h.rz h1 h2
  · rw [zbF_at]
    split
    · rfl
    · exact h.bz hr' h1 h2
  · rw [nn (by omega)]; exact h.st hr'
  · rw [nn (by omega)]; exact h.gp hr'
  · rw [nn (by omega)]; exact h.us hr'
  · obtain ⟨c, h1, h2⟩ := (h.2.2.2.2.2.1 r' hr').2.2
    by_cases e : r' = r
    · subst e
      refine ⟨fun _ => 0, fun k hk => ?_, (by decide : 0 + 0 + 0 + 0 + 0 + 0 ≤ 40)⟩
      rw [zbF_at, if_pos (by omega)]
      rfl
    · exact ⟨c, fun k hk => by rw [nn (by omega)]; exact h1 k hk, h2⟩
  · rw [nn (by omega), h.fed]
    exact sm_cong 6 (fun k hk => (nn (by omega)).symm)
theorem SN.zr1 (h : SN f n) : ∀ j, j ≤ n → SN (zrF f j) n
  | 0, _ => h
  | j + 1, hj => (h.zr1 j (by omega)).rej1 (by omega) 0
end SNZ
section CM
variable {K : Nat} {G M : Nat → Nat → Int32} {f : Nat → Int32} {n : Nat}
theorem c_loosen (hK : 4000 ≤ K) (h : SR G 1 f) (hS : SN f n) {r k : Nat} (hr : r < 6) (hk : k < n) (e : f (35 + 5 * r) = nI k) : ∃ G', sX2_loosen K G (nI r) = some (nI k, G') ∧ SR G' 1 (frF f r k) ∧ Oth G G' := by
  have hn := hS.n6
  unfold sX2_loosen frF
  rw [grd_i hr (by decide), c_isFull hK h hr, bind_e, tnI (show r < 2147483648 by omega), h.sk hr, e]
  by_cases c : cIn f r < 40
  · rw [if_pos c, if_pos rfl, if_pos c, ix6, grd_i (by omega) (by decide), grd_i (by omega) (by decide), tnI (by omega), olet_e, grd_i hr (by decide), olet_e, grd_i hr (by decide), olet_e, h.bg (by omega), ← Nat.add_assoc]
    have h1 := h.u 11 (6 * r + k) (vdB (by omega)) (f (63 + 6 * r + k) + 1)
    have h1 : SR (up2 G 12 (6 * r + k) (f (63 + 6 * r + k) + 1)) 1 (upd f (63 + 6 * r + k) (f (63 + 6 * r + k) + 1)) := by
      have e9 : fx 11 (6 * r + k) = 63 + 6 * r + k := by
        show 63 + (6 * r + k) = _
        omega
      rw [e9] at h1
      exact h1
    exact ⟨_, rfl, (h1.u 8 r (vdK (by decide) (by decide) hr) (-1)).u 9 r (vdK (by decide) (by decide) hr) (-1), (((Oth.rf G).up 12 _ _ (by decide) (by decide)).up 9 _ _ (by decide) (by decide)).up 10 _ _ (by decide) (by decide)⟩
  · have hk6 : k < 6 := by omega
    rw [if_neg c, if_neg (by decide), if_neg c, grd_i hk6 (by decide), grd_i hk6 (by decide), tnI (show k < 2147483648 by omega), olet_e, grd_i hr (by decide), olet_e, grd_i hr (by decide), olet_e, h.rj hk6]
    exact ⟨_, rfl, ((h.u 5 k (vdK (by decide) (by decide) hk6) (f (7 + 5 * k) + 1)).u 8 r (vdK (by decide) (by decide) hr) (-1)).u 9 r (vdK (by decide) (by decide) hr) (-1), (((Oth.rf G).up 6 _ _ (by decide) (by decide)).up 9 _ _ (by decide) (by decide)).up 10 _ _ (by decide) (by decide)⟩
theorem m_clears (K : Nat) (M : Nat → Nat → Int32) {r : Nat} (hr : r < 6) : sX4_clears K M (nI r) = some (up2 (up2 M 1 (35 + 5 * r) (-1)) 1 (36 + 5 * r) (-1)) := by
  unfold sX4_clears
  rw [m_rA2, bind_e, grd_i (by omega) (by decide), tnI (by omega), olet_e, m_rA3, bind_e, grd_i (by omega) (by decide), tnI (by omega), olet_e]
theorem c_empty (hK : 4000 ≤ K) (h : SR G 1 f) {r : Nat} (hr : r < 6) : ∃ G', sX2_emptyBag K G (nI r) = some (cIn f r, G') ∧ SR G' 1 (upd (zbF f r 6) 2 (f 2 + cIn f r)) ∧ Oth G G' := by
  unfold sX2_emptyBag
  rw [c_coinsIn hK h hr, bind_e]
  have key : ∀ (m i a : Nat) (G1 : Nat → Nat → Int32), i + m = 6 → m < a → SR G1 1 (zbF f r i) → Oth G G1 → ∃ G', sX2_emptyBag_L8 K (nI r) a G1 (cIn f r) (nI i) = some (cIn f r, G') ∧ SR G' 1 (upd (zbF f r 6) 2 (f 2 + cIn f r)) ∧ Oth G G' := by
    intro m
    induction m with
    | zero =>
      intro i a G1 hi ha h1 h2
      obtain ⟨b, rfl⟩ : ∃ b, a = b + 1 := ⟨a - 1, by omega⟩
      obtain rfl : i = 6 := by omega
      have e2 : G1 1 12 = f 2 := by rw [h1.taken, zbF_at, if_neg (by omega)]
      rw [sX2_emptyBag_L8, if_pos y6, olet_e, e2]
      exact ⟨_, rfl, h1.u 0 12 (Or.inl ⟨rfl, Or.inr rfl⟩) _, h2.up 1 _ _ (by decide) (by decide)⟩
    | succ m ih =>
      intro i a G1 hi ha h1 h2
      obtain ⟨b, rfl⟩ : ∃ b, a = b + 1 := ⟨a - 1, by omega⟩
      have hi6 : i < 6 := by omega
      rw [sX2_emptyBag_L8, if_neg (n6 hi6), ix6, grd_i (by omega) (by decide), tnI (by omega), olet_e, nI1]
      refine ih (i + 1) b _ (by omega) (by omega) ?_ (h2.up 12 _ _ (by decide) (by decide))
      have e := h1.u 11 (6 * r + i) (vdB (by omega)) 0
      have e9 : fx 11 (6 * r + i) = 63 + 6 * r + i := by
        show 63 + (6 * r + i) = _
        omega
      rw [e9] at e
      exact e
  exact key 6 0 K G (by omega) (by omega) h (Oth.rf G)
theorem c_removeR (hK : 4000 ≤ K) (h : SR G 1 f) : ∃ G', sX2_removeRejects K G = some (sm (fun k => f (7 + 5 * k)) 6, G') ∧ SR G' 1 (upd (zrF f 6) 2 (f 2 + sm (fun k => f (7 + 5 * k)) 6)) ∧ Oth G G' := by
  unfold sX2_removeRejects
  rw [c_sum6 hK 6 (by decide), bind_e, sm_cong 6 (fun j hj => h.rj hj)]
  generalize sm (fun k => f (7 + 5 * k)) 6 = x
  have key : ∀ (m i a : Nat) (G1 : Nat → Nat → Int32), i + m = 6 → m < a → SR G1 1 (zrF f i) → Oth G G1 → ∃ G', sX2_removeRejects_L10 K a G1 x (nI i) = some (x, G') ∧ SR G' 1 (upd (zrF f 6) 2 (f 2 + x)) ∧ Oth G G' := by
    intro m
    induction m with
    | zero =>
      intro i a G1 hi ha h1 h2
      obtain ⟨b, rfl⟩ : ∃ b, a = b + 1 := ⟨a - 1, by omega⟩
      obtain rfl : i = 6 := by omega
      have e2 : G1 1 12 = f 2 := by rw [h1.taken, zrF_o _ _ _ (fun a ha => by omega)]
      rw [sX2_removeRejects_L10, if_pos y6, olet_e, e2]
      exact ⟨_, rfl, h1.u 0 12 (Or.inl ⟨rfl, Or.inr rfl⟩) _, h2.up 1 _ _ (by decide) (by decide)⟩
    | succ m ih =>
      intro i a G1 hi ha h1 h2
      obtain ⟨b, rfl⟩ : ∃ b, a = b + 1 := ⟨a - 1, by omega⟩
      have hi6 : i < 6 := by omega
      rw [sX2_removeRejects_L10, if_neg (n6 hi6), grd_i (by omega) (by decide), tnI (by omega), olet_e, nI1]
      exact ih (i + 1) b _ (by omega) (by omega) (h1.u 5 i (vdK (by decide) (by decide) hi6) 0) (h2.up 6 _ _ (by decide) (by decide))
  exact key 6 0 K G (by omega) (by omega) h (Oth.rf G)
theorem m_bagL (hK : 4000 ≤ K) {r : Nat} (hr : r < 6) (x : Int32) : ∃ M', sX4_takeBag_L35 K (nI r) K M x (0 : Int32) = some (x, up2 M' 0 4 0) ∧ M' 1 = zbF (M 1) r 6 ∧ MO M M' := by
  have key : ∀ (m i a : Nat) (M1 : Nat → Nat → Int32), i + m = 6 → m < a → M1 1 = zbF (M 1) r i → MO M M1 → ∃ M', sX4_takeBag_L35 K (nI r) a M1 x (nI i) = some (x, up2 M' 0 4 0) ∧ M' 1 = zbF (M 1) r 6 ∧ MO M M' := by
    intro m
    induction m with
    | zero =>
      intro i a M1 hi ha h1 h2
      obtain ⟨b, rfl⟩ : ∃ b, a = b + 1 := ⟨a - 1, by omega⟩
      obtain rfl : i = 6 := by omega
      rw [sX4_takeBag_L35, if_pos y6, m_fine, bind_e]
      exact ⟨M1, rfl, h1, h2⟩
    | succ m ih =>
      intro i a M1 hi ha h1 h2
      obtain ⟨b, rfl⟩ : ∃ b, a = b + 1 := ⟨a - 1, by omega⟩
      rw [sX4_takeBag_L35, if_neg (n6 (by omega)), m_countAt, bind_e, grd_i (by omega) (by decide), tnI (by omega), olet_e, nI1]
      refine ih (i + 1) b _ (by omega) (by omega) ?_ (h2.up _ _)
      rw [up2_s, h1]
      rfl
  exact key 6 0 K M (by omega) (by omega) rfl (MO.rf M)
theorem m_rejL (hK : 4000 ≤ K) (hn : n ≤ 6) (h0 : M 1 0 = nI n) (x : Int32) : ∃ M', sX4_takeRejects_L21 K K M x (0 : Int32) = some (x, up2 M' 0 4 0) ∧ M' 1 = zrF (M 1) n ∧ MO M M' := by
  have key : ∀ (m i a : Nat) (M1 : Nat → Nat → Int32), i + m = n → m < a → M1 1 = zrF (M 1) i → MO M M1 → ∃ M', sX4_takeRejects_L21 K a M1 x (nI i) = some (x, up2 M' 0 4 0) ∧ M' 1 = zrF (M 1) n ∧ MO M M' := by
    intro m
    induction m with
    | zero =>
      intro i a M1 hi ha h1 h2
      obtain ⟨b, rfl⟩ : ∃ b, a = b + 1 := ⟨a - 1, by omega⟩
      obtain rfl : i = n := by omega
      rw [sX4_takeRejects_L21, grd_t i099, t0, show M1 1 0 = nI i by rw [h1, zrF_o _ _ _ (fun a ha => by omega)]; exact h0, if_pos (yleI (Nat.le_refl _) (by omega)), m_fine, bind_e]
      exact ⟨M1, rfl, h1, h2⟩
    | succ m ih =>
      intro i a M1 hi ha h1 h2
      obtain ⟨b, rfl⟩ : ∃ b, a = b + 1 := ⟨a - 1, by omega⟩
      rw [sX4_takeRejects_L21, grd_t i099, t0, show M1 1 0 = nI n by rw [h1, zrF_o _ _ _ (fun a ha => by omega)]; exact h0, if_neg (nleI (by omega) (by omega)), m_kA4, bind_e, grd_i (by omega) (by decide), tnI (by omega), olet_e, nI1]
      refine ih (i + 1) b _ (by omega) (by omega) ?_ (h2.up _ _)
      rw [up2_s, h1]
      rfl
  exact key n 0 K M (by omega) (by omega) rfl (MO.rf M)
theorem op_free (hK : 4000 ≤ K) (R : Rel G M) (p1 : Int32) : OpT G hIS (sX3_free K G p1) (sX4_free K M p1) := by
  obtain ⟨⟨n, hR, hN⟩, hT⟩ := id R
  have hn := hN.n6
  unfold sX3_free sX4_free
  rcases rail_both (K := K) (G := G) (M := M) p1 with ⟨r, hr, rfl, e1, e2⟩ | ⟨e1, e2⟩
  · rw [e1, othr_r, e2, bind_e, if_neg (by decide), c_isStuck hR hr, bind_e, m_sk hr, bind_e]
    by_cases c : M 1 (35 + 5 * r) = -1
    · rw [if_pos c, if_pos rfl, if_pos c, m_throwing, bind_e]
      exact thT R 2 rfl rfl (List.Mem.tail _ (List.Mem.head _))
    · rw [if_neg c, if_neg (by decide), if_neg c]
      obtain ⟨G1, M1, s1, s2, s3, s4, s5, s6⟩ := save_both hK hR hN hT
      rw [← s3] at hN s4 c
      obtain ⟨k, hk, ek⟩ : ∃ k, k < n ∧ M1 1 (35 + 5 * r) = nI k := by
        rcases hN.st hr with z | z
        · exact absurd z c
        · exact z
      obtain ⟨G2, a1, a2, a3⟩ := c_loosen hK s4 hN hr hk ek
      have ek' : M 1 (35 + 5 * r) = nI k := by rw [← s3]; exact ek
      rw [s1, bind_e, a1, bind_e, s2, bind_e, m_inBag hK hN hr, bind_e, ek']
      obtain ⟨cc, c1, c2⟩ := hN.bag hr
      have hfin : ∀ v : Nat → Int32, v = frF (M1 1) r k → Rel G2 (upR M1 1 v) := fun v hv => Rel.mk (n := n) (by rw [upR_s, hv]; exact a2) (by rw [upR_s, hv]; exact hN.fr1 hr hk) (s5.mv a3 (upR_n (by decide)) (upR_n (by decide)) (by rw [upR_n (by decide)]) (by rw [upR_n (by decide)]))
      have hup : ∀ (x y z : Nat) (a b c : Int32), up2 (up2 (up2 M1 1 x a) 1 y b) 1 z c = upR M1 1 (upd (upd (upd (M1 1) x a) y b) z c) := fun x y z a b c => by
        funext i
        by_cases q : i = 1
        · subst q; rw [up2_s, up2_s, up2_s, upR_s]
        · rw [up2_n q, up2_n q, up2_n q, upR_n q]
      by_cases q : cIn (M1 1) r < 40
      · have q2 : ¬ (40 : Int32) ≤ cIn (M1 1) r := by
          rw [c2] at q ⊢
          exact nleI (a := 40) ((nI_ltI (b := 40) (by omega) (by omega)).mp q) (by omega)
        rw [if_neg q2, m_countAt, bind_e, grd_i (by omega) (by decide), grd_i (by omega) (by decide), tnI (by omega), olet_e, m_clears K _ hr, bind_e, m_fine, bind_e, hup]
        exact okT (hfin _ (by unfold frF; rw [if_pos q])) rfl rfl
      · have q2 : (40 : Int32) ≤ cIn (M1 1) r := by
          rw [c2] at q ⊢
          refine yleI (a := 40) ?_ (by omega)
          rcases Nat.lt_or_ge cc 40 with z | z
          · exact absurd (yltI (b := 40) z (by omega)) q
          · exact z
        rw [if_pos q2, m_kA4, bind_e, grd_i (by omega) (by decide), grd_i (by omega) (by decide), tnI (by omega), olet_e, m_clears K _ hr, bind_e, m_fine, bind_e, hup]
        exact okT (hfin _ (by unfold frF; rw [if_neg q])) rfl rfl
  · rw [e1, othr_l, e2, bind_e, if_pos rfl, m_throwing, bind_e]
    exact thT R 1 rfl rfl (List.Mem.head _)
theorem op_takeBag (hK : 4000 ≤ K) (R : Rel G M) (p1 : Int32) : OpT G hI (sX3_takeBag K G p1) (sX4_takeBag K M p1) := by
  obtain ⟨⟨n, hR, hN⟩, hT⟩ := id R
  have hn := hN.n6
  unfold sX3_takeBag sX4_takeBag
  rcases rail_both (K := K) (G := G) (M := M) p1 with ⟨r, hr, rfl, e1, e2⟩ | ⟨e1, e2⟩
  · obtain ⟨G1, M1, s1, s2, s3, s4, s5, s6⟩ := save_both hK hR hN hT
    rw [← s3] at hN s4
    obtain ⟨G2, a1, a2, a3⟩ := c_empty hK s4 hr
    obtain ⟨M2, b1, b2, b3⟩ := m_bagL (M := up2 M1 1 2 (M1 1 2 + cIn (M1 1) r)) hK hr (cIn (M1 1) r)
    rw [e1, othr_r, e2, bind_e, if_neg (by decide), s1, bind_e, a1, bind_e, s2, bind_e, m_inBag hK hN hr, bind_e, grd_t i299, grd_t i299, t2, olet_e, b1]
    have ev : M2 1 = upd (zbF (M1 1) r 6) 2 (M1 1 2 + cIn (M1 1) r) := by
      rw [b2, up2_s]
      funext i
      rw [zbF_at]
      by_cases q : i = 2
      · subst q; rw [if_neg (by omega), upd_s, upd_s]
      · rw [upd_n q, upd_n q, zbF_at]
    refine okT (M' := M2) (Rel.mk (n := n) (by rw [ev]; exact a2) (by rw [ev]; exact (hN.zb1 hr).tk1 _) (s5.mv a3 ?_ ?_ ?_ ?_)) rfl rfl
    · rw [b3 2 (by decide), up2_n (by decide)]
    · rw [b3 4 (by decide), up2_n (by decide)]
    · rw [b3 0 (by decide), up2_n (by decide)]
    · rw [b3 0 (by decide), up2_n (by decide)]
  · rw [e1, othr_l, e2, bind_e, if_pos rfl, m_throwing, bind_e]
    exact thT R 1 rfl rfl (List.Mem.head _)
theorem op_takeRejects (hK : 4000 ≤ K) (R : Rel G M) : ∃ r G' M', sX3_takeRejects K G = some (r, G') ∧ sX4_takeRejects K M = some (r, M') ∧ Rel G' M' := by
  obtain ⟨⟨n, hR, hN⟩, hT⟩ := id R
  have hn := hN.n6
  unfold sX3_takeRejects sX4_takeRejects
  obtain ⟨G1, M1, s1, s2, s3, s4, s5, s6⟩ := save_both hK hR hN hT
  rw [← s3] at hN s4
  obtain ⟨G2, a1, a2, a3⟩ := c_removeR hK s4
  obtain ⟨M2, b1, b2, b3⟩ := m_rejL (M := up2 M1 1 2 (M1 1 2 + sm (fun k => M1 1 (7 + 5 * k)) 6)) (n := n) hK hn (by rw [up2_s, upd_n (by decide)]; exact hN.k0) (sm (fun k => M1 1 (7 + 5 * k)) 6)
  rw [s1, bind_e, a1, bind_e, s2, bind_e, m_rej hK hN, bind_e, grd_t i299, grd_t i299, t2, olet_e, b1]
  have ev : M2 1 = upd (zrF (M1 1) 6) 2 (M1 1 2 + sm (fun k => M1 1 (7 + 5 * k)) 6) := by
    rw [b2, up2_s]
    funext i
    by_cases q : i = 2
    · subst q; rw [zrF_o _ _ _ (fun a ha => by omega), upd_s, upd_s]
    · rw [upd_n q]
      by_cases q2 : ∃ a, a < 6 ∧ i = 7 + 5 * a
      · obtain ⟨a, q3, rfl⟩ := q2
        rw [zrF_z _ a 6 q3]
        by_cases q4 : a < n
        · rw [zrF_z _ a n q4]
        · rw [zrF_o _ _ _ (fun b hb => by omega), upd_n q]
          exact hN.rz (by omega) q3
      · rw [zrF_o _ _ _ (fun b hb z => q2 ⟨b, by omega, z⟩), zrF_o _ _ _ (fun b hb z => q2 ⟨b, by omega, z⟩), upd_n q]
  have es : SN (upd (zrF (M1 1) 6) 2 (M1 1 2 + sm (fun k => M1 1 (7 + 5 * k)) 6)) n := by
    rw [← ev, b2, up2_s]
    exact (hN.tk1 _).zr1 n (Nat.le_refl n)
  refine ⟨_, G2, _, rfl, rfl, Rel.up4 (Rel.mk (n := n) (by rw [ev]; exact a2) (by rw [ev]; exact es) (s5.mv a3 ?_ ?_ ?_ ?_)) 0⟩
  · rw [b3 2 (by decide), up2_n (by decide)]
  · rw [b3 4 (by decide), up2_n (by decide)]
  · rw [b3 0 (by decide), up2_n (by decide)]
  · rw [b3 0 (by decide), up2_n (by decide)]
end CM
