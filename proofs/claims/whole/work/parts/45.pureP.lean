/-! PURE, part P: parse -/
section PP
variable {b : Nat → Nat} {len : Nat}
theorem ndB_stop (p : Nat) (h : ndB b len p < 3) : ¬ dgB b len (p + ndB b len p) = true := by
  unfold ndB at h ⊢
  by_cases c1 : dgB b len p = true
  · rw [if_pos c1] at h ⊢
    by_cases c2 : dgB b len (p + 1) = true
    · rw [if_pos c2] at h ⊢
      by_cases c3 : dgB b len (p + 2) = true
      · rw [if_pos c3] at h
        omega
      · rw [if_neg c3]; exact c3
    · rw [if_neg c2]; exact c2
  · rw [if_neg c1]; exact c1
section MP
variable {K : Nat} {M : Nat → Nat → Int32}
def LR (b : Nat → Nat) (len s : Nat) (res : Option (Int32 × (Nat → Nat → Int32))) (M' : Nat → Nat → Int32) : Prop :=
  (ndB b len s = 0 ∧ res = some (0, M') ∧ M' 0 7 = nI s) ∨ (ndB b len s ≠ 0 ∧ byB b len (s + ndB b len s) 59 = true ∧ res = some (1, M') ∧ M' 0 7 = nI (s + ndB b len s + 1) ∧ M' 0 9 = nI (vlB b s (ndB b len s))) ∨ (ndB b len s ≠ 0 ∧ ¬ byB b len (s + ndB b len s) 59 = true ∧ res = some (0, M') ∧ M' 0 7 = nI (s + ndB b len s))
theorem m_fin (hl : len ≤ 90) (hb : ∀ j, j < len → b j < 128) (h : TM b len M) {s : Nat} (hs : s < 900) (e7 : M 0 7 = nI (s + ndB b len s)) (e9 : M 0 9 = nI (vlB b s (ndB b len s))) : ∃ M', MR M M' ∧ M' 0 8 = M 0 8 ∧ LR b len s (if M 0 7 = nI s then some ((0 : Int32), M) else (sX4_passes K M (59 : Int32)).bind fun r140 => grd (bv r140.1) (some (r140.1, r140.2))) M' := by
  have hnd := ndB_le (b := b) (len := len) s
  by_cases c : ndB b len s = 0
  · rw [e7, c, if_pos (show nI (s + 0) = nI s from rfl)]
    refine ⟨M, MR.rf M, rfl, Or.inl ⟨c, rfl, ?_⟩⟩
    rw [e7, c]
    rfl
  · rw [e7, if_neg (neI (by omega) (by omega) (by omega)), show sX4_passes K M (59 : Int32) = _ from m_pass (v := 59) hl hb h (by omega) (by decide) e7, bind_e]
    dsimp only
    by_cases q : byB b len (s + ndB b len s) 59 = true
    · rw [if_pos q, if_pos q, grd_t bv1]
      exact ⟨up2 M 0 7 (nI (s + ndB b len s + 1)), (MR.rf M).up (Or.inl rfl) _, by rw [up2_s, upd_n (by decide)], Or.inr (Or.inl ⟨c, q, rfl, by rw [up2_s, upd_s], by rw [up2_s, upd_n (by decide)]; exact e9⟩)⟩
    · rw [if_neg q, if_neg q, grd_t bv0]
      exact ⟨up2 M 0 7 (nI (s + ndB b len s)), (MR.rf M).up (Or.inl rfl) _, by rw [up2_s, upd_n (by decide)], Or.inr (Or.inr ⟨c, q, rfl, by rw [up2_s, upd_s]⟩)⟩
theorem m_L68 (hK : 4000 ≤ K) (hl : len ≤ 90) (hb : ∀ j, j < len → b j < 128) {s : Nat} (hs : s < 900) : ∀ (m i y : Nat) (M1 : Nat → Nat → Int32), i + m = ndB b len s → m < y → TM b len M1 → M1 0 7 = nI (s + i) → M1 0 9 = nI (vlB b s i) → ∃ M', MR M1 M' ∧ M' 0 8 = M1 0 8 ∧ LR b len s (sX4_readsCoin_L68 K y M1 (nI s)) M' := by
  have hnd := ndB_le (b := b) (len := len) s
  intro m
  induction m with
  | zero =>
    intro i y M1 hi hy h e7 e9
    obtain ⟨z, rfl⟩ : ∃ z, y = z + 1 := ⟨y - 1, by omega⟩
    obtain rfl : i = ndB b len s := by omega
    obtain ⟨M', a1, a2, a3⟩ := m_fin (K := K) hl hb h hs e7 e9
    refine ⟨M', a1, a2, ?_⟩
    rw [sX4_readsCoin_L68, m_here hl h (by omega) e7, bind_e, m_dig hl hb, bind_e]
    by_cases c : dgB b len (s + ndB b len s) = true
    · have h3 : ndB b len s = 3 := by
        rcases Nat.lt_or_ge (ndB b len s) 3 with z | z
        · exact absurd c (ndB_stop s z)
        · omega
      rw [if_pos c, if_neg (by decide), if_pos (show nI s + (3 : Int32) ≤ M1 0 7 by rw [e7, h3, show nI s + (3 : Int32) = nI (s + 3) from nI_add s 3]; exact Int32.le_refl _)]
      exact a3
    · rw [if_neg c, if_pos rfl]
      exact a3
  | succ m ih =>
    intro i y M1 hi hy h e7 e9
    obtain ⟨z, rfl⟩ : ∃ z, y = z + 1 := ⟨y - 1, by omega⟩
    have hd := ndB_d (b := b) (len := len) s i (by omega)
    obtain ⟨d0, d1, d2⟩ := dgB_i.mp hd
    have b1 := hb _ d0
    have e3 : nI s + (3 : Int32) = nI (s + 3) := nI_add s 3
    rw [sX4_readsCoin_L68, m_here hl h (by omega) e7, bind_e, m_dig hl hb, bind_e, if_pos hd, if_neg (by decide), e7, e3, if_neg (nleI (by omega) (by omega)), bind_e, if_pos d0, olet_e, olet_e, e9]
    have ev : ((10 : Int32) * nI (vlB b s i)) + nI (b (s + i)) - (48 : Int32) = nI (vlB b s (i + 1)) := by
      show nI 10 * nI (vlB b s i) + nI (b (s + i)) - nI 48 = nI (10 * vlB b s i + (b (s + i) - 48))
      rw [pk_mul, nI_add, pk_sub (by omega), show 10 * vlB b s i + b (s + i) - 48 = 10 * vlB b s i + (b (s + i) - 48) by omega]
    rw [ev, show up2 M1 0 9 (nI (vlB b s (i + 1))) 0 7 = nI (s + i) by rw [up2_s, upd_n (by decide)]; exact e7, nI1]
    have r1 : MR M1 (up2 (up2 M1 0 9 (nI (vlB b s (i + 1)))) 0 7 (nI (s + i + 1))) := ((MR.rf M1).up (Or.inr (Or.inr rfl)) _).up (Or.inl rfl) _
    obtain ⟨M', a1, a2, a3⟩ := ih (i + 1) z _ (by omega) (by omega) (h.mr r1) (by rw [up2_s, upd_s]; rfl) (by rw [up2_s, upd_n (by decide), up2_s, upd_s])
    refine ⟨M', r1.tr a1, ?_, a3⟩
    rw [a2, up2_s, upd_n (by decide), up2_s, upd_n (by decide)]
theorem m_step (hK : 4000 ≤ K) (hl : len ≤ 90) (hb : ∀ j, j < len → b j < 128) (h : TM b len M) {n j : Nat} (hn : n ≤ 6) (h0 : M 1 0 = nI n) (hj : j < len) (e7 : M 0 7 = nI j) : ∃ M', MR M M' ∧ ((¬ dkB b len n j = true ∧ sX4_readsCoin K M = some (0, M') ∧ M' 0 7 = nI j) ∨ (dkB b len n j = true ∧ ¬ gdB b len j = true ∧ sX4_readsCoin K M = some (0, M') ∧ M' 0 7 = nI (eow b len j)) ∨ (dkB b len n j = true ∧ gdB b len j = true ∧ sX4_readsCoin K M = some (1, M') ∧ M' 0 7 = nI (eow b len j + 1) ∧ M' 0 8 = nI (b j - 48) ∧ M' 0 9 = nI (wvB b len j))) := by
  have b1 := hb j hj
  have hhi : (((48 : Int32) + nI n).toInt64 - (1 : Int64)).toInt = ((47 + n : Nat) : Int) := by
    have q1 : (48 : Int32) + nI n = nI (48 + n) := nI_add 48 n
    have q2 : lN (48 + n) - (1 : Int64) = lN (47 + n) := by
      have := lN_sub (a := 48 + n) (b := 1) (by omega)
      rw [show 48 + n - 1 = 47 + n by omega] at this
      exact this
    rw [q1, nI_l (by omega), q2, lN_toInt (by omega)]
  have hhead : sX4_readsCoin K M = if dkB b len n j = true then (sX4_passes K (up2 (up2 (up2 M 0 8 (nI (b j - 48))) 0 9 0) 0 7 (nI (j + 1))) (119 : Int32)).bind fun r57 => (if r57.1 = 0 then (sX4_passes K r57.2 (59 : Int32)).bind fun r140 => grd (bv r140.1) (some (r140.1, r140.2)) else sX4_readsCoin_L68 K K r57.2 (r57.2 0 7)) else some (0, M) := by
    unfold sX4_readsCoin
    rw [m_here hl h (by omega) e7, bind_e, grd_t i099, t0, h0, if_pos hj, in4, hhi, show (48 : Int64).toInt = 48 by decide, nI_toInt (by omega), bind_e, bind_e, olet_e, olet_e, olet_e]
    by_cases c : dkB b len n j = true
    · obtain ⟨d0, d1, d2⟩ := dkB_i.mp c
      rw [if_pos c, if_pos (show ((48 : Int) ≤ (b j : Int) ∧ (b j : Int) ≤ ((47 + n : Nat) : Int)) by omega), if_neg (by decide), show nI (b j) - (48 : Int32) = nI (b j - 48) from pk_sub (b := 48) d1, show up2 (up2 M 0 8 (nI (b j - 48))) 0 9 0 0 7 = nI j by rw [up2_s, upd_n (by decide), up2_s, upd_n (by decide)]; exact e7, nI1]
    · have c' : ¬ ((48 : Int) ≤ (b j : Int) ∧ (b j : Int) ≤ ((47 + n : Nat) : Int)) := fun q => c (dkB_i.mpr (by omega))
      rw [if_neg c, if_neg c', if_pos rfl]
  rw [hhead]
  by_cases c : dkB b len n j = true
  · rw [if_pos c]
    have r1 : MR M (up2 (up2 (up2 M 0 8 (nI (b j - 48))) 0 9 0) 0 7 (nI (j + 1))) := (((MR.rf M).up (Or.inr (Or.inl rfl)) _).up (Or.inr (Or.inr rfl)) _).up (Or.inl rfl) _
    have f8 : up2 (up2 (up2 M 0 8 (nI (b j - 48))) 0 9 0) 0 7 (nI (j + 1)) 0 8 = nI (b j - 48) := by rw [up2_s, upd_n (by decide), up2_s, upd_n (by decide), up2_s, upd_s]
    have f9 : up2 (up2 (up2 M 0 8 (nI (b j - 48))) 0 9 0) 0 7 (nI (j + 1)) 0 9 = 0 := by rw [up2_s, upd_n (by decide), up2_s, upd_s]
    have f7 : up2 (up2 (up2 M 0 8 (nI (b j - 48))) 0 9 0) 0 7 (nI (j + 1)) 0 7 = nI (j + 1) := by rw [up2_s, upd_s]
    generalize up2 (up2 (up2 M 0 8 (nI (b j - 48))) 0 9 0) 0 7 (nI (j + 1)) = M1 at r1 f8 f9 f7 ⊢
    have h1 : TM b len M1 := h.mr r1
    rw [show sX4_passes K M1 (119 : Int32) = _ from m_pass (v := 119) hl hb h1 (by omega) (by decide) f7, bind_e]
    dsimp only
    by_cases q : byB b len (j + 1) 119 = true
    · have eE : eow b len j = j + 2 + ndB b len (j + 2) := if_pos q
      have eW : wvB b len j = vlB b (j + 2) (ndB b len (j + 2)) := if_pos q
      rw [if_pos q, if_pos q, if_neg (by decide), show up2 M1 0 7 (nI (j + 1 + 1)) 0 7 = nI (j + 2) by rw [up2_s, upd_s]]
      have r2 : MR M1 (up2 M1 0 7 (nI (j + 1 + 1))) := (MR.rf M1).up (Or.inl rfl) _
      obtain ⟨M', a1, a2, a3⟩ := m_L68 (K := K) hK hl hb (s := j + 2) (by omega) (ndB b len (j + 2)) 0 K _ (by omega) (by have := ndB_le (b := b) (len := len) (j + 2); omega) (h1.mr r2) (by rw [up2_s, upd_s]) (by rw [up2_s, upd_n (by decide)]; exact f9)
      have a2' : M' 0 8 = nI (b j - 48) := by rw [a2, up2_s, upd_n (by decide)]; exact f8
      refine ⟨M', (r1.tr r2).tr a1, ?_⟩
      rcases a3 with ⟨z1, z2, z3⟩ | ⟨z1, z2, z3, z4, z5⟩ | ⟨z1, z2, z3, z4⟩
      · refine Or.inr (Or.inl ⟨c, ?_, z2, ?_⟩)
        · unfold gdB lkB
          rw [q, z1]
          intro q9
          rw [Bool.and_eq_true] at q9
          exact absurd q9.1 (by decide)
        · rw [z3, eE, z1]
      · refine Or.inr (Or.inr ⟨c, ?_, z3, ?_, a2', ?_⟩)
        · unfold gdB lkB
          rw [q, decide_eq_false z1, eE, z2]
          rfl
        · rw [z4, eE]
        · rw [z5, eW]
      · refine Or.inr (Or.inl ⟨c, ?_, z3, ?_⟩)
        · unfold gdB
          rw [eE, Bool.eq_false_iff.mpr z2, Bool.and_false]
          decide
        · rw [z4, eE]
    · have eE : eow b len j = j + 1 := if_neg q
      have eW : wvB b len j = 0 := if_neg q
      have r2 : MR M1 (up2 M1 0 7 (nI (j + 1))) := (MR.rf M1).up (Or.inl rfl) _
      rw [if_neg q, if_neg q, if_pos rfl, show sX4_passes K (up2 M1 0 7 (nI (j + 1))) (59 : Int32) = _ from m_pass (v := 59) hl hb (h1.mr r2) (j := j + 1) (by omega) (by decide) (by rw [up2_s, upd_s]), bind_e]
      dsimp only
      have r3 : ∀ x, MR M (up2 (up2 M1 0 7 (nI (j + 1))) 0 7 x) := fun x => (r1.tr r2).up (Or.inl rfl) x
      have elk : lkB b len j = false := by
        unfold lkB
        rw [Bool.eq_false_iff.mpr q]
        rfl
      by_cases q2 : byB b len (j + 1) 59 = true
      · rw [if_pos q2, if_pos q2, grd_t bv1]
        refine ⟨_, r3 _, Or.inr (Or.inr ⟨c, ?_, rfl, ?_, ?_, ?_⟩)⟩
        · unfold gdB
          rw [eE, elk, q2]
          rfl
        · rw [up2_s, upd_s, eE]
        · rw [up2_s, upd_n (by decide), up2_s, upd_n (by decide)]; exact f8
        · rw [up2_s, upd_n (by decide), up2_s, upd_n (by decide), eW]; exact f9
      · rw [if_neg q2, if_neg q2, grd_t bv0]
        refine ⟨_, r3 _, Or.inr (Or.inl ⟨c, ?_, rfl, ?_⟩)⟩
        · unfold gdB
          rw [eE, Bool.eq_false_iff.mpr q2, Bool.and_false]
          decide
        · rw [up2_s, upd_s, eE]
  · rw [if_neg c]
    exact ⟨M, MR.rf M, Or.inl ⟨c, rfl, e7⟩⟩
end MP
/-- what the class's reading leaves: all but the coins read -/
def GR (G G' : Nat → Nat → Int32) : Prop := (∀ i, i ≠ 63 → i ≠ 65 → i ≠ 66 → G' i = G i) ∧ ∀ i, i ≠ 4 → G' 63 i = G 63 i
theorem GR.rf (G : Nat → Nat → Int32) : GR G G := ⟨fun _ _ _ _ => rfl, fun _ _ => rfl⟩
theorem TC.gr {G G' : Nat → Nat → Int32} (h : TC b len G) (r : GR G G') : TC b len G' := ⟨(r.2 1 (by decide)).trans h.1, fun j hj => by rw [r.1 64 (by decide) (by decide) (by decide)]; exact h.2 j hj⟩
def AR (b : Nat → Nat) (len n cn : Nat) (G : Nat → Nat → Int32) : Prop := G 63 4 = nI cn ∧ ∀ i, i < cn → ps b len i < len ∧ dkB b len n (ps b len i) = true ∧ gdB b len (ps b len i) = true ∧ G 65 i = nI (b (ps b len i) - 48) ∧ G 66 i = nI (wvB b len (ps b len i))
theorem first_pass {K : Nat} {G M : Nat → Nat → Int32} (hK : 4000 ≤ K) (hl : len ≤ 90) (hb : ∀ j, j < len → b j < 128) (hc : TC b len G) (hm : TM b len M) {n : Nat} (hn : n ≤ 6) (h0 : M 1 0 = nI n) : ∀ (m j cn y1 y2 : Nat) (G1 M1 : Nat → Nat → Int32), j + m = len → m < y1 → m < y2 → GR G G1 → MR M M1 → M1 0 7 = nI j → j = ps b len cn → 2 * cn ≤ j → AR b len n cn G1 →
    (∃ p G2 M2, p < 200 ∧ sX0_readCoins_L7 K (nI n) y1 G1 (nI j) = some (nI p, G2) ∧ sX4_parse_L5 K y2 M1 = some ((-10 : Int32) - nI p, up2 M2 0 4 0) ∧ GR G G2 ∧ MR M M2) ∨ ∃ cn2 G2 M2, sX0_readCoins_L7 K (nI n) y1 G1 (nI j) = some (-1, G2) ∧ (sX4_parse_L5 K y2 M1 = (sX4_save K M2).bind fun r36 => olet (up2 r36 0 7 (0 : Int32)) fun G45 => sX4_parse_L46 K K G45 (0 : Int32)) ∧ GR G G2 ∧ MR M M2 ∧ cn2 ≤ 45 ∧ ps b len cn2 = len ∧ AR b len n cn2 G2 := by
  intro m
  induction m using Nat.strongRecOn with
  | ind m ih =>
    intro j cn y1 y2 G1 M1 hj hy1 hy2 g1 m1 e7 ej ec ea
    obtain ⟨z1, rfl⟩ : ∃ z, y1 = z + 1 := ⟨y1 - 1, by omega⟩
    obtain ⟨z2, rfl⟩ : ∃ z, y2 = z + 1 := ⟨y2 - 1, by omega⟩
    have hc1 := hc.gr g1
    have hm1 := hm.mr m1
    by_cases c0 : m = 0
    · subst c0
      obtain rfl : j = len := by omega
      refine Or.inr ⟨cn, G1, M1, ?_, ?_, g1, m1, by omega, ej.symm, ea⟩
      · rw [sX0_readCoins_L7, hc1.1, if_pos (yleI (Nat.le_refl _) (by omega))]
      · rw [sX4_parse_L5, hm1.1, e7, if_pos (yleI (Nat.le_refl _) (by omega))]
    · have hjl : j < len := by omega
      obtain ⟨s1, s2, s3⟩ := c_step (K := K) (z := z1) hK hl hb hc1 hn hjl (show cn < 45 by omega) ea.1
      have h01 : M1 1 0 = nI n := by rw [m1.1 1 (by decide)]; exact h0
      obtain ⟨M2, r2, t⟩ := m_step (K := K) hK hl hb hm1 hn h01 hjl e7
      have hge := eow_ge (b := b) (len := len) j
      have hle := eow_le (b := b) (len := len) j
      rw [sX4_parse_L5, hm1.1, e7, if_neg (nleI hjl (by omega))]
      rcases t with ⟨t1, t2, t3⟩ | ⟨t1, t2, t3, t4⟩ | ⟨t1, t2, t3, t4, t5, t6⟩
      · refine Or.inl ⟨j, G1, M2, by omega, s1 t1, ?_, g1, m1.tr r2⟩
        rw [t2, bind_e]
        dsimp only
        rw [if_pos rfl, m_fine, bind_e, t3]
      · refine Or.inl ⟨eow b len j, G1, M2, by omega, s2 t1 t2, ?_, g1, m1.tr r2⟩
        rw [t3, bind_e]
        dsimp only
        rw [if_pos rfl, m_fine, bind_e, t4]
      · rw [s3 t1 t2, t3, bind_e]
        dsimp only
        rw [if_neg (by decide)]
        have hlt := gd_lt t2
        refine ih (len - (eow b len j + 1)) (by omega) (eow b len j + 1) (cn + 1) z1 z2 _ M2 (by omega) (by omega) (by omega) ?_ (m1.tr r2) t4 (by rw [ej]; rfl) (by omega) ⟨?_, fun i hi => ?_⟩
        · refine ⟨fun i i1 i2 i3 => ?_, fun i hi => ?_⟩
          · rw [up2_n i1, up2_n i3, up2_n i2]; exact g1.1 i i1 i2 i3
          · rw [up2_s, upd_n hi, up2_n (by decide), up2_n (by decide)]; exact g1.2 i hi
        · rw [up2_s, upd_s]
        · rw [up2_n (by decide), up2_n (by decide), up2_s, up2_n (by decide), up2_s, up2_n (by decide)]
          by_cases q : i = cn
          · subst q
            rw [upd_s, upd_s, ← ej]
            exact ⟨hjl, t1, t2, rfl, rfl⟩
          · rw [upd_n q, upd_n q]
            exact ea.2 i (by omega)
theorem second_pass {K : Nat} (hK : 4000 ≤ K) (hl : len ≤ 90) (hb : ∀ j, j < len → b j < 128) {n cn : Nat} (hc : cn ≤ 45) (hp : ps b len cn = len) (a : Int32) : ∀ (m i y : Nat) (x2 : Int32) (G1 M1 : Nat → Nat → Int32), i + m = cn → m < y → AR b len n cn G1 → TM b len M1 → M1 0 7 = nI (ps b len i) → SR G1 1 (M1 1) → SN (M1 1) n → HT G1 M1 → ∃ r G' M', sX3_parse_L40 K y G1 a x2 (nI i) = some (r, G') ∧ sX4_parse_L46 K y M1 x2 = some (r, up2 M' 0 4 0) ∧ Rel G' M' := by
  intro m
  induction m with
  | zero =>
    intro i y x2 G1 M1 hi hy ha hm e7 h1 h2 h3
    obtain ⟨z, rfl⟩ : ∃ z, y = z + 1 := ⟨y - 1, by omega⟩
    obtain rfl : i = cn := by omega
    rw [sX3_parse_L40, sX4_parse_L46, ha.1, if_pos (yleI (Nat.le_refl _) (by omega)), hm.1, e7, hp, if_pos (yleI (Nat.le_refl _) (by omega)), m_fine, bind_e]
    exact ⟨_, _, _, rfl, rfl, Rel.mk h1 h2 h3⟩
  | succ m ih =>
    intro i y x2 G1 M1 hi hy ha hm e7 h1 h2 h3
    have hn := h2.n6
    obtain ⟨z, rfl⟩ : ∃ z, y = z + 1 := ⟨y - 1, by omega⟩
    obtain ⟨a1, a2, a3, a4, a5⟩ := ha.2 i (by omega)
    have hi45 : i < 45 := by omega
    have hw := wvB_le (b := b) (len := len) (ps b len i)
    obtain ⟨d0, d1, d2⟩ := dkB_i.mp a2
    have hk : b (ps b len i) - 48 < n := by omega
    obtain ⟨G2, p1, p2, p3⟩ := c_put hK h1 h2 hk hw
    obtain ⟨M2, r2, t⟩ := m_step (K := K) hK hl hb hm hn h2.k0 a1 e7
    rcases t with ⟨t1, -⟩ | ⟨-, t2, -⟩ | ⟨t1, t2, t3, t4, t5, t6⟩
    · exact absurd a2 t1
    · exact absurd a3 t2
    · have q1 : M2 1 = M1 1 := r2.1 1 (by decide)
      obtain ⟨M3, b1, b2, b3⟩ := m_feeds (M := M2) hK (by rw [q1]; exact h2) hk hw
      rw [q1] at b1 b2
      rw [sX3_parse_L40, sX4_parse_L46, ha.1, if_neg (nleI (by omega) (by omega)), grd_i hi45 (by decide), grd_i hi45 (by decide), tnI (by omega), a4, a5, p1, bind_e, rail_c, bind_e, hm.1, e7, if_neg (nleI a1 (by omega)), t3, bind_e]
      dsimp only
      rw [if_neg (show ¬ (1 : Int32) = 0 by decide), t5, t6, b1, bind_e, in4, show (0 : Int64).toInt = 0 by decide, show (5 : Int64).toInt = 5 by decide, bind_e, nI1]
      dsimp only
      have hm3 : TM b len M3 := ⟨by rw [b3 0 (by decide)]; exact (hm.mr r2).1, fun j hj => by rw [b3 4 (by decide)]; exact (hm.mr r2).2 j hj⟩
      have ha3 : AR b len n cn G2 := ⟨by rw [p3 63 (by omega)]; exact ha.1, fun i' hi' => by rw [p3 65 (by omega), p3 66 (by omega)]; exact ha.2 i' hi'⟩
      have e73 : M3 0 7 = nI (ps b len (i + 1)) := by rw [b3 0 (by decide)]; exact t4
      have hs3 : SR G2 1 (M3 1) := by rw [b2]; exact p2
      have hn3 : SN (M3 1) n := by rw [b2]; exact h2.fe1 hk _
      have ht3 : HT G2 M3 := h3.mv p3 ((b3 2 (by decide)).trans (r2.1 2 (by decide))) ((b3 4 (by decide)).trans (r2.1 4 (by decide))) ((congrFun (b3 0 (by decide)) 3).trans (r2.2 3 (by decide) (by decide) (by decide))) ((congrFun (b3 0 (by decide)) 6).trans (r2.2 6 (by decide) (by decide) (by decide)))
      by_cases q : 0 ≤ (plc (M1 1) (b (ps b len i) - 48) (wvB b len (ps b len i)) 0 6).toInt ∧ (plc (M1 1) (b (ps b len i) - 48) (wvB b len (ps b len i)) 0 6).toInt ≤ 5
      · rw [if_pos q, if_neg (by decide), if_neg (by decide)]
        exact ih (i + 1) z _ G2 M3 (by omega) (by omega) ha3 hm3 e73 hs3 hn3 ht3
      · rw [if_neg q, if_pos rfl, if_pos rfl, add0]
        exact ih (i + 1) z _ G2 M3 (by omega) (by omega) ha3 hm3 e73 hs3 hn3 ht3
end PP
theorem op_parse {K : Nat} {G M : Nat → Nat → Int32} (hK : 4000 ≤ K) (R : Rel G M) : ∃ r G' M', sX3_parse K G = some (r, G') ∧ sX4_parse K M = some (r, M') ∧ Rel G' M' := by
  obtain ⟨⟨n, hR, hN⟩, hH, len, l1, l2, l3, l4⟩ := id R
  have hn := hN.n6
  obtain ⟨b, hbd⟩ : ∃ b : Nat → Nat, ∀ j, j < len → b j < 128 ∧ M 4 j = nI (b j) := by
    refine ⟨fun j => (M 4 j).toNatClampNeg, fun j hj => ?_⟩
    obtain ⟨-, x, x1, x2⟩ := l4 j hj
    show (M 4 j).toNatClampNeg < 128 ∧ M 4 j = nI (M 4 j).toNatClampNeg
    rw [x2, tnI (by omega)]
    exact ⟨x1, rfl⟩
  have hb : ∀ j, j < len → b j < 128 := fun j hj => (hbd j hj).1
  have hc : TC b len G := ⟨l2, fun j hj => (l4 j hj).1.trans (hbd j hj).2⟩
  have hm : TM b len M := ⟨l3, fun j hj => (hbd j hj).2⟩
  have g0 : GR G (up2 G 63 4 (0 : Int32)) := ⟨fun i i1 i2 i3 => up2_n i1, fun i hi => by rw [up2_s, upd_n hi]⟩
  have m0 : MR M (up2 M 0 7 (0 : Int32)) := (MR.rf M).up (Or.inl rfl) _
  have eR : ∀ G2 M2, GR G G2 → MR M M2 → Rel G2 M2 := fun G2 M2 g2 m2 => by
    have q1 : M2 1 = M 1 := m2.1 1 (by decide)
    refine ⟨⟨n, ?_, by rw [q1]; exact hN⟩, hH.mv (fun i i1 i2 => g2.1 i (by omega) (by omega) (by omega)) (m2.1 2 (by decide)) (m2.2 3 (by decide) (by decide) (by decide)), len, l1, (g2.2 1 (by decide)).trans l2, (m2.2 6 (by decide) (by decide) (by decide)).trans l3, fun j hj => ?_⟩
    · rw [q1]; exact hR.same fun a ha => g2.1 _ (by omega) (by omega) (by omega)
    · rw [g2.1 64 (by decide) (by decide) (by decide), m2.1 4 (by decide)]; exact l4 j hj
  unfold sX3_parse sX4_parse sX0_readCoins
  rw [hR.kinds, hN.k0, olet_e, olet_e]
  rcases first_pass (K := K) hK l1 hb hc hm hn hN.k0 len 0 0 K K _ _ (by omega) (by omega) (by omega) g0 m0 (by rw [up2_s, upd_s]; rfl) rfl (by omega) ⟨by rw [up2_s, upd_s]; rfl, fun i hi => absurd hi (by omega)⟩ with ⟨p, G2, M2, p1, p2, p3, p4, p5⟩ | ⟨cn, G2, M2, p2, p3, p4, p5, p6, p7, p8⟩
  · rw [show sX0_readCoins_L7 K (nI n) K (up2 G 63 4 0) (0 : Int32) = _ from p2, bind_e, p3]
    dsimp only
    rw [if_neg (m1ne (by omega))]
    exact ⟨_, _, _, rfl, rfl, (eR G2 M2 p4 p5).up4 _⟩
  · rw [show sX0_readCoins_L7 K (nI n) K (up2 G 63 4 0) (0 : Int32) = _ from p2, bind_e, p3]
    dsimp only
    rw [if_pos rfl]
    have q1 : M2 1 = M 1 := p5.1 1 (by decide)
    have R2 := eR G2 M2 p4 p5
    have hR2 : SR G2 1 (M2 1) := by rw [q1]; exact hR.same fun a ha => p4.1 _ (by omega) (by omega) (by omega)
    have hN2 : SN (M2 1) n := by rw [q1]; exact hN
    obtain ⟨G3, M3, s1, s2, s3, s4, s5, s6, s7, s8⟩ := save_bothX (K := K) hK hR2 hN2 R2.2
    rw [s1, bind_e, s2, bind_e, olet_e]
    have m4 : MR M3 (up2 M3 0 7 (0 : Int32)) := (MR.rf M3).up (Or.inl rfl) _
    have hA3 : AR b len n cn G3 := by
      refine ⟨?_, fun i hi => ?_⟩
      · rw [s7 63 (by omega)]; exact p8.1
      · rw [s7 65 (by omega), s7 66 (by omega)]; exact p8.2 i hi
    have hT3 : TM b len (up2 M3 0 7 (0 : Int32)) := by
      refine TM.mr ?_ m4
      have hm2 := hm.mr p5
      exact ⟨(s8 6 (by decide)).trans hm2.1, fun j hj => by rw [s6 4 (by decide) (by decide)]; exact hm2.2 j hj⟩
    obtain ⟨r, G4, M4, u1, u2, u3⟩ := second_pass (b := b) (len := len) (K := K) hK l1 hb (n := n) (cn := cn) p6 p7 (-1) cn 0 K (0 : Int32) G3 (up2 M3 0 7 0) (by omega) (by omega) hA3 hT3 (by rw [up2_s, upd_s]; rfl) (by rw [up2_n (by decide), s3]; exact s4) (by rw [up2_n (by decide), s3]; exact hN2) (s5.mv (Oth.rf G3) (up2_n (by decide)) (up2_n (by decide)) (by rw [up2_s, upd_n (by decide)]) (by rw [up2_s, upd_n (by decide)]))
    rw [show sX3_parse_L40 K K G3 (-1) (0 : Int32) (0 : Int32) = _ from u1, u2]
    exact ⟨r, G4, _, rfl, rfl, u3.up4 _⟩
