/-! PURE, part K: what the checks say; the operations that only answer -/
section CK
variable {K : Nat} {G M : Nat → Nat → Int32}
theorem in4 (p : Int32) (A B : Int64) : sX4_in K M p.toInt64 A B = some (if A.toInt ≤ p.toInt ∧ p.toInt ≤ B.toInt then 1 else 0) := by
  unfold sX4_in
  have e := Int32.toInt_toInt64 p
  by_cases c1 : lg_cmp p.toInt64 A < 0
  · rw [if_pos c1, if_neg]
    rw [lg_cmp_lt, Int64.lt_iff_toInt_lt, e] at c1
    omega
  · rw [if_neg c1]
    rw [lg_cmp_lt, Int64.lt_iff_toInt_lt, e] at c1
    by_cases c2 : 0 < lg_cmp p.toInt64 B
    · rw [if_pos c2, if_neg]
      rw [lg_cmp_gt, Int64.lt_iff_toInt_lt, e] at c2
      omega
    · rw [if_neg c2, if_pos]
      rw [lg_cmp_gt, Int64.lt_iff_toInt_lt, e] at c2
      omega
theorem nI_ofI {p : Int32} (h : 0 ≤ p.toInt) : ∃ v : Nat, p = nI v ∧ (v : Int) = p.toInt := by
  have h2 := Int32.toInt_lt p
  refine ⟨p.toInt.toNat, ?_, by omega⟩
  apply Int32.toInt_inj.mp
  rw [nI_toInt (by omega)]
  omega
theorem in_both {p A B : Int32} {A' B' : Int64} (a b : Nat) (hA : A.toInt = a) (hB : B.toInt = b) (hA' : A'.toInt = a) (hB' : B'.toInt = b) : (∃ v, a ≤ v ∧ v ≤ b ∧ p = nI v ∧ sX3_checkArgument K G p A B = some (.inr ()) ∧ sX4_in K M p.toInt64 A' B' = some 1) ∨ (sX3_checkArgument K G p A B = some (.inl "java/lang/IllegalArgumentException") ∧ sX4_in K M p.toInt64 A' B' = some 0) := by
  rw [in4, hA', hB']
  unfold sX3_checkArgument
  simp only [Int32.lt_iff_toInt_lt, Int32.le_iff_toInt_le, hA, hB]
  by_cases c : (a : Int) ≤ p.toInt ∧ p.toInt ≤ b
  · obtain ⟨v, e1, e2⟩ := nI_ofI (p := p) (by omega)
    refine Or.inl ⟨v, by omega, by omega, e1, ?_, ?_⟩
    · rw [if_neg (by omega), if_pos (by omega)]
    · rw [if_pos c]
  · refine Or.inr ⟨?_, ?_⟩
    · by_cases c2 : p.toInt < a
      · rw [if_pos c2]
      · rw [if_neg c2, if_neg (by omega)]
    · rw [if_neg c]
theorem bv1 : bv (1 : Int32) = true := by decide
theorem bv0 : bv (0 : Int32) = true := by decide
theorem hiK {n : Nat} (h : n ≤ 6) : ((nI n).toInt64 - 1).toInt = (n : Int) - 1 := by
  have h7 : n = 0 ∨ n = 1 ∨ n = 2 ∨ n = 3 ∨ n = 4 ∨ n = 5 ∨ n = 6 := by omega
  rcases h7 with rfl | rfl | rfl | rfl | rfl | rfl | rfl <;> decide
theorem kind_both {f : Nat → Int32} {n : Nat} (hR : SR G 1 f) (h0 : f 0 = nI n) (hm : M 1 0 = nI n) (hn : n ≤ 6) (p : Int32) : (∃ k, k < n ∧ p = nI k ∧ sX3_checkKind K G p = some (.inr ()) ∧ sX4_isKind K M p = some 1) ∨ (sX3_checkKind K G p = some (.inl "java/lang/IndexOutOfBoundsException") ∧ sX4_isKind K M p = some 0) := by
  unfold sX3_checkKind sX4_isKind
  rw [grd_t i099, t0, hm, in4, hiK hn, show (0 : Int64).toInt = 0 by decide, bind_e, hR.kinds, h0]
  have hz : (nI n).toInt = n := nI_toInt (by omega)
  simp only [Int32.lt_iff_toInt_lt, Int32.toInt_zero, hz]
  by_cases c : 0 ≤ p.toInt ∧ p.toInt ≤ (n : Int) - 1
  · obtain ⟨v, e1, e2⟩ := nI_ofI (p := p) (by omega)
    refine Or.inl ⟨v, by omega, e1, ?_, ?_⟩
    · rw [if_neg (by omega), if_pos (by omega)]
    · rw [if_pos c, grd_t bv1]
  · refine Or.inr ⟨?_, ?_⟩
    · by_cases c2 : p.toInt < 0
      · rw [if_pos c2]
      · rw [if_neg c2, if_neg (by omega)]
    · rw [if_neg c, grd_t bv0]
theorem rail_c (p : Int32) : sX3_isRail K G p = some (if 0 ≤ p.toInt ∧ p.toInt ≤ 5 then 1 else 0) := by
  unfold sX3_isRail
  have h6 : (6 : Int32).toInt = 6 := by decide
  simp only [Int32.lt_iff_toInt_lt, Int32.le_iff_toInt_le, Int32.toInt_zero, h6]
  by_cases c : 0 ≤ p.toInt ∧ p.toInt ≤ 5
  · rw [if_neg (by omega), if_neg (by omega), if_pos c]
  · rw [if_neg c]
    by_cases c2 : p.toInt < 0
    · rw [if_pos c2]
    · rw [if_neg c2, if_pos (by omega)]
theorem rail_m (p : Int32) : sX4_isRail K M p = some (if 0 ≤ p.toInt ∧ p.toInt ≤ 5 then 1 else 0) := by
  unfold sX4_isRail
  rw [in4, show (0 : Int64).toInt = 0 by decide, show (5 : Int64).toInt = 5 by decide, bind_e]
  split
  · rw [grd_t bv1]
  · rw [grd_t bv0]
theorem rail_both (p : Int32) : (∃ r, r < 6 ∧ p = nI r ∧ sX3_checkRail K G p = some (.inr ()) ∧ sX4_isRail K M p = some 1) ∨ (sX3_checkRail K G p = some (.inl "java/lang/IndexOutOfBoundsException") ∧ sX4_isRail K M p = some 0) := by
  unfold sX3_checkRail
  rw [rail_c, rail_m, bind_e]
  by_cases c : 0 ≤ p.toInt ∧ p.toInt ≤ 5
  · obtain ⟨v, e1, e2⟩ := nI_ofI (p := p) (by omega)
    refine Or.inl ⟨v, by omega, e1, ?_, ?_⟩
    · rw [if_pos c, if_neg (by decide)]
    · rw [if_pos c]
  · rw [if_neg c, if_pos rfl]
    exact Or.inr ⟨rfl, rfl⟩
end CK
def HT (G M : Nat → Nat → Int32) : Prop := His G M ∧ Txt G M
theorem HT.mv {G G' M M' : Nat → Nat → Int32} (h : HT G M) (hG : Oth G G') (e2 : M' 2 = M 2) (e4 : M' 4 = M 4) (e3 : M' 0 3 = M 0 3) (e6 : M' 0 6 = M 0 6) : HT G' M' := by
  obtain ⟨⟨c, nx, h1, h2, h3, h4, h5, h6⟩, len, t1, t2, t3, t4⟩ := h
  refine ⟨⟨c, nx, h1, h2, (congrFun (hG 13 (by omega)) 1).trans h3, (congrFun (hG 13 (by omega)) 2).trans h4, e3.trans h5, fun i hi => ?_⟩, len, t1, (congrFun (hG 63 (by omega)) 1).trans t2, e6.trans t3, fun j hj => ?_⟩
  · have e : svF M' i = svF M i := by
      unfold svF
      rw [e2]
    rw [e]
    exact ⟨(h6 i hi).1.same fun a ha => hG _ (by unfold slt; omega), (h6 i hi).2⟩
  · rw [hG 64 (by omega), e4]
    exact t4 j hj
theorem Rel.mk {G M : Nat → Nat → Int32} {n : Nat} (h1 : SR G 1 (M 1)) (h2 : SN (M 1) n) (h3 : HT G M) : Rel G M := ⟨⟨n, h1, h2⟩, h3⟩
theorem Rel.mv {G M M' : Nat → Nat → Int32} (h : Rel G M) (e1 : M' 1 = M 1) (e2 : M' 2 = M 2) (e4 : M' 4 = M 4) (e3 : M' 0 3 = M 0 3) (e6 : M' 0 6 = M 0 6) : Rel G M' := by
  obtain ⟨⟨n, h1, h2⟩, h3⟩ := h
  refine ⟨⟨n, by rw [e1]; exact h1, by rw [e1]; exact h2⟩, HT.mv h3 (Oth.rf G) e2 e4 e3 e6⟩
theorem Rel.up4 {G M : Nat → Nat → Int32} (h : Rel G M) (x : Int32) : Rel G (up2 M 0 4 x) :=
  h.mv (up2_n (by decide)) (up2_n (by decide)) (up2_n (by decide)) (by rw [up2_s, upd_n (by decide)]) (by rw [up2_s, upd_n (by decide)])
theorem up4_at (M : Nat → Nat → Int32) (x : Int32) : up2 M 0 4 x 0 4 = x := by rw [up2_s, upd_s]
/-- a call of the class and one of the reference that only answer, or are both refused; hs tells how the law numbers what is thrown -/
def OpR (G : Nat → Nat → Int32) (hs : List (String × Nat)) (c : Option (String ⊕ Int32)) (m : Option (Int32 × (Nat → Nat → Int32))) : Prop :=
  (∃ r M', c = some (.inr r) ∧ m = some (r, M') ∧ M' 0 4 = 0 ∧ Rel G M') ∨ ∃ E j b M', c = some (.inl E) ∧ (E, j) ∈ hs ∧ m = some (b, M') ∧ M' 0 4 = nI j ∧ Rel G M'
def OpT (G : Nat → Nat → Int32) (hs : List (String × Nat)) (c : Option (String ⊕ (Int32 × (Nat → Nat → Int32)))) (m : Option (Int32 × (Nat → Nat → Int32))) : Prop :=
  (∃ r G' M', c = some (.inr (r, G')) ∧ m = some (r, M') ∧ M' 0 4 = 0 ∧ Rel G' M') ∨ ∃ E j b M', c = some (.inl E) ∧ (E, j) ∈ hs ∧ m = some (b, M') ∧ M' 0 4 = nI j ∧ Rel G M'
theorem okR {G M : Nat → Nat → Int32} (R : Rel G M) {hs : List (String × Nat)} {r : Int32} {c : Option (String ⊕ Int32)} {m : Option (Int32 × (Nat → Nat → Int32))} (hc : c = some (.inr r)) (hm : m = some (r, up2 M 0 4 0)) : OpR G hs c m := Or.inl ⟨r, _, hc, hm, up4_at _ _, R.up4 _⟩
theorem thR {G M : Nat → Nat → Int32} (R : Rel G M) {hs : List (String × Nat)} {E : String} (j : Nat) {c : Option (String ⊕ Int32)} {m : Option (Int32 × (Nat → Nat → Int32))} (hc : c = some (.inl E)) (hm : m = some (0, up2 M 0 4 (nI j))) (hj : (E, j) ∈ hs) : OpR G hs c m := Or.inr ⟨E, j, 0, _, hc, hj, hm, up4_at _ _, R.up4 _⟩
theorem okT {G G' M' : Nat → Nat → Int32} (R : Rel G' M') {hs : List (String × Nat)} {r : Int32} {c : Option (String ⊕ (Int32 × (Nat → Nat → Int32)))} {m : Option (Int32 × (Nat → Nat → Int32))} (hc : c = some (.inr (r, G'))) (hm : m = some (r, up2 M' 0 4 0)) : OpT G hs c m := Or.inl ⟨r, G', _, hc, hm, up4_at _ _, R.up4 _⟩
theorem thT {G M : Nat → Nat → Int32} (R : Rel G M) {hs : List (String × Nat)} {E : String} (j : Nat) {c : Option (String ⊕ (Int32 × (Nat → Nat → Int32)))} {m : Option (Int32 × (Nat → Nat → Int32))} (hc : c = some (.inl E)) (hm : m = some (0, up2 M 0 4 (nI j))) (hj : (E, j) ∈ hs) : OpT G hs c m := Or.inr ⟨E, j, 0, _, hc, hj, hm, up4_at _ _, R.up4 _⟩
def hIA : List (String × Nat) := [("java/lang/IndexOutOfBoundsException", 1), ("java/lang/IllegalArgumentException", 2)]
def hIAS : List (String × Nat) := [("java/lang/IndexOutOfBoundsException", 1), ("java/lang/IllegalArgumentException", 2), ("java/lang/IllegalStateException", 3)]
def hAS : List (String × Nat) := [("java/lang/IllegalArgumentException", 1), ("java/lang/IllegalStateException", 2)]
def hIS : List (String × Nat) := [("java/lang/IndexOutOfBoundsException", 1), ("java/lang/IllegalStateException", 2)]
def hI : List (String × Nat) := [("java/lang/IndexOutOfBoundsException", 1)]
def hA : List (String × Nat) := [("java/lang/IllegalArgumentException", 1)]
def hS : List (String × Nat) := [("java/lang/IllegalStateException", 1)]
theorem duF_none {f : Nat → Int32} {x : Int32} : ∀ (m i : Nat), i + m ≤ 6 → duF f x i m = -1 → ∀ k, i ≤ k → k < i + m → ¬ f (5 + 5 * k) = x
  | 0, i, _, _, k, h1, h2 => absurd h1 (by omega)
  | m + 1, i, hi, e, k, h1, h2 => by
    by_cases c : f (5 + 5 * i) = x
    · have e2 : duF f x i (m + 1) = nI i := if_pos c
      rw [e2] at e
      exact absurd e (m1ne (by omega))
    · have e2 : duF f x i (m + 1) = duF f x (i + 1) m := if_neg c
      rw [e2] at e
      by_cases q : k = i
      · subst q; exact c
      · exact duF_none m (i + 1) (by omega) e k (by omega) (by omega)
section OPR
variable {K : Nat} {G M : Nat → Nat → Int32}
theorem op_kind (hK : 4000 ≤ K) (R : Rel G M) (p1 p2 : Int32) : OpR G hIA (sX3_kind K G p1 p2) (sX4_kind K M p1 p2) := by
  obtain ⟨⟨n, hR, hN⟩, hT⟩ := id R
  have hn := hN.n6
  unfold sX3_kind sX4_kind
  rcases kind_both (K := K) hR hN.k0 hN.k0 hn p1 with ⟨k, hk, rfl, e1, e2⟩ | ⟨e1, e2⟩
  · rw [e1, othr_r, e2, bind_e, if_neg (by decide)]
    rcases in_both (K := K) (G := G) (M := M) (p := p2) (A := 0) (B := 6) (A' := 0) (B' := 6) 0 6 (by decide) (by decide) (by decide) (by decide) with ⟨w, w1, w2, rfl, e3, e4⟩ | ⟨e3, e4⟩
    · rw [e3, othr_r, e4, bind_e, if_neg (by decide), c_abK hK hR (by omega) (by omega), bind_e, m_kindOf hK (by omega) (by omega), bind_e, m_fine, bind_e]
      exact okR R rfl rfl
    · rw [e3, othr_l, e4, bind_e, if_pos rfl, m_throwing, bind_e]
      exact thR R 2 rfl rfl (List.Mem.tail _ (List.Mem.head _))
  · rw [e1, othr_l, e2, bind_e, if_pos rfl, m_throwing, bind_e]
    exact thR R 1 rfl rfl (List.Mem.head _)
theorem op_rail (hK : 4000 ≤ K) (R : Rel G M) (p1 p2 : Int32) : OpR G hIA (sX3_rail K G p1 p2) (sX4_rail K M p1 p2) := by
  obtain ⟨⟨n, hR, hN⟩, hT⟩ := id R
  have hn := hN.n6
  unfold sX3_rail sX4_rail
  rcases rail_both (K := K) (G := G) (M := M) p1 with ⟨r, hr, rfl, e1, e2⟩ | ⟨e1, e2⟩
  · rw [e1, othr_r, e2, bind_e, if_neg (by decide)]
    rcases in_both (K := K) (G := G) (M := M) (p := p2) (A := 0) (B := 9) (A' := 0) (B' := 9) 0 9 (by decide) (by decide) (by decide) (by decide) with ⟨w, w1, w2, rfl, e3, e4⟩ | ⟨e3, e4⟩
    · rw [e3, othr_r, e4, bind_e, if_neg (by decide), c_abR hK hR hn hN.k0 hr (by omega), bind_e, m_railOf hK hN hr (by omega), bind_e, m_fine, bind_e]
      exact okR R rfl rfl
    · rw [e3, othr_l, e4, bind_e, if_pos rfl, m_throwing, bind_e]
      exact thR R 2 rfl rfl (List.Mem.tail _ (List.Mem.head _))
  · rw [e1, othr_l, e2, bind_e, if_pos rfl, m_throwing, bind_e]
    exact thR R 1 rfl rfl (List.Mem.head _)
theorem op_count (R : Rel G M) (p1 p2 : Int32) : OpR G hI (sX3_count K G p1 p2) (sX4_count K M p1 p2) := by
  obtain ⟨⟨n, hR, hN⟩, hT⟩ := id R
  have hn := hN.n6
  unfold sX3_count sX4_count
  rcases rail_both (K := K) (G := G) (M := M) p1 with ⟨r, hr, rfl, e1, e2⟩ | ⟨e1, e2⟩
  · rw [e1, othr_r, e2, bind_e, if_neg (by decide)]
    rcases kind_both (K := K) hR hN.k0 hN.k0 hn p2 with ⟨k, hk, rfl, e3, e4⟩ | ⟨e3, e4⟩
    · rw [e3, othr_r, e4, bind_e, if_neg (by decide), c_ofKind hR hr (by omega), bind_e, m_countAt, bind_e, grd_i (by omega) (by decide), tnI (by omega), m_fine, bind_e]
      exact okR R rfl rfl
    · rw [e3, othr_l, e4, bind_e, if_pos rfl, m_throwing, bind_e]
      exact thR R 1 rfl rfl (List.Mem.head _)
  · rw [e1, othr_l, e2, bind_e, if_pos rfl, m_throwing, bind_e]
    exact thR R 1 rfl rfl (List.Mem.head _)
theorem op_value (hK : 4000 ≤ K) (R : Rel G M) (p : Int32) : OpR G hA (sX3_value K G p) (sX4_value K M p) := by
  obtain ⟨⟨n, hR, hN⟩, hT⟩ := id R
  have hn := hN.n6
  unfold sX3_value sX4_value
  rcases in_both (K := K) (G := G) (M := M) (p := p) (A := 0) (B := 9) (A' := 0) (B' := 9) 0 9 (by decide) (by decide) (by decide) (by decide) with ⟨w, w1, w2, rfl, e3, e4⟩ | ⟨e3, e4⟩
  · rw [e3, othr_r, e4, bind_e, if_neg (by decide), c_abA hK hR hN (by omega), bind_e, m_valueOf hK hN (by omega), bind_e, m_fine, bind_e]
    exact okR R rfl rfl
  · rw [e3, othr_l, e4, bind_e, if_pos rfl, m_throwing, bind_e]
    exact thR R 1 rfl rfl (List.Mem.head _)
theorem op_where (hK : 4000 ≤ K) (R : Rel G M) (p1 p2 : Int32) : OpR G hIA (sX3_where K G p1 p2) (sX4_where K M p1 p2) := by
  obtain ⟨⟨n, hR, hN⟩, hT⟩ := id R
  have hn := hN.n6
  unfold sX3_where sX4_where
  rcases kind_both (K := K) hR hN.k0 hN.k0 hn p1 with ⟨k, hk, rfl, e1, e2⟩ | ⟨e1, e2⟩
  · rw [e1, othr_r, e2, bind_e, if_neg (by decide)]
    rcases in_both (K := K) (G := G) (M := M) (p := p2) (A := 0) (B := 999) (A' := 0) (B' := 999) 0 999 (by decide) (by decide) (by decide) (by decide) with ⟨w, w1, w2, rfl, e3, e4⟩ | ⟨e3, e4⟩
    · obtain ⟨M2, q1, q2, q3⟩ := m_where hK hN hk w2
      rw [e3, othr_r, e4, bind_e, if_neg (by decide), c_plc hK hR hN hk w2, bind_e, q1, bind_e, m_fine, bind_e]
      exact okR (R.mv q2 (q3 2 (by decide)) (q3 4 (by decide)) (congrFun (q3 0 (by decide)) 3) (congrFun (q3 0 (by decide)) 6)) rfl rfl
    · rw [e3, othr_l, e4, bind_e, if_pos rfl, m_throwing, bind_e]
      exact thR R 2 rfl rfl (List.Mem.tail _ (List.Mem.head _))
  · rw [e1, othr_l, e2, bind_e, if_pos rfl, m_throwing, bind_e]
    exact thR R 1 rfl rfl (List.Mem.head _)
theorem op_mostWear (hK : 4000 ≤ K) (R : Rel G M) (p1 : Int32) : OpR G hI (sX3_mostWear K G p1) (sX4_mostWear K M p1) := by
  obtain ⟨⟨n, hR, hN⟩, hT⟩ := id R
  have hn := hN.n6
  unfold sX3_mostWear sX4_mostWear
  rcases kind_both (K := K) hR hN.k0 hN.k0 hn p1 with ⟨k, hk, rfl, e1, e2⟩ | ⟨e1, e2⟩
  · obtain ⟨c, hc⟩ := mwN_ex (M 1) k
    obtain ⟨M2, q1, q2, q3⟩ := m_mwr hK hN hk hc
    rw [e1, othr_r, e2, bind_e, if_neg (by decide), c_mwr hK hR hN hk hc, bind_e, q1, bind_e, m_fine, bind_e]
    exact okR (R.mv q2 (q3 2 (by decide)) (q3 4 (by decide)) (congrFun (q3 0 (by decide)) 3) (congrFun (q3 0 (by decide)) 6)) rfl rfl
  · rw [e1, othr_l, e2, bind_e, if_pos rfl, m_throwing, bind_e]
    exact thR R 1 rfl rfl (List.Mem.head _)
theorem op_bestGap (hK : 4000 ≤ K) (R : Rel G M) (p1 : Int32) : OpR G hI (sX3_bestGap K G p1) (sX4_bestGap K M p1) := by
  obtain ⟨⟨n, hR, hN⟩, hT⟩ := id R
  have hn := hN.n6
  unfold sX3_bestGap sX4_bestGap
  rcases rail_both (K := K) (G := G) (M := M) p1 with ⟨r, hr, rfl, e1, e2⟩ | ⟨e1, e2⟩
  · rw [e1, othr_r, e2, bind_e, if_neg (by decide), c_gapF hK hR hn hN.k0, bind_e, m_due hK hn hN.k0, bind_e]
    by_cases c : duF (M 1) (nI r) 0 n = -1
    · rw [if_pos c, m_fine, bind_e]
      have e : bgF (M 1) n (nI r) = -1 := by
        have z : loF (M 1) (nI r) n = -1 := by
          rcases loF_of hN r n (Nat.le_refl n) with ⟨z, -⟩ | ⟨a, -, -, -, -, k0, d0, a5, a6, -⟩
          · exact z
          · exact absurd a6 (duF_none n 0 (by omega) c k0 (by omega) (by omega))
        unfold bgF
        rw [z]
        split <;> rfl
      rw [e]
      exact okR R rfl rfl
    · rw [if_neg c, m_gapL hK hN hr c]
      exact okR R rfl rfl
  · rw [e1, othr_l, e2, bind_e, if_pos rfl, m_throwing, bind_e]
    exact thR R 1 rfl rfl (List.Mem.head _)
theorem op_supply (hK : 4000 ≤ K) (R : Rel G M) (p1 : Int32) : OpR G hI (sX3_supply K G p1) (sX4_supply K M p1) := by
  obtain ⟨⟨n, hR, hN⟩, hT⟩ := id R
  have hn := hN.n6
  unfold sX3_supply sX4_supply
  rcases kind_both (K := K) hR hN.k0 hN.k0 hn p1 with ⟨k, hk, rfl, e1, e2⟩ | ⟨e1, e2⟩
  · obtain ⟨x, hx, hh⟩ := hN.hm hk
    obtain ⟨M1, q1, a1, b1⟩ := m_lays (M := M) hK
    have r1 : M1 1 = M 1 := b1 1 (by decide)
    obtain ⟨c, c1, c2⟩ := hN.bag hx
    have key : ∃ r, sX2_coinsUntilAstray K G (nI k) = some (nI r) ∧ ((¬ fH (M1 1) k 0 ∧ r = 0) ∨ (fH (M1 1) k 0 ∧ ∃ c, 0 ≤ c ∧ c < 40 ∧ cIn (M1 1) x = nI c ∧ r + c = 0 + 40)) := by
      rcases c_supply hK hR hN hk hx hh with ⟨z1, z2⟩ | ⟨z1, z2⟩
      · have c3 := fH_bag hN hx hh z1
        rw [c2] at c3
        have c4 : c < 40 := (nI_ltI (b := 40) (by omega) (by omega)).mp c3
        refine ⟨40 - c, ?_, Or.inr ⟨by rw [r1]; exact z1, c, by omega, c4, by rw [r1]; exact c2, by omega⟩⟩
        rw [z2, c2]
        exact congrArg some (pk_sub (a := 40) (by omega))
      · exact ⟨0, z2, Or.inl ⟨by rw [r1]; exact z1, rfl⟩⟩
    obtain ⟨r, k1, k2⟩ := key
    obtain ⟨M3, q3, a3, b3, c3⟩ := m_supL (M1 := M1) hK hk hx 40 0 K r (by omega) (by omega) (by rw [r1]; exact hN) (by rw [r1]; exact hh) k2
    rw [e1, othr_r, e2, bind_e, if_neg (by decide), k1, bind_e, q1, bind_e, show sX4_supply_L20 K (nI k) K M1 (0 : Int32) = _ from q3]
    refine okR (M := M3) (R.mv ?_ ?_ ?_ ?_ ?_) rfl rfl
    · funext i
      rcases Nat.lt_or_ge i 99 with z | z
      · rw [a3 i z, a1 i z]
      · rw [b3 i z, r1]
    · rw [c3 2 (by decide), b1 2 (by decide)]
    · rw [c3 4 (by decide), b1 4 (by decide)]
    · rw [c3 0 (by decide), b1 0 (by decide)]
    · rw [c3 0 (by decide), b1 0 (by decide)]
  · rw [e1, othr_l, e2, bind_e, if_pos rfl, m_throwing, bind_e]
    exact thR R 1 rfl rfl (List.Mem.head _)
theorem op_worst (hK : 4000 ≤ K) (R : Rel G M) : ∃ r M', sX3_worstKind K G = some r ∧ sX4_worstKind K M = some (r, M') ∧ Rel G M' := by
  obtain ⟨⟨n, hR, hN⟩, hT⟩ := id R
  unfold sX3_worstKind
  rw [c_worst hK hR hN, bind_e]
  exact ⟨_, _, rfl, m_worst hK hN, R.up4 _⟩
theorem op_right (hK : 4000 ≤ K) (R : Rel G M) : ∃ r M', sX3_right K G = some r ∧ sX4_right K M = some (r, M') ∧ Rel G M' := by
  obtain ⟨⟨n, hR, hN⟩, hT⟩ := id R
  exact ⟨_, _, c_right hK hR hN, m_right hK hN, R.up4 _⟩
end OPR
