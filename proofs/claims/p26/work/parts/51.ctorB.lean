/-! MACHINE: constructors of History and CoinRails -/
theorem k_join {D : va_G} {cI cR : ClassId} {A : Nat → Prop} {ws : va_W} {s : Nat} {x : va_E} {H H1 : Heap} {tm : List cellT} {q : Nat → Nat} {G : Nat → Nat → Int32} (hP : va_P D vwCl (ws ++ [(s, x)]) H) (hD : va_D A (ws ++ [(s, x)])) (hA : ∀ a, H.size ≤ a → A a) (hk : ∀ a : Nat, a < H.size → ¬ nA s H.size a → H1[a]? = H[a]?) (hq : nOk s H.size tm q) (hM : MW D cI cR q tm G H1) : va_P D vwCl (ws ++ mwL cI cR q tm G) H1 ∧ va_D A (ws ++ mwL cI cR q tm G) := by
  have hl : ∀ (k : Nat) (p : Nat × va_E), ws[k]? = some p → (ws ++ [(s, x)])[k]? = some p ∧ k < ws.length := fun k p hp => by
    have h1 := (List.getElem?_eq_some_iff.mp hp).1
    exact ⟨by rw [List.getElem?_append_left h1]; exact hp, h1⟩
  have hs : (ws ++ [(s, x)])[ws.length]? = some (s, x) := by
    rw [List.getElem?_append_right (Nat.le_refl _), Nat.sub_self]
    rfl
  have hlt : ∀ (k : Nat) (p : Nat × va_E), ws[k]? = some p → p.1 < H.size ∧ p.1 ≠ s := fun k p hp => by
    obtain ⟨h1, h2⟩ := hl k p hp
    refine ⟨(hP k p h1).lt, fun e => ?_⟩
    have := hD.1 k ws.length p (s, x) h1 hs e
    omega
  have hq2 : ∀ i, i < tm.length → q i = s ∨ H.size ≤ q i := fun i hi => by
    by_cases z : i = 0
    · subst z; exact Or.inl hq.1
    · exact Or.inr (hq.2.2 i (by omega) hi)
  refine ⟨va_P.app (fun k p hp => (hP k p (hl k p hp).1).kept (hk p.1 (hlt k p hp).1 fun z => ?_)) hM, fun i j y z hi hj e => ?_, fun k y hy => ?_⟩
  · rcases z with z | z
    · exact (hlt k p hp).2 z
    · have := (hlt k p hp).1
      omega
  · by_cases c1 : i < ws.length
    · rw [List.getElem?_append_left c1] at hi
      by_cases c2 : j < ws.length
      · rw [List.getElem?_append_left c2] at hj
        exact hD.1 i j y z (hl i y hi).1 (hl j z hj).1 e
      · rw [List.getElem?_append_right (by omega)] at hj
        obtain ⟨h1, h2⟩ := mwL_inv hj
        obtain ⟨h3, h4⟩ := hlt i y hi
        rcases hq2 _ h1 with h5 | h5
        · exact absurd (e.trans (h2.trans h5)) h4
        · rw [e, h2] at h3
          omega
    · rw [List.getElem?_append_right (by omega)] at hi
      obtain ⟨g1, g2⟩ := mwL_inv hi
      by_cases c2 : j < ws.length
      · rw [List.getElem?_append_left c2] at hj
        obtain ⟨h3, h4⟩ := hlt j z hj
        rcases hq2 _ g1 with h5 | h5
        · exact absurd (e.symm.trans (g2.trans h5)) h4
        · rw [← e, g2] at h3
          omega
      · rw [List.getElem?_append_right (by omega)] at hj
        obtain ⟨h1, h2⟩ := mwL_inv hj
        have := hq.2.1 _ _ g1 h1 (g2.symm.trans (e.trans h2))
        omega
  · by_cases c1 : k < ws.length
    · rw [List.getElem?_append_left c1] at hy
      exact hD.2 k y (hl k y hy).1
    · rw [List.getElem?_append_right (by omega)] at hy
      obtain ⟨h1, h2⟩ := mwL_inv hy
      rw [h2]
      rcases hq2 _ h1 with h5 | h5
      · rw [h5]; exact hD.2 _ _ hs
      · exact hA _ h5
def tmH : List cellT := [.inr (.inl (1, [some 1, none, none])), .inr (.inr [2, 14, 26, 38]), .inr (.inl (2, [none, some 3, some 4, some 5, some 6, some 7, some 8, some 9, some 10, some 11, some 12, some 13, none])), .inl 6, .inl 6, .inl 6, .inl 6, .inl 6, .inl 6, .inl 6, .inl 6, .inl 6, .inl 6, .inl 36, .inr (.inl (2, [none, some 15, some 16, some 17, some 18, some 19, some 20, some 21, some 22, some 23, some 24, some 25, none])), .inl 6, .inl 6, .inl 6, .inl 6, .inl 6, .inl 6, .inl 6, .inl 6, .inl 6, .inl 6, .inl 36, .inr (.inl (2, [none, some 27, some 28, some 29, some 30, some 31, some 32, some 33, some 34, some 35, some 36, some 37, none])), .inl 6, .inl 6, .inl 6, .inl 6, .inl 6, .inl 6, .inl 6, .inl 6, .inl 6, .inl 6, .inl 36, .inr (.inl (2, [none, some 39, some 40, some 41, some 42, some 43, some 44, some 45, some 46, some 47, some 48, some 49, none])), .inl 6, .inl 6, .inl 6, .inl 6, .inl 6, .inl 6, .inl 6, .inl 6, .inl 6, .inl 6, .inl 36]
def qHs (b a1 : Nat) (q0 q1 q2 q3 : Nat → Nat) : Nat → Nat := fun i => if i = 0 then b else if i = 1 then a1 else if i < 14 then q0 (i - 2) else if i < 26 then q1 (i - 14) else if i < 38 then q2 (i - 26) else q3 (i - 38)
def GH : Nat → Nat → Int32 := fun i => if i < 2 then zG i else if i < 14 then iS 6 (i - 2) else if i < 26 then iS 6 (i - 14) else if i < 38 then iS 6 (i - 26) else iS 6 (i - 38)
abbrev nPreQ (D : va_G) (cI cR : ClassId) (b sz ci : Nat) (fs : List Value) : Array Value → State → Prop := va_Pc [.ref b] (fun U => U.heap.size = sz ∧ va_P D vwCl [(b, .inr (ci, fs))] U.heap ∧ va_K D vwCl (mTy cI cR) U ∧ va_AO "CoinRails$State" U ∧ va_Nw (.methodLinkNest RX3 25 yX0_init RX3) U)
theorem nBlindQ {D : va_G} {cI cR : ClassId} {b sz ci : Nat} {fs : List Value} : FrameBlind (nPreQ D cI cR b sz ci fs) := fun a U g mk h => by
  obtain ⟨h0, h1, h2, h3, h4, h5⟩ := h
  exact ⟨h0, h1, h2, va_K.moved (u := U) (U := U.calling g mk a) (Vm.Alike.refl U.vm) h3, va_AO.moved (u := U) (U := U.calling g mk a) (Vm.Alike.refl U.vm) h4, va_Nw.same (u := U) (U := U.calling g mk a) rfl rfl h5⟩
theorem P_last {D : va_G} {ws : va_W} {s : Nat} {x : va_E} {H : Heap} (h : va_P D vwCl (ws ++ [(s, x)]) H) : va_P D vwCl [(s, x)] H := fun k p hk => by
  have hz : k < 1 := (List.getElem?_eq_some_iff.mp hk).1
  obtain rfl : k = 0 := by omega
  cases hk
  refine h ws.length _ ?_
  rw [List.getElem?_append_right (Nat.le_refl _), Nat.sub_self]
  rfl
theorem D_last {A : Nat → Prop} {ws : va_W} {s : Nat} {x : va_E} (h : va_D A (ws ++ [(s, x)])) : A s := by
  refine h.2 ws.length (s, x) ?_
  rw [List.getElem?_append_right (Nat.le_refl _), Nat.sub_self]
  rfl
def TL (cI cR : ClassId) : List (Nat → Nat) → va_W
  | [] => []
  | q :: l => mwL cI cR q (tmS 0) (iS 6) ++ TL cI cR l
theorem TL_snoc (cI cR : ClassId) (q : Nat → Nat) : ∀ l, TL cI cR (l ++ [q]) = TL cI cR l ++ mwL cI cR q (tmS 0) (iS 6)
  | [] => by show mwL cI cR q (tmS 0) (iS 6) ++ [] = [] ++ _; rw [List.append_nil, List.nil_append]
  | r :: l => by
    show mwL cI cR r (tmS 0) (iS 6) ++ TL cI cR (l ++ [q]) = (mwL cI cR r (tmS 0) (iS 6) ++ TL cI cR l) ++ _
    rw [TL_snoc cI cR q l, List.append_assoc]
theorem rg_snoc (qs : List (Nat → Nat)) (q : Nat → Nat) : (va_up (fun j => (qs[j]?).map (fun r => r 0)) qs.length (some (q 0)) : Nat → Option Nat) = fun j => ((qs ++ [q])[j]?).map (fun r => r 0) := by
  funext j
  unfold va_up
  by_cases h : j = qs.length
  · subst h
    rw [if_pos rfl, List.getElem?_append_right (Nat.le_refl _), Nat.sub_self]
    rfl
  · rw [if_neg h]
    by_cases h2 : j < qs.length
    · rw [List.getElem?_append_left h2]
    · show (qs[j]?).map (fun r => r 0) = ((qs ++ [q])[j]?).map (fun r => r 0)
      rw [List.getElem?_eq_none (by omega), List.getElem?_eq_none (by rw [List.length_append]; show qs.length + 1 ≤ j; omega)]
theorem mw_cast {D : va_G} {cI cR : ClassId} {ws : va_W} {H : Heap} {A : Nat → Prop} {q : Nat → Nat} {tm : List cellT} {G : Nat → Nat → Int32} (h : ∀ k, k < tm.length → (mwL cI cR q tm G)[k]? = ws[k]?) (hP : va_P D vwCl ws H) (hD : va_D A ws) : MW D cI cR q tm G H ∧ va_D A (mwL cI cR q tm G) := by
  have hs : ∀ (k : Nat) (p : Nat × va_E), (mwL cI cR q tm G)[k]? = some p → ws[k]? = some p := fun k p hp => by
    rw [← h k (mwL_inv hp).1]; exact hp
  exact ⟨fun k p hp => hP k p (hs k p hp), fun i j x y hi hj e => hD.1 i j x y (hs i x hi) (hs j y hj) e, fun k x hx => hD.2 k x (hs k x hx)⟩
theorem seg_S {cI cR : ClassId} {q q' : Nat → Nat} {tm : List cellT} {G G' : Nat → Nat → Int32} {o : Nat} (hq : ∀ a, a < 12 → q (o + a) = q' a) (hg : ∀ a, a < 12 → G (o + a) = G' a) (ht : ∀ a, a < 12 → tm[o + a]? = (tmS o)[a]?) {a : Nat} (ha : a < 12) : (mwL cI cR q tm G)[o + a]? = (mwL cI cR q' (tmS 0) G')[a]? := by
  have hc : a = 0 ∨ a = 1 ∨ a = 2 ∨ a = 3 ∨ a = 4 ∨ a = 5 ∨ a = 6 ∨ a = 7 ∨ a = 8 ∨ a = 9 ∨ a = 10 ∨ a = 11 := by omega
  rcases hc with rfl | rfl | rfl | rfl | rfl | rfl | rfl | rfl | rfl | rfl | rfl | rfl
  · rw [mwL_get (i := o + 0) (t := .inr (.inl (2, [none, some (o + 1), some (o + 2), some (o + 3), some (o + 4), some (o + 5), some (o + 6), some (o + 7), some (o + 8), some (o + 9), some (o + 10), some (o + 11), none]))) ((ht 0 (by omega)).trans rfl), mwL_get (i := 0) (tm := tmS 0) (t := .inr (.inl (2, [none, some (0 + 1), some (0 + 2), some (0 + 3), some (0 + 4), some (0 + 5), some (0 + 6), some (0 + 7), some (0 + 8), some (0 + 9), some (0 + 10), some (0 + 11), none]))) rfl, hq 0 (by omega), hg 0 (by omega)]
    show some (q' 0, (Sum.inr (2, [Value.int (G' 0 0), .ref (q (o + 1)), .ref (q (o + 2)), .ref (q (o + 3)), .ref (q (o + 4)), .ref (q (o + 5)), .ref (q (o + 6)), .ref (q (o + 7)), .ref (q (o + 8)), .ref (q (o + 9)), .ref (q (o + 10)), .ref (q (o + 11)), .int (G' 0 12)]) : va_E)) = some (q' 0, (Sum.inr (2, [Value.int (G' 0 0), .ref (q' 1), .ref (q' 2), .ref (q' 3), .ref (q' 4), .ref (q' 5), .ref (q' 6), .ref (q' 7), .ref (q' 8), .ref (q' 9), .ref (q' 10), .ref (q' 11), .int (G' 0 12)]) : va_E))
    rw [hq 1 (by omega), hq 2 (by omega), hq 3 (by omega), hq 4 (by omega), hq 5 (by omega), hq 6 (by omega), hq 7 (by omega), hq 8 (by omega), hq 9 (by omega), hq 10 (by omega), hq 11 (by omega)]
  · rw [mwL_get (i := o + 1) (t := .inl 6) ((ht 1 (by omega)).trans rfl), mwL_get (i := 1) (tm := tmS 0) (t := .inl 6) rfl, hq 1 (by omega), hg 1 (by omega)]
    rfl
  · rw [mwL_get (i := o + 2) (t := .inl 6) ((ht 2 (by omega)).trans rfl), mwL_get (i := 2) (tm := tmS 0) (t := .inl 6) rfl, hq 2 (by omega), hg 2 (by omega)]
    rfl
  · rw [mwL_get (i := o + 3) (t := .inl 6) ((ht 3 (by omega)).trans rfl), mwL_get (i := 3) (tm := tmS 0) (t := .inl 6) rfl, hq 3 (by omega), hg 3 (by omega)]
    rfl
  · rw [mwL_get (i := o + 4) (t := .inl 6) ((ht 4 (by omega)).trans rfl), mwL_get (i := 4) (tm := tmS 0) (t := .inl 6) rfl, hq 4 (by omega), hg 4 (by omega)]
    rfl
  · rw [mwL_get (i := o + 5) (t := .inl 6) ((ht 5 (by omega)).trans rfl), mwL_get (i := 5) (tm := tmS 0) (t := .inl 6) rfl, hq 5 (by omega), hg 5 (by omega)]
    rfl
  · rw [mwL_get (i := o + 6) (t := .inl 6) ((ht 6 (by omega)).trans rfl), mwL_get (i := 6) (tm := tmS 0) (t := .inl 6) rfl, hq 6 (by omega), hg 6 (by omega)]
    rfl
  · rw [mwL_get (i := o + 7) (t := .inl 6) ((ht 7 (by omega)).trans rfl), mwL_get (i := 7) (tm := tmS 0) (t := .inl 6) rfl, hq 7 (by omega), hg 7 (by omega)]
    rfl
  · rw [mwL_get (i := o + 8) (t := .inl 6) ((ht 8 (by omega)).trans rfl), mwL_get (i := 8) (tm := tmS 0) (t := .inl 6) rfl, hq 8 (by omega), hg 8 (by omega)]
    rfl
  · rw [mwL_get (i := o + 9) (t := .inl 6) ((ht 9 (by omega)).trans rfl), mwL_get (i := 9) (tm := tmS 0) (t := .inl 6) rfl, hq 9 (by omega), hg 9 (by omega)]
    rfl
  · rw [mwL_get (i := o + 10) (t := .inl 6) ((ht 10 (by omega)).trans rfl), mwL_get (i := 10) (tm := tmS 0) (t := .inl 6) rfl, hq 10 (by omega), hg 10 (by omega)]
    rfl
  · rw [mwL_get (i := o + 11) (t := .inl 36) ((ht 11 (by omega)).trans rfl), mwL_get (i := 11) (tm := tmS 0) (t := .inl 36) rfl, hq 11 (by omega), hg 11 (by omega)]
    rfl
theorem mwS_len (cI cR : ClassId) (q : Nat → Nat) (G : Nat → Nat → Int32) : (mwL cI cR q (tmS 0) G).length = 12 := by
  unfold mwL
  rw [List.length_mapIdx]
  rfl
theorem TL_get {cI cR : ClassId} : ∀ (qs : List (Nat → Nat)) (c a : Nat) (q : Nat → Nat), qs[c]? = some q → a < 12 → (TL cI cR qs)[12 * c + a]? = (mwL cI cR q (tmS 0) (iS 6))[a]?
  | [], c, a, q, h, _ => by simp at h
  | r :: l, 0, a, q, h, ha => by
    cases h
    show (mwL cI cR r (tmS 0) (iS 6) ++ TL cI cR l)[12 * 0 + a]? = _
    rw [List.getElem?_append_left (by rw [mwS_len]; omega), show 12 * 0 + a = a by omega]
  | r :: l, c + 1, a, q, h, ha => by
    show (mwL cI cR r (tmS 0) (iS 6) ++ TL cI cR l)[12 * (c + 1) + a]? = _
    rw [List.getElem?_append_right (by rw [mwS_len]; omega), mwS_len, show 12 * (c + 1) + a - 12 = 12 * c + a by omega]
    exact TL_get l c a q h ha
theorem qH_at (b a1 : Nat) (q0 q1 q2 q3 : Nat → Nat) {c a : Nat} (hc : c < 4) (ha : a < 12) : qHs b a1 q0 q1 q2 q3 (2 + 12 * c + a) = (([q0, q1, q2, q3] : List (Nat → Nat)).getD c q0) a ∧ GH (2 + 12 * c + a) = iS 6 a := by
  have h4 : c = 0 ∨ c = 1 ∨ c = 2 ∨ c = 3 := by omega
  unfold qHs GH
  rcases h4 with rfl | rfl | rfl | rfl
  · rw [if_neg (by omega), if_neg (by omega), if_pos (by omega), if_neg (by omega), if_pos (by omega), show 2 + 12 * 0 + a - 2 = a by omega]
    exact ⟨rfl, rfl⟩
  · rw [if_neg (by omega), if_neg (by omega), if_neg (by omega), if_pos (by omega), if_neg (by omega), if_neg (by omega), if_pos (by omega), show 2 + 12 * 1 + a - 14 = a by omega]
    exact ⟨rfl, rfl⟩
  · rw [if_neg (by omega), if_neg (by omega), if_neg (by omega), if_neg (by omega), if_pos (by omega), if_neg (by omega), if_neg (by omega), if_neg (by omega), if_pos (by omega), show 2 + 12 * 2 + a - 26 = a by omega]
    exact ⟨rfl, rfl⟩
  · rw [if_neg (by omega), if_neg (by omega), if_neg (by omega), if_neg (by omega), if_neg (by omega), if_neg (by omega), if_neg (by omega), if_neg (by omega), if_neg (by omega), show 2 + 12 * 3 + a - 38 = a by omega]
    exact ⟨rfl, rfl⟩
theorem tmH_at {c a : Nat} (hc : c < 4) (ha : a < 12) : tmH[2 + 12 * c + a]? = (tmS (2 + 12 * c))[a]? := by
  have h4 : c = 0 ∨ c = 1 ∨ c = 2 ∨ c = 3 := by omega
  have h12 : a = 0 ∨ a = 1 ∨ a = 2 ∨ a = 3 ∨ a = 4 ∨ a = 5 ∨ a = 6 ∨ a = 7 ∨ a = 8 ∨ a = 9 ∨ a = 10 ∨ a = 11 := by omega
  rcases h4 with rfl | rfl | rfl | rfl <;> rcases h12 with rfl | rfl | rfl | rfl | rfl | rfl | rfl | rfl | rfl | rfl | rfl | rfl <;> rfl
theorem X1_fin {cI cR : ClassId} {b a1 : Nat} {q0 q1 q2 q3 : Nat → Nat} : ∀ k, k < tmH.length → (mwL cI cR (qHs b a1 q0 q1 q2 q3) tmH GH)[k]? = (([(b, .inr (1, [.ref a1, .int 0, .int 0])), (a1, .inl (cR, 4, .inr (.inr (.inr (.inr (fun j => (([2, 14, 26, 38] : List Nat)[j]?).map (qHs b a1 q0 q1 q2 q3)))))))] ++ TL cI cR [q0, q1, q2, q3] : va_W))[k]? := by
  intro k hk
  have hk50 : k < 50 := hk
  by_cases h0 : k = 0
  · subst h0
    rw [mwL_get (t := .inr (.inl (1, [some 1, none, none]))) rfl]
    rfl
  · by_cases h1 : k = 1
    · subst h1
      rw [mwL_get (t := .inr (.inr [2, 14, 26, 38])) rfl]
      rfl
    · obtain ⟨c, a, hc, ha, rfl⟩ : ∃ c a, c < 4 ∧ a < 12 ∧ k = 2 + 12 * c + a := ⟨(k - 2) / 12, (k - 2) % 12, by omega, by omega, by omega⟩
      rw [seg_S (o := 2 + 12 * c) (q' := ([q0, q1, q2, q3] : List (Nat → Nat)).getD c q0) (G' := iS 6) (fun a ha => (qH_at b a1 q0 q1 q2 q3 hc ha).1) (fun a ha => (qH_at b a1 q0 q1 q2 q3 hc ha).2) (fun a ha => tmH_at hc ha) ha, List.getElem?_append_right (by show 2 ≤ _; omega)]
      show _ = (TL cI cR [q0, q1, q2, q3])[2 + 12 * c + a - 2]?
      rw [show 2 + 12 * c + a - 2 = 12 * c + a by omega]
      refine (TL_get _ c a _ ?_ ha).symm
      have h4 : c = 0 ∨ c = 1 ∨ c = 2 ∨ c = 3 := by omega
      rcases h4 with rfl | rfl | rfl | rfl <;> rfl
set_option maxHeartbeats 2000000 in
set_option maxRecDepth 100000 in
theorem kX1_init (l : Launch) (D : va_G) (cI cR : ClassId) (b sz : Nat) : Met l yX1_init wsX1_init ({ frames := 2, cells := 49, slots := 440, locals := 45 } : Room) (nPreQ D cI cR b sz 1 [.null, .int 0, .int 0]) (nPost D cI cR b sz tmH GH) 49 440 (nA b sz) := by
  refine Met.ofW (cc := cX1_init) (maxL := 2) (ret := none) (by decide) rfl ?_
  intro p e s m args below meth c s₁ B hml hv
  obtain ⟨hargs, hsz, hP, hK, hAO, hNw⟩ := hv
  have hx := B.exec
  have hb := B.bytes
  have hr := B.returns
  have hts := atoms_spec (ws := wsX1_init) B.pre
  have hown : s.vm.findClass RX1 = some m.cls := findClass_of_methodNamed B.named
  have hin : meth.name = "<init>" := (name_of_methodNamed B.named B.method).1
  have hA : ∀ a, s.heap.size ≤ a → nA b sz a := fun a h => Or.inr (by rw [← hsz]; exact h)
  have hS : va_S (nA b sz) s.heap s.heap [] := va_S.rf
  subst hargs
  have hl := lv_entry ([.ref b]) (n := 2) (Nat.le_of_ble_eq_true rfl)
  rw [lg_entry_eq]
  generalize (lg_sl ([.ref b]) ++ List.replicate (2 - (lg_sl ([.ref b])).length) Slot.unset).toArray = ls at hl ⊢
  have hl : lv_has ls 2 [(0, .ref b)] := hl
  have hD : va_D (nA b sz) [(b, .inr (1, [.null, .int 0, .int 0]))] := D1_of (Or.inl rfl)
  refine lv_aload_n hx hb dX1_init_0 rfl (lv_at hl 0 rfl) ?_
  refine W.objInit hx hb hown (hts (.methodLink RX1 3 objectInit) (by decide +kernel)) (hts (.instanceMethod objectInit) (by decide +kernel)) (hts (.code objectInit ⟨#[0xb1]⟩ 1 none) (by decide +kernel)) rfl (by rw [hml]; exact hl.1) rfl dX1_init_1 (Nat.le_of_ble_eq_true rfl) (Nat.le_of_ble_eq_true rfl) ?_
  refine W.eq (g2 := F0 m 4 ls []) rfl ?_
  have iX2 : ∀ w ∈ wsX20, w ∈ wsX1_init := fun _ h => List.mem_cons_of_mem _ (List.mem_append_right _ (h))
  have iX1 : ∀ w ∈ wsX10, w ∈ wsX1_init := fun _ h => List.mem_cons_of_mem _ (List.mem_append_left _ (List.mem_append_right _ (h)))
  refine lv_aload_n hx hb dX1_init_4 rfl (lv_at hl 0 rfl) ?_
  refine lv_iconst (v := 4) hx hb dX1_init_5 (by decide) ?_
  refine va_newq (C := RX2) (N' := 4) hx hb hown (hts (.classLink RX1 9 RX2) (by decide +kernel)) hAO hK hP hD hS hA (by decide) (by decide) (by decide) (Nat.le_of_ble_eq_true rfl) (Nat.le_of_ble_eq_true rfl) dX1_init_6 (fun a1 cA H hK1 hP hD hS => ?_)
  have hcR : cA = cR := by
    obtain ⟨k1, c1, -, -, -, h1⟩ := (hK.2 1 _ rfl).2
    obtain ⟨k2, c2, -, -, -, h2⟩ := (hK1.2 2 _ rfl).2
    exact Option.some.inj (h2.symm.trans h1)
  subst hcR
  have hP : va_P D vwCl [(b, .inr (1, [.null, .int 0, .int 0])), (a1, .inl (cA, 4, .inr (.inr (.inr (.inr (fun _ => none))))))] H := hP
  have hD : va_D (nA b sz) [(b, .inr (1, [.null, .int 0, .int 0])), (a1, .inl (cA, 4, .inr (.inr (.inr (.inr (fun _ => none))))))] := hD
  refine va_putF (D := D) (ci := 1) (v := .ref a1) (ty := .array (.object "CoinRails$State")) (C := RX1) (T := TX1) (N := 3) hx hb hts iX1 tyX1 tyX1_ok nmX1 hown hK hP hD hS 0 rfl rfl 0 (by decide) (hts (Cond.fieldLink RX1 11 "CoinRails$History" "ring" "[LCoinRails$State;") (by decide +kernel)) (fun _ h9 => h9) rfl hin rfl (by decide +kernel) rfl rfl (Nat.le_of_ble_eq_true rfl) dX1_init_9 (fun H locs hP hD hS => ?_)
  have wr := hts (Cond.fieldLink RX1 11 "CoinRails$History" "ring" "[LCoinRails$State;") (by decide +kernel)
  refine lv_iconst (v := 0) hx hb dX1_init_12 (by decide) ?_
  refine lv_istore_n (lv' := [(1, .int (0 : Int32)), (0, .ref b)]) hx hb dX1_init_13 rfl hl (by decide) rfl (fun ls hl => ?_)
  have key : ∀ (k i : Nat) (qs : List (Nat → Nat)) (f : Nat → Option Nat) (H : Heap) (locs : List Loc) (ls : Array Slot), i + k = 4 → qs.length = i → f = (fun j => (qs[j]?).map (fun r => r 0)) → va_P D vwCl ([(b, .inr (1, [.ref a1, .int 0, .int 0])), (a1, .inl (cA, 4, .inr (.inr (.inr (.inr f)))))] ++ TL cI cA qs) H → va_D (nA b sz) ([(b, .inr (1, [.ref a1, .int 0, .int 0])), (a1, .inl (cA, 4, .inr (.inr (.inr (.inr f)))))] ++ TL cI cA qs) → va_S (nA b sz) s.heap H locs → lv_has ls 2 [(1, .int (nI i)), (0, .ref b)] → W p l e ({ frames := 2, cells := 49, slots := 440, locals := 45 } : Room) s m ([Value.ref b] : List Value).toArray below meth c H locs (1 + 12 * i) (4 + 109 * i) (MQ below (nPost D cI cA b sz tmH GH) ([Value.ref b] : List Value).toArray s 49 440 (nA b sz)) (F0 m 14 ls []) := by
    clear hP hD hS hl
    intro k
    induction k with
    | zero =>
      intro i qs f H locs ls hi hq hf hP hD hS hl
      obtain rfl : i = 4 := by omega
      obtain ⟨q0, q1, q2, q3, rfl⟩ : ∃ q0 q1 q2 q3, qs = [q0, q1, q2, q3] := by
        match qs, hq with
        | [x0, x1, x2, x3], _ => exact ⟨x0, x1, x2, x3, rfl⟩
      refine lv_iload_n hx hb dX1_init_14 rfl (lv_at hl 0 rfl) ?_
      refine lv_iconst (v := 4) hx hb dX1_init_15 (by decide) ?_
      refine lv_icmp_ge (tgt := 38) hx hb dX1_init_16 (by decide) (fun _ => ?_) (fun c9 => absurd (show (4 : Int32) ≤ nI 4 by decide) c9)
      have ef : f = fun j => (([2, 14, 26, 38] : List Nat)[j]?).map (qHs b a1 q0 q1 q2 q3) := by
        rw [hf]
        funext j
        match j with
        | 0 => rfl
        | 1 => rfl
        | 2 => rfl
        | 3 => rfl
        | j + 4 => rfl
      rw [ef] at hP hD
      obtain ⟨hM, hD2⟩ := mw_cast X1_fin hP hD
      exact W.vret hx hb hr (fun t ht hW => ⟨⟨qHs b a1 q0 q1 q2 q3, rfl, nOk_of rfl (by decide) (MJ_of hD2) (MA_of hD2), w_end ht hM rfl⟩, hS.F ht⟩) hS.2.2 dX1_init_38
    | succ k ih =>
      intro i qs f H locs ls hi hqs hf hP hD hS hl
      have hi4 : i < 4 := by omega
      refine lv_iload_n hx hb dX1_init_14 rfl (lv_at hl 0 rfl) ?_
      refine lv_iconst (v := 4) hx hb dX1_init_15 (by decide) ?_
      refine lv_icmp_ge (tgt := 38) hx hb dX1_init_16 (by decide) (fun c9 => absurd c9 (show ¬ (4 : Int32) ≤ nI i from nleI (a := 4) hi4 (by decide))) (fun _ => ?_)
      refine lv_aload_n hx hb dX1_init_19 rfl (lv_at hl 1 rfl) ?_
      refine va_get (ci := 1) (v := .ref a1) (fs := [.ref a1, .int 0, .int 0]) (C := RX1) (T := TX1) (N := 3) hx hb hts iX1 hown hK hP 0 rfl rfl 0 (by decide) wr (fun _ h9 => h9) rfl dX1_init_20 ?_
      refine lv_iload_n hx hb dX1_init_23 rfl (lv_at hl 0 rfl) ?_
      refine va_new (ci := 2) (fs := [.int 0, .null, .null, .null, .null, .null, .null, .null, .null, .null, .null, .null, .int 0]) (C := RX2) (T := TX2) (N := 13) hx hb hts iX2 tyX2 tyX2_ok hown (hts (.classLink RX1 9 RX2) (by decide +kernel)) (hts (.instantiable RX2 13) (by decide +kernel)) (hts (.initialized RX2) (by decide +kernel)) hK hP hD hS hA rfl (fun j hj => by rcases (show j = 0 ∨ j = 1 ∨ j = 2 ∨ j = 3 ∨ j = 4 ∨ j = 5 ∨ j = 6 ∨ j = 7 ∨ j = 8 ∨ j = 9 ∨ j = 10 ∨ j = 11 ∨ j = 12 by omega) with rfl | rfl | rfl | rfl | rfl | rfl | rfl | rfl | rfl | rfl | rfl | rfl | rfl <;> rfl) (show 1 + 12 * i + 1 ≤ 49 by omega) (show 4 + 109 * i + 13 ≤ 440 by omega) dX1_init_24 (fun s1 H hP hD hS => ?_)
      refine lv_dup hx hb dX1_init_27 rfl ?_
      have hPc : va_P D vwCl [(s1, .inr (2, [.int 0, .null, .null, .null, .null, .null, .null, .null, .null, .null, .null, .null, .int 0]))] H := P_last hP
      have hA9 : ∀ a, H.size ≤ a → nA b sz a := fun a h => Or.inr (Nat.le_trans (by rw [← hsz]; exact hS.1) h)
      have hF9 : ∀ a, nA s1 H.size a → nA b sz a := fun a h => by
        rcases h with h | h
        · rw [h]; exact D_last hD
        · exact hA9 a h
      refine va_callv (va_runI (As := []) (rest := [.ref s1, .int (nI i), .ref a1]) ⟨hx, hb, hml, hown, hts⟩ (kX2_init l D cI cA s1 H.size) (cwI 0 hts gX1_init_X2_init rfl rfl rfl (hts (.initialized RX2) (by decide +kernel)) (hts (.methodLink RX1 17 yX2_init) (by decide +kernel)) (hts (.instanceMethod yX2_init) (by decide +kernel)) rfl (by decide +kernel) ⟨(Nat.le_of_ble_eq_true rfl), (Nat.le_of_ble_eq_true rfl)⟩) ⟨nBlind, fun U hU hW => ⟨rfl, by rw [hU], by rw [hU]; exact hPc, va_K.moved hW.alike hK⟩⟩ rfl rfl hl.1 rfl (lv_room (Nat.le_of_ble_eq_true rfl)) dX1_init_28 ⟨(show 1 + 12 * i + 1 + 11 ≤ 49 by omega), (show 4 + 109 * i + 13 + 96 ≤ 440 by omega)⟩) hS (fun a _ h => hF9 a h) hF9 (fun q1 t H1 locs ht hvm hq hM hz hk hS => ?_)
      rw [ht] at hM
      obtain ⟨hP2, hD2⟩ := k_join hP hD hA9 hk hq hM
      obtain ⟨h0, -, -⟩ := hq
      subst h0
      have hv : (([(b, .inr (1, [.ref a1, .int 0, .int 0])), (a1, .inl (cA, 4, .inr (.inr (.inr (.inr f)))))] ++ TL cI cA qs : va_W) ++ mwL cI cA q1 (tmS 0) (iS 6))[2 + (TL cI cA qs).length]? = some (q1 0, mwE cI cA q1 (iS 6 0) (.inr (.inl (2, [none, some (0 + 1), some (0 + 2), some (0 + 3), some (0 + 4), some (0 + 5), some (0 + 6), some (0 + 7), some (0 + 8), some (0 + 9), some (0 + 10), some (0 + 11), none])))) := by
        have hlen : ([(b, .inr (1, [.ref a1, .int 0, .int 0])), (a1, .inl (cA, 4, .inr (.inr (.inr (.inr f)))))] ++ TL cI cA qs : va_W).length = 2 + (TL cI cA qs).length := by
          rw [List.length_append]
          rfl
        rw [List.getElem?_append_right (by omega), hlen, Nat.sub_self]
        exact mwL_get rfl
      refine va_astq hx hb hK hP2 hD2 hS 1 1 (2 + (TL cI cA qs).length) 2 rfl rfl hv rfl (i := nI i) (inb_in (inb_nI hi4 (by decide))) dX1_init_31 (fun H locs hP hD hS => ?_)
      rw [tnI (show i < 2147483648 by omega), hf, ← hqs, rg_snoc] at hP hD
      have hP : va_P D vwCl ([(b, .inr (1, [.ref a1, .int 0, .int 0])), (a1, .inl (cA, 4, .inr (.inr (.inr (.inr (fun j => ((qs ++ [q1])[j]?).map (fun r => r 0)))))))] ++ (TL cI cA qs ++ mwL cI cA q1 (tmS 0) (iS 6))) H := hP
      have hD : va_D (nA b sz) ([(b, .inr (1, [.ref a1, .int 0, .int 0])), (a1, .inl (cA, 4, .inr (.inr (.inr (.inr (fun j => ((qs ++ [q1])[j]?).map (fun r => r 0)))))))] ++ (TL cI cA qs ++ mwL cI cA q1 (tmS 0) (iS 6))) := hD
      rw [← TL_snoc] at hP hD
      refine lv_iinc (v := nI (i + 1)) (lv' := [(1, .int (nI (i + 1))), (0, .ref b)]) hx hb dX1_init_32 hl (k := 0) rfl (by rw [show Int32.ofInt (1) = 1 by decide]; exact nI1 i) (by decide) rfl (fun ls hl => ?_)
      refine lv_goto (tgt := 14) hx hb dX1_init_35 (by decide) ?_
      refine W.widen (k := 1 + 12 * (i + 1)) (n := 4 + 109 * (i + 1)) (by omega) (by omega) ?_
      exact ih (i + 1) (qs ++ [q1]) _ _ _ _ (by omega) (by rw [List.length_append, hqs]; rfl) rfl hP hD hS hl
  exact key 4 0 [] (fun _ => none) _ _ _ (by omega) rfl rfl hP hD hS hl
