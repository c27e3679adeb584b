/-! PURE, part M: free, takeBag, takeRejects, append, clearText, feedSome, digest -/
def frF (f : Nat → Int32) (r k : Nat) : Nat → Int32 := upd (upd (if cIn f r < 40 then upd f (63 + 6 * r + k) (f (63 + 6 * r + k) + 1) else upd f (7 + 5 * k) (f (7 + 5 * k) + 1)) (35 + 5 * r) (-1)) (36 + 5 * r) (-1)
def zbF (f : Nat → Int32) (r : Nat) : Nat → Nat → Int32
  | 0 => f
  | j + 1 => upd (zbF f r j) (63 + 6 * r + j) 0
def zrF (f : Nat → Int32) : Nat → Nat → Int32
  | 0 => f
  | j + 1 => upd (zrF f j) (7 + 5 * j) 0
theorem zbF_at (f : Nat → Int32) (r i : Nat) : ∀ j, zbF f r j i = if 63 + 6 * r ≤ i ∧ i < 63 + 6 * r + j then 0 else f i
  | 0 => by rw [if_neg (by omega)]; rfl
  | j + 1 => by
    show upd (zbF f r j) (63 + 6 * r + j) 0 i = _
    by_cases q : i = 63 + 6 * r + j
    · subst q; rw [upd_s, if_pos (by omega)]
    · rw [upd_n q, zbF_at f r i j]
      by_cases c : 63 + 6 * r ≤ i ∧ i < 63 + 6 * r + j
      · rw [if_pos c, if_pos (by omega)]
      · rw [if_neg c, if_neg (by omega)]
theorem zrF_o (f : Nat → Int32) (i : Nat) : ∀ j, (∀ a, a < j → i ≠ 7 + 5 * a) → zrF f j i = f i
  | 0, _ => rfl
  | j + 1, h => by
    show upd (zrF f j) (7 + 5 * j) 0 i = _
    rw [upd_n (h j (by omega))]
    exact zrF_o f i j (fun a ha => h a (by omega))
theorem zrF_z (f : Nat → Int32) (a : Nat) : ∀ j, a < j → zrF f j (7 + 5 * a) = 0
  | 0, h => absurd h (by omega)
  | j + 1, h => by
    show upd (zrF f j) (7 + 5 * j) 0 (7 + 5 * a) = _
    by_cases q : a = j
    · subst q; rw [upd_s]
    · rw [upd_n (by omega)]
      exact zrF_z f a j (by omega)
section SNZ
variable {f : Nat → Int32} {n : Nat}
theorem SN.fr1 (h : SN f n) {r k : Nat} (hr : r < 6) (hk : k < n) : SN (frF f r k) n := by
  unfold frF
  by_cases c : cIn f r < 40
  · rw [if_pos c]
    exact ((h.bag1 hr hk c).stk1 hr (Or.inl rfl)).wear1 hr _
  · rw [if_neg c]
    exact ((h.rej1 hk _).stk1 hr (Or.inl rfl)).wear1 hr _
theorem SN.zb1 (h : SN f n) {r : Nat} (hr : r < 6) : SN (zbF f r 6) n := by
  have hn := h.n6
  have nn : ∀ {i : Nat}, (i < 63 + 6 * r ∨ 63 + 6 * r + 6 ≤ i) → zbF f r 6 i = f i := fun hi => by rw [zbF_at, if_neg (by omega)]
  refine ⟨⟨h.n6, (nn (by omega)).trans h.k0⟩, fun k hk => ⟨?_, ?_⟩, fun k h1 h2 => ⟨?_, ?_⟩, fun r' k hr' h1 h2 => ?_, fun r' hr' => ?_, fun r' hr' => ⟨?_, ?_, ?_⟩, ?_⟩
  · rw [nn (by omega)]; exact h.dm hk
  · rw [nn (by omega)]; exact h.hm hk
  · rw [nn (by omega)]; exact h.fz h1 h2
  · rw [nn (by omega)]; exact h.rz h1 h2
  · rw [zbF_at]
    split
    · rfl
    · exact h.bz hr' h1 h2
  · rw [nn (by omega)]; exact h.st hr'
  · rw [nn (by omega)]; exact h.gp hr'
  · rw [nn (by omega)]; exact h.us hr'
  · obtain ⟨c, h1, h2⟩ := (h.2.2.2.2.2.1 r' hr').2.2
    by_cases e : r' = r
    · subst e
      refine ⟨fun _ => 0, fun k hk => ?_, (by decide : 0 + 0 + 0 + 0 + 0 + 0 ≤ 40)⟩
      rw [zbF_at, if_pos (by omega)]
      rfl
    · exact ⟨c, fun k hk => by rw [nn (by omega)]; exact h1 k hk, h2⟩
  · rw [nn (by omega), h.fed]
    exact sm_cong 6 (fun k hk => (nn (by omega)).symm)
theorem SN.zr1 (h : SN f n) : ∀ j, j ≤ n → SN (zrF f j) n
  | 0, _ => h
  | j + 1, hj => (h.zr1 j (by omega)).rej1 (by omega) 0
end SNZ
section CM
variable {K : Nat} {G M : Nat → Nat → Int32} {f : Nat → Int32} {n : Nat}
theorem c_loosen (hK : 4000 ≤ K) (h : SR G 1 f) (hS : SN f n) {r k : Nat} (hr : r < 6) (hk : k < n) (e : f (35 + 5 * r) = nI k) : ∃ G', sX2_loosen K G (nI r) = some (nI k, G') ∧ SR G' 1 (frF f r k) ∧ Oth G G' := by
  have hn := hS.n6
  unfold sX2_loosen frF
  rw [grd_i hr (by decide), c_isFull hK h hr, bind_e, tnI (show r < 2147483648 by omega), h.sk hr, e]
  by_cases c : cIn f r < 40
  · rw [if_pos c, if_pos rfl, if_pos c, ix6, grd_i (by omega) (by decide), grd_i (by omega) (by decide), tnI (by omega), olet_e, grd_i hr (by decide), olet_e, grd_i hr (by decide), olet_e, h.bg (by omega), ← Nat.add_assoc]
    have h1 := h.u 11 (6 * r + k) (vdB (by omega)) (f (63 + 6 * r + k) + 1)
    have h1 : SR (up2 G 12 (6 * r + k) (f (63 + 6 * r + k) + 1)) 1 (upd f (63 + 6 * r + k) (f (63 + 6 * r + k) + 1)) := by
      have e9 : fx 11 (6 * r + k) = 63 + 6 * r + k := by
        show 63 + (6 * r + k) = _
        omega
      rw [e9] at h1
      exact h1
    exact ⟨_, rfl, (h1.u 8 r (vdK (by decide) (by decide) hr) (-1)).u 9 r (vdK (by decide) (by decide) hr) (-1), (((Oth.rf G).up 12 _ _ (by decide) (by decide)).up 9 _ _ (by decide) (by decide)).up 10 _ _ (by decide) (by decide)⟩
  · have hk6 : k < 6 := by omega
    rw [if_neg c, if_neg (by decide), if_neg c, grd_i hk6 (by decide), grd_i hk6 (by decide), tnI (show k < 2147483648 by omega), olet_e, grd_i hr (by decide), olet_e, grd_i hr (by decide), olet_e, h.rj hk6]
    exact ⟨_, rfl, ((h.u 5 k (vdK (by decide) (by decide) hk6) (f (7 + 5 * k) + 1)).u 8 r (vdK (by decide) (by decide) hr) (-1)).u 9 r (vdK (by decide) (by decide) hr) (-1), (((Oth.rf G).up 6 _ _ (by decide) (by decide)).up 9 _ _ (by decide) (by decide)).up 10 _ _ (by decide) (by decide)⟩
theorem c_empty (hK : 4000 ≤ K) (h : SR G 1 f) {r : Nat} (hr : r < 6) : ∃ G', sX2_emptyBag K G (nI r) = some (cIn f r, G') ∧ SR G' 1 (upd (zbF f r 6) 2 (f 2 + cIn f r)) ∧ Oth G G' := by
  unfold sX2_emptyBag
  rw [c_coinsIn hK h hr, bind_e]
  have key : ∀ (m i a : Nat) (G1 : Nat → Nat → Int32), i + m = 6 → m < a → SR G1 1 (zbF f r i) → Oth G G1 → ∃ G', sX2_emptyBag_L8 K (nI r) a G1 (cIn f r) (nI i) = some (cIn f r, G') ∧ SR G' 1 (upd (zbF f r 6) 2 (f 2 + cIn f r)) ∧ Oth G G' := by
    intro m
    induction m with
    | zero =>
      intro i a G1 hi ha h1 h2
      obtain ⟨b, rfl⟩ : ∃ b, a = b + 1 := ⟨a - 1, by omega⟩
      obtain rfl : i = 6 := by omega
      have e2 : G1 1 12 = f 2 := by rw [h1.taken, zbF_at, if_neg (by omega)]
      rw [sX2_emptyBag_L8, if_pos y6, olet_e, e2]
      exact ⟨_, rfl, h1.u 0 12 (Or.inl ⟨rfl, Or.inr rfl⟩) _, h2.up 1 _ _ (by decide) (by decide)⟩
    | succ m ih =>
      intro i a G1 hi ha h1 h2
      obtain ⟨b, rfl⟩ : ∃ b, a = b + 1 := ⟨a - 1, by omega⟩
      have hi6 : i < 6 := by omega
      rw [sX2_emptyBag_L8, if_neg (n6 hi6), ix6, grd_i (by omega) (by decide), tnI (by omega), olet_e, nI1]
      refine ih (i + 1) b _ (by omega) (by omega) ?_ (h2.up 12 _ _ (by decide) (by decide))
      have e := h1.u 11 (6 * r + i) (vdB (by omega)) 0
      have e9 : fx 11 (6 * r + i) = 63 + 6 * r + i := by
        show 63 + (6 * r + i) = _
        omega
      rw [e9] at e
      exact e
  exact key 6 0 K G (by omega) (by omega) h (Oth.rf G)
theorem c_removeR (hK : 4000 ≤ K) (h : SR G 1 f) : ∃ G', sX2_removeRejects K G = some (sm (fun k => f (7 + 5 * k)) 6, G') ∧ SR G' 1 (upd (zrF f 6) 2 (f 2 + sm (fun k => f (7 + 5 * k)) 6)) ∧ Oth G G' := by
  unfold sX2_removeRejects
  rw [c_sum6 hK 6 (by decide), bind_e, sm_cong 6 (fun j hj => h.rj hj)]
  generalize sm (fun k => f (7 + 5 * k)) 6 = x
  have key : ∀ (m i a : Nat) (G1 : Nat → Nat → Int32), i + m = 6 → m < a → SR G1 1 (zrF f i) → Oth G G1 → ∃ G', sX2_removeRejects_L10 K a G1 x (nI i) = some (x, G') ∧ SR G' 1 (upd (zrF f 6) 2 (f 2 + x)) ∧ Oth G G' := by
    intro m
    induction m with
    | zero =>
      intro i a G1 hi ha h1 h2
      obtain ⟨b, rfl⟩ : ∃ b, a = b + 1 := ⟨a - 1, by omega⟩
      obtain rfl : i = 6 := by omega
      have e2 : G1 1 12 = f 2 := by rw [h1.taken, zrF_o _ _ _ (fun a ha => by omega)]
      rw [sX2_removeRejects_L10, if_pos y6, olet_e, e2]
      exact ⟨_, rfl, h1.u 0 12 (Or.inl ⟨rfl, Or.inr rfl⟩) _, h2.up 1 _ _ (by decide) (by decide)⟩
    | succ m ih =>
      intro i a G1 hi ha h1 h2
      obtain ⟨b, rfl⟩ : ∃ b, a = b + 1 := ⟨a - 1, by omega⟩
      have hi6 : i < 6 := by omega
      rw [sX2_removeRejects_L10, if_neg (n6 hi6), grd_i (by omega) (by decide), tnI (by omega), olet_e, nI1]
      exact ih (i + 1) b _ (by omega) (by omega) (h1.u 5 i (vdK (by decide) (by decide) hi6) 0) (h2.up 6 _ _ (by decide) (by decide))
  exact key 6 0 K G (by omega) (by omega) h (Oth.rf G)
end CM

