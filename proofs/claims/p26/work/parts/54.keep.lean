/-! PURE, part X: what each call keeps: turned states stay turned, sound ones sound -/
section KP
variable {f g : Nat → Int32}
theorem tot_congr (hb : ∀ j, j < 36 → g (63 + j) = f (63 + j)) (hs : ∀ r, r < 6 → g (35 + 5 * r) = f (35 + 5 * r)) (hr : ∀ k, k < 6 → g (7 + 5 * k) = f (7 + 5 * k)) (h2 : g 2 = f 2) : tot g = tot f := by
  unfold tot
  have e1 : sm (fun r => cIn g r) 6 = sm (fun r => cIn f r) 6 := sm_cong 6 fun r hr => sm_cong 6 fun k hk => by
    have := hb (6 * r + k) (by omega)
    rw [← Nat.add_assoc] at this
    exact this
  have e2 : stR g = stR f := sm_cong 6 fun r hr => by rw [hs r hr]
  have e3 : sm (fun k => g (7 + 5 * k)) 6 = sm (fun k => f (7 + 5 * k)) 6 := sm_cong 6 fun k hk => hr k hk
  rw [e1, e2, e3, h2]
theorem tot_bag {r k : Nat} (hr : r < 6) (hk : k < 6) : tot (upd f (63 + 6 * r + k) (f (63 + 6 * r + k) + 1)) = tot f + 1 := by
  unfold tot
  have e1 : sm (fun x => cIn (upd f (63 + 6 * r + k) (f (63 + 6 * r + k) + 1)) x) 6 = sm (fun x => cIn f x) 6 + 1 := by
    refine sm_ch (k0 := r) 6 hr ?_ fun x hx hne => sm_cong 6 fun z hz => upd_n (by omega)
    exact sm_ch (k0 := k) 6 hk (upd_s _ _ _) fun z hz hne => upd_n (by omega)
  have e2 : stR (upd f (63 + 6 * r + k) (f (63 + 6 * r + k) + 1)) = stR f := sm_cong 6 fun x hx => by rw [upd_n (by omega)]
  have e3 : sm (fun z => upd f (63 + 6 * r + k) (f (63 + 6 * r + k) + 1) (7 + 5 * z)) 6 = sm (fun z => f (7 + 5 * z)) 6 := sm_cong 6 fun z hz => upd_n (by omega)
  rw [e1, e2, e3, upd_n (by omega)]
  ac_rfl
theorem tot_rej {k : Nat} (hk : k < 6) : tot (upd f (7 + 5 * k) (f (7 + 5 * k) + 1)) = tot f + 1 := by
  unfold tot
  have e1 : sm (fun x => cIn (upd f (7 + 5 * k) (f (7 + 5 * k) + 1)) x) 6 = sm (fun x => cIn f x) 6 := sm_cong 6 fun x hx => sm_cong 6 fun z hz => upd_n (by omega)
  have e2 : stR (upd f (7 + 5 * k) (f (7 + 5 * k) + 1)) = stR f := sm_cong 6 fun x hx => by rw [upd_n (by omega)]
  have e3 : sm (fun z => upd f (7 + 5 * k) (f (7 + 5 * k) + 1) (7 + 5 * z)) 6 = sm (fun z => f (7 + 5 * z)) 6 + 1 := sm_ch (k0 := k) 6 hk (upd_s _ _ _) fun z hz hne => upd_n (by omega)
  rw [e1, e2, e3, upd_n (by omega)]
  ac_rfl
theorem tot_stk {r : Nat} (hr : r < 6) {x : Int32} (h0 : f (35 + 5 * r) = -1) (hx : ¬ x = -1) : tot (upd f (35 + 5 * r) x) = tot f + 1 := by
  unfold tot
  have e1 : sm (fun z => cIn (upd f (35 + 5 * r) x) z) 6 = sm (fun z => cIn f z) 6 := sm_cong 6 fun z hz => sm_cong 6 fun y hy => upd_n (by omega)
  have e2 : stR (upd f (35 + 5 * r) x) = stR f + 1 := by
    refine sm_ch (k0 := r) 6 hr ?_ fun z hz hne => by rw [upd_n (by omega)]
    show (if upd f (35 + 5 * r) x (35 + 5 * r) = -1 then (0 : Int32) else 1) = (if f (35 + 5 * r) = -1 then (0 : Int32) else 1) + 1
    rw [upd_s, if_neg hx, if_pos h0]
    rfl
  have e3 : sm (fun z => upd f (35 + 5 * r) x (7 + 5 * z)) 6 = sm (fun z => f (7 + 5 * z)) 6 := sm_cong 6 fun z hz => upd_n (by omega)
  rw [e1, e2, e3, upd_n (by omega)]
  ac_rfl
theorem upd_bk {i : Nat} {x : Int32} : upd (upd f i x) i (f i) = f := by
  funext j
  by_cases q : j = i
  · subst q; rw [upd_s]
  · rw [upd_n q, upd_n q]
theorem tot_fre {r : Nat} (hr : r < 6) (h0 : ¬ f (35 + 5 * r) = -1) : tot (upd f (35 + 5 * r) (-1)) + 1 = tot f := by
  have e := tot_stk (f := upd f (35 + 5 * r) (-1)) hr (x := f (35 + 5 * r)) (upd_s _ _ _) h0
  rw [upd_bk] at e
  exact e.symm
/-- entries that a feeding leaves -/
theorem fe_n {k w i : Nat} (hk : k < 6) (h33 : i < 33) (h1 : i ≠ 1) (h6 : i ≠ 6 + 5 * k) (h7 : i ≠ 7 + 5 * k) : feF f k w i = f i := by
  unfold feF
  rcases plc_of f k w 6 0 with e | ⟨x, x1, x2, e | e, -⟩
  · rw [e, enF_none, upd_n h7, rollF_n _ _ (fun a ha => by omega), fdF_n _ h1 h6]
  · rw [e, enF_fall _ _ _ (by omega)]
    unfold falF
    rw [usF_n _ (by omega) (by omega), upd_n (by omega), rollF_n _ _ (fun a ha => by omega), fdF_n _ h1 h6]
  · rw [e, enF_stuck _ _ _ (by omega), upd_n (by omega), upd_n (by omega), rollF_n _ _ (fun a ha => by omega), fdF_n _ h1 h6]
theorem fd_1 (k : Nat) : fdF f k 1 = f 1 + 1 := by
  unfold fdF
  rw [upd_n (by omega), upd_s]
theorem tot_roll {r : Nat} (hr : r ≤ 6) : tot (rollF f r) = tot f := tot_congr (fun j hj => rollF_n _ _ (fun a ha => by omega)) (fun x hx => rollF_n _ _ (fun a ha => by omega)) (fun x hx => rollF_n _ _ (fun a ha => by omega)) (rollF_n _ _ (fun a ha => by omega))
theorem tot_fd {k : Nat} (hk : k < 6) : tot (fdF f k) = tot f := tot_congr (fun j hj => fdF_n _ (by omega) (by omega)) (fun x hx => fdF_n _ (by omega) (by omega)) (fun x hx => fdF_n _ (by omega) (by omega)) (fdF_n _ (by omega) (by omega))
theorem tot_us {r : Nat} (hr : r < 6) : tot (usF f r) = tot f := tot_congr (fun j hj => usF_n _ (by omega) (by omega)) (fun x hx => usF_n _ (by omega) (by omega)) (fun x hx => usF_n _ (by omega) (by omega)) (usF_n _ (by omega) (by omega))
theorem Gd.fe (h : Gd f) {k w : Nat} (hk : k < 4) : Gd (feF f k w) := by
  obtain ⟨hm, hw, hc⟩ := h
  refine ⟨fun j hj => ?_, ?_, ?_⟩
  · rw [fe_n (by omega) (by omega) (by omega) (by omega) (by omega)]
    exact hm j hj
  · have o : ∀ {F : Nat → Int32} {i : Nat}, F = fdF f k → i ≤ 6 → ∀ r, r < 6 → rollF F i (35 + 5 * r) = f (35 + 5 * r) ∧ rollF F i (36 + 5 * r) = f (36 + 5 * r) := fun {F i} eF hi r hr => by
      subst eF
      exact ⟨by rw [rollF_n _ _ (fun a ha => by omega), fdF_n _ (by omega) (by omega)], by rw [rollF_n _ _ (fun a ha => by omega), fdF_n _ (by omega) (by omega)]⟩
    unfold feF
    intro r hr
    rcases plc_of f k w 6 0 with e | ⟨x, x1, x2, e | e, -⟩
    · rw [e, enF_none, upd_n (by omega), upd_n (by omega), (o rfl (Nat.le_refl 6) r hr).1, (o rfl (Nat.le_refl 6) r hr).2]
      exact hw r hr
    · rw [e, enF_fall _ _ _ (by omega)]
      unfold falF
      rw [usF_n _ (by omega) (by omega), usF_n _ (by omega) (by omega), upd_n (by omega), upd_n (by omega), (o rfl (by omega) r hr).1, (o rfl (by omega) r hr).2]
      exact hw r hr
    · rw [e, enF_stuck _ _ _ (by omega)]
      by_cases q : r = x
      · subst q
        rw [upd_n (by omega), upd_s, upd_s]
        exact Or.inr ⟨nI_pos (by omega), nI_pos (by have := wrs_le w r; omega)⟩
      · rw [upd_n (by omega), upd_n (by omega), upd_n (by omega), upd_n (by omega), (o rfl (by omega) r hr).1, (o rfl (by omega) r hr).2]
        exact hw r hr
  · have t : feF f k w 1 = f 1 + 1 ∧ tot (feF f k w) = tot f + 1 := by
      unfold feF
      rcases plc_of f k w 6 0 with e | ⟨x, x1, x2, e | e, -, hst, -⟩
      · rw [e, enF_none]
        refine ⟨?_, ?_⟩
        · rw [upd_n (by omega), rollF_n _ _ (fun a ha => by omega), fd_1]
        · rw [tot_rej (by omega), tot_roll (Nat.le_refl 6), tot_fd (by omega)]
      · rw [e, enF_fall _ _ _ (by omega)]
        unfold falF
        refine ⟨?_, ?_⟩
        · rw [usF_n _ (by omega) (by omega), upd_n (by omega), rollF_n _ _ (fun a ha => by omega), fd_1]
        · rw [tot_us (by omega), tot_bag (by omega) (by omega), tot_roll (by omega), tot_fd (by omega)]
      · rw [e, enF_stuck _ _ _ (by omega)]
        refine ⟨?_, ?_⟩
        · rw [upd_n (by omega), upd_n (by omega), rollF_n _ _ (fun a ha => by omega), fd_1]
        · have e9 : tot (upd (upd (rollF (fdF f k) x) (35 + 5 * x) (nI k)) (36 + 5 * x) (nI (wrs w x))) = tot (upd (rollF (fdF f k) x) (35 + 5 * x) (nI k)) := tot_congr (fun j hj => upd_n (by omega)) (fun j hj => upd_n (by omega)) (fun j hj => upd_n (by omega)) (upd_n (by omega))
          rw [e9, tot_stk (by omega) (by rw [rollF_n _ _ (fun a ha => by omega), fdF_n _ (by omega) (by omega)]; exact hst) (m1ne (by omega)), tot_roll (by omega), tot_fd (by omega)]
    rw [t.1, t.2, hc]
theorem Gd.gap (h : Gd f) {r : Nat} (hr : r < 6) (x y : Int32) : Gd (upd (upd f (33 + 5 * r) x) (34 + 5 * r) y) := by
  obtain ⟨hm, hw, hc⟩ := h
  have n : ∀ i, i ≠ 33 + 5 * r → i ≠ 34 + 5 * r → upd (upd f (33 + 5 * r) x) (34 + 5 * r) y i = f i := fun i a b => by rw [upd_n b, upd_n a]
  refine ⟨fun j hj => (n _ (by omega) (by omega)).trans (hm j hj), fun j hj => by rw [n _ (by omega) (by omega), n _ (by omega) (by omega)]; exact hw j hj, ?_⟩
  rw [n _ (by omega) (by omega), hc]
  exact (tot_congr (fun j hj => n _ (by omega) (by omega)) (fun j hj => n _ (by omega) (by omega)) (fun j hj => n _ (by omega) (by omega)) (n _ (by omega) (by omega))).symm
theorem Gd.fr (h : Gd f) {r k : Nat} (hr : r < 6) (hk : k < 4) (e : f (35 + 5 * r) = nI k) : Gd (frF f r k) := by
  obtain ⟨hm, hw, hc⟩ := h
  have he : ¬ f (35 + 5 * r) = -1 := by rw [e]; exact m1ne (by omega)
  unfold frF
  have key : ∀ F : Nat → Int32, (∀ j, j < 4 → F (5 + 5 * j) = f (5 + 5 * j)) → (∀ j, j < 6 → F (35 + 5 * j) = f (35 + 5 * j) ∧ F (36 + 5 * j) = f (36 + 5 * j)) → F 1 = f 1 → tot F = tot f + 1 → Gd (upd (upd F (35 + 5 * r) (-1)) (36 + 5 * r) (-1)) := fun F h1 h2 h3 h4 => by
    refine ⟨fun j hj => by rw [upd_n (by omega), upd_n (by omega), h1 j hj]; exact hm j hj, fun j hj => ?_, ?_⟩
    · by_cases q : j = r
      · subst q
        rw [upd_n (by omega), upd_s, upd_s]
        exact Or.inl ⟨rfl, rfl⟩
      · rw [upd_n (by omega), upd_n (by omega), upd_n (by omega), upd_n (by omega), (h2 j hj).1, (h2 j hj).2]
        exact hw j hj
    · have e9 : tot (upd (upd F (35 + 5 * r) (-1)) (36 + 5 * r) (-1)) = tot (upd F (35 + 5 * r) (-1)) := tot_congr (fun j hj => upd_n (by omega)) (fun j hj => upd_n (by omega)) (fun j hj => upd_n (by omega)) (upd_n (by omega))
      have e8 := tot_fre (f := F) hr (by rw [(h2 r hr).1]; exact he)
      rw [h4] at e8
      rw [upd_n (by omega), upd_n (by omega), h3, hc, e9]
      have e7 := congrArg (fun z : Int32 => z - 1) e8
      simp only [Int32.add_sub_cancel] at e7
      exact e7.symm
  by_cases c : cIn f r < 40
  · rw [if_pos c]
    exact key _ (fun j hj => upd_n (by omega)) (fun j hj => ⟨upd_n (by omega), upd_n (by omega)⟩) (upd_n (by omega)) (tot_bag hr (by omega))
  · rw [if_neg c]
    exact key _ (fun j hj => upd_n (by omega)) (fun j hj => ⟨upd_n (by omega), upd_n (by omega)⟩) (upd_n (by omega)) (tot_rej (by omega))
theorem Gd.zb (h : Gd f) {r : Nat} (hr : r < 6) : Gd (upd (zbF f r 6) 2 (f 2 + cIn f r)) := by
  obtain ⟨hm, hw, hc⟩ := h
  have n : ∀ i, i ≠ 2 → (i < 63 + 6 * r ∨ 63 + 6 * r + 6 ≤ i) → upd (zbF f r 6) 2 (f 2 + cIn f r) i = f i := fun i a b => by rw [upd_n a, zbF_at, if_neg (by omega)]
  refine ⟨fun j hj => (n _ (by omega) (by omega)).trans (hm j hj), fun j hj => by rw [n _ (by omega) (by omega), n _ (by omega) (by omega)]; exact hw j hj, ?_⟩
  rw [n _ (by omega) (by omega), hc]
  unfold tot
  have e2 : stR (upd (zbF f r 6) 2 (f 2 + cIn f r)) = stR f := sm_cong 6 fun x hx => by rw [n _ (by omega) (by omega)]
  have e3 : sm (fun k => upd (zbF f r 6) 2 (f 2 + cIn f r) (7 + 5 * k)) 6 = sm (fun k => f (7 + 5 * k)) 6 := sm_cong 6 fun k hk => n _ (by omega) (by omega)
  have e1 : sm (fun x => cIn f x) 6 = sm (fun x => cIn (upd (zbF f r 6) 2 (f 2 + cIn f r)) x) 6 + cIn f r := by
    refine sm_ch (k0 := r) 6 hr ?_ fun x hx hne => sm_cong 6 fun z hz => (n _ (by omega) (by omega)).symm
    have z : cIn (upd (zbF f r 6) 2 (f 2 + cIn f r)) r = 0 := by
      have : cIn (upd (zbF f r 6) 2 (f 2 + cIn f r)) r = sm (fun _ => 0) 6 := sm_cong 6 fun k hk => by rw [upd_n (by omega), zbF_at, if_pos (by omega)]
      rw [this, sm_0]
    show cIn f r = cIn (upd (zbF f r 6) 2 (f 2 + cIn f r)) r + cIn f r
    rw [z, Int32.zero_add]
  rw [e1, e2, e3, upd_s]
  ac_rfl
theorem Gd.zr (h : Gd f) : Gd (upd (zrF f 6) 2 (f 2 + sm (fun k => f (7 + 5 * k)) 6)) := by
  obtain ⟨hm, hw, hc⟩ := h
  have n : ∀ i, i ≠ 2 → (∀ a, a < 6 → i ≠ 7 + 5 * a) → upd (zrF f 6) 2 (f 2 + sm (fun k => f (7 + 5 * k)) 6) i = f i := fun i a b => by rw [upd_n a, zrF_o _ _ _ b]
  refine ⟨fun j hj => (n _ (by omega) (by omega)).trans (hm j hj), fun j hj => by rw [n _ (by omega) (by omega), n _ (by omega) (by omega)]; exact hw j hj, ?_⟩
  rw [n _ (by omega) (by omega), hc]
  unfold tot
  have e1 : sm (fun x => cIn (upd (zrF f 6) 2 (f 2 + sm (fun k => f (7 + 5 * k)) 6)) x) 6 = sm (fun x => cIn f x) 6 := sm_cong 6 fun x hx => sm_cong 6 fun z hz => n _ (by omega) (by omega)
  have e2 : stR (upd (zrF f 6) 2 (f 2 + sm (fun k => f (7 + 5 * k)) 6)) = stR f := sm_cong 6 fun x hx => by rw [n _ (by omega) (by omega)]
  have e3 : sm (fun k => upd (zrF f 6) 2 (f 2 + sm (fun k => f (7 + 5 * k)) 6) (7 + 5 * k)) 6 = 0 := by
    rw [sm_cong (h := fun _ => 0) 6 (fun k hk => by rw [upd_n (by omega), zrF_z _ _ _ hk]), sm_0]
  rw [e1, e2, e3, upd_s, Int32.add_zero]
  ac_rfl
end KP
