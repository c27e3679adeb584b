/-! PURE, part W: each coin that was fed is somewhere: what holds of a state, and that it is sound -/
def tot (f : Nat → Int32) : Int32 := ((sm (fun r => cIn f r) 6 + stR f) + sm (fun k => f (7 + 5 * k)) 6) + f 2
def Wr (f : Nat → Int32) : Prop := ∀ r, r < 6 → (f (35 + 5 * r) = -1 ∧ f (36 + 5 * r) = -1) ∨ (¬ f (35 + 5 * r) < 0 ∧ ¬ f (36 + 5 * r) < 0)
def Gd (f : Nat → Int32) : Prop := Hm f ∧ Wr f ∧ f 1 = tot f
theorem sm_mul (x : Int32) (g : Nat → Int32) : ∀ n, x * sm g n = sm (fun j => x * g j) n
  | 0 => Int32.mul_zero
  | n + 1 => by
    show x * (sm g n + g n) = sm (fun j => x * g j) n + x * g n
    rw [Int32.mul_add, sm_mul x g n]
theorem sm_add (g h : Nat → Int32) : ∀ n, sm (fun j => g j + h j) n = sm g n + sm h n
  | 0 => rfl
  | n + 1 => by
    show sm (fun j => g j + h j) n + (g n + h n) = (sm g n + g n) + (sm h n + h n)
    rw [sm_add g h n]
    ac_rfl
theorem sm_0 : ∀ n, sm (fun _ => 0) n = 0
  | 0 => rfl
  | n + 1 => by
    show sm (fun _ => 0) n + 0 = 0
    rw [sm_0 n]
    rfl
theorem sm_swap (F : Nat → Nat → Int32) (n : Nat) : ∀ N, sm (fun r => sm (fun k => F r k) n) N = sm (fun k => sm (fun r => F r k) N) n
  | 0 => (sm_0 n).symm
  | N + 1 => by
    show sm (fun r => sm (fun k => F r k) n) N + sm (fun k => F N k) n = sm (fun k => sm (fun r => F r k) N + F N k) n
    rw [sm_swap F n N, sm_add]
theorem sm_ch {g h : Nat → Int32} {k0 : Nat} {x : Int32} : ∀ N, k0 < N → h k0 = g k0 + x → (∀ k, k < N → k ≠ k0 → h k = g k) → sm h N = sm g N + x
  | 0, hk, _, _ => absurd hk (by omega)
  | N + 1, hk, h1, h2 => by
    show sm h N + h N = (sm g N + g N) + x
    by_cases q : k0 = N
    · subst q
      rw [sm_cong k0 (fun k hk9 => h2 k (by omega) (by omega)), h1]
      ac_rfl
    · rw [sm_ch N (by omega) h1 (fun k a b => h2 k (by omega) b), h2 N (by omega) (fun z => q z.symm)]
      ac_rfl
section WO
variable {f g : Nat → Int32}
theorem worth_eq (f : Nat → Int32) : sm (fun k => f (4 + 5 * k) * kIn f k) 4 = sm (fun r => trW f 4 r) 6 := by
  have e1 : sm (fun k => f (4 + 5 * k) * kIn f k) 4 = sm (fun k => sm (fun r => f (4 + 5 * k) * f (63 + 6 * r + k)) 6) 4 := sm_cong 4 fun k _ => sm_mul _ _ 6
  rw [e1, ← sm_swap (fun r k => f (4 + 5 * k) * f (63 + 6 * r + k)) 4 6]
  exact sm_cong 6 fun r _ => sm_cong 4 fun k _ => Int32.mul_comm _ _
theorem p_sound {K : Nat} {G : Nat → Nat → Int32} (hK : 4000 ≤ K) (hG : St G f 4) (hg : Gd f) : sL_isSound K G = some () := by
  obtain ⟨hm, hw, hc⟩ := hg
  have hN := hG.2.1
  have v : ∀ w, w < 10 → sX3_value K G (nI w) = some (abA f 4 w) := fun w h => o_value hK hG h
  have v1 : sX3_value K G (1 : Int32) = some (f 1) := v 1 (by decide)
  have v2 : sX3_value K G (2 : Int32) = some (sm (fun r => cIn f r) 6) := v 2 (by decide)
  have v3 : sX3_value K G (3 : Int32) = some (stR f) := v 3 (by decide)
  have v4 : sX3_value K G (4 : Int32) = some (sm (fun k => f (7 + 5 * k)) 6) := v 4 (by decide)
  have v5 : sX3_value K G (5 : Int32) = some (f 2) := v 5 (by decide)
  have v6 : sX3_value K G (6 : Int32) = some (sm (fun r => mis f 4 r) 6) := v 6 (by decide)
  have v8 : sX3_value K G (8 : Int32) = some (sm (fun r => trW f 4 r) 6) := v 8 (by decide)
  obtain ⟨a, b, a1, a2, a3, a4⟩ := mis_all hN
  have lt : ¬ sm (fun r => cIn f r) 6 < sm (fun r => mis f 4 r) 6 := by rw [a3, a4]; exact nltI a1 (by omega)
  have rg := (rt_good hN).1
  have L153 : sL_isSound_L153 K G K (sm (fun k => f (6 + 5 * k)) 4) (sm (fun k => f (4 + 5 * k) * kIn f k) 4) (0 : Int32) = some () := by
    refine lpn (N := 6) (P := fun m j => sL_isSound_L153 K G m (sm (fun k => f (6 + 5 * k)) 4) (sm (fun k => f (4 + 5 * k) * kIn f k) 4) (nI j)) ?_ ?_ K 0 (by omega) (by omega)
    · intro n j hj
      show sL_isSound_L153 K G (n + 1) _ _ (nI j) = sL_isSound_L153 K G n _ _ (nI (j + 1))
      obtain ⟨c, c1, c2⟩ := hN.bag hj
      obtain ⟨g0, g1, g2, g3⟩ := hN.gp hj
      obtain ⟨u, u1, u2⟩ := hN.us hj
      have r0 : sX3_rail K G (nI j) (0 : Int32) = some (nI g0) := (o_rail hK hG hj (w := 0) (by decide)).trans (congrArg some g3)
      have r1 : sX3_rail K G (nI j) (1 : Int32) = some (nI u) := (o_rail hK hG hj (w := 1) (by decide)).trans (congrArg some u2)
      have r2 : sX3_rail K G (nI j) (2 : Int32) = some (nI c) := (o_rail hK hG hj (w := 2) (by decide)).trans (congrArg some c2)
      have r3 : sX3_rail K G (nI j) (3 : Int32) = some (f (35 + 5 * j)) := o_rail hK hG hj (w := 3) (by decide)
      have r4 : sX3_rail K G (nI j) (4 : Int32) = some (f (36 + 5 * j)) := o_rail hK hG hj (w := 4) (by decide)
      rw [sL_isSound_L153, if_neg (n6 hj), r2, bind_e, grd_t (decide_eq_true (show ¬ (40 : Int32) < nI c from nltI (a := 40) (b := c) c1 (by decide))), r1, bind_e, grd_t (decide_eq_true (show ¬ (20 : Int32) ≤ nI u from nleI (a := 20) (by omega) (by decide))), r0, bind_e, grd_t (decide_eq_true (show ¬ nI g0 < (900 : Int32) from nltI (b := 900) g1 (by omega))), bind_e, grd_t (decide_eq_true (show ¬ (4100 : Int32) < nI g0 from nltI (a := 4100) g2 (by decide))), r3, bind_e, r4, nI1]
      rcases hw j hj with ⟨x, y⟩ | ⟨x, y⟩
      · rw [if_pos (by rw [x]; decide), bind_e, if_pos (by rw [y]; decide)]
      · rw [if_neg x, bind_e, if_neg y]
    · intro n
      show sL_isSound_L153 K G (n + 1) _ _ (nI 6) = _
      have e1 : sm (fun k => f (6 + 5 * k)) 4 = f 1 := by
        rw [hN.fed]
        exact (sm_zero 6 (by decide) (fun k h1 h2 => hN.fz h1 h2)).symm
      rw [sL_isSound_L153, if_pos y6, v1, bind_e, grd_t (decide_eq_true e1), v8, bind_e, grd_t (decide_eq_true (worth_eq f))]
  have L76 : sL_isSound_L76 K G K (0 : Int32) (0 : Int32) (0 : Int32) = some () := by
    refine lpn (N := 4) (P := fun m j => sL_isSound_L76 K G m (sm (fun k => f (6 + 5 * k)) j) (sm (fun k => f (4 + 5 * k) * kIn f k) j) (nI j)) ?_ ?_ K 0 (by omega) (by omega)
    · intro n j hj
      show sL_isSound_L76 K G (n + 1) _ _ (nI j) = sL_isSound_L76 K G n (sm (fun k => f (6 + 5 * k)) j + f (6 + 5 * j)) (sm (fun k => f (4 + 5 * k) * kIn f k) j + f (4 + 5 * j) * kIn f j) (nI (j + 1))
      obtain ⟨c, hc⟩ := mwN_ex f j
      have k6 : sX3_kind K G (nI j) (6 : Int32) = some (f (6 + 5 * j)) := o_kind hK hG hj (w := 6) (by decide)
      have k1 : sX3_kind K G (nI j) (1 : Int32) = some (f (4 + 5 * j)) := o_kind hK hG hj (w := 1) (by decide)
      have k3 : sX3_kind K G (nI j) (3 : Int32) = some (kIn f j) := o_kind hK hG hj (w := 3) (by decide)
      have sp : ∃ s, sX3_supply K G (nI j) = some s ∧ ¬ (40 : Int32) < s := by
        rcases o_supply hK hG hj (show j < 6 by omega) (hm j hj) with ⟨-, y⟩ | ⟨-, y⟩
        · obtain ⟨d, d1, d2⟩ := hN.bag (show j < 6 by omega)
          refine ⟨_, y, ?_⟩
          rw [d2, show (40 : Int32) - nI d = nI (40 - d) from pk_sub (a := 40) d1]
          exact nltI (a := 40) (by omega) (by decide)
        · exact ⟨0, y, by decide⟩
      obtain ⟨s, s1, s2⟩ := sp
      have mwl : ¬ (999 : Int32) < nI c - 1 := by
        by_cases q : c = 0
        · subst q; decide
        · rw [show nI c - 1 = nI (c - 1) from pk_sub (b := 1) (by omega)]
          have := hc.1
          exact nltI (a := 999) (by omega) (by decide)
      rw [sL_isSound_L76, if_neg (show ¬ (4 : Int32) ≤ nI j from nleI (a := 4) hj (by decide)), k6, bind_e, k1, bind_e, k3, bind_e, s1, bind_e, grd_t (decide_eq_true s2), o_mostWear hK hG hj hc, bind_e, grd_t (decide_eq_true mwl), nI1]
    · intro n
      show sL_isSound_L76 K G (n + 1) _ _ (nI 4) = _
      rw [sL_isSound_L76, if_pos (show (4 : Int32) ≤ nI 4 by decide)]
      exact L153
  unfold sL_isSound
  rw [v1, bind_e, v2, bind_e, v3, bind_e, v4, bind_e, v5, bind_e, grd_t (decide_eq_true (show f 1 = ((sm (fun r => cIn f r) 6 + stR f) + sm (fun k => f (7 + 5 * k)) 6) + f 2 from hc)), v6, bind_e, bind_e, grd_t (decide_eq_true lt), o_rt hK hG, bind_e, grd_t (decide_eq_true (rtG_0 rg)), bind_e, grd_t (decide_eq_true (rtG_1 rg))]
  exact L76
end WO
