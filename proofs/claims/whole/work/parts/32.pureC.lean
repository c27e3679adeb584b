/-! PURE, part C: what the reference reads of its state -/
theorem sm_app (g : Nat → Int32) (a : Nat) : ∀ b, sm g (a + b) = sm g a + sm (fun k => g (a + k)) b
  | 0 => (add0 _).symm
  | b + 1 => by
    show sm g (a + b) + g (a + b) = sm g a + (sm (fun k => g (a + k)) b + g (a + b))
    rw [sm_app g a b, Int32.add_assoc]
theorem sm36 (f : Nat → Int32) : sm (fun j => f (63 + j)) 36 = sm (fun r => cIn f r) 6 := by
  have e : ∀ m, sm (fun j => f (63 + j)) (6 * m) = sm (fun r => cIn f r) m := by
    intro m
    induction m with
    | zero => rfl
    | succ m ih =>
      rw [show 6 * (m + 1) = 6 * m + 6 by omega, sm_app, ih]
      show _ = sm (fun r => cIn f r) m + cIn f m
      unfold cIn
      rw [sm_cong 6 (fun k _ => show f (63 + (6 * m + k)) = f (63 + 6 * m + k) by rw [← Nat.add_assoc])]
  exact e 6
section MR
variable {K : Nat} {M : Nat → Nat → Int32} {n : Nat}
theorem m_bag0 (hK : 4000 ≤ K) (hn : n ≤ 6) (h0 : M 1 0 = nI n) {r : Nat} (hr : r < 6) : sX4_inBag K M (nI r) = some (sm (fun k => M 1 (63 + 6 * r + k)) n) := by
  unfold sX4_inBag
  refine lpn (N := n) (P := fun m j => sX4_inBag_L4 K M (nI r) m (sm (fun k => M 1 (63 + 6 * r + k)) j) (nI j)) ?_ ?_ K 0 (by omega) (by omega)
  · intro m j hj
    show sX4_inBag_L4 K M (nI r) (m + 1) _ (nI j) = _
    rw [sX4_inBag_L4, grd_t i099, t0, h0, if_neg (nleI hj (by omega)), m_countAt, bind_e, grd_i (by omega) (by decide), tnI (by omega), nI1]
    rfl
  · intro m
    show sX4_inBag_L4 K M (nI r) (m + 1) _ (nI n) = _
    rw [sX4_inBag_L4, grd_t i099, t0, h0, if_pos (yleI (Nat.le_refl _) (by omega))]
theorem m_inBag (hK : 4000 ≤ K) (h : SN (M 1) n) {r : Nat} (hr : r < 6) : sX4_inBag K M (nI r) = some (cIn (M 1) r) := by
  rw [m_bag0 hK h.n6 h.k0 hr, h.bagn hr]
theorem m_kIn (hK : 4000 ≤ K) {k : Nat} (hk : k < 6) : sX4_inBags K M (nI k) = some (kIn (M 1) k) := by
  unfold sX4_inBags
  refine lpn (N := 6) (P := fun m j => sX4_inBags_L4 K M (nI k) m (sm (fun r => M 1 (63 + 6 * r + k)) j) (nI j)) ?_ ?_ K 0 (by omega) (by omega)
  · intro m j hj
    show sX4_inBags_L4 K M (nI k) (m + 1) _ (nI j) = _
    rw [sX4_inBags_L4, if_neg (n6 hj), m_countAt, bind_e, grd_i (by omega) (by decide), tnI (by omega), nI1]
    rfl
  · intro m
    show sX4_inBags_L4 K M (nI k) (m + 1) _ (nI 6) = _
    rw [sX4_inBags_L4, if_pos y6]
    rfl
theorem m_stk (hK : 4000 ≤ K) {x : Int32} (hx : ¬ x = -1) : sX4_stuckBy K M x = some (stk (M 1) x) := by
  unfold sX4_stuckBy
  refine lpn (N := 6) (P := fun m j => sX4_stuckBy_L4 K M x m (sm (fun r => if M 1 (35 + 5 * r) = x then 1 else 0) j) (nI j)) ?_ ?_ K 0 (by omega) (by omega)
  · intro m j hj
    show sX4_stuckBy_L4 K M x (m + 1) _ (nI j) = sX4_stuckBy_L4 K M x m (sm (fun r => if M 1 (35 + 5 * r) = x then 1 else 0) j + (if M 1 (35 + 5 * j) = x then 1 else 0)) (nI (j + 1))
    rw [sX4_stuckBy_L4, if_neg (n6 hj), m_sk hj, bind_e, nI1, if_neg hx]
    by_cases e : M 1 (35 + 5 * j) = x
    · rw [if_pos e, if_neg (by rw [e]; exact hx), if_pos e]
    · rw [if_neg e, if_neg e]
      split <;> rfl
  · intro m
    show sX4_stuckBy_L4 K M x (m + 1) _ (nI 6) = _
    rw [sX4_stuckBy_L4, if_pos y6]
    rfl
theorem m_stR (hK : 4000 ≤ K) : sX4_stuckBy K M (-1) = some (stR (M 1)) := by
  unfold sX4_stuckBy
  refine lpn (N := 6) (P := fun m j => sX4_stuckBy_L4 K M (-1) m (sm (fun r => if M 1 (35 + 5 * r) = -1 then 0 else 1) j) (nI j)) ?_ ?_ K 0 (by omega) (by omega)
  · intro m j hj
    show sX4_stuckBy_L4 K M (-1) (m + 1) _ (nI j) = sX4_stuckBy_L4 K M (-1) m (sm (fun r => if M 1 (35 + 5 * r) = -1 then 0 else 1) j + (if M 1 (35 + 5 * j) = -1 then 0 else 1)) (nI (j + 1))
    rw [sX4_stuckBy_L4, if_neg (n6 hj), m_sk hj, bind_e, nI1, if_pos rfl]
    by_cases e : M 1 (35 + 5 * j) = -1
    · rw [if_pos e, if_pos e]
    · rw [if_neg e, if_neg e]
  · intro m
    show sX4_stuckBy_L4 K M (-1) (m + 1) _ (nI 6) = _
    rw [sX4_stuckBy_L4, if_pos y6]
    rfl
theorem m_due (hK : 4000 ≤ K) (hn : n ≤ 6) (h0 : M 1 0 = nI n) (x : Int32) : sX4_due K M x = some (duF (M 1) x 0 n) := by
  unfold sX4_due
  rw [grd_t i099, t0, h0]
  have key : ∀ (j a : Nat) (y : Int32), j ≤ n → j < a → y = nI j - 1 → sX4_due_L11 K M x a (duF (M 1) x j (n - j)) y = some (duF (M 1) x 0 n) := by
    intro j
    induction j with
    | zero =>
      intro a y hj ha ey
      obtain ⟨b, rfl⟩ : ∃ b, a = b + 1 := ⟨a - 1, by omega⟩
      subst ey
      rw [sX4_due_L11, if_pos (by decide)]
      rfl
    | succ j ih =>
      intro a y hj ha ey
      obtain ⟨b, rfl⟩ : ∃ b, a = b + 1 := ⟨a - 1, by omega⟩
      have e1 : y = nI j := by rw [ey]; exact nI_pred j
      subst e1
      rw [sX4_due_L11, if_neg (nI_pos (by omega)), m_hm (by omega), bind_e]
      have e2 : nI j + (-1) = nI j - 1 := by rw [Int32.sub_eq_add_neg]
      have e3 : duF (M 1) x j (n - j) = if M 1 (5 + 5 * j) = x then nI j else duF (M 1) x (j + 1) (n - (j + 1)) := by
        rw [show n - j = (n - (j + 1)) + 1 by omega]
        rfl
      have e4 := ih b (nI j + (-1)) (by omega) (by omega) e2
      rw [e3] at e4
      by_cases e : M 1 (5 + 5 * j) = x
      · rw [if_pos e] at e4 ⊢; exact e4
      · rw [if_neg e] at e4 ⊢; exact e4
  have e := key n K (nI n - 1) (Nat.le_refl _) (by omega) rfl
  rw [Nat.sub_self] at e
  exact e
theorem m_spW (hK : 4000 ≤ K) (h : SN (M 1) n) {r : Nat} (hr : r < 6) : sX4_taken K M (nI r) = some (spW (M 1) n r) := by
  unfold sX4_taken spW
  rw [m_due hK h.n6 h.k0, bind_e]
  by_cases e : duF (M 1) (nI r) 0 n = -1
  · rw [if_pos e, if_pos e]
  · rw [if_neg e, if_neg e, m_inBag hK h hr, bind_e]
    have hn := h.n6
    rcases duF_of (M 1) (nI r) n 0 with z | ⟨k, -, h2, h3, -⟩
    · exact absurd z e
    · rw [h3, m_vl (by omega), bind_e, tnI (by omega)]
theorem m_trW (hK : 4000 ≤ K) (hn : n ≤ 6) (h0 : M 1 0 = nI n) {r : Nat} (hr : r < 6) : sX4_worth K M (nI r) = some (trW (M 1) n r) := by
  unfold sX4_worth
  refine lpn (N := n) (P := fun m j => sX4_worth_L4 K M (nI r) m (sm (fun k => M 1 (63 + 6 * r + k) * M 1 (4 + 5 * k)) j) (nI j)) ?_ ?_ K 0 (by omega) (by omega)
  · intro m j hj
    show sX4_worth_L4 K M (nI r) (m + 1) _ (nI j) = _
    rw [sX4_worth_L4, grd_t i099, t0, h0, if_neg (nleI hj (by omega)), m_countAt, bind_e, grd_i (by omega) (by decide), tnI (by omega), m_vl (by omega), bind_e, nI1]
    rfl
  · intro m
    show sX4_worth_L4 K M (nI r) (m + 1) _ (nI n) = _
    rw [sX4_worth_L4, grd_t i099, t0, h0, if_pos (yleI (Nat.le_refl _) (by omega))]
    rfl
theorem m_mis (hK : 4000 ≤ K) (hn : n ≤ 6) (h0 : M 1 0 = nI n) {r : Nat} (hr : r < 6) : sX4_misfits K M (nI r) = some (mis (M 1) n r) := by
  unfold sX4_misfits
  refine lpn (N := n) (P := fun m j => sX4_misfits_L4 K M (nI r) m (sm (fun k => if M 1 (5 + 5 * k) = nI r then 0 else M 1 (63 + 6 * r + k)) j) (nI j)) ?_ ?_ K 0 (by omega) (by omega)
  · intro m j hj
    show sX4_misfits_L4 K M (nI r) (m + 1) _ (nI j) = sX4_misfits_L4 K M (nI r) m (sm (fun k => if M 1 (5 + 5 * k) = nI r then 0 else M 1 (63 + 6 * r + k)) j + (if M 1 (5 + 5 * j) = nI r then 0 else M 1 (63 + 6 * r + j))) (nI (j + 1))
    rw [sX4_misfits_L4, grd_t i099, t0, h0, if_neg (nleI hj (by omega)), m_hm (by omega), bind_e, nI1]
    by_cases e : M 1 (5 + 5 * j) = nI r
    · rw [if_pos e, if_pos e]
    · rw [if_neg e, if_neg e, m_countAt, bind_e, grd_i (by omega) (by decide), tnI (by omega)]
  · intro m
    show sX4_misfits_L4 K M (nI r) (m + 1) _ (nI n) = _
    rw [sX4_misfits_L4, grd_t i099, t0, h0, if_pos (yleI (Nat.le_refl _) (by omega))]
    rfl
theorem m_rej (hK : 4000 ≤ K) (h : SN (M 1) n) : sX4_rejects K M = some (sm (fun k => M 1 (7 + 5 * k)) 6) := by
  have hn := h.n6
  have h0 := h.k0
  rw [h.rej]
  unfold sX4_rejects
  refine lpn (N := n) (P := fun m j => sX4_rejects_L4 K M m (sm (fun k => M 1 (7 + 5 * k)) j) (nI j)) ?_ ?_ K 0 (by omega) (by omega)
  · intro m j hj
    show sX4_rejects_L4 K M (m + 1) _ (nI j) = _
    rw [sX4_rejects_L4, grd_t i099, t0, h0, if_neg (nleI hj (by omega)), m_rj (by omega), bind_e, nI1]
    rfl
  · intro m
    show sX4_rejects_L4 K M (m + 1) _ (nI n) = _
    rw [sX4_rejects_L4, grd_t i099, t0, h0, if_pos (yleI (Nat.le_refl _) (by omega))]

/-- what kind(), rail(), value() answer -/
def abK (f : Nat → Int32) (k w : Nat) : Int32 := match w with
  | 0 => f (3 + 5 * k)
  | 1 => f (4 + 5 * k)
  | 2 => f (5 + 5 * k)
  | 3 => kIn f k
  | 4 => stk f (nI k)
  | 5 => f (7 + 5 * k)
  | _ => f (6 + 5 * k)
def abR (f : Nat → Int32) (n r w : Nat) : Int32 := match w with
  | 0 => f (33 + 5 * r)
  | 1 => f (34 + 5 * r)
  | 2 => cIn f r
  | 3 => f (35 + 5 * r)
  | 4 => f (36 + 5 * r)
  | 5 => spW f n r
  | 6 => trW f n r
  | 7 => mis f n r
  | 8 => duF f (nI r) 0 n
  | _ => f (37 + 5 * r)
def abA (f : Nat → Int32) (n w : Nat) : Int32 := match w with
  | 0 => f 0
  | 1 => f 1
  | 2 => sm (fun r => cIn f r) 6
  | 3 => stR f
  | 4 => sm (fun k => f (7 + 5 * k)) 6
  | 5 => f 2
  | 6 => sm (fun r => mis f n r) 6
  | 7 => sm (fun r => spW f n r) 6
  | 8 => sm (fun r => trW f n r) 6
  | _ => sm (fun r => if cIn f r < 40 then 0 else 1) 6
theorem m_kindOf (hK : 4000 ≤ K) {k : Nat} (hk : k < 6) {w : Nat} (hw : w < 7) : sX4_kindOf K M (nI k) (nI w) = some (abK (M 1) k w) := by
  have hc : w = 0 ∨ w = 1 ∨ w = 2 ∨ w = 3 ∨ w = 4 ∨ w = 5 ∨ w = 6 := by omega
  unfold sX4_kindOf
  rcases hc with rfl | rfl | rfl | rfl | rfl | rfl | rfl
  · rw [if_neg (by decide), if_neg (by decide), if_neg (by decide), if_neg (by decide), show sX4_ofKind K M (nI k) (nI 0) = _ from m_dm hk, bind_e]
    rfl
  · rw [if_neg (by decide), if_neg (by decide), if_neg (by decide), if_neg (by decide), show sX4_ofKind K M (nI k) (nI 1) = _ from m_vl hk, bind_e]
    rfl
  · rw [if_neg (by decide), if_neg (by decide), if_neg (by decide), if_neg (by decide), show sX4_ofKind K M (nI k) (nI 2) = _ from m_hm hk, bind_e]
    rfl
  · rw [if_pos (by decide), m_kIn hK hk, bind_e]
    rfl
  · rw [if_neg (by decide), if_pos (by decide), m_stk hK (m1ne (by omega)), bind_e]
    rfl
  · rw [if_neg (by decide), if_neg (by decide), if_pos (by decide), m_rj hk, bind_e]
    rfl
  · rw [if_neg (by decide), if_neg (by decide), if_neg (by decide), if_pos (by decide), m_fd hk, bind_e]
    rfl
theorem m_railOf (hK : 4000 ≤ K) (h : SN (M 1) n) {r : Nat} (hr : r < 6) {w : Nat} (hw : w < 10) : sX4_railOf K M (nI r) (nI w) = some (abR (M 1) n r w) := by
  have hc : w = 0 ∨ w = 1 ∨ w = 2 ∨ w = 3 ∨ w = 4 ∨ w = 5 ∨ w = 6 ∨ w = 7 ∨ w = 8 ∨ w = 9 := by omega
  unfold sX4_railOf
  rcases hc with rfl | rfl | rfl | rfl | rfl | rfl | rfl | rfl | rfl | rfl
  · rw [if_neg (by decide), if_neg (by decide), if_neg (by decide), if_neg (by decide), if_neg (by decide), if_neg (by decide), if_neg (by decide), if_neg (by decide), show sX4_ofRail K M (nI r) (nI 0) = _ from m_gp hr, bind_e]
    rfl
  · rw [if_neg (by decide), if_neg (by decide), if_neg (by decide), if_neg (by decide), if_neg (by decide), if_neg (by decide), if_neg (by decide), if_neg (by decide), show sX4_ofRail K M (nI r) (nI 1) = _ from m_us hr, bind_e]
    rfl
  · rw [if_pos (by decide), m_inBag hK h hr, bind_e]
    rfl
  · rw [if_neg (by decide), if_pos (by decide), m_sk hr, bind_e]
    rfl
  · rw [if_neg (by decide), if_neg (by decide), if_pos (by decide), m_sw hr, bind_e]
    rfl
  · rw [if_neg (by decide), if_neg (by decide), if_neg (by decide), if_pos (by decide), m_spW hK h hr, bind_e]
    rfl
  · rw [if_neg (by decide), if_neg (by decide), if_neg (by decide), if_neg (by decide), if_pos (by decide), m_trW hK h.n6 h.k0 hr, bind_e]
    rfl
  · rw [if_neg (by decide), if_neg (by decide), if_neg (by decide), if_neg (by decide), if_neg (by decide), if_pos (by decide), m_mis hK h.n6 h.k0 hr, bind_e]
    rfl
  · rw [if_neg (by decide), if_neg (by decide), if_neg (by decide), if_neg (by decide), if_neg (by decide), if_neg (by decide), if_pos (by decide), m_due hK h.n6 h.k0, bind_e]
    rfl
  · rw [if_neg (by decide), if_neg (by decide), if_neg (by decide), if_neg (by decide), if_neg (by decide), if_neg (by decide), if_neg (by decide), if_pos (by decide), m_ro hr, bind_e]
    rfl
theorem m_sumOf (hK : 4000 ≤ K) (h : SN (M 1) n) {w : Nat} (hw : w < 9) : sX4_sumOf K M (nI w) = some (sm (fun r => abR (M 1) n r w) 6) := by
  unfold sX4_sumOf
  refine lpn (N := 6) (P := fun m j => sX4_sumOf_L4 K M (nI w) m (sm (fun r => abR (M 1) n r w) j) (nI j)) ?_ ?_ K 0 (by omega) (by omega)
  · intro m j hj
    show sX4_sumOf_L4 K M (nI w) (m + 1) _ (nI j) = _
    rw [sX4_sumOf_L4, if_neg (n6 hj), if_neg (show ¬ nI w = (9 : Int32) from neI (b := 9) (by omega) (by omega) (by decide)), m_railOf hK h hj (by omega), bind_e, nI1]
    rfl
  · intro m
    show sX4_sumOf_L4 K M (nI w) (m + 1) _ (nI 6) = _
    rw [sX4_sumOf_L4, if_pos y6]
theorem m_sumOf9 (hK : 4000 ≤ K) (h : SN (M 1) n) : sX4_sumOf K M (9 : Int32) = some (sm (fun r => if cIn (M 1) r < 40 then 0 else 1) 6) := by
  unfold sX4_sumOf
  refine lpn (N := 6) (P := fun m j => sX4_sumOf_L4 K M (9 : Int32) m (sm (fun r => if cIn (M 1) r < 40 then 0 else 1) j) (nI j)) ?_ ?_ K 0 (by omega) (by omega)
  · intro m j hj
    show sX4_sumOf_L4 K M (9 : Int32) (m + 1) _ (nI j) = sX4_sumOf_L4 K M (9 : Int32) m (sm (fun r => if cIn (M 1) r < 40 then 0 else 1) j + (if cIn (M 1) j < 40 then 0 else 1)) (nI (j + 1))
    rw [sX4_sumOf_L4, if_neg (n6 hj), if_pos rfl, m_inBag hK h hj, bind_e, nI1]
    by_cases e : cIn (M 1) j < 40
    · rw [if_pos e, if_neg (fun z => (h.full hj).mp z e)]
    · rw [if_neg e, if_pos ((h.full hj).mpr e)]
  · intro m
    show sX4_sumOf_L4 K M (9 : Int32) (m + 1) _ (nI 6) = _
    rw [sX4_sumOf_L4, if_pos y6]
theorem m_valueOf (hK : 4000 ≤ K) (h : SN (M 1) n) {w : Nat} (hw : w < 10) : sX4_valueOf K M (nI w) = some (abA (M 1) n w) := by
  have hc : w = 0 ∨ w = 1 ∨ w = 2 ∨ w = 3 ∨ w = 4 ∨ w = 5 ∨ w = 6 ∨ w = 7 ∨ w = 8 ∨ w = 9 := by omega
  unfold sX4_valueOf
  rcases hc with rfl | rfl | rfl | rfl | rfl | rfl | rfl | rfl | rfl | rfl
  · rw [if_pos (by decide), grd_t i099, t0]
    rfl
  · rw [if_neg (by decide), if_pos (by decide), grd_t i199, t1]
    rfl
  · rw [if_neg (by decide), if_neg (by decide), if_pos (by decide), show sX4_sumOf K M (2 : Int32) = _ from m_sumOf hK h (w := 2) (by decide), bind_e]
    rfl
  · rw [if_neg (by decide), if_neg (by decide), if_neg (by decide), if_pos (by decide), m_stR hK, bind_e]
    rfl
  · rw [if_neg (by decide), if_neg (by decide), if_neg (by decide), if_neg (by decide), if_pos (by decide), m_rej hK h, bind_e]
    rfl
  · rw [if_neg (by decide), if_neg (by decide), if_neg (by decide), if_neg (by decide), if_neg (by decide), if_pos (by decide), grd_t i299, t2]
    rfl
  · rw [if_neg (by decide), if_neg (by decide), if_neg (by decide), if_neg (by decide), if_neg (by decide), if_neg (by decide), if_pos (by decide), show sX4_sumOf K M (7 : Int32) = _ from m_sumOf hK h (w := 7) (by decide), bind_e]
    rfl
  · rw [if_neg (by decide), if_neg (by decide), if_neg (by decide), if_neg (by decide), if_neg (by decide), if_neg (by decide), if_neg (by decide), if_pos (by decide), show sX4_sumOf K M (5 : Int32) = _ from m_sumOf hK h (w := 5) (by decide), bind_e]
    rfl
  · rw [if_neg (by decide), if_neg (by decide), if_neg (by decide), if_neg (by decide), if_neg (by decide), if_neg (by decide), if_neg (by decide), if_neg (by decide), if_pos (by decide), show sX4_sumOf K M (6 : Int32) = _ from m_sumOf hK h (w := 6) (by decide), bind_e]
    rfl
  · rw [if_neg (by decide), if_neg (by decide), if_neg (by decide), if_neg (by decide), if_neg (by decide), if_neg (by decide), if_neg (by decide), if_neg (by decide), if_neg (by decide), m_sumOf9 hK h, bind_e]
    rfl
end MR
section CR
variable {K : Nat} {G : Nat → Nat → Int32} {f : Nat → Int32} {n : Nat}
theorem c_abK (hK : 4000 ≤ K) (h : SR G 1 f) {k : Nat} (hk : k < 6) {w : Nat} (hw : w < 7) : sX2_aboutKind K G (nI k) (nI w) = some (abK f k w) := by
  have hc : w = 0 ∨ w = 1 ∨ w = 2 ∨ w = 3 ∨ w = 4 ∨ w = 5 ∨ w = 6 := by omega
  unfold sX2_aboutKind
  rcases hc with rfl | rfl | rfl | rfl | rfl | rfl | rfl
  · rw [if_pos (by decide), grd_i hk (by decide), tnI (by omega), h.dm hk]
    rfl
  · rw [if_neg (by decide), if_pos (by decide), grd_i hk (by decide), tnI (by omega), h.vl hk]
    rfl
  · rw [if_neg (by decide), if_neg (by decide), if_pos (by decide), grd_i hk (by decide), tnI (by omega), h.hm hk]
    rfl
  · rw [if_neg (by decide), if_neg (by decide), if_neg (by decide), if_pos (by decide), c_kIn hK h hk, bind_e]
    rfl
  · rw [if_neg (by decide), if_neg (by decide), if_neg (by decide), if_neg (by decide), if_pos (by decide), c_stk hK h, bind_e]
    rfl
  · rw [if_neg (by decide), if_neg (by decide), if_neg (by decide), if_neg (by decide), if_neg (by decide), if_pos (by decide), grd_i hk (by decide), tnI (by omega), h.rj hk]
    rfl
  · rw [if_neg (by decide), if_neg (by decide), if_neg (by decide), if_neg (by decide), if_neg (by decide), if_neg (by decide), grd_i hk (by decide), tnI (by omega), h.fd hk]
    rfl
theorem c_abR (hK : 4000 ≤ K) (h : SR G 1 f) (hn : n ≤ 6) (h0 : f 0 = nI n) {r : Nat} (hr : r < 6) {w : Nat} (hw : w < 10) : sX2_aboutRail K G (nI r) (nI w) = some (abR f n r w) := by
  have hc : w = 0 ∨ w = 1 ∨ w = 2 ∨ w = 3 ∨ w = 4 ∨ w = 5 ∨ w = 6 ∨ w = 7 ∨ w = 8 ∨ w = 9 := by omega
  unfold sX2_aboutRail
  rcases hc with rfl | rfl | rfl | rfl | rfl | rfl | rfl | rfl | rfl | rfl
  · rw [if_pos (by decide), grd_i hr (by decide), tnI (by omega), h.gp hr]
    rfl
  · rw [if_neg (by decide), if_pos (by decide), grd_i hr (by decide), tnI (by omega), h.us hr]
    rfl
  · rw [if_neg (by decide), if_neg (by decide), if_pos (by decide), c_coinsIn hK h hr, bind_e]
    rfl
  · rw [if_neg (by decide), if_neg (by decide), if_neg (by decide), if_pos (by decide), grd_i hr (by decide), tnI (by omega), h.sk hr]
    rfl
  · rw [if_neg (by decide), if_neg (by decide), if_neg (by decide), if_neg (by decide), if_pos (by decide), grd_i hr (by decide), tnI (by omega), h.sw hr]
    rfl
  · rw [if_neg (by decide), if_neg (by decide), if_neg (by decide), if_neg (by decide), if_neg (by decide), if_pos (by decide), c_spW hK h hn h0 hr, bind_e]
    rfl
  · rw [if_neg (by decide), if_neg (by decide), if_neg (by decide), if_neg (by decide), if_neg (by decide), if_neg (by decide), if_pos (by decide), c_trW hK h hn h0 hr, bind_e]
    rfl
  · rw [if_neg (by decide), if_neg (by decide), if_neg (by decide), if_neg (by decide), if_neg (by decide), if_neg (by decide), if_neg (by decide), if_pos (by decide), c_mis hK h hn h0 hr, bind_e]
    rfl
  · rw [if_neg (by decide), if_neg (by decide), if_neg (by decide), if_neg (by decide), if_neg (by decide), if_neg (by decide), if_neg (by decide), if_neg (by decide), if_pos (by decide), c_due hK h hn h0, bind_e]
    rfl
  · rw [if_neg (by decide), if_neg (by decide), if_neg (by decide), if_neg (by decide), if_neg (by decide), if_neg (by decide), if_neg (by decide), if_neg (by decide), if_neg (by decide), grd_i hr (by decide), tnI (by omega), h.ro hr]
    rfl
theorem c_abA (hK : 4000 ≤ K) (h : SR G 1 f) (hS : SN f n) {w : Nat} (hw : w < 10) : sX2_aboutAll K G (nI w) = some (abA f n w) := by
  have hc : w = 0 ∨ w = 1 ∨ w = 2 ∨ w = 3 ∨ w = 4 ∨ w = 5 ∨ w = 6 ∨ w = 7 ∨ w = 8 ∨ w = 9 := by omega
  unfold sX2_aboutAll
  rcases hc with rfl | rfl | rfl | rfl | rfl | rfl | rfl | rfl | rfl | rfl
  · rw [if_pos (by decide), h.kinds]
    rfl
  · rw [if_neg (by decide), if_pos (by decide), c_sum6 hK 5 (by decide), bind_e, sm_cong 6 (fun k hk => h.fd hk), ← hS.fed]
    rfl
  · rw [if_neg (by decide), if_neg (by decide), if_pos (by decide), c_bagsA hK h, bind_e, sm36]
    rfl
  · rw [if_neg (by decide), if_neg (by decide), if_neg (by decide), if_pos (by decide), c_stR hK h, bind_e]
    rfl
  · rw [if_neg (by decide), if_neg (by decide), if_neg (by decide), if_neg (by decide), if_pos (by decide), c_sum6 hK 6 (by decide), bind_e, sm_cong 6 (fun k hk => h.rj hk)]
    rfl
  · rw [if_neg (by decide), if_neg (by decide), if_neg (by decide), if_neg (by decide), if_neg (by decide), if_pos (by decide), h.taken]
    rfl
  · rw [if_neg (by decide), if_neg (by decide), if_neg (by decide), if_neg (by decide), if_neg (by decide), if_neg (by decide), if_pos (by decide), c_misA hK h hS.n6 hS.k0, bind_e]
    rfl
  · rw [if_neg (by decide), if_neg (by decide), if_neg (by decide), if_neg (by decide), if_neg (by decide), if_neg (by decide), if_neg (by decide), if_pos (by decide), c_spWA hK h hS.n6 hS.k0, bind_e]
    rfl
  · rw [if_neg (by decide), if_neg (by decide), if_neg (by decide), if_neg (by decide), if_neg (by decide), if_neg (by decide), if_neg (by decide), if_neg (by decide), if_pos (by decide), c_trWA hK h hS.n6 hS.k0, bind_e]
    rfl
  · rw [if_neg (by decide), if_neg (by decide), if_neg (by decide), if_neg (by decide), if_neg (by decide), if_neg (by decide), if_neg (by decide), if_neg (by decide), if_neg (by decide), c_fulA hK h, bind_e]
    rfl
end CR
