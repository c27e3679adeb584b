/-! PURE, part B: what is read of a state: the class by SR, the reference by its own vector f = M 1 -/
theorem i099 : inb (0 : Int32) 99 = true := by decide
theorem i199 : inb (1 : Int32) 99 = true := by decide
theorem i299 : inb (2 : Int32) 99 = true := by decide
theorem t0 : (0 : Int32).toNatClampNeg = 0 := by decide
theorem t1 : (1 : Int32).toNatClampNeg = 1 := by decide
theorem t2 : (2 : Int32).toNatClampNeg = 2 := by decide
theorem nI0' : (0 : Int32) = nI 0 := rfl
section MI
variable {K : Nat} {M : Nat → Nat → Int32}
end MI
/-- coins of a kind in all bags; rails that are stuck by x; rails that are stuck -/
def kIn (f : Nat → Int32) (k : Nat) : Int32 := sm (fun r => f (63 + 6 * r + k)) 6
def stk (f : Nat → Int32) (x : Int32) : Int32 := sm (fun r => if f (35 + 5 * r) = x then 1 else 0) 6
def stR (f : Nat → Int32) : Int32 := sm (fun r => if f (35 + 5 * r) = -1 then 0 else 1) 6
/-- the lowest kind of home x, from i on, m kinds -/
def duF (f : Nat → Int32) (x : Int32) : Nat → Nat → Int32
  | _, 0 => -1
  | i, m + 1 => if f (5 + 5 * i) = x then nI i else duF f x (i + 1) m
def spW (f : Nat → Int32) (n r : Nat) : Int32 := if duF f (nI r) 0 n = -1 then 0 else cIn f r * f (4 + 5 * (duF f (nI r) 0 n).toNatClampNeg)
def trW (f : Nat → Int32) (n r : Nat) : Int32 := sm (fun k => f (63 + 6 * r + k) * f (4 + 5 * k)) n
def mis (f : Nat → Int32) (n r : Nat) : Int32 := sm (fun k => if f (5 + 5 * k) = nI r then 0 else f (63 + 6 * r + k)) n
def ful (f : Nat → Int32) (r : Nat) : Prop := ¬ cIn f r < 40
theorem duF_of (f : Nat → Int32) (x : Int32) : ∀ (m i : Nat), duF f x i m = -1 ∨ ∃ k, i ≤ k ∧ k < i + m ∧ duF f x i m = nI k ∧ f (5 + 5 * k) = x
  | 0, i => Or.inl rfl
  | m + 1, i => by
    by_cases h : f (5 + 5 * i) = x
    · exact Or.inr ⟨i, Nat.le_refl _, by omega, if_pos h, h⟩
    · have e : duF f x i (m + 1) = duF f x (i + 1) m := if_neg h
      rw [e]
      rcases duF_of f x m (i + 1) with z | ⟨k, h1, h2, h3, h4⟩
      · exact Or.inl z
      · exact Or.inr ⟨k, by omega, by omega, h3, h4⟩
section CR
variable {K : Nat} {G : Nat → Nat → Int32} {f : Nat → Int32}
theorem c_sum6 (hK : 4000 ≤ K) (p : Nat) {N : Nat} (hN : N < 2000) : sX2_sum K G p N = some (sm (G p) N) := by
  unfold sX2_sum
  refine lpn (N := N) (P := fun m j => sX2_sum_L10 K G p N m (sm (G p) j) (nI N) (nI j)) ?_ ?_ K 0 (by omega) (by omega)
  · intro n j hj
    show sX2_sum_L10 K G p N (n + 1) _ (nI N) (nI j) = _
    rw [sX2_sum_L10, if_neg (nleI hj (by omega)), grd_i hj (by omega), tnI (by omega), nI1]
    rfl
  · intro n
    show sX2_sum_L10 K G p N (n + 1) _ (nI N) (nI N) = _
    rw [sX2_sum_L10, if_pos (yleI (Nat.le_refl _) (by omega))]
theorem c_isStuck (h : SR G 1 f) {r : Nat} (hr : r < 6) : sX2_isStuck K G (nI r) = some (if f (35 + 5 * r) = -1 then 0 else 1) := by
  unfold sX2_isStuck
  rw [grd_i hr (by decide), tnI (by omega), h.sk hr]
  split <;> rfl
theorem c_isFull (hK : 4000 ≤ K) (h : SR G 1 f) {r : Nat} (hr : r < 6) : sX2_isFull K G (nI r) = some (if cIn f r < 40 then 0 else 1) := by
  unfold sX2_isFull
  rw [c_coinsIn hK h hr, bind_e]
  split <;> rfl
theorem c_ofKind (h : SR G 1 f) {r k : Nat} (hr : r < 6) (hk : k < 6) : sX2_coinsOfKind K G (nI r) (nI k) = some (f (63 + 6 * r + k)) := by
  unfold sX2_coinsOfKind
  rw [ix6, grd_i (by omega) (by decide), tnI (by omega), h.bg (by omega), ← Nat.add_assoc]
theorem c_kIn (hK : 4000 ≤ K) (h : SR G 1 f) {k : Nat} (hk : k < 6) : sX2_coinsOfKindInBags K G (nI k) = some (kIn f k) := by
  unfold sX2_coinsOfKindInBags
  refine lpn (N := 6) (P := fun m j => sX2_coinsOfKindInBags_L4 K G (nI k) m (sm (fun r => f (63 + 6 * r + k)) j) (nI j)) ?_ ?_ K 0 (by omega) (by omega)
  · intro n j hj
    show sX2_coinsOfKindInBags_L4 K G (nI k) (n + 1) _ (nI j) = _
    rw [sX2_coinsOfKindInBags_L4, if_neg (n6 hj), c_ofKind h hj hk, bind_e, nI1]
    rfl
  · intro n
    show sX2_coinsOfKindInBags_L4 K G (nI k) (n + 1) _ (nI 6) = _
    rw [sX2_coinsOfKindInBags_L4, if_pos y6]
    rfl
theorem c_stk (hK : 4000 ≤ K) (h : SR G 1 f) (x : Int32) : sX2_stuckOfKind K G x = some (stk f x) := by
  unfold sX2_stuckOfKind
  refine lpn (N := 6) (P := fun m j => sX2_stuckOfKind_L4 K G x m (sm (fun r => if f (35 + 5 * r) = x then 1 else 0) j) (nI j)) ?_ ?_ K 0 (by omega) (by omega)
  · intro n j hj
    show sX2_stuckOfKind_L4 K G x (n + 1) _ (nI j) = _
    rw [sX2_stuckOfKind_L4, if_neg (n6 hj), grd_i hj (by decide), tnI (by omega), h.sk hj, nI1]
    by_cases e : f (35 + 5 * j) = x
    · rw [if_pos e]
      show _ = sX2_stuckOfKind_L4 K G x n (sm (fun r => if f (35 + 5 * r) = x then 1 else 0) j + (if f (35 + 5 * j) = x then 1 else 0)) _
      rw [if_pos e]
    · rw [if_neg e]
      show _ = sX2_stuckOfKind_L4 K G x n (sm (fun r => if f (35 + 5 * r) = x then 1 else 0) j + (if f (35 + 5 * j) = x then 1 else 0)) _
      rw [if_neg e, add0]
  · intro n
    show sX2_stuckOfKind_L4 K G x (n + 1) _ (nI 6) = _
    rw [sX2_stuckOfKind_L4, if_pos y6]
    rfl
theorem c_stR (hK : 4000 ≤ K) (h : SR G 1 f) : sX2_stuckRails K G = some (stR f) := by
  unfold sX2_stuckRails
  refine lpn (N := 6) (P := fun m j => sX2_stuckRails_L4 K G m (sm (fun r => if f (35 + 5 * r) = -1 then 0 else 1) j) (nI j)) ?_ ?_ K 0 (by omega) (by omega)
  · intro n j hj
    show sX2_stuckRails_L4 K G (n + 1) _ (nI j) = _
    rw [sX2_stuckRails_L4, if_neg (n6 hj), c_isStuck h hj, bind_e, nI1]
    show _ = sX2_stuckRails_L4 K G n (sm (fun r => if f (35 + 5 * r) = -1 then 0 else 1) j + (if f (35 + 5 * j) = -1 then 0 else 1)) _
    by_cases e : f (35 + 5 * j) = -1
    · rw [if_pos e, if_pos rfl, add0]
    · rw [if_neg e, if_neg (by decide)]
  · intro n
    show sX2_stuckRails_L4 K G (n + 1) _ (nI 6) = _
    rw [sX2_stuckRails_L4, if_pos y6]
    rfl
theorem c_due (hK : 4000 ≤ K) (h : SR G 1 f) {n : Nat} (hn : n ≤ 6) (h0 : f 0 = nI n) (x : Int32) : sX2_kindOfRail K G x = some (duF f x 0 n) := by
  unfold sX2_kindOfRail
  have key : ∀ (m i a : Nat), i + m = n → m < a → sX2_kindOfRail_L2 K G x a (nI i) = some (duF f x i m) := by
    intro m
    induction m with
    | zero =>
      intro i a hi ha
      obtain ⟨b, rfl⟩ : ∃ b, a = b + 1 := ⟨a - 1, by omega⟩
      rw [sX2_kindOfRail_L2, h.kinds, h0, if_pos (yleI (by omega) (by omega))]
      rfl
    | succ m ih =>
      intro i a hi ha
      obtain ⟨b, rfl⟩ : ∃ b, a = b + 1 := ⟨a - 1, by omega⟩
      rw [sX2_kindOfRail_L2, h.kinds, h0, if_neg (nleI (by omega) (by omega)), grd_i (by omega) (by decide), tnI (by omega), h.hm (by omega), nI1]
      by_cases e : f (5 + 5 * i) = x
      · rw [if_pos e]
        exact congrArg some (if_pos e).symm
      · rw [if_neg e, ih (i + 1) b (by omega) (by omega)]
        exact congrArg some (if_neg e).symm
  exact key n 0 K (by omega) (by omega)
theorem c_spW (hK : 4000 ≤ K) (h : SR G 1 f) {n : Nat} (hn : n ≤ 6) (h0 : f 0 = nI n) {r : Nat} (hr : r < 6) : sX2_supposedWorth K G (nI r) = some (spW f n r) := by
  unfold sX2_supposedWorth spW
  rw [c_due hK h hn h0, bind_e]
  by_cases e : duF f (nI r) 0 n = -1
  · rw [if_pos e, if_pos e]
  · rw [if_neg e, if_neg e, c_coinsIn hK h hr, bind_e]
    rcases duF_of f (nI r) n 0 with z | ⟨k, -, h2, h3, -⟩
    · exact absurd z e
    · rw [h3, grd_i (by omega) (by decide), tnI (by omega), h.vl (by omega)]
theorem c_trW (hK : 4000 ≤ K) (h : SR G 1 f) {n : Nat} (hn : n ≤ 6) (h0 : f 0 = nI n) {r : Nat} (hr : r < 6) : sX2_trueWorth K G (nI r) = some (trW f n r) := by
  unfold sX2_trueWorth
  refine lpn (N := n) (P := fun m j => sX2_trueWorth_L4 K G (nI r) m (sm (fun k => f (63 + 6 * r + k) * f (4 + 5 * k)) j) (nI j)) ?_ ?_ K 0 (by omega) (by omega)
  · intro m j hj
    show sX2_trueWorth_L4 K G (nI r) (m + 1) _ (nI j) = _
    rw [sX2_trueWorth_L4, h.kinds, h0, if_neg (nleI hj (by omega)), c_ofKind h hr (by omega), bind_e, grd_i (by omega) (by decide), tnI (by omega), h.vl (by omega), nI1]
    rfl
  · intro m
    show sX2_trueWorth_L4 K G (nI r) (m + 1) _ (nI n) = _
    rw [sX2_trueWorth_L4, h.kinds, h0, if_pos (yleI (Nat.le_refl _) (by omega))]
    rfl
theorem c_mis (hK : 4000 ≤ K) (h : SR G 1 f) {n : Nat} (hn : n ≤ 6) (h0 : f 0 = nI n) {r : Nat} (hr : r < 6) : sX2_misfitsIn K G (nI r) = some (mis f n r) := by
  unfold sX2_misfitsIn
  refine lpn (N := n) (P := fun m j => sX2_misfitsIn_L4 K G (nI r) m (sm (fun k => if f (5 + 5 * k) = nI r then 0 else f (63 + 6 * r + k)) j) (nI j)) ?_ ?_ K 0 (by omega) (by omega)
  · intro m j hj
    show sX2_misfitsIn_L4 K G (nI r) (m + 1) _ (nI j) = sX2_misfitsIn_L4 K G (nI r) m (sm (fun k => if f (5 + 5 * k) = nI r then 0 else f (63 + 6 * r + k)) j + (if f (5 + 5 * j) = nI r then 0 else f (63 + 6 * r + j))) (nI (j + 1))
    rw [sX2_misfitsIn_L4, h.kinds, h0, if_neg (nleI hj (by omega)), grd_i (by omega) (by decide), tnI (by omega), h.hm (by omega), nI1]
    by_cases e : f (5 + 5 * j) = nI r
    · rw [if_pos e, if_pos e, add0]
    · rw [if_neg e, if_neg e, c_ofKind h hr (by omega), bind_e]
  · intro m
    show sX2_misfitsIn_L4 K G (nI r) (m + 1) _ (nI n) = _
    rw [sX2_misfitsIn_L4, h.kinds, h0, if_pos (yleI (Nat.le_refl _) (by omega))]
    rfl

theorem c_misA (hK : 4000 ≤ K) (h : SR G 1 f) {n : Nat} (hn : n ≤ 6) (h0 : f 0 = nI n) : sX2_misfits K G = some (sm (fun r => mis f n r) 6) := by
  unfold sX2_misfits
  refine lpn (N := 6) (P := fun m j => sX2_misfits_L4 K G m (sm (fun r => mis f n r) j) (nI j)) ?_ ?_ K 0 (by omega) (by omega)
  · intro m j hj
    show sX2_misfits_L4 K G (m + 1) _ (nI j) = _
    rw [sX2_misfits_L4, if_neg (n6 hj), c_mis hK h hn h0 hj, bind_e, nI1]
    rfl
  · intro m
    show sX2_misfits_L4 K G (m + 1) _ (nI 6) = _
    rw [sX2_misfits_L4, if_pos y6]
theorem c_spWA (hK : 4000 ≤ K) (h : SR G 1 f) {n : Nat} (hn : n ≤ 6) (h0 : f 0 = nI n) : sX2_supposedWorthOfAll K G = some (sm (fun r => spW f n r) 6) := by
  unfold sX2_supposedWorthOfAll
  refine lpn (N := 6) (P := fun m j => sX2_supposedWorthOfAll_L4 K G m (sm (fun r => spW f n r) j) (nI j)) ?_ ?_ K 0 (by omega) (by omega)
  · intro m j hj
    show sX2_supposedWorthOfAll_L4 K G (m + 1) _ (nI j) = _
    rw [sX2_supposedWorthOfAll_L4, if_neg (n6 hj), c_spW hK h hn h0 hj, bind_e, nI1]
    rfl
  · intro m
    show sX2_supposedWorthOfAll_L4 K G (m + 1) _ (nI 6) = _
    rw [sX2_supposedWorthOfAll_L4, if_pos y6]
theorem c_trWA (hK : 4000 ≤ K) (h : SR G 1 f) {n : Nat} (hn : n ≤ 6) (h0 : f 0 = nI n) : sX2_trueWorthOfAll K G = some (sm (fun r => trW f n r) 6) := by
  unfold sX2_trueWorthOfAll
  refine lpn (N := 6) (P := fun m j => sX2_trueWorthOfAll_L4 K G m (sm (fun r => trW f n r) j) (nI j)) ?_ ?_ K 0 (by omega) (by omega)
  · intro m j hj
    show sX2_trueWorthOfAll_L4 K G (m + 1) _ (nI j) = _
    rw [sX2_trueWorthOfAll_L4, if_neg (n6 hj), c_trW hK h hn h0 hj, bind_e, nI1]
    rfl
  · intro m
    show sX2_trueWorthOfAll_L4 K G (m + 1) _ (nI 6) = _
    rw [sX2_trueWorthOfAll_L4, if_pos y6]
theorem c_fulA (hK : 4000 ≤ K) (h : SR G 1 f) : sX2_fullBags K G = some (sm (fun r => if cIn f r < 40 then 0 else 1) 6) := by
  unfold sX2_fullBags
  refine lpn (N := 6) (P := fun m j => sX2_fullBags_L4 K G m (sm (fun r => if cIn f r < 40 then 0 else 1) j) (nI j)) ?_ ?_ K 0 (by omega) (by omega)
  · intro n j hj
    show sX2_fullBags_L4 K G (n + 1) _ (nI j) = sX2_fullBags_L4 K G n (sm (fun r => if cIn f r < 40 then 0 else 1) j + (if cIn f j < 40 then 0 else 1)) (nI (j + 1))
    rw [sX2_fullBags_L4, if_neg (n6 hj), c_isFull hK h hj, bind_e, nI1]
    by_cases e : cIn f j < 40
    · rw [if_pos e, if_pos rfl, add0]
    · rw [if_neg e, if_neg (by decide)]
  · intro n
    show sX2_fullBags_L4 K G (n + 1) _ (nI 6) = _
    rw [sX2_fullBags_L4, if_pos y6]
theorem c_bagsA (hK : 4000 ≤ K) (h : SR G 1 f) : sX2_coinsInBags K G = some (sm (fun j => f (63 + j)) 36) := by
  unfold sX2_coinsInBags
  rw [c_sum6 hK 12 (by decide), bind_e, sm_cong 36 (fun j hj => h.bg hj)]
end CR

