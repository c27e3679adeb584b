/-! PURE FACTS of the shadows. Part A: numbers, loops, sums; what a state is: a vector f of 99 ints (the reference's own 'all'); the class's rows by it (SR); what always holds of it (SI). -/
theorem inb_nI {j n : Nat} (h : j < n) (hn : n < 2147483648) : inb (nI j) n = true := by
  unfold inb
  rw [nI_clamp (by omega)]
  simp [nI_pos (show j < 2 ^ 31 by omega), h]
theorem grd_t {α : Type} {b : Bool} {o : Option α} (h : b = true) : grd b o = o := if_pos h
theorem grd_i {α : Type} {j n : Nat} {o : Option α} (h : j < n) (hn : n < 2147483648) : grd (inb (nI j) n) o = o := if_pos (inb_nI h hn)
theorem olet_e {α β : Type} (x : α) (f : α → Option β) : olet x f = f x := rfl
theorem bind_e {α β : Type} (x : α) (f : α → Option β) : (some x).bind f = f x := rfl
theorem tnI {n : Nat} (h : n < 2147483648) : (nI n).toNatClampNeg = n := nI_clamp (by omega)
theorem nleI {a b : Nat} (h : b < a) (ha : a < 2147483648) : ¬ nI a ≤ nI b := nI_ge h (by omega)
theorem yleI {a b : Nat} (h : a ≤ b) (hb : b < 2147483648) : nI a ≤ nI b := nI_le h (by omega)
theorem yltI {a b : Nat} (h : a < b) (hb : b < 2147483648) : nI a < nI b := nI_lt h (by omega)
theorem nltI {a b : Nat} (h : b ≤ a) (ha : a < 2147483648) : ¬ nI a < nI b := nI_nlt h (by omega)
theorem neI {a b : Nat} (h : a ≠ b) (ha : a < 2147483648) (hb : b < 2147483648) : ¬ nI a = nI b := fun e => h ((nI_eq (by omega) (by omega)).mp e)
theorem n6 {j : Nat} (h : j < 6) : ¬ (6 : Int32) ≤ nI j := nleI h (by decide)
theorem y6 : (6 : Int32) ≤ nI 6 := by decide
theorem nI1 (j : Nat) : nI j + 1 = nI (j + 1) := nI_1 j
theorem ix6 (r j : Nat) : nI r * (6 : Int32) + nI j = nI (6 * r + j) := by
  show nI r * nI 6 + nI j = _
  rw [pk_mul, nI_add, Nat.mul_comm]
theorem ixK (k w : Nat) : (3 : Int32) + (5 : Int32) * nI k + nI w = nI (3 + 5 * k + w) := by
  show nI 3 + nI 5 * nI k + nI w = _
  rw [pk_mul, nI_add, nI_add]
theorem ixR (r w : Nat) : (33 : Int32) + (5 : Int32) * nI r + nI w = nI (33 + 5 * r + w) := by
  show nI 33 + nI 5 * nI r + nI w = _
  rw [pk_mul, nI_add, nI_add]
theorem ixC (r k : Nat) : (63 : Int32) + (6 : Int32) * nI r + nI k = nI (63 + 6 * r + k) := by
  show nI 63 + nI 6 * nI r + nI k = _
  rw [pk_mul, nI_add, nI_add]
theorem m1ne {n : Nat} (h : n < 2147483648) : ¬ nI n = (-1 : Int32) := fun e => by
  have h1 : (nI n).toInt = (-1 : Int32).toInt := by rw [e]
  rw [nI_toInt (by omega)] at h1
  have h2 : (-1 : Int32).toInt = -1 := by decide
  omega
/-- a loop that goes from i to N -/
theorem lpn {β : Type} {N : Nat} {P : Nat → Nat → Option β} {res : Option β} (hs : ∀ n j, j < N → P (n + 1) j = P n (j + 1)) (he : ∀ n, P (n + 1) N = res) : ∀ (m i : Nat), i ≤ N → N - i < m → P m i = res
  | 0, i, _, h => absurd h (by omega)
  | m + 1, i, hi, h => by
    by_cases e : i = N
    · subst e; exact he m
    · rw [hs m i (by omega)]
      exact lpn hs he m (i + 1) (by omega) (by omega)
def sm (g : Nat → Int32) : Nat → Int32
  | 0 => 0
  | n + 1 => sm g n + g n
theorem sm_cong {g h : Nat → Int32} : ∀ (n : Nat), (∀ k, k < n → g k = h k) → sm g n = sm h n
  | 0, _ => rfl
  | n + 1, e => by
    show sm g n + g n = sm h n + h n
    rw [sm_cong n (fun k hk => e k (by omega)), e n (by omega)]
theorem add0 (x : Int32) : x + 0 = x := by simp
theorem sm_zero {g : Nat → Int32} {n : Nat} : ∀ (m : Nat), n ≤ m → (∀ k, n ≤ k → k < m → g k = 0) → sm g m = sm g n
  | 0, h, _ => by rw [show n = 0 by omega]
  | m + 1, h, e => by
    by_cases q : n = m + 1
    · rw [q]
    · show sm g m + g m = _
      rw [e m (by omega) (by omega), add0]
      exact sm_zero m (by omega) (fun k h1 h2 => e k h1 (by omega))
/-- the class's state at the cells from b on, by the vector f -/
def SR (G : Nat → Nat → Int32) (b : Nat) (f : Nat → Int32) : Prop :=
  G b 0 = f 0 ∧ G b 12 = f 2 ∧ (∀ k, k < 6 → G (b + 1) k = f (3 + 5 * k) ∧ G (b + 2) k = f (4 + 5 * k) ∧ G (b + 3) k = f (5 + 5 * k) ∧ G (b + 4) k = f (6 + 5 * k) ∧ G (b + 5) k = f (7 + 5 * k)) ∧ (∀ r, r < 6 → G (b + 6) r = f (33 + 5 * r) ∧ G (b + 7) r = f (34 + 5 * r) ∧ G (b + 8) r = f (35 + 5 * r) ∧ G (b + 9) r = f (36 + 5 * r) ∧ G (b + 10) r = f (37 + 5 * r)) ∧ ∀ j, j < 36 → G (b + 11) j = f (63 + j)
section SRL
variable {G : Nat → Nat → Int32} {f : Nat → Int32}
theorem SR.kinds (h : SR G 1 f) : G 1 0 = f 0 := h.1
theorem SR.taken (h : SR G 1 f) : G 1 12 = f 2 := h.2.1
theorem SR.dm (h : SR G 1 f) {k : Nat} (hk : k < 6) : G 2 k = f (3 + 5 * k) := (h.2.2.1 k hk).1
theorem SR.vl (h : SR G 1 f) {k : Nat} (hk : k < 6) : G 3 k = f (4 + 5 * k) := (h.2.2.1 k hk).2.1
theorem SR.hm (h : SR G 1 f) {k : Nat} (hk : k < 6) : G 4 k = f (5 + 5 * k) := (h.2.2.1 k hk).2.2.1
theorem SR.fd (h : SR G 1 f) {k : Nat} (hk : k < 6) : G 5 k = f (6 + 5 * k) := (h.2.2.1 k hk).2.2.2.1
theorem SR.rj (h : SR G 1 f) {k : Nat} (hk : k < 6) : G 6 k = f (7 + 5 * k) := (h.2.2.1 k hk).2.2.2.2
theorem SR.gp (h : SR G 1 f) {r : Nat} (hr : r < 6) : G 7 r = f (33 + 5 * r) := (h.2.2.2.1 r hr).1
theorem SR.us (h : SR G 1 f) {r : Nat} (hr : r < 6) : G 8 r = f (34 + 5 * r) := (h.2.2.2.1 r hr).2.1
theorem SR.sk (h : SR G 1 f) {r : Nat} (hr : r < 6) : G 9 r = f (35 + 5 * r) := (h.2.2.2.1 r hr).2.2.1
theorem SR.sw (h : SR G 1 f) {r : Nat} (hr : r < 6) : G 10 r = f (36 + 5 * r) := (h.2.2.2.1 r hr).2.2.2.1
theorem SR.ro (h : SR G 1 f) {r : Nat} (hr : r < 6) : G 11 r = f (37 + 5 * r) := (h.2.2.2.1 r hr).2.2.2.2
theorem SR.bg (h : SR G 1 f) {j : Nat} (hj : j < 36) : G 12 j = f (63 + j) := h.2.2.2.2 j hj
end SRL
/-- what always holds of a state of n kinds: their diameters and homes, nothing of kinds that there are not, who is stuck, gaps, uses, coins in bags, coins fed -/
def SN (f : Nat → Int32) (n : Nat) : Prop :=
  (n ≤ 6 ∧ f 0 = nI n) ∧
  (∀ k, k < n → (∃ d, 1000 ≤ d ∧ d ≤ 4000 ∧ f (3 + 5 * k) = nI d) ∧ ∃ h, h < 6 ∧ f (5 + 5 * k) = nI h) ∧
  (∀ k, n ≤ k → k < 6 → f (6 + 5 * k) = 0 ∧ f (7 + 5 * k) = 0) ∧
  (∀ r k, r < 6 → n ≤ k → k < 6 → f (63 + 6 * r + k) = 0) ∧
  (∀ r, r < 6 → f (35 + 5 * r) = -1 ∨ ∃ k, k < n ∧ f (35 + 5 * r) = nI k) ∧
  (∀ r, r < 6 → (∃ g, 900 ≤ g ∧ g ≤ 4100 ∧ f (33 + 5 * r) = nI g) ∧ (∃ u, u ≤ 19 ∧ f (34 + 5 * r) = nI u) ∧ ∃ c : Nat → Nat, (∀ k, k < 6 → f (63 + 6 * r + k) = nI (c k)) ∧ c 0 + c 1 + c 2 + c 3 + c 4 + c 5 ≤ 40) ∧
  f 1 = sm (fun k => f (6 + 5 * k)) 6
def cIn (f : Nat → Int32) (r : Nat) : Int32 := sm (fun k => f (63 + 6 * r + k)) 6
section SNL
variable {f : Nat → Int32} {n : Nat}
theorem SN.n6 (h : SN f n) : n ≤ 6 := h.1.1
theorem SN.k0 (h : SN f n) : f 0 = nI n := h.1.2
theorem SN.dm (h : SN f n) {k : Nat} (hk : k < n) : ∃ d, 1000 ≤ d ∧ d ≤ 4000 ∧ f (3 + 5 * k) = nI d := (h.2.1 k hk).1
theorem SN.hm (h : SN f n) {k : Nat} (hk : k < n) : ∃ x, x < 6 ∧ f (5 + 5 * k) = nI x := (h.2.1 k hk).2
theorem SN.fz (h : SN f n) {k : Nat} (h1 : n ≤ k) (h2 : k < 6) : f (6 + 5 * k) = 0 := (h.2.2.1 k h1 h2).1
theorem SN.rz (h : SN f n) {k : Nat} (h1 : n ≤ k) (h2 : k < 6) : f (7 + 5 * k) = 0 := (h.2.2.1 k h1 h2).2
theorem SN.bz (h : SN f n) {r k : Nat} (hr : r < 6) (h1 : n ≤ k) (h2 : k < 6) : f (63 + 6 * r + k) = 0 := h.2.2.2.1 r k hr h1 h2
theorem SN.st (h : SN f n) {r : Nat} (hr : r < 6) : f (35 + 5 * r) = -1 ∨ ∃ k, k < n ∧ f (35 + 5 * r) = nI k := h.2.2.2.2.1 r hr
theorem SN.gp (h : SN f n) {r : Nat} (hr : r < 6) : ∃ g, 900 ≤ g ∧ g ≤ 4100 ∧ f (33 + 5 * r) = nI g := (h.2.2.2.2.2.1 r hr).1
theorem SN.us (h : SN f n) {r : Nat} (hr : r < 6) : ∃ u, u ≤ 19 ∧ f (34 + 5 * r) = nI u := (h.2.2.2.2.2.1 r hr).2.1
theorem SN.fed (h : SN f n) : f 1 = sm (fun k => f (6 + 5 * k)) 6 := h.2.2.2.2.2.2
theorem sm6 {g : Nat → Int32} {c : Nat → Nat} (h : ∀ k, k < 6 → g k = nI (c k)) : sm g 6 = nI (c 0 + c 1 + c 2 + c 3 + c 4 + c 5) := by
  show (((((nI 0 + g 0) + g 1) + g 2) + g 3) + g 4) + g 5 = _
  rw [h 0 (by decide), h 1 (by decide), h 2 (by decide), h 3 (by decide), h 4 (by decide), h 5 (by decide)]
  rw [nI_add, nI_add, nI_add, nI_add, nI_add, nI_add, Nat.zero_add]
theorem SN.bag (h : SN f n) {r : Nat} (hr : r < 6) : ∃ c, c ≤ 40 ∧ cIn f r = nI c := by
  obtain ⟨c, h1, h2⟩ := (h.2.2.2.2.2.1 r hr).2.2
  exact ⟨_, h2, sm6 h1⟩
theorem SN.full (h : SN f n) {r : Nat} (hr : r < 6) : cIn f r = 40 ↔ ¬ cIn f r < 40 := by
  obtain ⟨c, h1, h2⟩ := h.bag hr
  rw [h2]
  show nI c = nI 40 ↔ ¬ nI c < nI 40
  rw [nI_eq (by omega) (by omega), nI_ltI (by omega) (by omega)]
  omega
theorem SN.bagn (h : SN f n) {r : Nat} (hr : r < 6) : cIn f r = sm (fun k => f (63 + 6 * r + k)) n := sm_zero 6 h.n6 (fun k h1 h2 => h.bz hr h1 h2)
theorem SN.rej (h : SN f n) : sm (fun k => f (7 + 5 * k)) 6 = sm (fun k => f (7 + 5 * k)) n := sm_zero 6 h.n6 (fun k h1 h2 => h.rz h1 h2)
end SNL
section CR
variable {K : Nat} {G : Nat → Nat → Int32} {f : Nat → Int32}
theorem c_coinsIn (hK : 4000 ≤ K) (h : SR G 1 f) {r : Nat} (hr : r < 6) : sX2_coinsIn K G (nI r) = some (cIn f r) := by
  unfold sX2_coinsIn
  refine lpn (N := 6) (P := fun m j => sX2_coinsIn_L4 K G (nI r) m (sm (fun k => f (63 + 6 * r + k)) j) (nI j)) ?_ ?_ K 0 (by omega) (by omega)
  · intro n j hj
    show sX2_coinsIn_L4 K G (nI r) (n + 1) _ (nI j) = _
    rw [sX2_coinsIn_L4, if_neg (n6 hj), ix6, grd_i (by omega) (by decide), tnI (by omega), h.bg (by omega), nI1, ← Nat.add_assoc]
    rfl
  · intro n
    show sX2_coinsIn_L4 K G (nI r) (n + 1) _ (nI 6) = _
    rw [sX2_coinsIn_L4, if_pos y6]
    rfl
end CR

