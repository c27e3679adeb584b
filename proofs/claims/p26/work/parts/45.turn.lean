/-! PURE, part S: two states, the kinds of the second turned -/
def tau (i : Nat) : Nat := if 3 ≤ i ∧ i < 23 then 3 + 5 * (3 - (i - 3) / 5) + (i - 3) % 5 else if 63 ≤ i ∧ (i - 63) % 6 < 4 then 63 + 6 * ((i - 63) / 6) + (3 - (i - 63) % 6) else i
theorem tau_k {k c : Nat} (hk : k < 4) (hc : c < 5) : tau (3 + 5 * k + c) = 3 + 5 * (3 - k) + c := by
  unfold tau
  rw [if_pos (by omega)]
  omega
theorem tau_b {r k : Nat} (hk : k < 4) : tau (63 + 6 * r + k) = 63 + 6 * r + (3 - k) := by
  unfold tau
  rw [if_neg (by omega), if_pos (by omega)]
  omega
theorem tau_z {r k : Nat} (h1 : 4 ≤ k) (h2 : k < 6) : tau (63 + 6 * r + k) = 63 + 6 * r + k := by
  unfold tau
  rw [if_neg (by omega), if_neg (by omega)]
theorem tau_o {i : Nat} (h : i < 3 ∨ (23 ≤ i ∧ i < 63)) : tau i = i := by
  unfold tau
  rw [if_neg (by omega), if_neg (by omega)]
theorem tau_tau (i : Nat) : tau (tau i) = i := by
  by_cases h1 : 3 ≤ i ∧ i < 23
  · have e : i = 3 + 5 * ((i - 3) / 5) + (i - 3) % 5 := by omega
    have h2 : tau i = 3 + 5 * (3 - (i - 3) / 5) + (i - 3) % 5 := if_pos h1
    rw [h2, tau_k (by omega) (by omega)]
    omega
  · by_cases h3 : 63 ≤ i ∧ (i - 63) % 6 < 4
    · have h2 : tau i = 63 + 6 * ((i - 63) / 6) + (3 - (i - 63) % 6) := by
        unfold tau
        rw [if_neg h1, if_pos h3]
      rw [h2, tau_b (by omega)]
      omega
    · have h2 : tau i = i := by
        unfold tau
        rw [if_neg h1, if_neg h3]
      rw [h2, h2]
theorem tau_inj {i j : Nat} (h : tau i = tau j) : i = j := by rw [← tau_tau i, h, tau_tau]
def tk (x y : Int32) : Prop := (x = -1 ∧ y = -1) ∨ ∃ k, k < 4 ∧ x = nI k ∧ y = nI (3 - k)
theorem tk.m1 {x y : Int32} (h : tk x y) : x = -1 ↔ y = -1 := by
  rcases h with ⟨a, b⟩ | ⟨k, hk, a, b⟩
  · exact ⟨fun _ => b, fun _ => a⟩
  · rw [a, b]
    exact ⟨fun z => absurd z (m1ne (by omega)), fun z => absurd z (m1ne (by omega))⟩
theorem tk.symm {x y : Int32} (h : tk x y) : tk y x := by
  rcases h with ⟨a, b⟩ | ⟨k, hk, a, b⟩
  · exact Or.inl ⟨b, a⟩
  · exact Or.inr ⟨3 - k, by omega, b, by rw [a, show 3 - (3 - k) = k by omega]⟩
def Turn (f g : Nat → Int32) : Prop := (∀ i, (∀ r, r < 6 → i ≠ 35 + 5 * r) → g i = f (tau i)) ∧ ∀ r, r < 6 → tk (f (35 + 5 * r)) (g (35 + 5 * r))
section TU
variable {f g : Nat → Int32}
theorem Turn.symm (h : Turn f g) : Turn g f := by
  refine ⟨fun i hi => ?_, fun r hr => (h.2 r hr).symm⟩
  have h2 : g (tau i) = f (tau (tau i)) := h.1 (tau i) fun r hr e => hi r hr (by
    have := congrArg tau e
    rw [tau_tau, tau_o (Or.inr (by omega))] at this
    exact this)
  rw [h2, tau_tau]
theorem Turn.at (h : Turn f g) {i j : Nat} (hi : ∀ r, r < 6 → i ≠ 35 + 5 * r) (e : tau i = j) : g i = f j := by rw [← e]; exact h.1 i hi
theorem tau3 {k : Nat} (hk : k < 4) : tau (3 + 5 * k) = 3 + 5 * (3 - k) := tau_k (c := 0) hk (by decide)
theorem tau4 {k : Nat} (hk : k < 4) : tau (4 + 5 * k) = 4 + 5 * (3 - k) := by rw [show 4 + 5 * k = 3 + 5 * k + 1 by omega, tau_k hk (by decide)]; omega
theorem tau5 {k : Nat} (hk : k < 4) : tau (5 + 5 * k) = 5 + 5 * (3 - k) := by rw [show 5 + 5 * k = 3 + 5 * k + 2 by omega, tau_k hk (by decide)]; omega
theorem tau6 {k : Nat} (hk : k < 4) : tau (6 + 5 * k) = 6 + 5 * (3 - k) := by rw [show 6 + 5 * k = 3 + 5 * k + 3 by omega, tau_k hk (by decide)]; omega
theorem tau7 {k : Nat} (hk : k < 4) : tau (7 + 5 * k) = 7 + 5 * (3 - k) := by rw [show 7 + 5 * k = 3 + 5 * k + 4 by omega, tau_k hk (by decide)]; omega
theorem Turn.e0 (h : Turn f g) : g 0 = f 0 := h.at (by omega) (tau_o (Or.inl (by omega)))
theorem Turn.e1 (h : Turn f g) : g 1 = f 1 := h.at (by omega) (tau_o (Or.inl (by omega)))
theorem Turn.e2 (h : Turn f g) : g 2 = f 2 := h.at (by omega) (tau_o (Or.inl (by omega)))
theorem Turn.dm (h : Turn f g) {k : Nat} (hk : k < 4) : g (3 + 5 * k) = f (3 + 5 * (3 - k)) := h.at (by omega) (tau3 hk)
theorem Turn.vl (h : Turn f g) {k : Nat} (hk : k < 4) : g (4 + 5 * k) = f (4 + 5 * (3 - k)) := h.at (by omega) (tau4 hk)
theorem Turn.hm (h : Turn f g) {k : Nat} (hk : k < 4) : g (5 + 5 * k) = f (5 + 5 * (3 - k)) := h.at (by omega) (tau5 hk)
theorem Turn.fd (h : Turn f g) {k : Nat} (hk : k < 4) : g (6 + 5 * k) = f (6 + 5 * (3 - k)) := h.at (by omega) (tau6 hk)
theorem Turn.rj (h : Turn f g) {k : Nat} (hk : k < 4) : g (7 + 5 * k) = f (7 + 5 * (3 - k)) := h.at (by omega) (tau7 hk)
theorem Turn.bg (h : Turn f g) {r k : Nat} (hk : k < 4) : g (63 + 6 * r + k) = f (63 + 6 * r + (3 - k)) := h.at (by omega) (tau_b hk)
theorem Turn.gp (h : Turn f g) {r : Nat} (hr : r < 6) : g (33 + 5 * r) = f (33 + 5 * r) := h.at (by omega) (tau_o (Or.inr (by omega)))
theorem Turn.us (h : Turn f g) {r : Nat} (hr : r < 6) : g (34 + 5 * r) = f (34 + 5 * r) := h.at (by omega) (tau_o (Or.inr (by omega)))
theorem Turn.sw (h : Turn f g) {r : Nat} (hr : r < 6) : g (36 + 5 * r) = f (36 + 5 * r) := h.at (by omega) (tau_o (Or.inr (by omega)))
theorem Turn.ro (h : Turn f g) {r : Nat} (hr : r < 6) : g (37 + 5 * r) = f (37 + 5 * r) := h.at (by omega) (tau_o (Or.inr (by omega)))
/-- one entry of each -/
theorem Turn.u (h : Turn f g) {i j : Nat} (hi : ∀ r, r < 6 → i ≠ 35 + 5 * r) (e : tau i = j) {x y : Int32} (hxy : y = x) : Turn (upd f j x) (upd g i y) := by
  subst hxy
  refine ⟨fun a ha => ?_, fun r hr => ?_⟩
  · by_cases q : a = i
    · subst q; rw [e, upd_s, upd_s]
    · rw [upd_n q, upd_n (fun z => q (tau_inj (z.trans e.symm)))]
      exact h.1 a ha
  · have h1 : 35 + 5 * r ≠ j := fun z => hi r hr (tau_inj (by rw [e, tau_o (Or.inr (by omega))]; exact z.symm))
    rw [upd_n h1, upd_n (fun z => hi r hr z.symm)]
    exact h.2 r hr
theorem Turn.s (h : Turn f g) {r : Nat} (hr : r < 6) {x y : Int32} (hxy : tk x y) : Turn (upd f (35 + 5 * r) x) (upd g (35 + 5 * r) y) := by
  refine ⟨fun a ha => ?_, fun r2 hr2 => ?_⟩
  · rw [upd_n (ha r hr), upd_n (fun z => ha r hr (by
      have := congrArg tau z
      rw [tau_tau, tau_o (Or.inr (by omega))] at this
      exact this))]
    exact h.1 a ha
  · by_cases q : r2 = r
    · subst q; rw [upd_s, upd_s]; exact hxy
    · rw [upd_n (by omega), upd_n (by omega)]; exact h.2 r2 hr2
theorem sm_t4 {u v : Nat → Int32} (h : ∀ k, k < 4 → v k = u (3 - k)) : sm v 4 = sm u 4 := by
  show ((((0 : Int32) + v 0) + v 1) + v 2) + v 3 = ((((0 : Int32) + u 0) + u 1) + u 2) + u 3
  rw [h 0 (by decide), h 1 (by decide), h 2 (by decide), h 3 (by decide)]
  show ((((0 : Int32) + u 3) + u 2) + u 1) + u 0 = _
  rw [Int32.zero_add, Int32.zero_add]
  ac_rfl
theorem sm_t6 {u v : Nat → Int32} (h : ∀ k, k < 4 → v k = u (3 - k)) (h4 : v 4 = u 4) (h5 : v 5 = u 5) : sm v 6 = sm u 6 := by
  show (sm v 4 + v 4) + v 5 = (sm u 4 + u 4) + u 5
  rw [sm_t4 h, h4, h5]
theorem Turn.t_cIn (h : Turn f g) (r : Nat) : cIn g r = cIn f r := sm_t6 (fun k hk => h.bg hk) (h.at (by omega) (tau_z (by decide) (by decide))) (h.at (by omega) (tau_z (by decide) (by decide)))
theorem Turn.t_plc (h : Turn f g) {k : Nat} (hk : k < 4) (w : Nat) : ∀ m r, r + m ≤ 6 → plc g (3 - k) w r m = plc f k w r m
  | 0, _, _ => rfl
  | m + 1, r, hr => by
    have e1 : spr g (3 - k) w r = spr f k w r := by
      unfold spr szN
      rw [h.gp (by omega), h.dm (by omega), show 3 - (3 - k) = k by omega]
    have e2 := h.t_plc hk w m (r + 1) (by omega)
    have e3 := (h.2 r (by omega)).m1
    show (if spr g (3 - k) w r ≤ 0 then plc g (3 - k) w (r + 1) m else _) = (if spr f k w r ≤ 0 then _ else _)
    rw [e1, e2, h.t_cIn]
    by_cases a1 : spr f k w r ≤ 0
    · rw [if_pos a1, if_pos a1]
    · rw [if_neg a1, if_neg a1]
      by_cases c : f (35 + 5 * r) = -1
      · rw [if_neg (show ¬ ¬ g (35 + 5 * r) = -1 from fun z => z (e3.mp c)), if_neg (show ¬ ¬ f (35 + 5 * r) = -1 from fun z => z c)]
      · rw [if_pos (show ¬ g (35 + 5 * r) = -1 from fun z => c (e3.mpr z)), if_pos (show ¬ f (35 + 5 * r) = -1 from c)]
theorem Turn.t_fH (h : Turn f g) {k : Nat} (hk : k < 4) (w : Nat) : fH g (3 - k) w ↔ fH f k w := by
  unfold fH
  rw [h.t_plc hk w 6 0 (by omega), h.hm (by omega), show 3 - (3 - k) = k by omega]
theorem Turn.t_mwN (h : Turn f g) {k c : Nat} (hk : k < 4) (hc : mwN f k c) : mwN g (3 - k) c := by
  obtain ⟨h1, h2, h3⟩ := hc
  refine ⟨h1, fun w hw => (h.t_fH hk w).mpr (h2 w hw), ?_⟩
  rcases h3 with z | z
  · exact Or.inl z
  · exact Or.inr fun y => z ((h.t_fH hk c).mp y)
end TU
