/-! PURE, part E: what feeding a coin leaves -/
def rollF (f : Nat → Int32) : Nat → Nat → Int32
  | 0 => f
  | r + 1 => upd (rollF f r) (37 + 5 * r) (rollF f r (37 + 5 * r) + 1)
theorem rollF_n (f : Nat → Int32) {i : Nat} : ∀ r, (∀ a, a < r → i ≠ 37 + 5 * a) → rollF f r i = f i
  | 0, _ => rfl
  | r + 1, h => by
    show upd (rollF f r) (37 + 5 * r) _ i = f i
    rw [upd_n (h r (by omega))]
    exact rollF_n f r (fun a ha => h a (by omega))
def fdF (f : Nat → Int32) (k : Nat) : Nat → Int32 := upd (upd f 1 (f 1 + 1)) (6 + 5 * k) (f (6 + 5 * k) + 1)
theorem fdF_n (f : Nat → Int32) {k i : Nat} (h1 : i ≠ 1) (h2 : i ≠ 6 + 5 * k) : fdF f k i = f i := by
  unfold fdF
  rw [upd_n h2, upd_n h1]
def usF (f : Nat → Int32) (r : Nat) : Nat → Int32 := if f (34 + 5 * r) + 1 = 20 then upd (upd (upd f (34 + 5 * r) (f (34 + 5 * r) + 1)) (34 + 5 * r) 0) (33 + 5 * r) (if 4100 ≤ f (33 + 5 * r) then f (33 + 5 * r) + 0 else f (33 + 5 * r) + 1) else upd f (34 + 5 * r) (f (34 + 5 * r) + 1)
theorem usF_n (f : Nat → Int32) {r i : Nat} (h1 : i ≠ 33 + 5 * r) (h2 : i ≠ 34 + 5 * r) : usF f r i = f i := by
  unfold usF
  split
  · rw [upd_n h1, upd_n h2, upd_n h2]
  · rw [upd_n h2]
def falF (f : Nat → Int32) (r k : Nat) : Nat → Int32 := usF (upd f (63 + 6 * r + k) (f (63 + 6 * r + k) + 1)) r
/-- the end of a feeding, by the answer p -/
def enF (f : Nat → Int32) (k w : Nat) (p : Int32) : Nat → Int32 :=
  if p = -1 then upd (rollF f 6) (7 + 5 * k) (rollF f 6 (7 + 5 * k) + 1)
  else if p < 10 then falF (rollF f p.toNatClampNeg) p.toNatClampNeg k
  else upd (upd (rollF f (p.toNatClampNeg - 10)) (35 + 5 * (p.toNatClampNeg - 10)) (nI k)) (36 + 5 * (p.toNatClampNeg - 10)) (nI (wrs w (p.toNatClampNeg - 10)))
def feF (f : Nat → Int32) (k w : Nat) : Nat → Int32 := enF (fdF f k) k w (plc f k w 0 6)
theorem enF_fall (f : Nat → Int32) (k w : Nat) {i : Nat} (hi : i < 6) : enF f k w (nI i) = falF (rollF f i) i k := by
  unfold enF
  rw [if_neg (m1ne (by omega)), if_pos (show nI i < 10 from yltI (b := 10) (by omega) (by decide)), tnI (by omega)]
theorem enF_stuck (f : Nat → Int32) (k w : Nat) {i : Nat} (hi : i < 6) : enF f k w (nI (10 + i)) = upd (upd (rollF f i) (35 + 5 * i) (nI k)) (36 + 5 * i) (nI (wrs w i)) := by
  unfold enF
  rw [if_neg (m1ne (by omega)), if_neg (show ¬ nI (10 + i) < 10 from nltI (b := 10) (by omega) (by omega)), tnI (by omega), Nat.add_sub_cancel_left]
theorem enF_none (f : Nat → Int32) (k w : Nat) : enF f k w (-1) = upd (rollF f 6) (7 + 5 * k) (rollF f 6 (7 + 5 * k) + 1) := if_pos rfl
section SNE
variable {f g : Nat → Int32} {n : Nat}
theorem SN.congr (h : SN f n) (e0 : g 0 = f 0) (e1 : g 1 = f 1)
    (ed : ∀ k, k < n → (g (3 + 5 * k) = f (3 + 5 * k) ∨ ∃ d, 1000 ≤ d ∧ d ≤ 4000 ∧ g (3 + 5 * k) = nI d) ∧ (g (5 + 5 * k) = f (5 + 5 * k) ∨ ∃ x, x < 6 ∧ g (5 + 5 * k) = nI x))
    (ef : ∀ k, k < 6 → g (6 + 5 * k) = f (6 + 5 * k)) (ez : ∀ k, n ≤ k → k < 6 → g (7 + 5 * k) = f (7 + 5 * k) ∨ g (7 + 5 * k) = 0)
    (es : ∀ r, r < 6 → g (35 + 5 * r) = f (35 + 5 * r) ∨ g (35 + 5 * r) = -1 ∨ ∃ k, k < n ∧ g (35 + 5 * r) = nI k)
    (eg : ∀ r, r < 6 → g (33 + 5 * r) = f (33 + 5 * r) ∨ ∃ x, 900 ≤ x ∧ x ≤ 4100 ∧ g (33 + 5 * r) = nI x)
    (eu : ∀ r, r < 6 → g (34 + 5 * r) = f (34 + 5 * r) ∨ ∃ x, x ≤ 19 ∧ g (34 + 5 * r) = nI x)
    (eb : ∀ j, j < 36 → g (63 + j) = f (63 + j)) : SN g n := by
  have eb' : ∀ r k, r < 6 → k < 6 → g (63 + 6 * r + k) = f (63 + 6 * r + k) := fun r k hr hk => by
    have := eb (6 * r + k) (by omega)
    rw [← Nat.add_assoc] at this
    exact this
  refine ⟨⟨h.n6, e0.trans h.k0⟩, fun k hk => ⟨?_, ?_⟩, fun k h1 h2 => ⟨(ef k h2).trans (h.fz h1 h2), ?_⟩, fun r k hr h1 h2 => (eb' r k hr h2).trans (h.bz hr h1 h2), fun r hr => ?_, fun r hr => ⟨?_, ?_, ?_⟩, ?_⟩
  · rcases (ed k hk).1 with e | e
    · rw [e]; exact h.dm hk
    · exact e
  · rcases (ed k hk).2 with e | e
    · rw [e]; exact h.hm hk
    · exact e
  · rcases ez k h1 h2 with e | e
    · rw [e]; exact h.rz h1 h2
    · exact e
  · rcases es r hr with e | e
    · rw [e]; exact h.st hr
    · exact e
  · rcases eg r hr with e | e
    · rw [e]; exact h.gp hr
    · exact e
  · rcases eu r hr with e | e
    · rw [e]; exact h.us hr
    · exact e
  · obtain ⟨c, h1, h2⟩ := (h.2.2.2.2.2.1 r hr).2.2
    exact ⟨c, fun k hk => (eb' r k hr hk).trans (h1 k hk), h2⟩
  · rw [e1, h.fed]
    exact sm_cong 6 (fun k hk => (ef k hk).symm)
theorem SN.roll1 (h : SN f n) {r : Nat} (hr : r < 6) (x : Int32) : SN (upd f (37 + 5 * r) x) n :=
  h.congr (upd_n (by omega)) (upd_n (by omega)) (fun k hk => ⟨Or.inl (upd_n (by omega)), Or.inl (upd_n (by omega))⟩) (fun k hk => upd_n (by omega)) (fun k h1 h2 => Or.inl (upd_n (by omega))) (fun k hk => Or.inl (upd_n (by omega))) (fun k hk => Or.inl (upd_n (by omega))) (fun k hk => Or.inl (upd_n (by omega))) (fun j hj => upd_n (by omega))
theorem SN.roll (h : SN f n) : ∀ r, r ≤ 6 → SN (rollF f r) n
  | 0, _ => h
  | r + 1, hr => (SN.roll h r (by omega)).roll1 (by omega) _
theorem SN.rej1 (h : SN f n) {k0 : Nat} (h0 : k0 < n) (x : Int32) : SN (upd f (7 + 5 * k0) x) n := by
  have hn := h.n6
  exact h.congr (upd_n (by omega)) (upd_n (by omega)) (fun k hk => ⟨Or.inl (upd_n (by omega)), Or.inl (upd_n (by omega))⟩) (fun k hk => upd_n (by omega)) (fun k h1 h2 => Or.inl (upd_n (by omega))) (fun k hk => Or.inl (upd_n (by omega))) (fun k hk => Or.inl (upd_n (by omega))) (fun k hk => Or.inl (upd_n (by omega))) (fun j hj => upd_n (by omega))
theorem SN.wear1 (h : SN f n) {r : Nat} (hr : r < 6) (x : Int32) : SN (upd f (36 + 5 * r) x) n :=
  h.congr (upd_n (by omega)) (upd_n (by omega)) (fun k hk => ⟨Or.inl (upd_n (by omega)), Or.inl (upd_n (by omega))⟩) (fun k hk => upd_n (by omega)) (fun k h1 h2 => Or.inl (upd_n (by omega))) (fun k hk => Or.inl (upd_n (by omega))) (fun k hk => Or.inl (upd_n (by omega))) (fun k hk => Or.inl (upd_n (by omega))) (fun j hj => upd_n (by omega))
theorem SN.stk1 (h : SN f n) {r : Nat} (hr : r < 6) {x : Int32} (hx : x = -1 ∨ ∃ k, k < n ∧ x = nI k) : SN (upd f (35 + 5 * r) x) n := by
  have hn := h.n6
  refine h.congr (upd_n (by omega)) (upd_n (by omega)) (fun k hk => ⟨Or.inl (upd_n (by omega)), Or.inl (upd_n (by omega))⟩) (fun k hk => upd_n (by omega)) (fun k h1 h2 => Or.inl (upd_n (by omega))) (fun k hk => ?_) (fun k hk => Or.inl (upd_n (by omega))) (fun k hk => Or.inl (upd_n (by omega))) (fun j hj => upd_n (by omega))
  by_cases e : k = r
  · subst e
    rw [upd_s]
    exact Or.inr hx
  · exact Or.inl (upd_n (by omega))
theorem SN.gap1 (h : SN f n) {r x : Nat} (hr : r < 6) (h1 : 900 ≤ x) (h2 : x ≤ 4100) : SN (upd f (33 + 5 * r) (nI x)) n := by
  have hn := h.n6
  refine h.congr (upd_n (by omega)) (upd_n (by omega)) (fun k hk => ⟨Or.inl (upd_n (by omega)), Or.inl (upd_n (by omega))⟩) (fun k hk => upd_n (by omega)) (fun k h1 h2 => Or.inl (upd_n (by omega))) (fun k hk => Or.inl (upd_n (by omega))) (fun k hk => ?_) (fun k hk => Or.inl (upd_n (by omega))) (fun j hj => upd_n (by omega))
  by_cases e : k = r
  · subst e
    exact Or.inr ⟨x, h1, h2, upd_s _ _ _⟩
  · exact Or.inl (upd_n (by omega))
theorem SN.use1 (h : SN f n) {r x : Nat} (hr : r < 6) (h2 : x ≤ 19) : SN (upd f (34 + 5 * r) (nI x)) n := by
  have hn := h.n6
  refine h.congr (upd_n (by omega)) (upd_n (by omega)) (fun k hk => ⟨Or.inl (upd_n (by omega)), Or.inl (upd_n (by omega))⟩) (fun k hk => upd_n (by omega)) (fun k h1 h2 => Or.inl (upd_n (by omega))) (fun k hk => Or.inl (upd_n (by omega))) (fun k hk => Or.inl (upd_n (by omega))) (fun k hk => ?_) (fun j hj => upd_n (by omega))
  by_cases e : k = r
  · subst e
    exact Or.inr ⟨x, h2, upd_s _ _ _⟩
  · exact Or.inl (upd_n (by omega))
theorem sm_inc {g : Nat → Int32} {k0 : Nat} : ∀ N, k0 < N → sm (fun k => if k = k0 then g k + 1 else g k) N = sm g N + 1
  | 0, h => absurd h (by omega)
  | N + 1, h => by
    show sm (fun k => if k = k0 then g k + 1 else g k) N + (if N = k0 then g N + 1 else g N) = sm g N + g N + 1
    by_cases e : N = k0
    · rw [if_pos e, sm_cong N (fun k hk => if_neg (by omega)), Int32.add_assoc]
    · rw [if_neg e, sm_inc N (by omega), Int32.add_assoc, Int32.add_comm 1 (g N), Int32.add_assoc]
theorem SN.fd1 (h : SN f n) {k0 : Nat} (h0 : k0 < n) : SN (fdF f k0) n := by
  have hn := h.n6
  have nn : ∀ {i : Nat}, i ≠ 1 → i ≠ 6 + 5 * k0 → fdF f k0 i = f i := fun a b => fdF_n f a b
  refine ⟨⟨h.n6, (nn (by omega) (by omega)).trans h.k0⟩, fun k hk => ⟨?_, ?_⟩, fun k h1 h2 => ⟨?_, ?_⟩, fun r k hr h1 h2 => ?_, fun r hr => ?_, fun r hr => ⟨?_, ?_, ?_⟩, ?_⟩
  · rw [nn (by omega) (by omega)]; exact h.dm hk
  · rw [nn (by omega) (by omega)]; exact h.hm hk
  · rw [nn (by omega) (by omega)]; exact h.fz h1 h2
  · rw [nn (by omega) (by omega)]; exact h.rz h1 h2
  · rw [nn (by omega) (by omega)]; exact h.bz hr h1 h2
  · rw [nn (by omega) (by omega)]; exact h.st hr
  · rw [nn (by omega) (by omega)]; exact h.gp hr
  · rw [nn (by omega) (by omega)]; exact h.us hr
  · obtain ⟨c, h1, h2⟩ := (h.2.2.2.2.2.1 r hr).2.2
    exact ⟨c, fun k hk => by rw [nn (by omega) (by omega)]; exact h1 k hk, h2⟩
  · have e1 : fdF f k0 1 = f 1 + 1 := by
      unfold fdF
      rw [upd_n (by omega), upd_s]
    rw [e1, h.fed, ← sm_inc (g := fun k => f (6 + 5 * k)) 6 (by omega : k0 < 6)]
    refine sm_cong 6 (fun k hk => ?_)
    by_cases e : k = k0
    · subst e
      rw [if_pos rfl]
      unfold fdF
      rw [upd_s]
    · rw [if_neg e, nn (by omega) (by omega)]
theorem SN.bag1 (h : SN f n) {r0 k0 : Nat} (hr0 : r0 < 6) (h0 : k0 < n) (hf : cIn f r0 < 40) : SN (upd f (63 + 6 * r0 + k0) (f (63 + 6 * r0 + k0) + 1)) n := by
  have hn := h.n6
  refine ⟨⟨h.n6, (upd_n (by omega)).trans h.k0⟩, fun k hk => ⟨?_, ?_⟩, fun k h1 h2 => ⟨?_, ?_⟩, fun r k hr h1 h2 => ?_, fun r hr => ?_, fun r hr => ⟨?_, ?_, ?_⟩, ?_⟩
  · rw [upd_n (by omega)]; exact h.dm hk
  · rw [upd_n (by omega)]; exact h.hm hk
  · rw [upd_n (by omega)]; exact h.fz h1 h2
  · rw [upd_n (by omega)]; exact h.rz h1 h2
  · rw [upd_n (by omega)]; exact h.bz hr h1 h2
  · rw [upd_n (by omega)]; exact h.st hr
  · rw [upd_n (by omega)]; exact h.gp hr
  · rw [upd_n (by omega)]; exact h.us hr
  · obtain ⟨c, h1, h2⟩ := (h.2.2.2.2.2.1 r hr).2.2
    by_cases e : r = r0
    · subst e
      refine ⟨fun k => if k = k0 then c k + 1 else c k, fun k hk => ?_, ?_⟩
      · by_cases e2 : k = k0
        · subst e2
          rw [upd_s, h1 k hk, nI1]
          simp
        · rw [upd_n (by omega), h1 k hk]
          simp [e2]
      · have e3 : cIn f r = nI (c 0 + c 1 + c 2 + c 3 + c 4 + c 5) := sm6 h1
        rw [e3] at hf
        have h3 : c 0 + c 1 + c 2 + c 3 + c 4 + c 5 < 40 := (nI_ltI (b := 40) (by omega) (by omega)).mp hf
        have hc : k0 = 0 ∨ k0 = 1 ∨ k0 = 2 ∨ k0 = 3 ∨ k0 = 4 ∨ k0 = 5 := by omega
        rcases hc with rfl | rfl | rfl | rfl | rfl | rfl <;> simp <;> omega
    · exact ⟨c, fun k hk => by rw [upd_n (by omega)]; exact h1 k hk, h2⟩
  · rw [upd_n (by omega), h.fed]
    exact sm_cong 6 (fun k hk => (upd_n (by omega)).symm)
theorem SN.us1 (h : SN f n) {r : Nat} (hr : r < 6) : SN (usF f r) n := by
  obtain ⟨u, hu, eu⟩ := h.us hr
  obtain ⟨g, g1, g2, eg⟩ := h.gp hr
  unfold usF
  by_cases c : f (34 + 5 * r) + 1 = 20
  · rw [if_pos c]
    have h1 := h.use1 hr (x := 0) (by omega)
    have e : upd (upd f (34 + 5 * r) (f (34 + 5 * r) + 1)) (34 + 5 * r) 0 = upd f (34 + 5 * r) (nI 0) := by
      funext j
      by_cases q : j = 34 + 5 * r
      · subst q; rw [upd_s, upd_s]; rfl
      · rw [upd_n q, upd_n q, upd_n q]
    rw [e]
    by_cases c2 : (4100 : Int32) ≤ f (33 + 5 * r)
    · rw [if_pos c2, add0, eg]
      exact h1.gap1 hr g1 g2
    · rw [if_neg c2, eg, nI1]
      rw [eg] at c2
      have c3 : g < 4100 := by
        rcases Nat.lt_or_ge g 4100 with z | z
        · exact z
        · exact absurd (show nI 4100 ≤ nI g from yleI z (by omega)) c2
      exact h1.gap1 hr (by omega) (by omega)
  · rw [if_neg c, eu, nI1]
    rw [eu, nI1] at c
    have c3 : u + 1 ≠ 20 := fun z => c (by rw [z]; rfl)
    exact h.use1 hr (by omega)
theorem fdF_cIn (f : Nat → Int32) (k : Nat) {r : Nat} (hk : k < 6) : cIn (fdF f k) r = cIn f r := sm_cong 6 (fun j hj => fdF_n f (by omega) (by omega))
theorem rollF_cIn (f : Nat → Int32) (r : Nat) {i : Nat} (hi : i ≤ 6) : cIn (rollF f i) r = cIn f r := sm_cong 6 (fun j hj => rollF_n f i (fun a ha => by omega))
theorem SN.fe1 (h : SN f n) {k : Nat} (hk : k < n) (w : Nat) : SN (feF f k w) n := by
  have hn := h.n6
  have h1 := h.fd1 hk
  unfold feF
  rcases plc_of f k w 6 0 with e | ⟨x, -, hx, e | e, -, -, hc⟩
  · rw [e, enF_none]
    exact (h1.roll 6 (by omega)).rej1 hk _
  · rw [e, enF_fall _ _ _ (by omega)]
    refine SN.us1 ((h1.roll x (by omega)).bag1 (by omega) hk ?_) (by omega)
    rw [rollF_cIn _ _ (by omega), fdF_cIn _ _ (by omega)]
    exact hc
  · rw [e, enF_stuck _ _ _ (by omega)]
    exact ((h1.roll x (by omega)).stk1 (by omega) (Or.inr ⟨k, hk, rfl⟩)).wear1 (by omega) _
end SNE

