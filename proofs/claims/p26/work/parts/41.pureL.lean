/-! PURE, part L: save and undo in both; the operations that change a state -/
section SVB
variable {K : Nat} {G M : Nat → Nat → Int32}
end SVB
section SNN
variable {f : Nat → Int32} {n : Nat}
theorem SN.kind1 (h : SN f n) (hn : n < 6) {d x : Nat} {v : Int32} (d1 : 1000 ≤ d) (d2 : d ≤ 4000) (hx : x < 6) : SN (upd (upd (upd (upd f (3 + 5 * n) (nI d)) (4 + 5 * n) v) (5 + 5 * n) (nI x)) 0 (nI (n + 1))) (n + 1) := by
  have nn : ∀ {i : Nat}, i ≠ 0 → i ≠ 3 + 5 * n → i ≠ 4 + 5 * n → i ≠ 5 + 5 * n → upd (upd (upd (upd f (3 + 5 * n) (nI d)) (4 + 5 * n) v) (5 + 5 * n) (nI x)) 0 (nI (n + 1)) i = f i := fun a b c e => by rw [upd_n a, upd_n e, upd_n c, upd_n b]
  refine ⟨⟨by omega, upd_s _ _ _⟩, fun k hk => ⟨?_, ?_⟩, fun k h1 h2 => ⟨?_, ?_⟩, fun r k hr h1 h2 => ?_, fun r hr => ?_, fun r hr => ⟨?_, ?_, ?_⟩, ?_⟩
  · by_cases q : k = n
    · subst q
      rw [upd_n (by omega), upd_n (by omega), upd_n (by omega), upd_s]
      exact ⟨d, d1, d2, rfl⟩
    · rw [nn (by omega) (by omega) (by omega) (by omega)]
      exact h.dm (by omega)
  · by_cases q : k = n
    · subst q
      rw [upd_n (by omega), upd_s]
      exact ⟨x, hx, rfl⟩
    · rw [nn (by omega) (by omega) (by omega) (by omega)]
      exact h.hm (by omega)
  · rw [nn (by omega) (by omega) (by omega) (by omega)]; exact h.fz (by omega) h2
  · rw [nn (by omega) (by omega) (by omega) (by omega)]; exact h.rz (by omega) h2
  · rw [nn (by omega) (by omega) (by omega) (by omega)]; exact h.bz hr (by omega) h2
  · rw [nn (by omega) (by omega) (by omega) (by omega)]
    rcases h.st hr with z | ⟨k, z1, z2⟩
    · exact Or.inl z
    · exact Or.inr ⟨k, by omega, z2⟩
  · rw [nn (by omega) (by omega) (by omega) (by omega)]; exact h.gp hr
  · rw [nn (by omega) (by omega) (by omega) (by omega)]; exact h.us hr
  · obtain ⟨c, h1, h2⟩ := (h.2.2.2.2.2.1 r hr).2.2
    exact ⟨c, fun k hk => by rw [nn (by omega) (by omega) (by omega) (by omega)]; exact h1 k hk, h2⟩
  · rw [nn (by omega) (by omega) (by omega) (by omega), h.fed]
    exact sm_cong 6 (fun k hk => (nn (by omega) (by omega) (by omega) (by omega)).symm)
theorem SN.home1 (h : SN f n) {k0 x : Nat} (h0 : k0 < n) (hx : x < 6) : SN (upd f (5 + 5 * k0) (nI x)) n := by
  have hn := h.n6
  refine h.congr (upd_n (by omega)) (upd_n (by omega)) (fun k hk => ⟨Or.inl (upd_n (by omega)), ?_⟩) (fun k hk => upd_n (by omega)) (fun k h1 h2 => Or.inl (upd_n (by omega))) (fun k hk => Or.inl (upd_n (by omega))) (fun k hk => Or.inl (upd_n (by omega))) (fun k hk => Or.inl (upd_n (by omega))) (fun j hj => upd_n (by omega))
  by_cases e : k = k0
  · subst e
    exact Or.inr ⟨x, hx, upd_s _ _ _⟩
  · exact Or.inl (upd_n (by omega))
theorem SN.tk1 (h : SN f n) (x : Int32) : SN (upd f 2 x) n := by
  have hn := h.n6
  exact h.congr (upd_n (by omega)) (upd_n (by omega)) (fun k hk => ⟨Or.inl (upd_n (by omega)), Or.inl (upd_n (by omega))⟩) (fun k hk => upd_n (by omega)) (fun k h1 h2 => Or.inl (upd_n (by omega))) (fun k hk => Or.inl (upd_n (by omega))) (fun k hk => Or.inl (upd_n (by omega))) (fun k hk => Or.inl (upd_n (by omega))) (fun j hj => upd_n (by omega))
end SNN
section OPT
variable {K : Nat} {G M : Nat → Nat → Int32}
end OPT

