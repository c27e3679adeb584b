/-! PURE, part Q: the first state of both agrees -/
theorem iS_iM : ∀ a, a < 12 → ∀ j, j < 36 → ((a = 0 ∧ (j = 0 ∨ j = 12)) ∨ (1 ≤ a ∧ a ≤ 10 ∧ j < 6) ∨ (a = 11 ∧ j < 36)) → iS 6 a j = iM 6 1 (fx a j) := by decide +kernel
theorem GC_at {a : Nat} (ha : a < 12) : GC (1 + a) = iS 6 a := by
  unfold GC
  rw [if_neg (by omega), if_pos (by omega), show 1 + a - 1 = a by omega]
theorem SR0 : SR GC 1 (iM 6 1) := SR.of fun a j hv => by
  have h := hv
  unfold vd at h
  rw [GC_at (by omega)]
  exact iS_iM a (by omega) j (by omega) h
theorem z0F : ∀ k, k < 6 → iM 6 1 (6 + 5 * k) = 0 ∧ iM 6 1 (7 + 5 * k) = 0 := by decide +kernel
theorem z0B : ∀ r, r < 6 → ∀ k, k < 6 → iM 6 1 (63 + 6 * r + k) = 0 := by decide +kernel
theorem z0S : ∀ r, r < 6 → iM 6 1 (35 + 5 * r) = -1 ∧ iM 6 1 (33 + 5 * r) = nI (1500 + 400 * r) ∧ iM 6 1 (34 + 5 * r) = nI 0 := by decide +kernel
theorem SN0 : SN (iM 6 1) 0 := by
  refine ⟨⟨by omega, by decide +kernel⟩, fun k hk => absurd hk (by omega), fun k _ hk => z0F k hk, fun r k hr _ hk => z0B r hr k hk, fun r hr => Or.inl (z0S r hr).1, fun r hr => ⟨⟨1500 + 400 * r, by omega, by omega, (z0S r hr).2.1⟩, ⟨0, by omega, (z0S r hr).2.2⟩, fun _ => 0, fun k hk => z0B r hr k hk, (by decide : 0 + 0 + 0 + 0 + 0 + 0 ≤ 40)⟩, by decide +kernel⟩
