/-! PURE, part J: the saved states -/
theorem SN.cong99 {f g : Nat → Int32} {n : Nat} (h : SN f n) (e : ∀ j, j < 99 → g j = f j) : SN g n :=
  have hn := h.n6
  h.congr (e 0 (by omega)) (e 1 (by omega)) (fun k hk => ⟨Or.inl (e _ (by omega)), Or.inl (e _ (by omega))⟩) (fun k hk => e _ (by omega)) (fun k _ hk => Or.inl (e _ (by omega))) (fun r hr => Or.inl (e _ (by omega))) (fun r hr => Or.inl (e _ (by omega))) (fun r hr => Or.inl (e _ (by omega))) (fun j hj => e _ (by omega))
theorem fx_lt {a j : Nat} (h : vd a j) : fx a j < 99 := by
  unfold fx
  rcases h with ⟨h1, h2 | h2⟩ | ⟨h1, h2, h3⟩ | ⟨h1, h2⟩
  · rw [if_pos h1, if_pos h2]; omega
  · rw [if_pos h1, if_neg (by omega)]; omega
  · rw [if_neg (by omega)]
    by_cases q : a ≤ 5
    · rw [if_pos q]; omega
    · rw [if_neg q, if_pos h2]; omega
  · rw [if_neg (by omega), if_neg (by omega), if_neg (by omega)]; omega
theorem SR.cong99 {G : Nat → Nat → Int32} {b : Nat} {f g : Nat → Int32} (h : SR G b f) (e : ∀ j, j < 99 → g j = f j) : SR G b g := h.congr fun a j hv => e _ (fx_lt hv)
theorem SR.same {G G' : Nat → Nat → Int32} {b : Nat} {f : Nat → Int32} (h : SR G b f) (e : ∀ a, a < 12 → G' (b + a) = G (b + a)) : SR G' b f := SR.of fun a j hv => by
  have ha : a < 12 := by unfold vd at hv; omega
  rw [e a ha]
  exact h.all a j hv
section CPY
variable {G0 : Nat → Nat → Int32} {p0 p1 : Nat}
def CP (G0 G : Nat → Nat → Int32) (p0 p1 a : Nat) : Prop := (∀ i, (i < p0 ∨ p0 + 12 ≤ i) → G i = G0 i) ∧ G p0 0 = G0 p1 0 ∧ ∀ b, 1 ≤ b → b ≤ a → ∀ j, (j < 6 ∨ (b = 11 ∧ j < 36)) → G (p0 + b) j = G0 (p1 + b) j
theorem CP.step {G : Nat → Nat → Int32} {a : Nat} (hd : p0 + 12 ≤ p1 ∨ p1 + 12 ≤ p0) (h : CP G0 G p0 p1 a) (ha : a < 11) {N : Nat} (hN : 6 ≤ N) (h36 : a = 10 → 36 ≤ N) : CP G0 (upR G (p0 + (a + 1)) (va_cpy (G (p1 + (a + 1))) (G (p0 + (a + 1))) 0 0 N)) p0 p1 (a + 1) := by
  obtain ⟨h1, h2, h3⟩ := h
  refine ⟨fun i hi => ?_, ?_, fun b b1 b2 j hj => ?_⟩
  · rw [upR_n (by omega)]; exact h1 i hi
  · rw [upR_n (by omega)]; exact h2
  · by_cases q : b = a + 1
    · subst q
      rw [upR_s]
      unfold va_cpy
      have hj2 : j < N := by
        rcases hj with z | ⟨z, z2⟩
        · omega
        · have := h36 (by omega)
          omega
      rw [if_pos ⟨by omega, by omega⟩, h1 (p1 + (a + 1)) (by omega)]
      rw [show 0 + (j - 0) = j by omega]
    · rw [upR_n (by omega)]
      exact h3 b b1 (by omega) j hj
theorem CP.go {G : Nat → Nat → Int32} {a : Nat} (hd : p0 + 12 ≤ p1 ∨ p1 + 12 ≤ p0) (h : CP G0 G p0 p1 a) {x : Int32} (ha : a < 11) (hN : 6 ≤ x.toNatClampNeg) (h36 : a = 10 → 36 ≤ x.toNatClampNeg) {F : (Nat → Nat → Int32) → Option (Nat → Nat → Int32)} {P : (Nat → Nat → Int32) → Prop} (kk : ∀ G1, CP G0 G1 p0 p1 (a + 1) → ∃ G', F G1 = some G' ∧ P G') : ∃ G', olet (upR G (p0 + (a + 1)) (va_cpy (G (p1 + (a + 1))) (G (p0 + (a + 1))) 0 0 x.toNatClampNeg)) F = some G' ∧ P G' := kk _ (h.step hd ha hN h36)
theorem CP.fin {G : Nat → Nat → Int32} (hd : p0 + 12 ≤ p1 ∨ p1 + 12 ≤ p0) (s11 : CP G0 G p0 p1 11) {f : Nat → Int32} (h : SR G0 p1 f) : SR (up2 G p0 12 (G p1 12)) p0 f ∧ ∀ i, (i < p0 ∨ p0 + 12 ≤ i) → up2 G p0 12 (G p1 12) i = G0 i := by
  obtain ⟨h1, h2, h3⟩ := s11
  constructor
  · refine SR.of fun a j hv => ?_
    rw [← h.all a j hv]
    rcases hv with ⟨rfl, rfl | rfl⟩ | ⟨a1, a2, a3⟩ | ⟨rfl, a2⟩
    · rw [show p0 + 0 = p0 from rfl, up2_s, upd_n (by decide)]
      exact h2
    · rw [show p0 + 0 = p0 from rfl, up2_s, upd_s]
      exact congrFun (h1 p1 (by omega)) 12
    · rw [up2_n (by omega)]
      exact h3 a a1 (by omega) j (Or.inl a3)
    · rw [up2_n (by omega)]
      exact h3 11 (by omega) (by omega) j (Or.inr ⟨rfl, a2⟩)
  · intro i hi
    rw [up2_n (by omega)]
    exact h1 i hi
theorem c_copy (K : Nat) (hd : p0 + 12 ≤ p1 ∨ p1 + 12 ≤ p0) {f : Nat → Int32} (h : SR G0 p1 f) : ∃ G', sX2_copyFrom K G0 p0 p1 = some G' ∧ SR G' p0 f ∧ ∀ i, (i < p0 ∨ p0 + 12 ≤ i) → G' i = G0 i := by
  have s0 : CP G0 (up2 G0 p0 0 (G0 p1 0)) p0 p1 0 := by
    refine ⟨fun i hi => up2_n (by omega), ?_, fun b b1 b2 => absurd b1 (by omega)⟩
    rw [up2_s, upd_s]
  unfold sX2_copyFrom
  rw [olet_e]
  refine s0.go hd (by omega) (by decide) (by decide) fun G1 s1 => ?_
  refine s1.go hd (by omega) (by decide) (by decide) fun G2 s2 => ?_
  refine s2.go hd (by omega) (by decide) (by decide) fun G3 s3 => ?_
  refine s3.go hd (by omega) (by decide) (by decide) fun G4 s4 => ?_
  refine s4.go hd (by omega) (by decide) (by decide) fun G5 s5 => ?_
  refine s5.go hd (by omega) (by decide) (by decide) fun G6 s6 => ?_
  refine s6.go hd (by omega) (by decide) (by decide) fun G7 s7 => ?_
  refine s7.go hd (by omega) (by decide) (by decide) fun G8 s8 => ?_
  refine s8.go hd (by omega) (by decide) (by decide) fun G9 s9 => ?_
  refine s9.go hd (by omega) (by decide) (by decide) fun G10 s10 => ?_
  refine s10.go hd (by omega) (by decide) (by decide) fun G11 s11 => ?_
  exact ⟨_, rfl, CP.fin hd s11 h⟩
end CPY
def svF (M : Nat → Nat → Int32) (i : Nat) : Nat → Int32 := fun j => M 2 (99 * i + j)
def slt (nx c i : Nat) : Nat := 15 + 12 * ((nx + 4 - c + i) % 4)
theorem rgL_at {nx : Nat} (h : nx < 4) : rgL.getD (nI nx).toNatClampNeg 0 = 15 + 12 * nx := by
  rw [tnI (by omega)]
  have h4 : nx = 0 ∨ nx = 1 ∨ nx = 2 ∨ nx = 3 := by omega
  rcases h4 with rfl | rfl | rfl | rfl <;> rfl
theorem c_save (K : Nat) {G : Nat → Nat → Int32} {f : Nat → Int32} (h : SR G 1 f) {c nx : Nat} (hc : c ≤ 4) (hx : nx < 4) (e1 : G 13 1 = nI nx) (e2 : G 13 2 = nI c) : ∃ G', sX1_save K G = some G' ∧ SR G' (15 + 12 * nx) f ∧ G' 13 1 = nI ((nx + 1) % 4) ∧ G' 13 2 = nI (if c < 4 then c + 1 else 4) ∧ ∀ i, i ≠ 13 → (i < 15 + 12 * nx ∨ 15 + 12 * nx + 12 ≤ i) → G' i = G i := by
  obtain ⟨G1, q1, q2, q3⟩ := c_copy (p0 := 15 + 12 * nx) (p1 := 1) K (by omega) h
  have r1 : G1 13 1 = nI nx := (congrFun (q3 13 (by omega)) 1).trans e1
  have r2 : G1 13 2 = nI c := (congrFun (q3 13 (by omega)) 2).trans e2
  unfold sX1_save
  rw [e1, grd_i hx (by decide), rgL_at hx, q1, bind_e, olet_e, olet_e]
  refine ⟨_, rfl, ?_, ?_, ?_, fun i hi hi2 => ?_⟩
  · exact q2.same fun a ha => by rw [up2_n (by omega), up2_n (by omega)]
  · rw [up2_s, upd_n (by decide), up2_s, upd_s, r1, nI1]
    exact pk_rem (d := 4) (by omega) (by decide) (by decide)
  · rw [up2_s, upd_s, up2_s, upd_n (by decide), r2, nI1]
    by_cases z : c < 4
    · by_cases z3 : c = 3
      · subst z3; rfl
      · rw [if_pos z, if_pos (show nI (c + 1) < 4 from yltI (b := 4) (by omega) (by omega))]
    · rw [if_neg z, if_neg (show ¬ nI (c + 1) < 4 from nltI (b := 4) (by omega) (by omega))]
      rfl
  · rw [up2_n hi, up2_n hi]
    exact q3 i hi2
section MS
variable {K : Nat} {M : Nat → Nat → Int32}
theorem ix99 (c j : Nat) : (99 : Int32) * nI c + nI j = nI (99 * c + j) := by
  show nI 99 * nI c + nI j = _
  rw [pk_mul, nI_add]
end MS

