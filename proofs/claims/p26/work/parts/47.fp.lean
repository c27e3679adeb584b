/-! PURE, part U: the shares that right answers, as doubles (chunks laid by program) -/
def rtD (a b : Nat) : UInt64 := FP.ddiv (FP.i2d (nI a)) (FP.i2d (nI b))
/-- a double from 0.0 to 1.0, by its bits -/
def rtG (x : UInt64) : Bool := decide (x.toNat ≤ 4607182418800017408)
set_option maxRecDepth 100000 in
theorem rt_c0 : ∀ b, b < 20 → 0 < 0 + b → ∀ a, a < 0 + b + 1 → rtG (rtD a (0 + b)) = true := by decide +kernel
set_option maxRecDepth 100000 in
theorem rt_c1 : ∀ b, b < 20 → 0 < 20 + b → ∀ a, a < 20 + b + 1 → rtG (rtD a (20 + b)) = true := by decide +kernel
set_option maxRecDepth 100000 in
theorem rt_c2 : ∀ b, b < 20 → 0 < 40 + b → ∀ a, a < 40 + b + 1 → rtG (rtD a (40 + b)) = true := by decide +kernel
set_option maxRecDepth 100000 in
theorem rt_c3 : ∀ b, b < 20 → 0 < 60 + b → ∀ a, a < 60 + b + 1 → rtG (rtD a (60 + b)) = true := by decide +kernel
set_option maxRecDepth 100000 in
theorem rt_c4 : ∀ b, b < 20 → 0 < 80 + b → ∀ a, a < 80 + b + 1 → rtG (rtD a (80 + b)) = true := by decide +kernel
set_option maxRecDepth 100000 in
theorem rt_c5 : ∀ b, b < 20 → 0 < 100 + b → ∀ a, a < 100 + b + 1 → rtG (rtD a (100 + b)) = true := by decide +kernel
set_option maxRecDepth 100000 in
theorem rt_c6 : ∀ b, b < 20 → 0 < 120 + b → ∀ a, a < 120 + b + 1 → rtG (rtD a (120 + b)) = true := by decide +kernel
set_option maxRecDepth 100000 in
theorem rt_c7 : ∀ b, b < 20 → 0 < 140 + b → ∀ a, a < 140 + b + 1 → rtG (rtD a (140 + b)) = true := by decide +kernel
set_option maxRecDepth 100000 in
theorem rt_c8 : ∀ b, b < 20 → 0 < 160 + b → ∀ a, a < 160 + b + 1 → rtG (rtD a (160 + b)) = true := by decide +kernel
set_option maxRecDepth 100000 in
theorem rt_c9 : ∀ b, b < 20 → 0 < 180 + b → ∀ a, a < 180 + b + 1 → rtG (rtD a (180 + b)) = true := by decide +kernel
set_option maxRecDepth 100000 in
theorem rt_c10 : ∀ b, b < 20 → 0 < 200 + b → ∀ a, a < 200 + b + 1 → rtG (rtD a (200 + b)) = true := by decide +kernel
set_option maxRecDepth 100000 in
theorem rt_c11 : ∀ b, b < 20 → 0 < 220 + b → ∀ a, a < 220 + b + 1 → rtG (rtD a (220 + b)) = true := by decide +kernel
set_option maxRecDepth 100000 in
theorem rt_c12 : ∀ b, b < 20 → 0 < 240 + b → ∀ a, a < 240 + b + 1 → rtG (rtD a (240 + b)) = true := by decide +kernel
theorem rt_all {a b : Nat} (h0 : 0 < b) (hb : b ≤ 240) (ha : a ≤ b) : rtG (rtD a b) = true := by
  by_cases c0 : b < 20
  · have h := rt_c0 (b - 0) (by omega) (by omega) a (by omega)
    rw [show 0 + (b - 0) = b by omega] at h
    exact h
  by_cases c1 : b < 40
  · have h := rt_c1 (b - 20) (by omega) (by omega) a (by omega)
    rw [show 20 + (b - 20) = b by omega] at h
    exact h
  by_cases c2 : b < 60
  · have h := rt_c2 (b - 40) (by omega) (by omega) a (by omega)
    rw [show 40 + (b - 40) = b by omega] at h
    exact h
  by_cases c3 : b < 80
  · have h := rt_c3 (b - 60) (by omega) (by omega) a (by omega)
    rw [show 60 + (b - 60) = b by omega] at h
    exact h
  by_cases c4 : b < 100
  · have h := rt_c4 (b - 80) (by omega) (by omega) a (by omega)
    rw [show 80 + (b - 80) = b by omega] at h
    exact h
  by_cases c5 : b < 120
  · have h := rt_c5 (b - 100) (by omega) (by omega) a (by omega)
    rw [show 100 + (b - 100) = b by omega] at h
    exact h
  by_cases c6 : b < 140
  · have h := rt_c6 (b - 120) (by omega) (by omega) a (by omega)
    rw [show 120 + (b - 120) = b by omega] at h
    exact h
  by_cases c7 : b < 160
  · have h := rt_c7 (b - 140) (by omega) (by omega) a (by omega)
    rw [show 140 + (b - 140) = b by omega] at h
    exact h
  by_cases c8 : b < 180
  · have h := rt_c8 (b - 160) (by omega) (by omega) a (by omega)
    rw [show 160 + (b - 160) = b by omega] at h
    exact h
  by_cases c9 : b < 200
  · have h := rt_c9 (b - 180) (by omega) (by omega) a (by omega)
    rw [show 180 + (b - 180) = b by omega] at h
    exact h
  by_cases c10 : b < 220
  · have h := rt_c10 (b - 200) (by omega) (by omega) a (by omega)
    rw [show 200 + (b - 200) = b by omega] at h
    exact h
  by_cases c11 : b < 240
  · have h := rt_c11 (b - 220) (by omega) (by omega) a (by omega)
    rw [show 220 + (b - 220) = b by omega] at h
    exact h
  by_cases c12 : b < 260
  · have h := rt_c12 (b - 240) (by omega) (by omega) a (by omega)
    rw [show 240 + (b - 240) = b by omega] at h
    exact h
  · omega
theorem dec_s {n : Nat} (h : n ≤ 4607182418800017408) : ∃ c q, FP.Core.decode FP.Core.b64 n = .fin false c q ∧ ((c = 4503599627370496 ∧ q = -52) ∨ (c < 9007199254740992 ∧ q ≤ -53)) := by
  have e1 : FP.Core.fieldE FP.Core.b64 n = n / 4503599627370496 % 2048 := rfl
  have e2 : FP.Core.fieldT FP.Core.b64 n = n % 4503599627370496 := rfl
  have e3 : FP.Core.fieldS FP.Core.b64 n = (n / 4503599627370496 / 2048 % 2 == 1) := rfl
  have e4 : FP.Core.b64.exps - 1 = 2047 := by decide
  have e5 : FP.Core.b64.qmin = -1074 := by decide
  have e6 : FP.Core.b64.tails = 4503599627370496 := by decide
  have s : FP.Core.fieldS FP.Core.b64 n = false := by
    have z : n / 4503599627370496 / 2048 % 2 = 0 := by omega
    rw [e3, z]
    rfl
  unfold FP.Core.decode
  rw [s, e1, e2, e4, e5, e6, if_neg (by omega)]
  by_cases z : n / 4503599627370496 % 2048 = 0
  · rw [if_pos z]
    exact ⟨_, _, rfl, Or.inr ⟨by omega, by omega⟩⟩
  · rw [if_neg z]
    refine ⟨_, _, rfl, ?_⟩
    by_cases y : n = 4607182418800017408
    · exact Or.inl ⟨by omega, by omega⟩
    · exact Or.inr ⟨by omega, by omega⟩
theorem cmp_eq (A : Int) : Op.cmpValue (some (compare A A)) .l = 0 := by
  show Op.cmpValue (some (if A < A then .lt else if A = A then .eq else .gt)) .l = 0
  rw [if_neg (Int.lt_irrefl _), if_pos rfl]
  rfl
theorem cmp_ge {A B : Int} (h : ¬ A < B) : ¬ Op.cmpValue (some (compare A B)) .l < 0 := by
  show ¬ Op.cmpValue (some (if A < B then .lt else if A = B then .eq else .gt)) .l < 0
  rw [if_neg h]
  split <;> decide
theorem cmp_le {A B : Int} (h : ¬ B < A) : ¬ 0 < Op.cmpValue (some (compare A B)) .g := by
  show ¬ 0 < Op.cmpValue (some (if A < B then .lt else if A = B then .eq else .gt)) .g
  by_cases c : A < B
  · rw [if_pos c]; decide
  · rw [if_neg c, if_pos (by omega)]; decide
theorem rtG_nn {x : UInt64} (h : rtG x = true) : nn64 x = true := by
  have h2 := of_decide_eq_true h
  refine decide_eq_true ?_
  rw [UInt64.le_iff_toNat_le, UInt64.toNat_and]
  exact Nat.le_trans Nat.and_le_left (Nat.le_trans h2 (by decide))
theorem rtG_eq {x : UInt64} (h : rtG x = true) : Op.cmpValue (FP.dcmp x x) .l = 0 := by
  obtain ⟨c, q, e, -⟩ := dec_s (of_decide_eq_true h)
  show Op.cmpValue (FP.Core.order (FP.Core.decode FP.Core.b64 x.toNat) (FP.Core.decode FP.Core.b64 x.toNat)) .l = 0
  rw [e]
  exact cmp_eq _
theorem rtG_0 {x : UInt64} (h : rtG x = true) : ¬ Op.cmpValue (FP.dcmp x FP.dconst0) .l < 0 := by
  obtain ⟨c, q, e, -⟩ := dec_s (of_decide_eq_true h)
  have e0 : FP.Core.decode FP.Core.b64 FP.dconst0.toNat = .fin false 0 (-1074) := by decide +kernel
  show ¬ Op.cmpValue (FP.Core.order (FP.Core.decode FP.Core.b64 x.toNat) (FP.Core.decode FP.Core.b64 FP.dconst0.toNat)) .l < 0
  rw [e, e0]
  refine cmp_ge (A := ((c * 2 ^ (q - min q (-1074)).toNat : Nat) : Int)) (B := ((0 * 2 ^ (-1074 - min q (-1074)).toNat : Nat) : Int)) ?_
  rw [Nat.zero_mul]
  omega
theorem rtG_1 {x : UInt64} (h : rtG x = true) : ¬ 0 < Op.cmpValue (FP.dcmp x FP.dconst1) .g := by
  obtain ⟨c, q, e, hq⟩ := dec_s (of_decide_eq_true h)
  have e0 : FP.Core.decode FP.Core.b64 FP.dconst1.toNat = .fin false 4503599627370496 (-52) := by decide +kernel
  show ¬ 0 < Op.cmpValue (FP.Core.order (FP.Core.decode FP.Core.b64 x.toNat) (FP.Core.decode FP.Core.b64 FP.dconst1.toNat)) .g
  rw [e, e0]
  refine cmp_le (A := ((c * 2 ^ (q - min q (-52)).toNat : Nat) : Int)) (B := ((4503599627370496 * 2 ^ (-52 - min q (-52)).toNat : Nat) : Int)) ?_
  rcases hq with ⟨h1, h2⟩ | ⟨h1, h2⟩
  · subst h1
    subst h2
    exact Int.lt_irrefl _
  · have e1 : (q - min q (-52)).toNat = 0 := by omega
    have e2 : 1 ≤ (-52 - min q (-52)).toNat := by omega
    have e3 := Nat.pow_le_pow_right (n := 2) (by decide) e2
    have e4 : 4503599627370496 * 2 ^ 1 ≤ 4503599627370496 * 2 ^ (-52 - min q (-52)).toNat := Nat.mul_le_mul_left _ e3
    rw [e1, Nat.pow_zero, Nat.mul_one]
    generalize 4503599627370496 * 2 ^ (-52 - min q (-52)).toNat = B at e4 ⊢
    omega
theorem rtG_one : rtG FP.dconst1 = true := by decide +kernel
theorem sm4_n {u : Nat → Int32} {c : Nat → Nat} (h : ∀ k, k < 4 → u k = nI (c k)) : sm u 4 = nI (c 0 + c 1 + c 2 + c 3) := by
  show (((nI 0 + u 0) + u 1) + u 2) + u 3 = _
  rw [h 0 (by decide), h 1 (by decide), h 2 (by decide), h 3 (by decide), nI_add, nI_add, nI_add, nI_add, Nat.zero_add]
/-- misfits and coins of a bag, of all bags -/
theorem mis_1 {f : Nat → Int32} (h : SN f 4) {r : Nat} (hr : r < 6) : ∃ a b, a ≤ b ∧ b ≤ 40 ∧ mis f 4 r = nI a ∧ cIn f r = nI b := by
  obtain ⟨c, h1, h2⟩ := (h.2.2.2.2.2.1 r hr).2.2
  have e : mis f 4 r = nI ((if f (5 + 5 * 0) = nI r then 0 else c 0) + (if f (5 + 5 * 1) = nI r then 0 else c 1) + (if f (5 + 5 * 2) = nI r then 0 else c 2) + (if f (5 + 5 * 3) = nI r then 0 else c 3)) :=
    sm4_n (c := fun k => if f (5 + 5 * k) = nI r then 0 else c k) fun k hk => by
      rw [h1 k (by omega)]
      by_cases q : f (5 + 5 * k) = nI r
      · rw [if_pos q, if_pos q]; rfl
      · rw [if_neg q, if_neg q]
  refine ⟨_, _, ?_, h2, e, sm6 h1⟩
  have l : ∀ k, (if f (5 + 5 * k) = nI r then 0 else c k) ≤ c k := fun k => by split <;> omega
  have l0 := l 0
  have l1 := l 1
  have l2 := l 2
  have l3 := l 3
  omega
theorem mis_all {f : Nat → Int32} (h : SN f 4) : ∃ a b, a ≤ b ∧ b ≤ 240 ∧ sm (fun r => mis f 4 r) 6 = nI a ∧ sm (fun r => cIn f r) 6 = nI b := by
  have key : ∀ m, m ≤ 6 → ∃ a b, a ≤ b ∧ b ≤ 40 * m ∧ sm (fun r => mis f 4 r) m = nI a ∧ sm (fun r => cIn f r) m = nI b := by
    intro m
    induction m with
    | zero => exact fun _ => ⟨0, 0, by omega, by omega, rfl, rfl⟩
    | succ m ih =>
      intro hm
      obtain ⟨a, b, h1, h2, h3, h4⟩ := ih (by omega)
      obtain ⟨c, d, k1, k2, k3, k4⟩ := mis_1 h (show m < 6 by omega)
      refine ⟨a + c, b + d, by omega, by omega, ?_, ?_⟩
      · show sm (fun r => mis f 4 r) m + mis f 4 m = _
        rw [h3, k3, nI_add]
      · show sm (fun r => cIn f r) m + cIn f m = _
        rw [h4, k4, nI_add]
  obtain ⟨a, b, h1, h2, h3, h4⟩ := key 6 (Nat.le_refl _)
  exact ⟨a, b, h1, by omega, h3, h4⟩
theorem rt_good {f : Nat → Int32} (h : SN f 4) : rtG (rtF f 4) = true ∧ (¬ sm (fun r => cIn f r) 6 = 0 → nn64 (FP.ddiv (FP.i2d (sm (fun r => cIn f r) 6 - sm (fun r => mis f 4 r) 6)) (FP.i2d (sm (fun r => cIn f r) 6))) = true) := by
  obtain ⟨a, b, h1, h2, h3, h4⟩ := mis_all h
  unfold rtF
  rw [h3, h4, pk_sub h1]
  by_cases c : b = 0
  · subst c
    refine ⟨?_, fun z => absurd rfl z⟩
    rw [if_pos (show nI 0 = 0 from rfl)]
    exact rtG_one
  · have hz : ¬ nI b = 0 := neI (b := 0) c (by omega) (by omega)
    rw [if_neg hz]
    have := rt_all (a := b - a) (b := b) (by omega) h2 (by omega)
    exact ⟨this, fun _ => rtG_nn this⟩
theorem o_rt {K : Nat} {G : Nat → Nat → Int32} {f : Nat → Int32} (hK : 4000 ≤ K) (h : St G f 4) : sX3_right K G = some (rtF f 4) := o_right hK h (rt_good h.2.1).2
