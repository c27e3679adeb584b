/-! PURE, part N: append, clearText, feedSome, digest -/
section CN
variable {K : Nat} {G M : Nat → Nat → Int32}
def lcN (m : Nat) : Nat := (1103515245 * m + 12345) % 2147483648
theorem lcN_lt (m : Nat) : lcN m < 2147483648 := Nat.mod_lt _ (by decide)
theorem lc {m : Nat} (hm : m < 2147483648) : (((1103515245 : Int64) * lN m) + (12345 : Int64)) - (((1103515245 : Int64) * lN m) + (12345 : Int64)) / (2147483648 : Int64) * (2147483648 : Int64) = lN (lcN m) := by
  show (lN 1103515245 * lN m + lN 12345) - (lN 1103515245 * lN m + lN 12345) / lN 2147483648 * lN 2147483648 = _
  rw [lN_mul, lN_add]
  exact pk_lRem (by omega) (by decide) (by decide)
theorem lcK {v n : Nat} (hv : v < 2147483648) (h0 : 0 < n) (hn : n ≤ 6) : ((lN v / (65536 : Int64)) - (lN v / (65536 : Int64)) / lN n * lN n).toInt32 = nI (v / 65536 % n) := by
  have e : lN v / (65536 : Int64) = lN (v / 65536) := pk_lDiv (b := 65536) (by omega) (by decide) (by decide)
  rw [e, pk_lRem (by omega) h0 (by omega), lN_i]
theorem lcW {v : Nat} (hv : v < 2147483648) : ((lN v / (1048576 : Int64)) - (lN v / (1048576 : Int64)) / (40 : Int64) * (40 : Int64)).toInt32 = nI (v / 1048576 % 40) := by
  have e : lN v / (1048576 : Int64) = lN (v / 1048576) := pk_lDiv (b := 1048576) (by omega) (by decide) (by decide)
  have e2 : lN (v / 1048576) - lN (v / 1048576) / (40 : Int64) * (40 : Int64) = lN (v / 1048576 % 40) := pk_lRem (b := 40) (by omega) (by decide) (by decide)
  rw [e, e2, lN_i]
def fo (g : Nat → Int32) : Nat → Int64 → Int64
  | 0, h => h
  | m + 1, h => (31 : Int64) * fo g m h + (g m).toInt64
theorem mw_all (f : Nat → Int32) : ∀ N : Nat, ∃ mw : Nat → Nat, ∀ k, k < N → mwN f k (mw k)
  | 0 => ⟨fun _ => 0, fun k hk => absurd hk (by omega)⟩
  | N + 1 => by
    obtain ⟨mw, h⟩ := mw_all f N
    obtain ⟨c, hc⟩ := mwN_ex f N
    refine ⟨fun k => if k = N then c else mw k, fun k hk => ?_⟩
    by_cases q : k = N
    · subst q
      show mwN f k (if k = k then c else mw k)
      rw [if_pos rfl]; exact hc
    · show mwN f k (if k = N then c else mw k)
      rw [if_neg q]; exact h k (by omega)
/-- a digest's way over kinds, over rails -/
def foK (f : Nat → Int32) (mw : Nat → Nat) : Nat → Int64 → Int64
  | 0, h => h
  | k + 1, h => (31 : Int64) * fo (abK f k) 7 (foK f mw k h) + (nI (mw k) - 1).toInt64
def foR (f : Nat → Int32) (n : Nat) : Nat → Int64 → Int64
  | 0, h => h
  | r + 1, h => fo (fun k => f (63 + 6 * r + k)) n (fo (abR f n r) 10 (foR f n r h))
end CN
section DG
variable {K : Nat} {G M : Nat → Nat → Int32} {f : Nat → Int32} {n : Nat} {mw : Nat → Nat}
/-- a loop of more phases: P fuel j; each turn takes at most d -/
theorem lpd {β : Type} {N d : Nat} {P : Nat → Nat → Option β} {res : Option β} (hs : ∀ n j, j < N → d ≤ n → ∃ n', n < n' + d + 1 ∧ P n j = P n' (j + 1)) (he : ∀ n, 0 < n → P n N = res) : ∀ (m i n : Nat), i + m = N → (m + 1) * (d + 1) ≤ n → P n i = res
  | 0, i, n, hi, hn => by
    obtain rfl : i = N := by omega
    exact he n (by omega)
  | m + 1, i, n, hi, hn => by
    have e : (m + 1 + 1) * (d + 1) = (m + 1) * (d + 1) + (d + 1) := by rw [Nat.succ_mul]
    obtain ⟨n', h1, h2⟩ := hs n i (by omega) (by omega)
    rw [h2]
    exact lpd hs he m (i + 1) n' (by omega) (by omega)
end DG

