/-! PURE, part C: what the reference reads of its state -/
theorem sm_app (g : Nat → Int32) (a : Nat) : ∀ b, sm g (a + b) = sm g a + sm (fun k => g (a + k)) b
  | 0 => (add0 _).symm
  | b + 1 => by
    show sm g (a + b) + g (a + b) = sm g a + (sm (fun k => g (a + k)) b + g (a + b))
    rw [sm_app g a b, Int32.add_assoc]
theorem sm36 (f : Nat → Int32) : sm (fun j => f (63 + j)) 36 = sm (fun r => cIn f r) 6 := by
  have e : ∀ m, sm (fun j => f (63 + j)) (6 * m) = sm (fun r => cIn f r) m := by
    intro m
    induction m with
    | zero => rfl
    | succ m ih =>
      rw [show 6 * (m + 1) = 6 * m + 6 by omega, sm_app, ih]
      show _ = sm (fun r => cIn f r) m + cIn f m
      unfold cIn
      rw [sm_cong 6 (fun k _ => show f (63 + (6 * m + k)) = f (63 + 6 * m + k) by rw [← Nat.add_assoc])]
  exact e 6
section MR
variable {K : Nat} {M : Nat → Nat → Int32} {n : Nat}
/-- what kind(), rail(), value() answer -/
def abK (f : Nat → Int32) (k w : Nat) : Int32 := match w with
  | 0 => f (3 + 5 * k)
  | 1 => f (4 + 5 * k)
  | 2 => f (5 + 5 * k)
  | 3 => kIn f k
  | 4 => stk f (nI k)
  | 5 => f (7 + 5 * k)
  | _ => f (6 + 5 * k)
def abR (f : Nat → Int32) (n r w : Nat) : Int32 := match w with
  | 0 => f (33 + 5 * r)
  | 1 => f (34 + 5 * r)
  | 2 => cIn f r
  | 3 => f (35 + 5 * r)
  | 4 => f (36 + 5 * r)
  | 5 => spW f n r
  | 6 => trW f n r
  | 7 => mis f n r
  | 8 => duF f (nI r) 0 n
  | _ => f (37 + 5 * r)
def abA (f : Nat → Int32) (n w : Nat) : Int32 := match w with
  | 0 => f 0
  | 1 => f 1
  | 2 => sm (fun r => cIn f r) 6
  | 3 => stR f
  | 4 => sm (fun k => f (7 + 5 * k)) 6
  | 5 => f 2
  | 6 => sm (fun r => mis f n r) 6
  | 7 => sm (fun r => spW f n r) 6
  | 8 => sm (fun r => trW f n r) 6
  | _ => sm (fun r => if cIn f r < 40 then 0 else 1) 6
end MR
section CR
variable {K : Nat} {G : Nat → Nat → Int32} {f : Nat → Int32} {n : Nat}
theorem c_abK (hK : 4000 ≤ K) (h : SR G 1 f) {k : Nat} (hk : k < 6) {w : Nat} (hw : w < 7) : sX2_aboutKind K G (nI k) (nI w) = some (abK f k w) := by
  have hc : w = 0 ∨ w = 1 ∨ w = 2 ∨ w = 3 ∨ w = 4 ∨ w = 5 ∨ w = 6 := by omega
  unfold sX2_aboutKind
  rcases hc with rfl | rfl | rfl | rfl | rfl | rfl | rfl
  · rw [if_pos (by decide), grd_i hk (by decide), tnI (by omega), h.dm hk]
    rfl
  · rw [if_neg (by decide), if_pos (by decide), grd_i hk (by decide), tnI (by omega), h.vl hk]
    rfl
  · rw [if_neg (by decide), if_neg (by decide), if_pos (by decide), grd_i hk (by decide), tnI (by omega), h.hm hk]
    rfl
  · rw [if_neg (by decide), if_neg (by decide), if_neg (by decide), if_pos (by decide), c_kIn hK h hk, bind_e]
    rfl
  · rw [if_neg (by decide), if_neg (by decide), if_neg (by decide), if_neg (by decide), if_pos (by decide), c_stk hK h, bind_e]
    rfl
  · rw [if_neg (by decide), if_neg (by decide), if_neg (by decide), if_neg (by decide), if_neg (by decide), if_pos (by decide), grd_i hk (by decide), tnI (by omega), h.rj hk]
    rfl
  · rw [if_neg (by decide), if_neg (by decide), if_neg (by decide), if_neg (by decide), if_neg (by decide), if_neg (by decide), grd_i hk (by decide), tnI (by omega), h.fd hk]
    rfl
theorem c_abR (hK : 4000 ≤ K) (h : SR G 1 f) (hn : n ≤ 6) (h0 : f 0 = nI n) {r : Nat} (hr : r < 6) {w : Nat} (hw : w < 10) : sX2_aboutRail K G (nI r) (nI w) = some (abR f n r w) := by
  have hc : w = 0 ∨ w = 1 ∨ w = 2 ∨ w = 3 ∨ w = 4 ∨ w = 5 ∨ w = 6 ∨ w = 7 ∨ w = 8 ∨ w = 9 := by omega
  unfold sX2_aboutRail
  rcases hc with rfl | rfl | rfl | rfl | rfl | rfl | rfl | rfl | rfl | rfl
  · rw [if_pos (by decide), grd_i hr (by decide), tnI (by omega), h.gp hr]
    rfl
  · rw [if_neg (by decide), if_pos (by decide), grd_i hr (by decide), tnI (by omega), h.us hr]
    rfl
  · rw [if_neg (by decide), if_neg (by decide), if_pos (by decide), c_coinsIn hK h hr, bind_e]
    rfl
  · rw [if_neg (by decide), if_neg (by decide), if_neg (by decide), if_pos (by decide), grd_i hr (by decide), tnI (by omega), h.sk hr]
    rfl
  · rw [if_neg (by decide), if_neg (by decide), if_neg (by decide), if_neg (by decide), if_pos (by decide), grd_i hr (by decide), tnI (by omega), h.sw hr]
    rfl
  · rw [if_neg (by decide), if_neg (by decide), if_neg (by decide), if_neg (by decide), if_neg (by decide), if_pos (by decide), c_spW hK h hn h0 hr, bind_e]
    rfl
  · rw [if_neg (by decide), if_neg (by decide), if_neg (by decide), if_neg (by decide), if_neg (by decide), if_neg (by decide), if_pos (by decide), c_trW hK h hn h0 hr, bind_e]
    rfl
  · rw [if_neg (by decide), if_neg (by decide), if_neg (by decide), if_neg (by decide), if_neg (by decide), if_neg (by decide), if_neg (by decide), if_pos (by decide), c_mis hK h hn h0 hr, bind_e]
    rfl
  · rw [if_neg (by decide), if_neg (by decide), if_neg (by decide), if_neg (by decide), if_neg (by decide), if_neg (by decide), if_neg (by decide), if_neg (by decide), if_pos (by decide), c_due hK h hn h0, bind_e]
    rfl
  · rw [if_neg (by decide), if_neg (by decide), if_neg (by decide), if_neg (by decide), if_neg (by decide), if_neg (by decide), if_neg (by decide), if_neg (by decide), if_neg (by decide), grd_i hr (by decide), tnI (by omega), h.ro hr]
    rfl
theorem c_abA (hK : 4000 ≤ K) (h : SR G 1 f) (hS : SN f n) {w : Nat} (hw : w < 10) : sX2_aboutAll K G (nI w) = some (abA f n w) := by
  have hc : w = 0 ∨ w = 1 ∨ w = 2 ∨ w = 3 ∨ w = 4 ∨ w = 5 ∨ w = 6 ∨ w = 7 ∨ w = 8 ∨ w = 9 := by omega
  unfold sX2_aboutAll
  rcases hc with rfl | rfl | rfl | rfl | rfl | rfl | rfl | rfl | rfl | rfl
  · rw [if_pos (by decide), h.kinds]
    rfl
  · rw [if_neg (by decide), if_pos (by decide), c_sum6 hK 5 (by decide), bind_e, sm_cong 6 (fun k hk => h.fd hk), ← hS.fed]
    rfl
  · rw [if_neg (by decide), if_neg (by decide), if_pos (by decide), c_bagsA hK h, bind_e, sm36]
    rfl
  · rw [if_neg (by decide), if_neg (by decide), if_neg (by decide), if_pos (by decide), c_stR hK h, bind_e]
    rfl
  · rw [if_neg (by decide), if_neg (by decide), if_neg (by decide), if_neg (by decide), if_pos (by decide), c_sum6 hK 6 (by decide), bind_e, sm_cong 6 (fun k hk => h.rj hk)]
    rfl
  · rw [if_neg (by decide), if_neg (by decide), if_neg (by decide), if_neg (by decide), if_neg (by decide), if_pos (by decide), h.taken]
    rfl
  · rw [if_neg (by decide), if_neg (by decide), if_neg (by decide), if_neg (by decide), if_neg (by decide), if_neg (by decide), if_pos (by decide), c_misA hK h hS.n6 hS.k0, bind_e]
    rfl
  · rw [if_neg (by decide), if_neg (by decide), if_neg (by decide), if_neg (by decide), if_neg (by decide), if_neg (by decide), if_neg (by decide), if_pos (by decide), c_spWA hK h hS.n6 hS.k0, bind_e]
    rfl
  · rw [if_neg (by decide), if_neg (by decide), if_neg (by decide), if_neg (by decide), if_neg (by decide), if_neg (by decide), if_neg (by decide), if_neg (by decide), if_pos (by decide), c_trWA hK h hS.n6 hS.k0, bind_e]
    rfl
  · rw [if_neg (by decide), if_neg (by decide), if_neg (by decide), if_neg (by decide), if_neg (by decide), if_neg (by decide), if_neg (by decide), if_neg (by decide), if_neg (by decide), c_fulA hK h, bind_e]
    rfl
end CR

