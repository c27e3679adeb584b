/-! MACHINE: the law's walk: what its cases share -/
/-- the law's facts, all through -/
def lwF (p : Program) (l : Launch) (s : State) (m : MethodId) (c : Code) (args : Array Value) (D : va_G) (cI cR cL : ClassId) (b L : Nat) (xs : Nat → Int32) : Prop :=
  p.tables.exec = Jvm.exec ∧ c.code = code ∧ c.maxLocals = 9 ∧ s.vm.findClass RL = some m.cls ∧ (∀ w ∈ wsL_law, w.before args s = true) ∧ l.flags = flags0 ∧ va_X b L xs s s.heap ∧ b < s.heap.size ∧ va_K D vwCl (mTyL cI cR cL) s ∧ thP (fun a => s.heap.size ≤ a) s ∧ ncP s
/-- where the law's things lie: x, m, out -/
def lwJ (q qm : Nat → Nat) (o n : Nat) : Prop := MJ tmC q ∧ MJ tmM qm ∧ (∀ a, MA tmC q a → ¬ MA tmM qm a) ∧ ¬ MA tmC q o ∧ ¬ MA tmM qm o ∧ (∀ a, MA tmC q a → n ≤ a) ∧ (∀ a, MA tmM qm a → n ≤ a) ∧ n ≤ o
/-- what they hold -/
def lwW (D : va_G) (cI cR cL : ClassId) (q qm : Nat → Nat) (o : Nat) (G M : Nat → Nat → Int32) (v : Int64) (H : Heap) : Prop := MW D cI cR q tmC G H ∧ MW D cI cR qm tmM M H ∧ va_P D vwCl (oW o cL v) H
abbrev lwA (s : State) : Nat → Prop := fun a => s.heap.size ≤ a
abbrev lwL (b q0 qm0 o : Nat) (x : Int32) : List (Nat × Value) := [(0, .ref b), (1, .ref q0), (2, .ref qm0), (3, .ref o), (4, .int x)]
theorem oW_kept {D : va_G} {cL : ClassId} {o : Nat} {v : Int64} {H H1 : Heap} (h : va_P D vwCl (oW o cL v) H) (hk : H1[o]? = H[o]?) : va_P D vwCl (oW o cL v) H1 := h.kept fun k y hy => by
  have hz1 : k < 1 := (List.getElem?_eq_some_iff.mp hy).1
  obtain rfl : k = 0 := by omega
  cases hy
  exact hk
theorem oW_lt {D : va_G} {cL : ClassId} {o : Nat} {v : Int64} {H : Heap} (h : va_P D vwCl (oW o cL v) H) : o < H.size := (h 0 _ rfl).lt
theorem lwW.kept {D : va_G} {cI cR cL : ClassId} {q qm : Nat → Nat} {o : Nat} {G M : Nat → Nat → Int32} {v : Int64} {H H1 : Heap} (h : lwW D cI cR cL q qm o G M v H) (hk : ∀ z : Nat, z < H.size → H1[z]? = H[z]?) : lwW D cI cR cL q qm o G M v H1 :=
  ⟨h.1.kept (fun a _ h9 => hk a h9), h.2.1.kept (fun a _ h9 => hk a h9), oW_kept h.2.2 (hk o (oW_lt h.2.2))⟩
theorem lwF.at {p : Program} {l : Launch} {s : State} {m : MethodId} {c : Code} {args : Array Value} {D : va_G} {cI cR cL : ClassId} {b L : Nat} {xs : Nat → Int32} (F : lwF p l s m c args D cI cR cL b L xs) (d : Drawn) : lwF p l (s.setDrawn d) m c args D cI cR cL b L xs := by
  obtain ⟨hx, hb, hml, hown, hts, hfl, hX, hbl, hKL, ⟨h4, h5, h6, h7, h8⟩, hnc⟩ := F
  exact ⟨hx, hb, hml, hown, dr_words hts d, hfl, hX, hbl, hKL, ⟨vx_Zq.moved (u := s) (U := s.setDrawn d) (Vm.Alike.refl s.vm) h4, vx_Zq.moved (u := s) (U := s.setDrawn d) (Vm.Alike.refl s.vm) h5, fun x hx => by
    obtain ⟨sa, z⟩ := h6 x hx
    exact ⟨sa, vk_R.same (u := s) (U := s.setDrawn d) rfl z⟩, fun E hE => va_Nw.same (u := s) (U := s.setDrawn d) rfl rfl (h7 E hE), fun Y hY => va_Nw.same (u := s) (U := s.setDrawn d) rfl rfl (h8 Y hY)⟩, ncP.moved (u := s) (U := s.setDrawn d) (Vm.Alike.refl s.vm) hnc⟩
/-- a script's number, the refused and the done: how the wrapper's answer and the reference's agree -/
def uqH (hs : List (String × Nat)) : Prop := ∀ x ∈ hs, ∀ y ∈ hs, x.1 = y.1 → x.2 = y.2 ∧ nI x.2 ≠ 0
theorem uIA : uqH hIA := by unfold uqH; decide +kernel
theorem uIAS : uqH hIAS := by unfold uqH; decide +kernel
theorem uAS : uqH hAS := by unfold uqH; decide +kernel
theorem uIS : uqH hIS := by unfold uqH; decide +kernel
theorem uI : uqH hI := by unfold uqH; decide +kernel
theorem uA : uqH hA := by unfold uqH; decide +kernel
theorem uS : uqH hS := by unfold uqH; decide +kernel
theorem OpT.ex {G : Nat → Nat → Int32} {hs : List (String × Nat)} {c : Option (String ⊕ (Int32 × (Nat → Nat → Int32)))} {m : Option (Int32 × (Nat → Nat → Int32))} (h : OpT G hs c m) (hu : uqH hs) : ∃ r mb M1, c = some r ∧ m = some (mb, M1) ∧ (∀ E, r = .inl E → ∃ j, (E, j) ∈ hs) ∧ ∀ v k G1 v1, wOk r hs G v k (G1, v1) → M1 0 4 = k ∧ (k = 0 → v1 = mb.toInt64) ∧ Rel G1 M1 := by
  rcases h with ⟨r, G', M', h1, h2, h3, h4⟩ | ⟨E, j, mb, M', h1, h2, h3, h4, h5⟩
  · refine ⟨_, r, M', h1, h2, fun E hE => (by cases hE), fun v k G1 v1 hw => ?_⟩
    rcases hw with ⟨x, G2, e1, e2, e3⟩ | ⟨E, j, e1, -, -, -⟩
    · cases e1
      cases e3
      exact ⟨h3.trans e2.symm, fun _ => rfl, h4⟩
    · cases e1
  · refine ⟨_, mb, M', h1, h3, fun E2 hE => ?_, fun v k G1 v1 hw => ?_⟩
    · cases hE
      exact ⟨j, h2⟩
    · rcases hw with ⟨x, G2, e1, -, -⟩ | ⟨E2, j2, e1, e2, e3, e4⟩
      · cases e1
      · cases e1
        cases e4
        obtain ⟨q1, q2⟩ := hu _ h2 _ e2 rfl
        have q1 : j = j2 := q1
        have q2 : nI j ≠ 0 := q2
        subst q1
        exact ⟨h4.trans e3.symm, fun z => absurd (e3.symm.trans z) q2, h5⟩
theorem OpR.ex {G : Nat → Nat → Int32} {hs : List (String × Nat)} {c : Option (String ⊕ Int32)} {m : Option (Int32 × (Nat → Nat → Int32))} (h : OpR G hs c m) (hu : uqH hs) : ∃ r mb M1, c = some r ∧ m = some (mb, M1) ∧ (∀ E, r = .inl E → ∃ j, (E, j) ∈ hs) ∧ ∀ v k G1 v1, wOk (liftR G r) hs G v k (G1, v1) → M1 0 4 = k ∧ (k = 0 → v1 = mb.toInt64) ∧ Rel G1 M1 := by
  rcases h with ⟨r, M', h1, h2, h3, h4⟩ | ⟨E, j, mb, M', h1, h2, h3, h4, h5⟩
  · refine ⟨_, r, M', h1, h2, fun E hE => (by cases hE), fun v k G1 v1 hw => ?_⟩
    rcases hw with ⟨x, G2, e1, e2, e3⟩ | ⟨E, j, e1, -, -, -⟩
    · cases e1
      cases e3
      exact ⟨h3.trans e2.symm, fun _ => rfl, h4⟩
    · cases e1
  · refine ⟨_, mb, M', h1, h3, fun E2 hE => ?_, fun v k G1 v1 hw => ?_⟩
    · cases hE
      exact ⟨j, h2⟩
    · rcases hw with ⟨x, G2, e1, -, -⟩ | ⟨E2, j2, e1, e2, e3, e4⟩
      · cases e1
      · cases e1
        cases e4
        obtain ⟨q1, q2⟩ := hu _ h2 _ e2 rfl
        have q1 : j = j2 := q1
        have q2 : nI j ≠ 0 := q2
        subst q1
        exact ⟨h4.trans e3.symm, fun z => absurd (e3.symm.trans z) q2, h5⟩
section LWA
variable {p : Program} {l : Launch} {e : Env} {s : State} {m : MethodId} {args : Array Value} {below : List Frame} {meth : Method} {c : Code} {H : Heap} {locs : List Loc} {cells slots : Nat} {Q : State → Prop}
variable {pc : Nat} {ls : Array Slot} {rest st0 : List Value} {D : va_G} {cI cR cL : ClassId} {q qm : Nat → Nat} {o b L : Nat} {xs : Nat → Int32} {G M : Nat → Nat → Int32} {v : Int64}
theorem lwF.fix (F : lwF p l s m c args D cI cR cL b L xs) : CallFix p m c code 9 s args wsL_law RL := ⟨F.1, F.2.1, F.2.2.1, F.2.2.2.1, F.2.2.2.2.1⟩
theorem lw_cL (F : lwF p l s m c args D cI cR cL b L xs) (J : lwJ q qm o s.heap.size) (hS : va_S (lwA s) s.heap H locs) (hW : lwW D cI cR cL q qm o G M v H)
    {y : MethodName} {bytes : ByteArray} {maxL mc ms n index : Nat} {hh : List (Nat × Nat × Nat × Nat)} {ws : List Cond} {rm : Room} {hs : List (String × Nat)} {r : String ⊕ (Int32 × (Nat → Nat → Int32))} (As : List Value)
    (hM : vx_Met l y ws rm (wPre As D cI cR cL q G H.size o v) (wPost D cI cR cL q G H.size o v hs r) wX mc ms (wA q H.size o))
    (cw : vx_CSW room_1 s args RL index y bytes maxL (some .int) hh ws rm mc ms n)
    (hn : As.length = n) (hsz : ls.size = 9) (hst : st0 = As.reverse ++ rest) (hr : (rest.map fun v => v.category).sum ≤ 8) (hdg : decode code pc = .ok (.invokestatic index, 3)) (hf : cells + mc ≤ room_1.cells ∧ slots + ms ≤ room_1.slots)
    (kk : ∀ (k : Int32) (G1 : Nat → Nat → Int32) (v1 : Int64) (H1 : Heap) (locs1 : List Loc), wOk r hs G v k (G1, v1) → lwW D cI cR cL q qm o G1 M v1 H1 → va_S (lwA s) s.heap H1 locs1 → W p l e room_1 s m args below meth c H1 locs1 (cells + mc) (slots + ms) Q (F0 m (pc + 3) ls (.int k :: rest))) :
    W p l e room_1 s m args below meth c H locs cells slots Q (F0 m pc ls st0) := by
  obtain ⟨hMC, hMM, hPo⟩ := hW
  obtain ⟨hJ, hJm, hap, hoC, hoM, hC, hMn, hon⟩ := J
  have hfix := F.fix
  obtain ⟨-, -, -, -, -, -, -, -, hKL, hth, hnc⟩ := F
  have hB : ∀ a, MN tmC q H.size a → lwA s a := fun a h => h.elim (hC a) (fun z => Nat.le_trans hS.1 z)
  have hwA : ∀ a, wA q H.size o a → lwA s a := fun a h => h.elim (hB a) (fun z => by rw [z]; exact hon)
  have hoN : ¬ MN tmC q H.size o := fun h => h.elim hoC (fun z => absurd (oW_lt hPo) (Nat.not_lt.mpr z))
  refine vx_calli (vx_runSX (As := As) (rest := rest) hfix hM cw ⟨wBlind, fun U hU hW => ⟨rfl, by rw [hU], by rw [hU]; exact hMC, va_K.moved hW.alike hKL, hth.moved hS hU hW hB, by rw [hU]; exact hPo, hoN, ncP.moved hW.alike hnc⟩⟩ rfl hn hsz hst (lv_room hr) hdg hf) hS (fun a _ h => hwA a h) hwA (fun a _ h => h.elim) (fun E ce q9 u t H1 locs1 ht hvm hp hB9 hz hk hS1 hce hcv hcl => hp.elim) (fun k u t H1 locs1 ht hvm hp hB9 hz hk hS1 => ?_)
  obtain ⟨G1, v1⟩ := u
  obtain ⟨hM1, hP1⟩ := hB9
  rw [ht] at hM1 hP1
  refine kk k G1 v1 H1 locs1 hp ⟨hM1, hMM.kept (fun a ha hlt => hk a hlt (fun z => ?_)), hP1⟩ hS1
  rcases z with (z | z) | z
  · exact hap a z ha
  · exact absurd hlt (Nat.not_lt.mpr z)
  · exact hoM (z ▸ ha)
theorem lw_cM (F : lwF p l s m c args D cI cR cL b L xs) (J : lwJ q qm o s.heap.size) (hS : va_S (lwA s) s.heap H locs) (hW : lwW D cI cR cL q qm o G M v H)
    {y : MethodName} {bytes : ByteArray} {maxL n index : Nat} {ws : List Cond} {rm : Room} {ret0 : Option FieldType} {r : Int32 × (Nat → Nat → Int32)} (As : List Value)
    (hM : Met l y ws rm (mPre (.ref (qm 0) :: As) D cI cR qm tmM M) (mIW D cI cR qm tmM r) 0 0 (MA tmM qm))
    (cw : CallW room_1 s args RL RX4 index y bytes maxL ret0 ws rm 0 0 n)
    (hn : As.length = n) (hsz : ls.size = 9) (hst : st0 = As.reverse ++ .ref (qm 0) :: rest) (hr : (rest.map fun v => v.category).sum ≤ 8) (hdg : decode code pc = .ok (.invokevirtual index, 3)) (hc : cells ≤ room_1.cells) (hs : slots ≤ room_1.slots)
    (kk : ∀ (H1 : Heap) (locs1 : List Loc), lwW D cI cR cL q qm o G r.2 v H1 → va_S (lwA s) s.heap H1 locs1 → W p l e room_1 s m args below meth c H1 locs1 cells slots Q (F0 m (pc + 3) ls (.int r.1 :: rest))) :
    W p l e room_1 s m args below meth c H locs cells slots Q (F0 m pc ls st0) := by
  obtain ⟨hMC, hMM, hPo⟩ := hW
  obtain ⟨hJ, hJm, hap, hoC, hoM, hC, hMn, hon⟩ := J
  have hK := mTyL_K F.2.2.2.2.2.2.2.2.1
  exact k_cIWk (va_runV (As := As) (rest := rest) F.fix hM cw (mPreV hK hMM 0 rfl rfl) rfl hn hsz hst (lv_room hr) hdg ⟨hc, hs⟩) hS hMn (fun H1 locs1 hM1 hS1 hz hk => kk H1 locs1 ⟨hMC.kept (fun a ha hlt => hk a hlt (hap a ha)), hM1, oW_kept hPo (hk o (oW_lt hPo) hoM)⟩ hS1)
theorem lw_cMJ (F : lwF p l s m c args D cI cR cL b L xs) (J : lwJ q qm o s.heap.size) (hS : va_S (lwA s) s.heap H locs) (hW : lwW D cI cR cL q qm o G M v H)
    {y : MethodName} {bytes : ByteArray} {maxL n index : Nat} {ws : List Cond} {rm : Room} {ret0 : Option FieldType} {r : Int64 × (Nat → Nat → Int32)} (As : List Value)
    (hM : Met l y ws rm (mPre (.ref (qm 0) :: As) D cI cR qm tmM M) (mJW D cI cR qm tmM r) 0 0 (MA tmM qm))
    (cw : CallW room_1 s args RL RX4 index y bytes maxL ret0 ws rm 0 0 n)
    (hn : As.length = n) (hsz : ls.size = 9) (hst : st0 = As.reverse ++ .ref (qm 0) :: rest) (hr : (rest.map fun v => v.category).sum ≤ 8) (hdg : decode code pc = .ok (.invokevirtual index, 3)) (hc : cells ≤ room_1.cells) (hs : slots ≤ room_1.slots)
    (kk : ∀ (H1 : Heap) (locs1 : List Loc), lwW D cI cR cL q qm o G r.2 v H1 → va_S (lwA s) s.heap H1 locs1 → W p l e room_1 s m args below meth c H1 locs1 cells slots Q (F0 m (pc + 3) ls (.long r.1 :: rest))) :
    W p l e room_1 s m args below meth c H locs cells slots Q (F0 m pc ls st0) := by
  obtain ⟨hMC, hMM, hPo⟩ := hW
  obtain ⟨hJ, hJm, hap, hoC, hoM, hC, hMn, hon⟩ := J
  have hK := mTyL_K F.2.2.2.2.2.2.2.2.1
  exact k_cJW (va_runV (As := As) (rest := rest) F.fix hM cw (mPreV hK hMM 0 rfl rfl) rfl hn hsz hst (lv_room hr) hdg ⟨hc, hs⟩) hS hMn (fun H1 locs1 hM1 hS1 hz hk => kk H1 locs1 ⟨hMC.kept (fun a ha hlt => hk a hlt (hap a ha)), hM1, oW_kept hPo (hk o (oW_lt hPo) hoM)⟩ hS1)
theorem lw_cC (F : lwF p l s m c args D cI cR cL b L xs) (J : lwJ q qm o s.heap.size) (hS : va_S (lwA s) s.heap H locs) (hW : lwW D cI cR cL q qm o G M v H)
    {y : MethodName} {bytes : ByteArray} {maxL n index : Nat} {ws : List Cond} {rm : Room} {ret0 : Option FieldType} {r : Int32 × (Nat → Nat → Int32)} (As : List Value)
    (hM : Met l y ws rm (mPre (.ref (q 0) :: As) D cI cR q tmC G) (mIW D cI cR q tmC r) 0 0 (MA tmC q))
    (cw : CallW room_1 s args RL RX3 index y bytes maxL ret0 ws rm 0 0 n)
    (hn : As.length = n) (hsz : ls.size = 9) (hst : st0 = As.reverse ++ .ref (q 0) :: rest) (hr : (rest.map fun v => v.category).sum ≤ 8) (hdg : decode code pc = .ok (.invokevirtual index, 3)) (hc : cells ≤ room_1.cells) (hs : slots ≤ room_1.slots)
    (kk : ∀ (H1 : Heap) (locs1 : List Loc), lwW D cI cR cL q qm o r.2 M v H1 → va_S (lwA s) s.heap H1 locs1 → W p l e room_1 s m args below meth c H1 locs1 cells slots Q (F0 m (pc + 3) ls (.int r.1 :: rest))) :
    W p l e room_1 s m args below meth c H locs cells slots Q (F0 m pc ls st0) := by
  obtain ⟨hMC, hMM, hPo⟩ := hW
  obtain ⟨hJ, hJm, hap, hoC, hoM, hC, hMn, hon⟩ := J
  have hK := mTyL_K F.2.2.2.2.2.2.2.2.1
  exact k_cIWk (va_runV (As := As) (rest := rest) F.fix hM cw (mPreV hK hMC 0 rfl rfl) rfl hn hsz hst (lv_room hr) hdg ⟨hc, hs⟩) hS hC (fun H1 locs1 hM1 hS1 hz hk => kk H1 locs1 ⟨hM1, hMM.kept (fun a ha hlt => hk a hlt (fun z => hap a z ha)), oW_kept hPo (hk o (oW_lt hPo) hoC)⟩ hS1)
/-- a call that only answers -/
theorem lw_cI (hS : va_S (lwA s) s.heap H locs) (hW : lwW D cI cR cL q qm o G M v H) {x : Int32} {a : Array Value} (hr : va_Run p l e room_1 s m args below meth c H locs cells slots 0 0 (F0 m pc ls st0) rest (mI x a) (fun _ => False))
    (kk : ∀ (H1 : Heap) (locs1 : List Loc), lwW D cI cR cL q qm o G M v H1 → va_S (lwA s) s.heap H1 locs1 → W p l e room_1 s m args below meth c H1 locs1 cells slots Q (F0 m (pc + 3) ls (.int x :: rest))) : W p l e room_1 s m args below meth c H locs cells slots Q (F0 m pc ls st0) :=
  va_calli hr hS (fun _ _ h => h.elim) (fun _ h => h.elim) (fun r _ t H1 locs1 _ _ hp _ _ hk hS1 => by subst hp; exact kk H1 locs1 (hW.kept fun z hz => hk z hz id) hS1)
theorem lw_cJ (hS : va_S (lwA s) s.heap H locs) (hW : lwW D cI cR cL q qm o G M v H) {x : Int64} {a : Array Value} (hr : va_Run p l e room_1 s m args below meth c H locs cells slots 0 0 (F0 m pc ls st0) rest (mJ x a) (fun _ => False))
    (kk : ∀ (H1 : Heap) (locs1 : List Loc), lwW D cI cR cL q qm o G M v H1 → va_S (lwA s) s.heap H1 locs1 → W p l e room_1 s m args below meth c H1 locs1 cells slots Q (F0 m (pc + 3) ls (.long x :: rest))) : W p l e room_1 s m args below meth c H locs cells slots Q (F0 m pc ls st0) :=
  va_calll hr hS (fun _ _ h => h.elim) (fun _ h => h.elim) (fun r _ t H1 locs1 _ _ hp _ _ hk hS1 => by subst hp; exact kk H1 locs1 (hW.kept fun z hz => hk z hz id) hS1)
/-- script[i + j] onto the stack -/
theorem lw_ld (F : lwF p l s m c args D cI cR cL b L xs) (hL : L ≤ 2048) (hS : va_S (lwA s) s.heap H locs) {i j : Nat} {jn : Int} (h0 : ls[0]? = some (.val (.ref b))) (h4 : ls[4]? = some (.val (.int (nI (4 * i))))) (hj : 4 * i + j < L) (hjn : Int32.ofInt jn = nI j)
    (d0 : decode code pc = .ok (.aload_n 0, 1)) (d1 : decode code (pc + 1) = .ok (.iload 4, 2)) (d3 : decode code (pc + 3) = .ok (.iconst jn, 1)) (d4 : decode code (pc + 4) = .ok (.iadd, 1)) (d5 : decode code (pc + 5) = .ok (.iaload, 1))
    (kk : W p l e room_1 s m args below meth c H locs cells slots Q (F0 m (pc + 6) ls (.int (xs (4 * i + j)) :: rest))) : W p l e room_1 s m args below meth c H locs cells slots Q (F0 m pc ls rest) := by
  obtain ⟨hx, hb, hml, hown, hts, hfl, hX, hbl, hKL, hth, hnc⟩ := F
  have hbA : ¬ lwA s b := Nat.not_le.mpr hbl
  refine lv_aload_n hx hb d0 rfl h0 ?_
  refine lv_iload hx hb d1 h4 ?_
  refine lv_iconst (v := nI j) hx hb d3 hjn ?_
  refine lv_iadd hx hb d4 ?_
  rw [nI_add]
  refine va_sld hx hb hX hbl hbA hS (vp_in_nI hj (by omega)) d5 ?_
  rw [nI_clamp (by omega)]
  exact kk
/-- behind both calls: what is thrown, then the answers -/
theorem lw_tail (F : lwF p l s m c args D cI cR cL b L xs) (J : lwJ q qm o s.heap.size) (hS : va_S (lwA s) s.heap H locs) (hW : lwW D cI cR cL q qm o G M v H) {k mb x : Int32} {off : Int}
    (hl : lv_has ls 9 ((6, .int mb) :: (5, .int k) :: lwL b (q 0) (qm 0) o x)) (h1 : M 0 4 = k) (h2 : k = 0 → v = mb.toInt64)
    (d0 : decode code pc = .ok (.aload_n 2, 1)) (d1 : decode code (pc + 1) = .ok (.invokevirtual 80, 3)) (d4 : decode code (pc + 4) = .ok (.iload 5, 2)) (d6 : decode code (pc + 6) = .ok (.if_icmp .eq 5, 3)) (d11 : decode code (pc + 11) = .ok (.iload 5, 2)) (d13 : decode code (pc + 13) = .ok (.ifCond .ne 15, 3)) (d16 : decode code (pc + 16) = .ok (.aload_n 3, 1)) (d17 : decode code (pc + 17) = .ok (.iconst 0, 1)) (d18 : decode code (pc + 18) = .ok (.laload, 1)) (d19 : decode code (pc + 19) = .ok (.iload 6, 2)) (d21 : decode code (pc + 21) = .ok (.i2l, 1)) (d22 : decode code (pc + 22) = .ok (.lcmp, 1)) (d23 : decode code (pc + 23) = .ok (.ifCond .eq 5, 3)) (d28 : decode code (pc + 28) = .ok (.goto off, 3)) (hoff : ((pc + 28 : Nat) : Int) + off = ((1311 : Nat) : Int))
    (hc : cells ≤ room_1.cells) (hs : slots ≤ room_1.slots)
    (kk : ∀ (H1 : Heap) (locs1 : List Loc), lwW D cI cR cL q qm o G M v H1 → va_S (lwA s) s.heap H1 locs1 → W p l e room_1 s m args below meth c H1 locs1 cells slots Q (F0 m 1311 ls [])) :
    W p l e room_1 s m args below meth c H locs cells slots Q (F0 m pc ls []) := by
  have hfix := F.fix
  obtain ⟨hx, hb, hml, hown, hts, hfl, hX, hbl, hKL, hth, hnc⟩ := F
  have hK := mTyL_K hKL
  refine lv_aload_n hx hb d0 rfl (lv_at hl 4 rfl) ?_
  refine lw_cI hS hW (va_runV (As := []) (rest := []) hfix (kX4_thrown l D cI cR qm M 0 (M 0 4) rfl) (cwV 0 hts gL_law_X4_thrown rfl rfl rfl (by decide +kernel) ⟨Nat.le_of_ble_eq_true rfl, Nat.le_of_ble_eq_true rfl⟩) (mPreV hK hW.2.1 0 rfl rfl) rfl rfl hl.1 rfl (lv_room (Nat.le_of_ble_eq_true rfl)) d1 ⟨hc, hs⟩) (fun H1 locs1 hW1 hS1 => ?_)
  have kE : W p l e room_1 s m args below meth c H1 locs1 cells slots Q (F0 m (pc + 28) ls []) := lv_goto (tgt := 1311) hx hb d28 hoff (kk H1 locs1 hW1 hS1)
  refine lv_iload hx hb d4 (lv_at hl 1 rfl) ?_
  refine lv_icmp_eq (tgt := pc + 11) hx hb d6 (by omega) (fun _ => ?_) (fun h => absurd h1 h)
  refine lv_iload hx hb d11 (lv_at hl 1 rfl) ?_
  refine lv_if_ne (tgt := pc + 28) hx hb d13 (by omega) (fun _ => kE) (fun hk0 => ?_)
  refine lv_aload_n hx hb d16 rfl (lv_at hl 5 rfl) ?_
  refine lv_iconst (v := 0) hx hb d17 (by decide) ?_
  refine va_lald hx hb hKL hW1.2.2 0 2 rfl rfl (inb_in (x := 0) (by decide)) d18 ?_
  refine lv_iload hx hb d19 (lv_at hl 0 rfl) ?_
  refine lv_i2l (v := mb.toInt64) hx hb d21 rfl ?_
  refine W.lcmp hx hb d22 ?_
  exact lv_if_eq (tgt := pc + 28) hx hb d23 (by omega) (fun _ => kE) (fun h => absurd ((lg_cmp_eq _ _).mpr (h2 hk0)) h)
end LWA
