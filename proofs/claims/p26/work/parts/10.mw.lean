/-! THE MATRIX WORLD: a world of cells by a template: rows of ints, objects of ints and of fixed references; what they hold is one matrix G (cell, place). -/
abbrev cellT : Type := Nat ⊕ ((Nat × List (Option Nat)) ⊕ List Nat)
def mwV (q : Nat → Nat) (g : Nat → Int32) (j : Nat) : Option Nat → Value
  | none => .int (g j)
  | some k => .ref (q k)
def mwF (q : Nat → Nat) (g : Nat → Int32) : Nat → List (Option Nat) → List Value
  | _, [] => []
  | j, o :: l => mwV q g j o :: mwF q g (j + 1) l
theorem mwF_get (q : Nat → Nat) (g : Nat → Int32) : ∀ (l : List (Option Nat)) (j k : Nat), (mwF q g j l)[k]? = (l[k]?).map (mwV q g (j + k))
  | [], j, k => by simp [mwF]
  | o :: l, j, 0 => by simp [mwF]
  | o :: l, j, k + 1 => by
    show (mwF q g (j + 1) l)[k]? = _
    rw [mwF_get q g l (j + 1) k, show j + 1 + k = j + (k + 1) by omega]
    rfl
theorem mwF_len (q : Nat → Nat) (g : Nat → Int32) : ∀ (l : List (Option Nat)) (j : Nat), (mwF q g j l).length = l.length
  | [], _ => rfl
  | _ :: l, j => by
    show (mwF q g (j + 1) l).length + 1 = l.length + 1
    rw [mwF_len q g l (j + 1)]
theorem mwF_set {q : Nat → Nat} {g : Nat → Int32} {l : List (Option Nat)} {k : Nat} (x : Int32) (hk : l[k]? = some none) : (mwF q g 0 l).set k (.int x) = mwF q (upd g k x) 0 l := by
  have hl : k < l.length := (List.getElem?_eq_some_iff.mp hk).1
  refine List.ext_getElem? fun i => ?_
  rw [mwF_get]
  by_cases h : i = k
  · subst h
    rw [List.getElem?_set_self (by rw [mwF_len]; exact hl), hk]
    simp [mwV, upd]
  · rw [List.getElem?_set_ne (Ne.symm h), mwF_get]
    cases hi : l[i]? with
    | none => rfl
    | some o =>
      cases o with
      | none => simp [mwV, upd, h]
      | some z => rfl
def mwE (cI cR : ClassId) (q : Nat → Nat) (g : Nat → Int32) : cellT → va_E
  | .inl n => .inl (cI, n, .inl g)
  | .inr (.inl x) => .inr (x.1, mwF q g 0 x.2)
  | .inr (.inr rs) => .inl (cR, rs.length, .inr (.inr (.inr (.inr (fun j => (rs[j]?).map q)))))
def mwL (cI cR : ClassId) (q : Nat → Nat) (tm : List cellT) (G : Nat → Nat → Int32) : va_W := tm.mapIdx (fun i t => (q i, mwE cI cR q (G i) t))
theorem mwL_get {cI cR : ClassId} {q : Nat → Nat} {tm : List cellT} {G : Nat → Nat → Int32} {i : Nat} {t : cellT} (h : tm[i]? = some t) : (mwL cI cR q tm G)[i]? = some (q i, mwE cI cR q (G i) t) := by
  simp [mwL, List.getElem?_mapIdx, h]
theorem mwL_inv {cI cR : ClassId} {q : Nat → Nat} {tm : List cellT} {G : Nat → Nat → Int32} {i : Nat} {p : Nat × va_E} (h : (mwL cI cR q tm G)[i]? = some p) : i < tm.length ∧ p.1 = q i := by
  simp only [mwL, List.getElem?_mapIdx] at h
  cases ht : tm[i]? with
  | none => rw [ht] at h; cases h
  | some t =>
    rw [ht] at h
    cases h
    exact ⟨(List.getElem?_eq_some_iff.mp ht).1, rfl⟩
theorem mwL_set {cI cR : ClassId} {q : Nat → Nat} {tm : List cellT} {G G' : Nat → Nat → Int32} {i : Nat} {t : cellT} {e' : va_E} (h : tm[i]? = some t) (he : mwE cI cR q (G' i) t = e') (ho : ∀ k, k ≠ i → G' k = G k) : (mwL cI cR q tm G).set i (q i, e') = mwL cI cR q tm G' := by
  have hl : i < tm.length := (List.getElem?_eq_some_iff.mp h).1
  refine List.ext_getElem? fun k => ?_
  by_cases hk : k = i
  · subst hk
    rw [List.getElem?_set_self (by simp [mwL]; exact hl), mwL_get h, he]
  · rw [List.getElem?_set_ne (Ne.symm hk)]
    simp only [mwL, List.getElem?_mapIdx]
    rw [ho k hk]
def up2 (G : Nat → Nat → Int32) (i j : Nat) (x : Int32) : Nat → Nat → Int32 := fun k => if k = i then upd (G i) j x else G k
def upR (G : Nat → Nat → Int32) (i : Nat) (f : Nat → Int32) : Nat → Nat → Int32 := fun k => if k = i then f else G k
theorem up2_s (G : Nat → Nat → Int32) (i j : Nat) (x : Int32) : up2 G i j x i = upd (G i) j x := if_pos rfl
theorem up2_n {G : Nat → Nat → Int32} {i j : Nat} {x : Int32} {k : Nat} (h : k ≠ i) : up2 G i j x k = G k := if_neg h
theorem upR_s (G : Nat → Nat → Int32) (i : Nat) (f : Nat → Int32) : upR G i f i = f := if_pos rfl
theorem upR_n {G : Nat → Nat → Int32} {i : Nat} {f : Nat → Int32} {k : Nat} (h : k ≠ i) : upR G i f k = G k := if_neg h
def MW (D : va_G) (cI cR : ClassId) (q : Nat → Nat) (tm : List cellT) (G : Nat → Nat → Int32) (H : Heap) : Prop := va_P D vwCl (mwL cI cR q tm G) H
def MJ (tm : List cellT) (q : Nat → Nat) : Prop := ∀ i j, i < tm.length → j < tm.length → q i = q j → i = j
def MA (tm : List cellT) (q : Nat → Nat) : Nat → Prop := fun a => ∃ i, i < tm.length ∧ a = q i
def MN (tm : List cellT) (q : Nat → Nat) (sz : Nat) : Nat → Prop := fun a => MA tm q a ∨ sz ≤ a
abbrev mTy (cI cR : ClassId) : List (ClassId × FieldType) := [(cI, .int), (cR, .object "CoinRails$State")]
theorem MJ.D {tm : List cellT} {q : Nat → Nat} (hJ : MJ tm q) {A : Nat → Prop} (hA : ∀ a, MA tm q a → A a) {cI cR : ClassId} {G : Nat → Nat → Int32} : va_D A (mwL cI cR q tm G) := by
  refine ⟨fun i j p r hi hj e => ?_, fun k r hk => ?_⟩
  · obtain ⟨h1, h2⟩ := mwL_inv hi
    obtain ⟨h3, h4⟩ := mwL_inv hj
    exact hJ i j h1 h3 (h2.symm.trans (e.trans h4))
  · obtain ⟨h1, h2⟩ := mwL_inv hk
    exact hA _ ⟨k, h1, h2⟩
theorem MW.lt {D : va_G} {cI cR : ClassId} {q : Nat → Nat} {tm : List cellT} {G : Nat → Nat → Int32} {H : Heap} (h : MW D cI cR q tm G H) {i : Nat} (hi : i < tm.length) : q i < H.size := by
  have ht : tm[i]? = some tm[i] := List.getElem?_eq_getElem hi
  exact (h i _ (mwL_get ht)).lt
theorem MW.kept {D : va_G} {cI cR : ClassId} {q : Nat → Nat} {tm : List cellT} {G : Nat → Nat → Int32} {H H1 : Heap} (h : MW D cI cR q tm G H) (hk : ∀ a, MA tm q a → a < H.size → H1[a]? = H[a]?) : MW D cI cR q tm G H1 :=
  va_P.kept h fun k p hp => hk p.1 ⟨k, (mwL_inv hp).1, (mwL_inv hp).2⟩ (h k p hp).lt
/-- a matrix that agrees with another on what the template shows -/
theorem MW.ext {D : va_G} {cI cR : ClassId} {q : Nat → Nat} {tm : List cellT} {G G' : Nat → Nat → Int32} {H : Heap} (h : MW D cI cR q tm G H) (he : ∀ i t, tm[i]? = some t → mwE cI cR q (G i) t = mwE cI cR q (G' i) t) : MW D cI cR q tm G' H := by
  have e : mwL cI cR q tm G = mwL cI cR q tm G' := by
    refine List.ext_getElem? fun k => ?_
    simp only [mwL, List.getElem?_mapIdx]
    cases ht : tm[k]? with
    | none => rfl
    | some t => simp only [Option.map_some]; rw [he k t ht]
  unfold MW at h ⊢
  rw [← e]
  exact h
theorem w_end {D : va_G} {cI cR : ClassId} {q : Nat → Nat} {tm : List cellT} {G G' : Nat → Nat → Int32} {H : Heap} {t : State} (ht : t.heap = H) (hM : MW D cI cR q tm G H) (h : G = G') : MW D cI cR q tm G' t.heap := by
  subst h
  rw [ht]
  exact hM
theorem p_fst {α β : Type} {a : α} {b : β} {r : α × β} (h : (a, b) = r) : a = r.1 := by rw [← h]
theorem p_snd {α β : Type} {a : α} {b : β} {r : α × β} (h : (a, b) = r) : b = r.2 := by rw [← h]
-- shadows
def inb (x : Int32) (n : Nat) : Bool := decide (¬ x < 0) && decide (x.toNatClampNeg < n)
def grd {α : Type} (b : Bool) (o : Option α) : Option α := if b = true then o else none
def olet {α β : Type} (x : α) (f : α → Option β) : Option β := f x
def bv (v : Int32) : Bool := v == 0 || v == 1
theorem inb_in {x : Int32} {n : Nat} (h : inb x n = true) : vp_in x n := by
  simp only [inb, Bool.and_eq_true, decide_eq_true_eq] at h
  intro z
  rcases z with z | z
  · exact h.1 z
  · exact absurd h.2 (Nat.not_lt.mpr z)
theorem grd_s {α : Type} {b : Bool} {o : Option α} {z : α} (h : grd b o = some z) : b = true ∧ o = some z := by
  unfold grd at h
  by_cases hb : b = true
  · rw [if_pos hb] at h; exact ⟨hb, h⟩
  · rw [if_neg hb] at h; cases h
theorem olet_s {α β : Type} {x : α} {f : α → Option β} {z : β} (h : olet x f = some z) : ∃ y, x = y ∧ f y = some z := ⟨x, rfl, h⟩
theorem bind_s {α β : Type} {x : Option α} {f : α → Option β} {z : β} (h : x.bind f = some z) : ∃ y, x = some y ∧ f y = some z := by
  cases x with
  | none => cases h
  | some y => exact ⟨y, rfl, h⟩
theorem ite_t {α : Type} {c : Prop} [Decidable c] {A B z : α} (h : (if c then A else B) = z) (hc : c) : A = z := (if_pos hc).symm.trans h
theorem ite_f {α : Type} {c : Prop} [Decidable c] {A B z : α} (h : (if c then A else B) = z) (hc : ¬ c) : B = z := (if_neg hc).symm.trans h
theorem tsw_ne {x y : Int32} (h : ¬ x = y) : x.toInt ≠ y.toInt := fun e => h (Int32.toInt_inj.mp e)
theorem bv_n {v : Int32} (h : bv v = true) : narrow .boolean (.int v) = .int v := by
  simp only [bv, Bool.or_eq_true, beq_iff_eq] at h
  rcases h with rfl | rfl <;> rfl
-- contracts
abbrev mPre (av : List Value) (D : va_G) (cI cR : ClassId) (q : Nat → Nat) (tm : List cellT) (G : Nat → Nat → Int32) : Array Value → State → Prop := va_Pc av (fun U => MW D cI cR q tm G U.heap ∧ va_K D vwCl (mTy cI cR) U)
abbrev mI (r : Int32) : Array Value → State → Outcome → State → Prop := va_Qi (fun r' (_ : Unit) => r' = r) (fun _ _ => True) (fun _ => False)
abbrev mJ (r : Int64) : Array Value → State → Outcome → State → Prop := va_Ql (fun r' (_ : Unit) => r' = r) (fun _ _ => True) (fun _ => False)
abbrev mIW (D : va_G) (cI cR : ClassId) (q : Nat → Nat) (tm : List cellT) (r : Int32 × (Nat → Nat → Int32)) : Array Value → State → Outcome → State → Prop := va_Qi (fun r' (_ : Unit) => r' = r.1) (fun _ t => MW D cI cR q tm r.2 t.heap) (MA tm q)
abbrev mJW (D : va_G) (cI cR : ClassId) (q : Nat → Nat) (tm : List cellT) (r : Int64 × (Nat → Nat → Int32)) : Array Value → State → Outcome → State → Prop := va_Ql (fun r' (_ : Unit) => r' = r.1) (fun _ t => MW D cI cR q tm r.2 t.heap) (MA tm q)
abbrev mVW (D : va_G) (cI cR : ClassId) (q : Nat → Nat) (tm : List cellT) (r : Nat → Nat → Int32) : Array Value → State → Outcome → State → Prop := va_Qv (fun (_ : Unit) => True) (fun _ t => MW D cI cR q tm r t.heap) (MA tm q)
abbrev mD (r : UInt64) : Array Value → State → Outcome → State → Prop := va_Qd (fun r' (_ : Unit) => r' = r) (fun _ _ => True) (fun _ => False)
abbrev mV : Array Value → State → Outcome → State → Prop := va_Qv (fun (_ : Unit) => True) (fun _ _ => True) (fun _ => False)
/-- a double that is a number -/
def nn64 (x : UInt64) : Bool := decide (x &&& 0x7fffffffffffffff ≤ 0x7ff0000000000000)
theorem nn64_n {x : UInt64} (h : nn64 x = true) : vf_n64 x := by
  unfold nn64 at h
  have h2 := of_decide_eq_true h
  exact h2
theorem mBlind {av : List Value} {D : va_G} {cI cR : ClassId} {q : Nat → Nat} {tm : List cellT} {G : Nat → Nat → Int32} : FrameBlind (mPre av D cI cR q tm G) := fun a U g mk h => by
  obtain ⟨h0, h1, h2⟩ := h
  exact ⟨h0, h1, va_K.moved (u := U) (U := U.calling g mk a) (Vm.Alike.refl U.vm) h2⟩
theorem mPreV {s : State} {H : Heap} {D : va_G} {cI cR : ClassId} {q : Nat → Nat} {tm : List cellT} {G : Nat → Nat → Int32} {As : List Value} (hK : va_K D vwCl (mTy cI cR) s) (hM : MW D cI cR q tm G H) (i : Nat) {ci : Nat} {fs : List (Option Nat)} (ht : tm[i]? = some (.inr (.inl (ci, fs)))) {r : vw_C} (hc : vwCl[ci]? = some r) : PreV s H r.1 (q i) (mPre (.ref (q i) :: As) D cI cR q tm G) As :=
  ⟨mBlind, va_recv hK hM hc (mwL_get ht), fun U hU hW => ⟨rfl, by rw [hU]; exact hM, va_K.moved hW.alike hK⟩⟩
theorem mPreS {s : State} {H : Heap} {D : va_G} {cI cR : ClassId} {q : Nat → Nat} {tm : List cellT} {G : Nat → Nat → Int32} {As : List Value} (hK : va_K D vwCl (mTy cI cR) s) (hM : MW D cI cR q tm G H) : PreS s H (mPre As D cI cR q tm G) As :=
  ⟨mBlind, fun U hU hW => ⟨rfl, by rw [hU]; exact hM, va_K.moved hW.alike hK⟩⟩
section KR
variable {p : Program} {l : Launch} {e : Env} {R : Room} {s : State} {m : MethodId} {args : Array Value} {below : List Frame} {meth : Method} {c : Code} {H : Heap} {locs : List Loc} {cells slots : Nat} {Q : State → Prop}
variable {cc : ByteArray} {pc : Nat} {ls : Array Slot} {rest : List Value} {D : va_G} {A : Nat → Prop} {tys : List (ClassId × FieldType)} {H0 : Heap} {cI cR : ClassId} {q : Nat → Nat} {tm : List cellT} {G : Nat → Nat → Int32}
theorem k_getI (hexec : p.tables.exec = Jvm.exec) (hb : c.code = cc) {own ref C : String} {T : u_T} {N ci index : Nat} {Ts : List Cond} {fs : List (Option Nat)} (hts : ∀ w ∈ Ts, w.before args s = true) (hin : ∀ w ∈ u_ws C T N, w ∈ Ts) (hown : s.vm.findClass own = some m.cls) (hK : va_K D vwCl tys s) (hM : MW D cI cR q tm G H) (i : Nat) (ht : tm[i]? = some (.inr (.inl (ci, fs)))) (hc : vwCl[ci]? = some (C, T, N)) (k : Nat) (hk : k < N) (hf : fs[k]? = some none) (hlink : (Cond.fieldLink own index ref (T k).2.1 (T k).2.2.1).before args s = true) (hsame : ∀ x, s.fieldFound? (T k).1 (T k).2.1 (T k).2.2.1 = some x → s.fieldFound? ref (T k).2.1 (T k).2.2.1 = some x) (hdg : decode cc pc = .ok (.getfield index, 3))
    (kk : W p l e R s m args below meth c H locs cells slots Q (F0 m (pc + 3) ls (.int (G i k) :: rest))) : W p l e R s m args below meth c H locs cells slots Q (F0 m pc ls (.ref (q i) :: rest)) :=
  va_get (v := .int (G i k)) hexec hb hts hin hown hK hM i (mwL_get ht) hc k hk hlink hsame (by rw [mwF_get, hf, Nat.zero_add]; rfl) hdg kk
theorem k_getR (hexec : p.tables.exec = Jvm.exec) (hb : c.code = cc) {own ref C : String} {T : u_T} {N ci index r : Nat} {Ts : List Cond} {fs : List (Option Nat)} (hts : ∀ w ∈ Ts, w.before args s = true) (hin : ∀ w ∈ u_ws C T N, w ∈ Ts) (hown : s.vm.findClass own = some m.cls) (hK : va_K D vwCl tys s) (hM : MW D cI cR q tm G H) (i : Nat) (ht : tm[i]? = some (.inr (.inl (ci, fs)))) (hc : vwCl[ci]? = some (C, T, N)) (k : Nat) (hk : k < N) (hf : fs[k]? = some (some r)) (hlink : (Cond.fieldLink own index ref (T k).2.1 (T k).2.2.1).before args s = true) (hsame : ∀ x, s.fieldFound? (T k).1 (T k).2.1 (T k).2.2.1 = some x → s.fieldFound? ref (T k).2.1 (T k).2.2.1 = some x) (hdg : decode cc pc = .ok (.getfield index, 3))
    (kk : W p l e R s m args below meth c H locs cells slots Q (F0 m (pc + 3) ls (.ref (q r) :: rest))) : W p l e R s m args below meth c H locs cells slots Q (F0 m pc ls (.ref (q i) :: rest)) :=
  va_get (v := .ref (q r)) hexec hb hts hin hown hK hM i (mwL_get ht) hc k hk hlink hsame (by rw [mwF_get, hf, Nat.zero_add]; rfl) hdg kk
theorem k_putI (hexec : p.tables.exec = Jvm.exec) (hb : c.code = cc) {own ref C : String} {T : u_T} {N ci index : Nat} {Ts : List Cond} {fs : List (Option Nat)} (hts : ∀ w ∈ Ts, w.before args s = true) (hin : ∀ w ∈ u_ws C T N, w ∈ Ts) (ty0 : Nat → FieldType) (hty : ∀ k, k < N → parseFieldDescriptor (T k).2.2.1 = some (ty0 k)) (hnm : ∀ a, a < N → ∀ b, b < N → a ≠ b → (T a).2.1 ≠ (T b).2.1) (hown : s.vm.findClass own = some m.cls) (hK : va_K D vwCl tys s) (hM : MW D cI cR q tm G H) (hJ : MJ tm q) (hA : ∀ a, MA tm q a → A a) (hS : va_S A H0 H locs) (i : Nat) (ht : tm[i]? = some (.inr (.inl (ci, fs)))) (hc : vwCl[ci]? = some (C, T, N)) (k : Nat) (hk : k < N) (hf : fs[k]? = some none) (hlink : (Cond.fieldLink own index ref (T k).2.1 (T k).2.2.1).before args s = true) (hsame : ∀ x, s.fieldFound? (T k).1 (T k).2.1 (T k).2.2.1 = some x → s.fieldFound? ref (T k).2.1 (T k).2.2.1 = some x) (hfin : (T k).2.2.2 = false) (hd : parseFieldDescriptor (T k).2.2.1 = some .int) {v : Int32} (hdg : decode cc pc = .ok (.putfield index, 3))
    (kk : ∀ (H1 : Heap) (locs1 : List Loc), MW D cI cR q tm (up2 G i k v) H1 → va_S A H0 H1 locs1 → W p l e R s m args below meth c H1 locs1 cells slots Q (F0 m (pc + 3) ls rest)) : W p l e R s m args below meth c H locs cells slots Q (F0 m pc ls (.int v :: .ref (q i) :: rest)) := by
  refine va_put (v := .int v) (ty := .int) hexec hb hts hin ty0 hty hnm hown hK hM (hJ.D hA) hS i (mwL_get ht) hc k hk hlink hsame hfin hd rfl rfl ?_ hdg (fun H1 locs1 hP hD hS => kk H1 locs1 ?_ hS)
  · rw [mwF_len]; exact (List.getElem?_eq_some_iff.mp hf).1
  · have e := mwL_set (cI := cI) (cR := cR) (q := q) (G := G) (G' := up2 G i k v) (e' := .inr (ci, (mwF q (G i) 0 fs).set k (.int v))) ht (by rw [up2_s, mwF_set v hf]; rfl) (fun j hj => up2_n hj)
    unfold MW
    rw [← e]
    exact hP
theorem k_iald (hexec : p.tables.exec = Jvm.exec) (hb : c.code = cc) (hK : va_K D vwCl (mTy cI cR) s) (hM : MW D cI cR q tm G H) (i : Nat) {n : Nat} (ht : tm[i]? = some (.inl n)) {x : Int32} (hin : inb x n = true) (hdg : decode cc pc = .ok (.iaload, 1))
    (kk : W p l e R s m args below meth c H locs cells slots Q (F0 m (pc + 1) ls (.int (G i x.toNatClampNeg) :: rest))) : W p l e R s m args below meth c H locs cells slots Q (F0 m pc ls (.int x :: .ref (q i) :: rest)) :=
  va_iald hexec hb hK hM i 0 (mwL_get ht) rfl (inb_in hin) hdg kk
theorem k_iast (hexec : p.tables.exec = Jvm.exec) (hb : c.code = cc) (hK : va_K D vwCl (mTy cI cR) s) (hM : MW D cI cR q tm G H) (hJ : MJ tm q) (hA : ∀ a, MA tm q a → A a) (hS : va_S A H0 H locs) (i : Nat) {n : Nat} (ht : tm[i]? = some (.inl n)) {x v : Int32} (hin : inb x n = true) (hdg : decode cc pc = .ok (.iastore, 1))
    (kk : ∀ (H1 : Heap) (locs1 : List Loc), MW D cI cR q tm (up2 G i x.toNatClampNeg v) H1 → va_S A H0 H1 locs1 → W p l e R s m args below meth c H1 locs1 cells slots Q (F0 m (pc + 1) ls rest)) : W p l e R s m args below meth c H locs cells slots Q (F0 m pc ls (.int v :: .int x :: .ref (q i) :: rest)) := by
  refine va_iast hexec hb hK hM (hJ.D hA) hS i 0 (mwL_get ht) rfl (inb_in hin) hdg (fun H1 locs1 hP hD hS => kk H1 locs1 ?_ hS)
  have e := mwL_set (cI := cI) (cR := cR) (q := q) (G := G) (G' := up2 G i x.toNatClampNeg v) (e' := .inl (cI, n, .inl (upd (G i) x.toNatClampNeg v))) ht (by rw [up2_s]; rfl) (fun j hj => up2_n hj)
  unfold MW
  rw [← e]
  exact hP
theorem k_alen (hexec : p.tables.exec = Jvm.exec) (hb : c.code = cc) (hK : va_K D vwCl (mTy cI cR) s) (hM : MW D cI cR q tm G H) (i : Nat) {n : Nat} (ht : tm[i]? = some (.inl n)) (hdg : decode cc pc = .ok (.arraylength, 1))
    (kk : W p l e R s m args below meth c H locs cells slots Q (F0 m (pc + 1) ls (.int (Int32.ofNat n) :: rest))) : W p l e R s m args below meth c H locs cells slots Q (F0 m pc ls (.ref (q i) :: rest)) :=
  va_alen (x := (n, .inl (G i))) (ty := .int) hexec hb hK hM i 0 (mwL_get ht) rfl rfl hdg kk
theorem k_aald (hexec : p.tables.exec = Jvm.exec) (hb : c.code = cc) (hK : va_K D vwCl (mTy cI cR) s) (hM : MW D cI cR q tm G H) (i : Nat) {rs : List Nat} (ht : tm[i]? = some (.inr (.inr rs))) {x : Int32} (hin : inb x rs.length = true) (hdg : decode cc pc = .ok (.aaload, 1))
    (kk : W p l e R s m args below meth c H locs cells slots Q (F0 m (pc + 1) ls (.ref (q (rs.getD x.toNatClampNeg 0)) :: rest))) : W p l e R s m args below meth c H locs cells slots Q (F0 m pc ls (.int x :: .ref (q i) :: rest)) := by
  have hlt : x.toNatClampNeg < rs.length := Nat.not_le.mp fun z => inb_in hin (Or.inr z)
  refine va_aldq (C := "CoinRails$State") hexec hb hK hM i 1 (mwL_get ht) rfl (inb_in hin) hdg ?_
  have e : va_rf ((rs[x.toNatClampNeg]?).map q) = .ref (q (rs.getD x.toNatClampNeg 0)) := by
    rw [List.getD_eq_getElem?_getD, List.getElem?_eq_getElem hlt]
    rfl
  rw [e]
  exact kk
theorem k_copyi (hexec : p.tables.exec = Jvm.exec) (hb : c.code = cc) (hml : c.maxLocals = ls.size) {own : String} {index : Nat} (hown : s.vm.findClass own = some m.cls) (hlink : (Cond.methodLink own index arraycopyName).before args s = true) (hnat : (Cond.native arraycopyName).before args s = true) (hstat : (Cond.static arraycopyName).before args s = true) (hini : (Cond.initialized "java/lang/System").before args s = true)
    (hK : va_K D vwCl (mTy cI cR) s) (hM : MW D cI cR q tm G H) (hJ : MJ tm q) (hA : ∀ a, MA tm q a → A a) (hS : va_S A H0 H locs) (i0 i1 : Nat) {n0 n1 : Nat} (ht0 : tm[i0]? = some (.inl n0)) (ht1 : tm[i1]? = some (.inl n1)) {n : Int32} (h3 : ¬ n < 0) (h4 : n.toNatClampNeg ≤ n0) (h5 : n.toNatClampNeg ≤ n1)
    (hframes : 1 ≤ R.frames) (hlocals : (rest.map fun v => v.category).sum + (nativeFrameWords "java/lang/System" "arraycopy" 5 + 11) ≤ R.locals) (hdg : decode cc pc = .ok (.invokestatic index, 3))
    (kk : ∀ (H1 : Heap) (locs1 : List Loc), MW D cI cR q tm (upR G i1 (va_cpy (G i0) (G i1) 0 0 n.toNatClampNeg)) H1 → va_S A H0 H1 locs1 → W p l e R s m args below meth c H1 locs1 cells slots Q (F0 m (pc + 3) ls rest)) : W p l e R s m args below meth c H locs cells slots Q (F0 m pc ls (.int n :: .int 0 :: .ref (q i1) :: .int 0 :: .ref (q i0) :: rest)) := by
  refine va_copyi (ty := .int) hexec hb hml hown hlink hnat hstat hini hK hM (hJ.D hA) hS i0 i1 0 0 (mwL_get ht0) (mwL_get ht1) rfl rfl rfl (by decide) (by decide) h3 (by rw [show (0 : Int32).toNatClampNeg = 0 from rfl, Nat.zero_add]; exact h4) (by rw [show (0 : Int32).toNatClampNeg = 0 from rfl, Nat.zero_add]; exact h5) (fun _ _ => rfl) hframes hlocals hdg (fun H1 locs1 hP hD hS => kk H1 locs1 ?_ hS)
  have e := mwL_set (cI := cI) (cR := cR) (q := q) (G := G) (G' := upR G i1 (va_cpy (G i0) (G i1) 0 0 n.toNatClampNeg)) (e' := .inl (cI, n1, .inl (va_cpy (G i0) (G i1) 0 0 n.toNatClampNeg))) ht1 (by rw [upR_s]; rfl) (fun j hj => upR_n hj)
  unfold MW
  rw [← e]
  exact hP
variable {st0 : List Value} {a : Array Value} {free : Addr → Prop}
theorem k_cI {v : Int32} (hr : va_Run p l e R s m args below meth c H locs cells slots 0 0 (F0 m pc ls st0) rest (mI v a) (fun _ => False)) (hS : va_S A H0 H locs) (hM : MW D cI cR q tm G H)
    (kk : ∀ (H1 : Heap) (locs1 : List Loc), MW D cI cR q tm G H1 → va_S A H0 H1 locs1 → W p l e R s m args below meth c H1 locs1 cells slots Q (F0 m (pc + 3) ls (.int v :: rest))) : W p l e R s m args below meth c H locs cells slots Q (F0 m pc ls st0) :=
  va_calli hr hS (fun _ _ h => h.elim) (fun _ h => h.elim) (fun r _ t H1 locs1 _ _ hp _ _ hk hS1 => by subst hp; exact kk H1 locs1 (hM.kept fun z _ hz => hk z hz id) hS1)
theorem k_cJ {v : Int64} (hr : va_Run p l e R s m args below meth c H locs cells slots 0 0 (F0 m pc ls st0) rest (mJ v a) (fun _ => False)) (hS : va_S A H0 H locs) (hM : MW D cI cR q tm G H)
    (kk : ∀ (H1 : Heap) (locs1 : List Loc), MW D cI cR q tm G H1 → va_S A H0 H1 locs1 → W p l e R s m args below meth c H1 locs1 cells slots Q (F0 m (pc + 3) ls (.long v :: rest))) : W p l e R s m args below meth c H locs cells slots Q (F0 m pc ls st0) :=
  va_calll hr hS (fun _ _ h => h.elim) (fun _ h => h.elim) (fun r _ t H1 locs1 _ _ hp _ _ hk hS1 => by subst hp; exact kk H1 locs1 (hM.kept fun z _ hz => hk z hz id) hS1)
theorem k_cV (hr : va_Run p l e R s m args below meth c H locs cells slots 0 0 (F0 m pc ls st0) rest (mV a) (fun _ => False)) (hS : va_S A H0 H locs) (hM : MW D cI cR q tm G H)
    (kk : ∀ (H1 : Heap) (locs1 : List Loc), MW D cI cR q tm G H1 → va_S A H0 H1 locs1 → W p l e R s m args below meth c H1 locs1 cells slots Q (F0 m (pc + 3) ls rest)) : W p l e R s m args below meth c H locs cells slots Q (F0 m pc ls st0) :=
  va_callv hr hS (fun _ _ h => h.elim) (fun _ h => h.elim) (fun _ t H1 locs1 _ _ _ _ _ hk hS1 => kk H1 locs1 (hM.kept fun z _ hz => hk z hz id) hS1)
theorem k_cD {v : UInt64} (hr : va_Run p l e R s m args below meth c H locs cells slots 0 0 (F0 m pc ls st0) rest (mD v a) (fun _ => False)) (hS : va_S A H0 H locs) (hM : MW D cI cR q tm G H)
    (kk : ∀ (H1 : Heap) (locs1 : List Loc), MW D cI cR q tm G H1 → va_S A H0 H1 locs1 → W p l e R s m args below meth c H1 locs1 cells slots Q (F0 m (pc + 3) ls (.double v :: rest))) : W p l e R s m args below meth c H locs cells slots Q (F0 m pc ls st0) :=
  va_calld hr hS (fun _ _ h => h.elim) (fun _ h => h.elim) (fun r _ t H1 locs1 _ _ hp _ _ hk hS1 => by subst hp; exact kk H1 locs1 (hM.kept fun z _ hz => hk z hz id) hS1)
theorem k_cIW {v : Int32 × (Nat → Nat → Int32)} (hr : va_Run p l e R s m args below meth c H locs cells slots 0 0 (F0 m pc ls st0) rest (mIW D cI cR q tm v a) (MA tm q)) (hS : va_S A H0 H locs) (hA : ∀ a, MA tm q a → A a)
    (kk : ∀ (H1 : Heap) (locs1 : List Loc), MW D cI cR q tm v.2 H1 → va_S A H0 H1 locs1 → W p l e R s m args below meth c H1 locs1 cells slots Q (F0 m (pc + 3) ls (.int v.1 :: rest))) : W p l e R s m args below meth c H locs cells slots Q (F0 m pc ls st0) :=
  va_calli hr hS (fun _ _ h => hA _ h) (fun _ h => hA _ h) (fun r _ t H1 locs1 ht _ hp hB _ _ hS1 => by subst hp; exact kk H1 locs1 (by rw [← ht]; exact hB) hS1)
theorem k_cVW {v : Nat → Nat → Int32} (hr : va_Run p l e R s m args below meth c H locs cells slots 0 0 (F0 m pc ls st0) rest (mVW D cI cR q tm v a) (MA tm q)) (hS : va_S A H0 H locs) (hA : ∀ a, MA tm q a → A a)
    (kk : ∀ (H1 : Heap) (locs1 : List Loc), MW D cI cR q tm v H1 → va_S A H0 H1 locs1 → W p l e R s m args below meth c H1 locs1 cells slots Q (F0 m (pc + 3) ls rest)) : W p l e R s m args below meth c H locs cells slots Q (F0 m pc ls st0) :=
  va_callv hr hS (fun _ _ h => hA _ h) (fun _ h => hA _ h) (fun _ t H1 locs1 ht _ _ hB _ _ hS1 => kk H1 locs1 (by rw [← ht]; exact hB) hS1)
end KR
