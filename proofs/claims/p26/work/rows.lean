section
-- ===== PART A: goes FIRST, ahead of the names: the tables' words, and 'selects' of the private methods out of them =====
/-- a private method of a class that the tables say can be made, by its rows of tables_1 -/
def lw_okq (q : MethodName × Nat) : Prop := (q.1.cls ≠ "java/lang/invoke/MethodHandle" ∧ q.1.cls ≠ "java/lang/invoke/VarHandle") ∧ Cond.instantiable q.1.cls q.2 ∈ tables_1 ∧ Cond.privateMethod q.1 ∈ tables_1 ∧ Cond.instanceMethod q.1 ∈ tables_1
theorem lw_p0 : lw_okq (⟨"java/lang/Throwable", "fillInStackTrace", "(I)Ljava/lang/Throwable;"⟩, 6) := ⟨⟨by decide +kernel, by decide +kernel⟩, List.mem_of_getElem? (i := 167) (by decide +kernel), List.mem_of_getElem? (i := 165) (by decide +kernel), List.mem_of_getElem? (i := 166) (by decide +kernel)⟩
theorem lw_p1 : lw_okq (⟨"CoinRails", "checkKind", "(I)V"⟩, 3) := ⟨⟨by decide +kernel, by decide +kernel⟩, List.mem_of_getElem? (i := 14) (by decide +kernel), List.mem_of_getElem? (i := 369) (by decide +kernel), List.mem_of_getElem? (i := 370) (by decide +kernel)⟩
def lw_privs_1 : List (MethodName × Nat) := [(⟨"java/lang/Throwable", "fillInStackTrace", "(I)Ljava/lang/Throwable;"⟩, 6), (⟨"CoinRails", "checkKind", "(I)V"⟩, 3)]
theorem lw_r1 : ∀ q ∈ lw_privs_1, lw_okq q := List.forall_mem_cons.mpr ⟨lw_p0, List.forall_mem_cons.mpr ⟨lw_p1, fun _ h => absurd h List.not_mem_nil⟩⟩
def lw_privs : List (MethodName × Nat) := lw_privs_1
def lw_tbl : List Cond := k2_sels lw_privs ++ tables_1
theorem lw_privs_ok : ∀ q ∈ lw_privs, lw_okq q := lw_r1
/-- the streams that the claim lets the run draw from -/
abbrev lw_cs : List Choice := [Jvm.Choice.named "NaN.bits"]
theorem lw_bits : nanBits ∈ lw_cs := by first | decide | exact List.mem_cons_self | simp [lw_cs, nanBits]
end
section
/-! ===== BEGIN words of one list among another's, by their places ===== -/
theorem goodIn_r {big : List Cond} (ws : List Cond) (ps : List Nat) (hp : ws = ps.filterMap (fun i => big[i]?)) (h : ws.all goodWord = true) : GoodIn big ws := by
  intro w hw
  have h1 := List.all_eq_true.mp h w hw
  rw [hp] at hw
  obtain ⟨i, -, hi⟩ := List.mem_filterMap.mp hw
  have hm : w ∈ big := by first | exact List.mem_of_getElem? hi | exact List.getElem?_mem hi
  exact ⟨hm, good_of_word h1⟩
theorem goodIn_app {big a b : List Cond} (ha : GoodIn big a) (hb : GoodIn big b) : GoodIn big (a ++ b) := fun w h => (List.mem_append.mp h).elim (ha w) (hb w)
theorem goodIn_ca {big a b : List Cond} {c : Cond} (ha : GoodIn big (c :: a)) (hb : GoodIn big b) : GoodIn big (c :: (a ++ b)) := fun w h => (List.mem_cons.mp h).elim (fun e => ha w (List.mem_cons.mpr (Or.inl e))) (fun h => (List.mem_append.mp h).elim (fun h => ha w (List.mem_cons.mpr (Or.inr h))) (hb w))
theorem goodIn_sub {big ws : List Cond} (hm : ∀ w ∈ ws, w ∈ big) (h : ws.all goodWord = true) : GoodIn big ws := fun w hw => ⟨hm w hw, good_of_word (List.all_eq_true.mp h w hw)⟩
/-! ===== END ===== -/

/-! ===== BEGIN exceptions that leave a method, and their catching by the caller (launches without stack traces) ===== -/
section VXA
/-! The laws vx_back, vx_callV, vx_callS, vx_callSW, vx_throw0, vx_throwS follow proofs of the library, with one case more: JvmDerived/Free/Laws.lean (Back.of_free), Shelf42/LK1.lean (callV, callS), Shelf/KitTraced.lean (throwNew0V, throwNewS). -/
/-- where a method has thrown q: the class by its name, the cell, what was written, the world -/
def vx_T (XC : String → State → State → Prop) (st : State) (q : Addr) (t : State) (mc ms : Nat) (free : Addr → Prop) : Prop :=
  ∃ (E : String) (ce : Cell) (L : List Loc), XC E st t ∧ t.heap[q]? = some ce ∧ ce.vm = .none ∧ st.vm.findClass E = some ce.cls ∧ st.WarmedH t.vm ∧ st.sameButNew ({ t with vm := st.vm } : State) L mc ms ∧ ∀ z ∈ L, free z.base
def vx_Q (Qc : Array Value → State → Outcome → State → Prop) (XC : String → State → State → Prop) (mc ms : Nat) (free : Addr → Prop) : Array Value → State → Outcome → State → Prop := fun a st o t =>
  (Qc a st o t ∧ ∃ L, FrameEnd st o t L mc ms ∧ ∀ q ∈ L, free q.base) ∨ ∃ q, o = .threw q ∧ vx_T XC st q t mc ms free
/-- a callee that returns or throws -/
def vx_Met (l : Launch) (y : MethodName) (ws : List Cond) (rm : Room) (Pc : Array Value → State → Prop) (Qc : Array Value → State → Outcome → State → Prop) (XC : String → State → State → Prop) (mc ms : Nat) (free : Addr → Prop) : Prop :=
  MetFree l y (headSpec ws rm) Pc (fun _ _ _ _ _ => True) (vx_Q Qc XC mc ms free)
def vx_Post (XC : String → State → State → Prop) (mc ms : Nat) (free : Addr → Prop) : Pt → Array Value → Addr → Pt → Prop := fun A a q B =>
  ∃ (g : JFrame) (mk : MethodId) (t : State) (L : List Loc) (E : String) (ce : Cell), B.U.heap = t.heap ∧ B.U.vm = t.vm ∧ XC E (A.U.calling g mk a) t ∧ t.heap[q]? = some ce ∧ ce.vm = .none ∧ A.U.vm.findClass E = some ce.cls ∧ B.locs = A.locs ++ L ∧ (∀ z ∈ L, free z.base) ∧ B.cells = A.cells + mc ∧ B.slots = A.slots + ms
def vx_Back (l : Launch) (R : Room) (p : Program) (e : Env) (below : List Frame) (s : State) (sargs : Array Value) (y : MethodName) (len W9 : Nat)
    (Pre : Pt → Array Value → Prop) (Post : Pt → Array Value → Option Value → Pt → Prop) (PostX : Pt → Array Value → Addr → Pt → Prop) : Prop :=
  ∀ (m : MethodId) (meth : Method) (c : Code) (A : Pt) (g : JFrame) (ig : Instr) (mk : MethodId) (a : Array Value),
    Stand p l e R s m sargs below meth c A.U A.locs A.cells A.slots → g.method = m → g.locals.size = c.maxLocals → decode c.code g.pc = .ok (ig, len) →
    2 * g.monitorRoom + (g.stack.map fun v => v.category).sum ≤ W9 → A.U.methodNamed? y = some mk → Pre A a →
    (∃ (v : Option Value) (B : Pt), Stand p l e R s m sargs below meth c B.U B.locs B.cells B.slots ∧ Post A a v B ∧
      Steps p.tables e below (doInvoke e (A.U.setTop g) [] mk a).1 (B.U.setTop { g with pc := g.pc + len, stack := v.toList ++ g.stack })) ∨
    (∃ (q : Addr) (B : Pt), Stand p l e R s m sargs below meth c B.U B.locs B.cells B.slots ∧ PostX A a q B ∧
      Steps p.tables e below (doInvoke e (A.U.setTop g) [] mk a).1 ((B.U.setTop g).pushFrame (.throwing q)))
section Payer
variable {l : Launch} {R : Room} {p : Program} {e : Env} {below : List Frame} {s : State} {sargs : Array Value} {y : MethodName} {len W9 : Nat}
theorem vx_back {ws : List Cond} {rm : Room} {Pc : Array Value → State → Prop} {Qc : Array Value → State → Outcome → State → Prop} {XC : String → State → State → Prop} {mc ms : Nat} {free : Addr → Prop} {bytes : ByteArray} {maxL : Nat} {ret : Option FieldType}
    (hM : vx_Met l y ws rm Pc Qc XC mc ms free) (hblind : FrameBlind Pc) (hrc : rm.cells = mc) (hrs : rm.slots = ms)
    (hframes : rm.frames + 1 ≤ R.frames) (hlocals : W9 + (maxL + 11) + rm.locals ≤ R.locals)
    (hws : ∀ w ∈ ws, ∀ a' U, s.WarmedH U.vm → w.before a' U = true) (hcode : Cond.code y bytes maxL ret ∈ ws) (hinit : ∀ a' U, s.WarmedH U.vm → (Cond.initialized y.cls).before a' U = true) :
    vx_Back l R p e below s sargs y len W9 (PreOf R mc ms Pc) (PostOf Qc mc ms free) (vx_Post XC mc ms free) := by
  intro m meth c A g ig mk a X hg hsize hdg hW hn hp
  have h1 : (headSpec ws rm).pre.before a A.U = true := atoms_intro fun w hw => hws w hw _ _ X.warmed
  have h2 : (Cond.code y bytes maxL ret).before a A.U = true := hws _ hcode _ _ X.warmed
  have h3 : (Cond.initialized y.cls).before a A.U = true := hinit _ _ X.warmed
  have h4 : A.cells + (headSpec ws rm).room.cells ≤ R.cells := by rw [show (headSpec ws rm).room.cells = mc from hrc]; exact hp.1
  have h5 : A.slots + (headSpec ws rm).room.slots ≤ R.slots := by rw [show (headSpec ws rm).room.slots = ms from hrs]; exact hp.2.1
  have hPc : Pc a (A.U.calling g mk a) := hblind _ _ _ _ hp.2.2
  obtain ⟨U, Ls, c0, s0⟩ := A
  dsimp only [Pt.U, Pt.locs, Pt.cells, Pt.slots] at h1 h2 h3 h4 h5 X hn hPc ⊢
  obtain ⟨methY, cY, hmY, hcY, -, hlY, -, -, -, -⟩ := Cond.code_spec hn h2
  obtain ⟨kY, hkY, -⟩ := className_of_methodNamed hn
  have hinitY : kY.init = .initialized := Cond.initialized_spec (findClass_of_methodNamed hn) hkY h3
  have h : At U g.method c below := by rw [hg]; exact X.here
  have hlocals9 : W9 + (maxL + 11) + (headSpec ws rm).room.locals ≤ R.locals := hlocals
  have happ : (headSpec ws rm).appliesLoose y e.platform (U.calling g mk a) = true :=
    Spec.appliesLoose_calling (g := g) h hdg hn hkY hinitY
      (X.room_calling (g := g) (R' := (headSpec ws rm).room) hsize hmY hcY hframes (by rw [hlY]; omega) h4 h5) h1
  obtain ⟨mid, hmid⟩ := h.above
  have hfr : (U.setTop g).frames = (.java g :: mid) ++ below := by rw [State.frames_setTop' g h.top, hmid]; rfl
  obtain ⟨o, s₂, hsteps, -, hend, hq⟩ := Steps.callFree hM p X.admits X.cas X.clock (acts := []) hfr happ hPc trivial
  have hq' : vx_Q Qc XC mc ms free a (U.calling g mk a) o s₂ := hq
  rw [State.frames_setTop' g h.top] at hend
  obtain ⟨g₀, hg0⟩ := Option.isSome_iff_exists.mp h.top
  obtain ⟨r, hr⟩ := State.topJava?_eq_some.mp hg0
  have hr' : (({ U with heap := s₂.heap, slotsUsed := s₂.slotsUsed } : State).setVm s₂.vm).frames = .java g₀ :: r := hr
  rcases hq' with ⟨hqc, L, hfe, hL⟩ | ⟨q, rfl, E, ce, L, hx, hce, hcv, hcl, hW₂, hsm, hL⟩
  · obtain ⟨⟨v, rfl⟩, hW₂, e2, q2, q3, q4, q5, q6⟩ := id hfe
    have e3 : s₂ = ({ (U.calling g mk a).setFrames s₂.frames with heap := s₂.heap, slotsUsed := s₂.slotsUsed } : State).setVm s₂.vm := by
      have : s₂ = ({ s₂ with vm := (U.calling g mk a).vm } : State).setVm s₂.vm := rfl
      rw [e2] at this
      exact this
    obtain ⟨c₂, i₂, len₂, hc₂, hd₂, hf₂⟩ := hend
    have hW' : U.WarmedH s₂.vm := hW₂
    have hcc : c₂ = c := by
      have h1 : s₂.code? g.method = U.code? g.method := by
        rw [State.code?_eq, State.code?_eq, hW'.alike.method?]
      exact Option.some.inj (hc₂.symm.trans (h1.trans h.code))
    subst hcc
    have hlen : len₂ = len := by rw [hdg] at hd₂; cases hd₂; rfl
    subst hlen
    have hs₂ : s₂ = (({ U with heap := s₂.heap, slotsUsed := s₂.slotsUsed } : State).setVm s₂.vm).setTop { g with pc := g.pc + len₂, stack := v.toList ++ g.stack } := by
      refine e3.trans ?_
      rw [hf₂, State.calling_eq h.top, State.setFrames_setFrames, State.setTop_of_frames _ hr', hr]
      rfl
    have hsame : U.sameButNew ({ U with heap := s₂.heap, slotsUsed := s₂.slotsUsed } : State) L mc ms := by
      refine ⟨?_, q2, q3, q4, q5, q6⟩
      obtain ⟨t, ht, -⟩ := State.frames_cons hr
      show ({ U with heap := s₂.heap, slotsUsed := s₂.slotsUsed } : State) = { U.setFrames U.frames with heap := s₂.heap, slotsUsed := s₂.slotsUsed }
      rw [State.setFrames_self ht]
    subst hg
    refine Or.inl ⟨v, ⟨(({ U with heap := s₂.heap, slotsUsed := s₂.slotsUsed } : State).setVm s₂.vm), Ls ++ L, c0 + mc, s0 + ms⟩,
      ⟨X.admits, X.cas, X.clock, X.frames, X.room, X.hears, X.method, X.code, (X.here.setHeapUsed s₂.heap s₂.slotsUsed).setVm hW'.alike, X.tail, State.WarmedH.trans X.warmed hW', X.limits, X.bytes, X.same.trans (hsame.setVm s.vm)⟩,
      ⟨g, mk, s₂, L, rfl, rfl, hqc, rfl, hL, rfl, rfl⟩, ?_⟩
    show Steps p.tables e below _ ((({ U with heap := s₂.heap, slotsUsed := s₂.slotsUsed } : State).setVm s₂.vm).setTop { g with pc := g.pc + len₂, stack := v.toList ++ g.stack })
    rw [← hs₂]
    exact hsteps
  · obtain ⟨e2, q2, q3, q4, q5, q6⟩ := id hsm
    have e3 : s₂ = ({ (U.calling g mk a).setFrames s₂.frames with heap := s₂.heap, slotsUsed := s₂.slotsUsed } : State).setVm s₂.vm := by
      have : s₂ = ({ s₂ with vm := (U.calling g mk a).vm } : State).setVm s₂.vm := rfl
      rw [e2] at this
      exact this
    have hf₂ : s₂.frames = .throwing q :: .java g :: U.frames.tail := hend
    have hW' : U.WarmedH s₂.vm := hW₂
    have hs₂ : s₂ = ((({ U with heap := s₂.heap, slotsUsed := s₂.slotsUsed } : State).setVm s₂.vm).setTop g).pushFrame (.throwing q) := by
      refine e3.trans ?_
      rw [hf₂, State.calling_eq h.top, State.setFrames_setFrames, State.pushFrame, State.frames_setTop _ hr', State.setTop_of_frames _ hr', State.setFrames_setFrames, hr]
      rfl
    have hsame : U.sameButNew ({ U with heap := s₂.heap, slotsUsed := s₂.slotsUsed } : State) L mc ms := by
      refine ⟨?_, q2, q3, q4, q5, q6⟩
      obtain ⟨t, ht, -⟩ := State.frames_cons hr
      show ({ U with heap := s₂.heap, slotsUsed := s₂.slotsUsed } : State) = { U.setFrames U.frames with heap := s₂.heap, slotsUsed := s₂.slotsUsed }
      rw [State.setFrames_self ht]
    subst hg
    refine Or.inr ⟨q, ⟨(({ U with heap := s₂.heap, slotsUsed := s₂.slotsUsed } : State).setVm s₂.vm), Ls ++ L, c0 + mc, s0 + ms⟩,
      ⟨X.admits, X.cas, X.clock, X.frames, X.room, X.hears, X.method, X.code, (X.here.setHeapUsed s₂.heap s₂.slotsUsed).setVm hW'.alike, X.tail, State.WarmedH.trans X.warmed hW', X.limits, X.bytes, X.same.trans (hsame.setVm s.vm)⟩,
      ⟨g, mk, s₂, L, E, ce, rfl, rfl, hx, hce, hcv, hcl, rfl, hL, rfl, rfl⟩, ?_⟩
    show Steps p.tables e below _ (((({ U with heap := s₂.heap, slotsUsed := s₂.slotsUsed } : State).setVm s₂.vm).setTop g).pushFrame (.throwing q))
    rw [← hs₂]
    exact hsteps
end Payer
section Calls
variable {p : Program} {l : Launch} {e : Env} {R : Room} {s : State} {m : MethodId} {args : Array Value} {below : List Frame} {meth : Method} {c : Code} {T : State} {locs : List Loc} {cells slots : Nat}
theorem vx_callV (X : Stand p l e R s m args below meth c T locs cells slots) (hexec : p.tables.exec = Jvm.exec) {own C : String} {index : Nat} {y : MethodName} {bytes : ByteArray} {maxL : Nat} {ret : Option FieldType}
    (hown : s.vm.findClass own = some m.cls) (hlink : (Cond.methodLink own index y).before args s = true) (hinst : (Cond.instanceMethod y).before args s = true) (hsel : (Cond.selects C y y).before args s = true)
    (hcode : (Cond.code y bytes maxL ret).before args s = true) (hy : y.cls ≠ "java/lang/invoke/MethodHandle" ∧ y.cls ≠ "java/lang/invoke/VarHandle")
    {W9 : Nat} {Pre : Pt → Array Value → Prop} {Post : Pt → Array Value → Option Value → Pt → Prop} {PostX : Pt → Array Value → Addr → Pt → Prop} (hK : vx_Back l R p e below s args y 3 W9 Pre Post PostX)
    {b : Addr} {cellB : Cell} (hcell : T.heap[b]? = some cellB) (hobj : cellB.vm.isStatics = false) (hcls : s.vm.findClass C = some cellB.cls)
    {g : JFrame} (hg : g.method = m) (hsize : g.locals.size = c.maxLocals) {argsL rest : List Value} (hlen : ∀ sig, parseMethodDescriptor y.desc = some sig → argsL.length = sig.parameters.length)
    (hstack : g.stack = argsL.reverse ++ .ref b :: rest) (hW : 2 * g.monitorRoom + (rest.map fun v => v.category).sum ≤ W9) (hdg : decode c.code g.pc = .ok (.invokevirtual index, 3))
    (hpre : ∀ vm₁, s.WarmedH vm₁ → Pre ⟨T.setVm vm₁, locs, cells, slots⟩ (Value.ref b :: argsL).toArray) :
    (∃ (v : Option Value) (vm₁ : Vm) (B : Pt), s.WarmedH vm₁ ∧ Stand p l e R s m args below meth c B.U B.locs B.cells B.slots ∧ Post ⟨T.setVm vm₁, locs, cells, slots⟩ (Value.ref b :: argsL).toArray v B ∧
      ∀ target, Steps p.tables e below (B.U.setTop { g with pc := g.pc + 3, stack := v.toList ++ rest }) target → Steps p.tables e below (T.setTop g) target) ∨
    (∃ (q : Addr) (vm₁ : Vm) (B : Pt), s.WarmedH vm₁ ∧ Stand p l e R s m args below meth c B.U B.locs B.cells B.slots ∧ PostX ⟨T.setVm vm₁, locs, cells, slots⟩ (Value.ref b :: argsL).toArray q B ∧
      Steps p.tables e below (T.setTop g) ((B.U.setTop { g with stack := rest }).pushFrame (.throwing q))) := by
  obtain ⟨mk, methM, hnamed, hmethM, hstM, habM⟩ := Cond.instanceMethod_spec hinst
  obtain ⟨methM', cM, hmethM', -, -, -, -, -, -, hsigM⟩ := Cond.code_spec hnamed hcode
  cases hmethM.symm.trans hmethM'
  obtain ⟨c2, r2, m2, q1, q2, q3, q4, kP, hkP, hkPi⟩ := Cond.selects_spec hsel
  cases hcls.symm.trans q1
  cases (State.methodFound?_of_named hnamed hy).symm.trans q2
  cases hnamed.symm.trans q3
  have hselP : selectMethod e.platform s.vm cellB.cls mk = .method mk := by rw [Launch.admits_selectMethod X.admits]; exact q4
  obtain ⟨vm₁, X₁, hstep₁⟩ := X.invokevirtual hexec hown hlink hnamed hmethM hstM hkP hkPi hy (a := b) (cell := cellB) hcell
    (fun z h => by rw [h] at hobj; cases hobj) hselP hmethM habM hkP hkPi (g := g) hg (argsL := argsL) (rest := rest) (hlen _ hsigM) hstack hdg
  rcases hK m meth c ⟨T.setVm vm₁, locs, cells, slots⟩ { g with stack := rest } (.invokevirtual index) mk (Value.ref b :: argsL).toArray X₁ hg hsize hdg hW (X₁.named hnamed) (hpre vm₁ X₁.warmed) with ⟨v, B, X', hpost, hsteps⟩ | ⟨q, B, X', hpost, hsteps⟩
  · exact Or.inl ⟨v, vm₁, B, X₁.warmed, X', hpost, fun target h => hstep₁ _ fun acts => by rw [doInvoke_state]; exact hsteps.trans h⟩
  · exact Or.inr ⟨q, vm₁, B, X₁.warmed, X', hpost, hstep₁ _ fun acts => by rw [doInvoke_state]; exact hsteps⟩
theorem vx_callS (X : Stand p l e R s m args below meth c T locs cells slots) (hexec : p.tables.exec = Jvm.exec) {own : String} {index : Nat} {y : MethodName} {bytes : ByteArray} {maxL : Nat} {ret : Option FieldType}
    (hown : s.vm.findClass own = some m.cls) (hlink : (Cond.methodLink own index y).before args s = true) (hstat : (Cond.static y).before args s = true) (hinit : (Cond.initialized y.cls).before args s = true)
    (hcode : (Cond.code y bytes maxL ret).before args s = true) (hy : y.cls ≠ "java/lang/invoke/MethodHandle" ∧ y.cls ≠ "java/lang/invoke/VarHandle")
    {W9 : Nat} {Pre : Pt → Array Value → Prop} {Post : Pt → Array Value → Option Value → Pt → Prop} {PostX : Pt → Array Value → Addr → Pt → Prop} (hK : vx_Back l R p e below s args y 3 W9 Pre Post PostX)
    {g : JFrame} (hg : g.method = m) (hsize : g.locals.size = c.maxLocals) {argsL rest : List Value} (hlen : ∀ sig, parseMethodDescriptor y.desc = some sig → argsL.length = sig.parameters.length)
    (hstack : g.stack = argsL.reverse ++ rest) (hW : 2 * g.monitorRoom + (rest.map fun v => v.category).sum ≤ W9) (hdg : decode c.code g.pc = .ok (.invokestatic index, 3))
    (hpre : ∀ vm₁, s.WarmedH vm₁ → Pre ⟨T.setVm vm₁, locs, cells, slots⟩ argsL.toArray) :
    (∃ (v : Option Value) (vm₁ : Vm) (B : Pt), s.WarmedH vm₁ ∧ Stand p l e R s m args below meth c B.U B.locs B.cells B.slots ∧ Post ⟨T.setVm vm₁, locs, cells, slots⟩ argsL.toArray v B ∧
      ∀ target, Steps p.tables e below (B.U.setTop { g with pc := g.pc + 3, stack := v.toList ++ rest }) target → Steps p.tables e below (T.setTop g) target) ∨
    (∃ (q : Addr) (vm₁ : Vm) (B : Pt), s.WarmedH vm₁ ∧ Stand p l e R s m args below meth c B.U B.locs B.cells B.slots ∧ PostX ⟨T.setVm vm₁, locs, cells, slots⟩ argsL.toArray q B ∧
      Steps p.tables e below (T.setTop g) ((B.U.setTop { g with stack := rest }).pushFrame (.throwing q))) := by
  obtain ⟨mk, hnamed⟩ := Cond.code_named hcode
  obtain ⟨methM, cM, hmethM, -, -, -, -, -, -, hsigM⟩ := Cond.code_spec hnamed hcode
  have hstatic : methM.isStatic = true := Cond.static_spec hnamed hmethM hstat
  obtain ⟨kP, hkP, -⟩ := className_of_methodNamed hnamed
  have hinitP : kP.init = .initialized := Cond.initialized_spec (findClass_of_methodNamed hnamed) hkP hinit
  obtain ⟨vm₁, X₁, hstep₁⟩ := X.invokestatic hexec hown hlink hnamed hmethM hstatic hkP hinitP hy (g := g) hg (argsL := argsL) (rest := rest) (hlen _ hsigM) hstack hdg
  rcases hK m meth c ⟨T.setVm vm₁, locs, cells, slots⟩ { g with stack := rest } (.invokestatic index) mk argsL.toArray X₁ hg hsize hdg hW (X₁.named hnamed) (hpre vm₁ X₁.warmed) with ⟨v, B, X', hpost, hsteps⟩ | ⟨q, B, X', hpost, hsteps⟩
  · exact Or.inl ⟨v, vm₁, B, X₁.warmed, X', hpost, fun target h => hstep₁ _ fun acts => by rw [doInvoke_state]; exact hsteps.trans h⟩
  · exact Or.inr ⟨q, vm₁, B, X₁.warmed, X', hpost, hstep₁ _ fun acts => by rw [doInvoke_state]; exact hsteps⟩
end Calls
theorem vx_cls {s : State} {T : State} {vm₁ : Vm} {E : String} {k : ClassId} (hW : s.WarmedH vm₁) (h : (T.setVm vm₁).vm.findClass E = some k) : s.vm.findClass E = some k := by
  have h1 : vm₁.findClass E = some k := h
  rw [hW.alike.findClass] at h1
  exact h1
/-- the method's frame g, with q thrown over it -/
def vx_W (p : Program) (l : Launch) (e : Env) (R : Room) (s : State) (m : MethodId) (args : Array Value) (below : List Frame) (meth : Method) (c : Code) (H : Heap) (locs : List Loc) (cells slots : Nat) (Q : State → Prop) (g : JFrame) (q : Addr) : Prop :=
  ∀ T : State, T.heap = H → Stand p l e R s m args below meth c T locs cells slots → ∃ t, Steps p.tables e below ((T.setTop g).pushFrame (.throwing q)) t ∧ Q t
def vx_Run (p : Program) (l : Launch) (e : Env) (R : Room) (s : State) (m : MethodId) (args : Array Value) (below : List Frame) (meth : Method) (c : Code) (H : Heap) (locs : List Loc) (cells slots mc ms : Nat) (g : JFrame) (rest : List Value) (Qa : State → Outcome → State → Prop) (XC : String → State → State → Prop) (free : Addr → Prop) : Prop :=
  ∀ T : State, T.heap = H → Stand p l e R s m args below meth c T locs cells slots →
    (∃ (v : Option Value) (st₀ t T' : State) (L : List Loc), st₀.heap = H ∧ Stand p l e R s m args below meth c T' (locs ++ L) (cells + mc) (slots + ms) ∧ (∀ q ∈ L, free q.base) ∧ T'.heap = t.heap ∧ T'.vm = t.vm ∧ Qa st₀ (.returned v) t ∧
      Goes p e below T g T' { g with pc := g.pc + 3, stack := v.toList ++ rest }) ∨
    (∃ (q : Addr) (st₀ t T' : State) (L : List Loc) (E : String) (ce : Cell), st₀.heap = H ∧ Stand p l e R s m args below meth c T' (locs ++ L) (cells + mc) (slots + ms) ∧ (∀ z ∈ L, free z.base) ∧ T'.heap = t.heap ∧ T'.vm = t.vm ∧ XC E st₀ t ∧ t.heap[q]? = some ce ∧ ce.vm = .none ∧ s.vm.findClass E = some ce.cls ∧
      Steps p.tables e below (T.setTop g) ((T'.setTop { g with stack := rest }).pushFrame (.throwing q)))
def vx_X {S : Type} (px : S → Prop) (B : String → S → State → Prop) (A : Nat → Prop) : String → State → State → Prop := fun E st t => ∃ u : S, px u ∧ B E u t ∧ va_F A st t
section Runs
variable {p : Program} {l : Launch} {e : Env} {R : Room} {s : State} {m : MethodId} {args : Array Value} {below : List Frame} {meth : Method} {c : Code} {H : Heap} {locs : List Loc} {cells slots : Nat}
variable {y : MethodName} {bytes cc : ByteArray} {maxL nL mc ms n index : Nat} {ret : Option FieldType} {ws : List Cond} {rm : Room} {Pc : Array Value → State → Prop} {Qc : Array Value → State → Outcome → State → Prop} {XC : String → State → State → Prop} {free : Addr → Prop} {Ts : List Cond} {own C : String} {b : Addr} {As rest : List Value} {g : JFrame}
theorem vx_callBack (cb : CallB R s args own index y bytes maxL ret ws rm mc ms n) (hM : vx_Met l y ws rm Pc Qc XC mc ms free) (hbl : FrameBlind Pc) : vx_Back l R p e below s args y 3 8 (PreOf R mc ms Pc) (PostOf Qc mc ms free) (vx_Post XC mc ms free) := by
  obtain ⟨hrc, hrs, hfr, hlo, hws, hcw, -, hini, -⟩ := cb
  exact vx_back (bytes := bytes) (maxL := maxL) (ret := ret) hM hbl hrc hrs hfr hlo hws hcw (fun a' U hW => word_at hW (Or.inl (by first | rfl | simp [Cond.onTables, Cond.keeps, Cond.steady])) hini)
theorem vx_runV (S : CallFix p m c cc nL s args Ts own) (hM : vx_Met l y ws rm Pc Qc XC mc ms free) (cw : CallW R s args own C index y bytes maxL ret ws rm mc ms n) (hp : PreV s H C b Pc As)
    (hg : g.method = m) (hn : As.length = n) (hsize : g.locals.size = nL) (hstack : g.stack = As.reverse ++ .ref b :: rest) (hW : 2 * g.monitorRoom + (rest.map fun v => v.category).sum ≤ 8) (hdg : decode cc g.pc = .ok (.invokevirtual index, 3)) (hf : cells + mc ≤ R.cells ∧ slots + ms ≤ R.slots) :
    vx_Run p l e R s m args below meth c H locs cells slots mc ms g rest (Qc (Value.ref b :: As).toArray) XC free := by
  have hK : vx_Back l R p e below s args y 3 8 (PreOf R mc ms Pc) (PostOf Qc mc ms free) (vx_Post XC mc ms free) := vx_callBack cw.1 hM hp.1
  obtain ⟨⟨-, -, -, -, -, -, hcode, -, hy, hlen, hl⟩, hin, hse⟩ := cw
  obtain ⟨hx, hb, hml, ho, -⟩ := S
  obtain ⟨-, ⟨cellB, hcB, hoB, hclB⟩, hPc⟩ := hp
  intro T hT X
  rcases vx_callV X hx (C := C) (bytes := bytes) (maxL := maxL) (ret := ret) ho hl hin hse hcode hy hK (by rw [hT]; exact hcB) hoB hclB hg (hsize.trans hml.symm) (argsL := As) (rest := rest) (fun sig h => hn.trans (hlen sig h)) hstack hW (by rw [hb]; exact hdg)
    (fun vm₁ hW₁ => ⟨hf.1, hf.2, hPc (T.setVm vm₁) hT hW₁⟩) with ⟨v, vm₁, ⟨U', l2, c2, s2⟩, hW₁, X', ⟨g', mk, t, L, e1, e2, hq, h1, hL, h2, h3⟩, st⟩ | ⟨q, vm₁, ⟨U', l2, c2, s2⟩, hW₁, X', ⟨g', mk, t, L, E, ce, e1, e2, hq, hce, hcv, hcl, h1, hL, h2, h3⟩, st⟩
  · dsimp only [Pt.U, Pt.locs, Pt.cells, Pt.slots] at X' e1 e2 h1 h2 h3 st
    subst h1; subst h2; subst h3
    exact Or.inl ⟨v, (T.setVm vm₁).calling g' mk (Value.ref b :: As).toArray, t, U', L, hT, X', hL, e1, e2, hq, st⟩
  · dsimp only [Pt.U, Pt.locs, Pt.cells, Pt.slots] at X' e1 e2 h1 h2 h3 st hcl
    subst h1; subst h2; subst h3
    exact Or.inr ⟨q, (T.setVm vm₁).calling g' mk (Value.ref b :: As).toArray, t, U', L, E, ce, hT, X', hL, e1, e2, hq, hce, hcv, vx_cls hW₁ hcl, st⟩
theorem vx_runS (S : CallFix p m c cc nL s args Ts own) (hM : vx_Met l y ws rm Pc Qc XC mc ms free) (cw : CallB R s args own index y bytes maxL ret ws rm mc ms n ∧ (Cond.static y).before args s = true) (hp : PreS s H Pc As)
    (hg : g.method = m) (hn : As.length = n) (hsize : g.locals.size = nL) (hstack : g.stack = As.reverse ++ rest) (hW : 2 * g.monitorRoom + (rest.map fun v => v.category).sum ≤ 8) (hdg : decode cc g.pc = .ok (.invokestatic index, 3)) (hf : cells + mc ≤ R.cells ∧ slots + ms ≤ R.slots) :
    vx_Run p l e R s m args below meth c H locs cells slots mc ms g rest (Qc As.toArray) XC free := by
  have hK : vx_Back l R p e below s args y 3 8 (PreOf R mc ms Pc) (PostOf Qc mc ms free) (vx_Post XC mc ms free) := vx_callBack cw.1 hM hp.1
  obtain ⟨⟨-, -, -, -, -, -, hcode, hini, hy, hlen, hl⟩, hstt⟩ := cw
  obtain ⟨hx, hb, hml, ho, -⟩ := S
  intro T hT X
  rcases vx_callS X hx (bytes := bytes) (maxL := maxL) (ret := ret) ho hl hstt hini hcode hy hK hg (hsize.trans hml.symm) (argsL := As) (rest := rest) (fun sig h => hn.trans (hlen sig h)) hstack hW (by rw [hb]; exact hdg)
    (fun vm₁ hW₁ => ⟨hf.1, hf.2, hp.2 (T.setVm vm₁) hT hW₁⟩) with ⟨v, vm₁, ⟨U', l2, c2, s2⟩, hW₁, X', ⟨g', mk, t, L, e1, e2, hq, h1, hL, h2, h3⟩, st⟩ | ⟨q, vm₁, ⟨U', l2, c2, s2⟩, hW₁, X', ⟨g', mk, t, L, E, ce, e1, e2, hq, hce, hcv, hcl, h1, hL, h2, h3⟩, st⟩
  · dsimp only [Pt.U, Pt.locs, Pt.cells, Pt.slots] at X' e1 e2 h1 h2 h3 st
    subst h1; subst h2; subst h3
    exact Or.inl ⟨v, (T.setVm vm₁).calling g' mk As.toArray, t, U', L, hT, X', hL, e1, e2, hq, st⟩
  · dsimp only [Pt.U, Pt.locs, Pt.cells, Pt.slots] at X' e1 e2 h1 h2 h3 st hcl
    subst h1; subst h2; subst h3
    exact Or.inr ⟨q, (T.setVm vm₁).calling g' mk As.toArray, t, U', L, E, ce, hT, X', hL, e1, e2, hq, hce, hcv, vx_cls hW₁ hcl, st⟩
end Runs
section Rows
variable {p : Program} {l : Launch} {e : Env} {R : Room} {s : State} {m : MethodId} {args : Array Value} {below : List Frame} {meth : Method} {c : Code} {H : Heap} {locs : List Loc} {cells slots : Nat} {Q : State → Prop}
variable {mc ms : Nat} {free : Addr → Prop} {A0 A1 : Nat → Prop} {H0 : Heap} {a : Array Value} {pc : Nat} {ls : Array Slot} {st0 rest : List Value}
theorem vx_keep {st₀ t T' : State} {L : List Loc} (h0 : st₀.heap = H) (e1 : T'.heap = t.heap) (hS : va_S A0 H0 H locs) (hA : ∀ q, q < H.size → A1 q → A0 q) (hf : ∀ q, free q → A0 q) (hL : ∀ q ∈ L, free q.base) (hF : va_F A1 st₀ t) :
    H.size ≤ T'.heap.size ∧ (∀ q : Nat, q < H.size → ¬ A1 q → T'.heap[q]? = H[q]?) ∧ va_S A0 H0 T'.heap (locs ++ L) := by
  obtain ⟨hz, hk⟩ := hF
  rw [h0] at hz hk
  exact ⟨by rw [e1]; exact hz, fun q h1 h2 => by rw [e1]; exact hk q h1 h2,
    ⟨Nat.le_trans hS.1 (by rw [e1]; exact hz), fun q h1 h2 => by rw [e1, hk q (Nat.lt_of_lt_of_le h1 hS.1) (fun z => h2 (hA q (Nat.lt_of_lt_of_le h1 hS.1) z))]; exact hS.2.1 q h1 h2, fun q hq => by
      rcases List.mem_append.mp hq with h | h
      · exact hS.2.2 q h
      · exact hf _ (hL q h)⟩⟩
theorem vx_calli {S SX : Type} {post : Int32 → S → Prop} {px : SX → Prop} {B : S → State → Prop} {BX : String → SX → State → Prop} {AX : Nat → Prop} (hr : vx_Run p l e R s m args below meth c H locs cells slots mc ms (F0 m pc ls st0) rest (va_Qi post B A1 a) (vx_X px BX AX) free) (hS : va_S A0 H0 H locs) (hA : ∀ q, q < H.size → A1 q → A0 q) (hf : ∀ q, free q → A0 q) (hAX : ∀ q, q < H.size → AX q → A0 q)
    (kx : ∀ (E : String) (ce : Cell) (q9 : Addr) (u : SX) (t : State) (H1 : Heap) (locs1 : List Loc), t.heap = H1 → s.vm.Alike t.vm → px u → BX E u t → H.size ≤ H1.size → (∀ q : Nat, q < H.size → ¬ AX q → H1[q]? = H[q]?) → va_S A0 H0 H1 locs1 → H1[q9]? = some ce → ce.vm = .none → s.vm.findClass E = some ce.cls → vx_W p l e R s m args below meth c H1 locs1 (cells + mc) (slots + ms) Q (F0 m pc ls rest) q9)
    (kk : ∀ (r : Int32) (u : S) (t : State) (H1 : Heap) (locs1 : List Loc), t.heap = H1 → s.vm.Alike t.vm → post r u → B u t → H.size ≤ H1.size → (∀ q : Nat, q < H.size → ¬ A1 q → H1[q]? = H[q]?) → va_S A0 H0 H1 locs1 → W p l e R s m args below meth c H1 locs1 (cells + mc) (slots + ms) Q (F0 m (pc + 3) ls (.int r :: rest))) : W p l e R s m args below meth c H locs cells slots Q (F0 m pc ls st0) := by
  intro T hT X
  rcases hr T hT X with ⟨v, st₀, t, T', L, h0, X', hL, e1, e2, ⟨⟨r, u, hv, hp, hb⟩, hF⟩, st⟩ | ⟨q, st₀, t, T', L, E, ce, h0, X', hL, e1, e2, ⟨u, hp, hb, hF⟩, hce, hcv, hcl, st⟩
  · cases hv
    obtain ⟨k1, k2, k3⟩ := vx_keep h0 e1 hS hA hf hL hF
    obtain ⟨t2, a1, b1⟩ := kk r u t T'.heap (locs ++ L) e1.symm (by rw [← e2]; exact X'.warmed.alike) hp hb k1 k2 k3 T' rfl X'
    exact ⟨t2, st t2 a1, b1⟩
  · obtain ⟨k1, k2, k3⟩ := vx_keep h0 e1 hS hAX hf hL hF
    obtain ⟨t2, a1, b1⟩ := kx E ce q u t T'.heap (locs ++ L) e1.symm (by rw [← e2]; exact X'.warmed.alike) hp hb k1 k2 k3 (by rw [e1]; exact hce) hcv hcl T' rfl X'
    exact ⟨t2, st.trans a1, b1⟩
theorem vx_calll {S SX : Type} {post : Int64 → S → Prop} {px : SX → Prop} {B : S → State → Prop} {BX : String → SX → State → Prop} {AX : Nat → Prop} (hr : vx_Run p l e R s m args below meth c H locs cells slots mc ms (F0 m pc ls st0) rest (va_Ql post B A1 a) (vx_X px BX AX) free) (hS : va_S A0 H0 H locs) (hA : ∀ q, q < H.size → A1 q → A0 q) (hf : ∀ q, free q → A0 q) (hAX : ∀ q, q < H.size → AX q → A0 q)
    (kx : ∀ (E : String) (ce : Cell) (q9 : Addr) (u : SX) (t : State) (H1 : Heap) (locs1 : List Loc), t.heap = H1 → s.vm.Alike t.vm → px u → BX E u t → H.size ≤ H1.size → (∀ q : Nat, q < H.size → ¬ AX q → H1[q]? = H[q]?) → va_S A0 H0 H1 locs1 → H1[q9]? = some ce → ce.vm = .none → s.vm.findClass E = some ce.cls → vx_W p l e R s m args below meth c H1 locs1 (cells + mc) (slots + ms) Q (F0 m pc ls rest) q9)
    (kk : ∀ (r : Int64) (u : S) (t : State) (H1 : Heap) (locs1 : List Loc), t.heap = H1 → s.vm.Alike t.vm → post r u → B u t → H.size ≤ H1.size → (∀ q : Nat, q < H.size → ¬ A1 q → H1[q]? = H[q]?) → va_S A0 H0 H1 locs1 → W p l e R s m args below meth c H1 locs1 (cells + mc) (slots + ms) Q (F0 m (pc + 3) ls (.long r :: rest))) : W p l e R s m args below meth c H locs cells slots Q (F0 m pc ls st0) := by
  intro T hT X
  rcases hr T hT X with ⟨v, st₀, t, T', L, h0, X', hL, e1, e2, ⟨⟨r, u, hv, hp, hb⟩, hF⟩, st⟩ | ⟨q, st₀, t, T', L, E, ce, h0, X', hL, e1, e2, ⟨u, hp, hb, hF⟩, hce, hcv, hcl, st⟩
  · cases hv
    obtain ⟨k1, k2, k3⟩ := vx_keep h0 e1 hS hA hf hL hF
    obtain ⟨t2, a1, b1⟩ := kk r u t T'.heap (locs ++ L) e1.symm (by rw [← e2]; exact X'.warmed.alike) hp hb k1 k2 k3 T' rfl X'
    exact ⟨t2, st t2 a1, b1⟩
  · obtain ⟨k1, k2, k3⟩ := vx_keep h0 e1 hS hAX hf hL hF
    obtain ⟨t2, a1, b1⟩ := kx E ce q u t T'.heap (locs ++ L) e1.symm (by rw [← e2]; exact X'.warmed.alike) hp hb k1 k2 k3 (by rw [e1]; exact hce) hcv hcl T' rfl X'
    exact ⟨t2, st.trans a1, b1⟩
theorem vx_callf {S SX : Type} {post : UInt32 → S → Prop} {px : SX → Prop} {B : S → State → Prop} {BX : String → SX → State → Prop} {AX : Nat → Prop} (hr : vx_Run p l e R s m args below meth c H locs cells slots mc ms (F0 m pc ls st0) rest (va_Qf post B A1 a) (vx_X px BX AX) free) (hS : va_S A0 H0 H locs) (hA : ∀ q, q < H.size → A1 q → A0 q) (hf : ∀ q, free q → A0 q) (hAX : ∀ q, q < H.size → AX q → A0 q)
    (kx : ∀ (E : String) (ce : Cell) (q9 : Addr) (u : SX) (t : State) (H1 : Heap) (locs1 : List Loc), t.heap = H1 → s.vm.Alike t.vm → px u → BX E u t → H.size ≤ H1.size → (∀ q : Nat, q < H.size → ¬ AX q → H1[q]? = H[q]?) → va_S A0 H0 H1 locs1 → H1[q9]? = some ce → ce.vm = .none → s.vm.findClass E = some ce.cls → vx_W p l e R s m args below meth c H1 locs1 (cells + mc) (slots + ms) Q (F0 m pc ls rest) q9)
    (kk : ∀ (r : UInt32) (u : S) (t : State) (H1 : Heap) (locs1 : List Loc), t.heap = H1 → s.vm.Alike t.vm → post r u → B u t → H.size ≤ H1.size → (∀ q : Nat, q < H.size → ¬ A1 q → H1[q]? = H[q]?) → va_S A0 H0 H1 locs1 → W p l e R s m args below meth c H1 locs1 (cells + mc) (slots + ms) Q (F0 m (pc + 3) ls (.float r :: rest))) : W p l e R s m args below meth c H locs cells slots Q (F0 m pc ls st0) := by
  intro T hT X
  rcases hr T hT X with ⟨v, st₀, t, T', L, h0, X', hL, e1, e2, ⟨⟨r, u, hv, hp, hb⟩, hF⟩, st⟩ | ⟨q, st₀, t, T', L, E, ce, h0, X', hL, e1, e2, ⟨u, hp, hb, hF⟩, hce, hcv, hcl, st⟩
  · cases hv
    obtain ⟨k1, k2, k3⟩ := vx_keep h0 e1 hS hA hf hL hF
    obtain ⟨t2, a1, b1⟩ := kk r u t T'.heap (locs ++ L) e1.symm (by rw [← e2]; exact X'.warmed.alike) hp hb k1 k2 k3 T' rfl X'
    exact ⟨t2, st t2 a1, b1⟩
  · obtain ⟨k1, k2, k3⟩ := vx_keep h0 e1 hS hAX hf hL hF
    obtain ⟨t2, a1, b1⟩ := kx E ce q u t T'.heap (locs ++ L) e1.symm (by rw [← e2]; exact X'.warmed.alike) hp hb k1 k2 k3 (by rw [e1]; exact hce) hcv hcl T' rfl X'
    exact ⟨t2, st.trans a1, b1⟩
theorem vx_calld {S SX : Type} {post : UInt64 → S → Prop} {px : SX → Prop} {B : S → State → Prop} {BX : String → SX → State → Prop} {AX : Nat → Prop} (hr : vx_Run p l e R s m args below meth c H locs cells slots mc ms (F0 m pc ls st0) rest (va_Qd post B A1 a) (vx_X px BX AX) free) (hS : va_S A0 H0 H locs) (hA : ∀ q, q < H.size → A1 q → A0 q) (hf : ∀ q, free q → A0 q) (hAX : ∀ q, q < H.size → AX q → A0 q)
    (kx : ∀ (E : String) (ce : Cell) (q9 : Addr) (u : SX) (t : State) (H1 : Heap) (locs1 : List Loc), t.heap = H1 → s.vm.Alike t.vm → px u → BX E u t → H.size ≤ H1.size → (∀ q : Nat, q < H.size → ¬ AX q → H1[q]? = H[q]?) → va_S A0 H0 H1 locs1 → H1[q9]? = some ce → ce.vm = .none → s.vm.findClass E = some ce.cls → vx_W p l e R s m args below meth c H1 locs1 (cells + mc) (slots + ms) Q (F0 m pc ls rest) q9)
    (kk : ∀ (r : UInt64) (u : S) (t : State) (H1 : Heap) (locs1 : List Loc), t.heap = H1 → s.vm.Alike t.vm → post r u → B u t → H.size ≤ H1.size → (∀ q : Nat, q < H.size → ¬ A1 q → H1[q]? = H[q]?) → va_S A0 H0 H1 locs1 → W p l e R s m args below meth c H1 locs1 (cells + mc) (slots + ms) Q (F0 m (pc + 3) ls (.double r :: rest))) : W p l e R s m args below meth c H locs cells slots Q (F0 m pc ls st0) := by
  intro T hT X
  rcases hr T hT X with ⟨v, st₀, t, T', L, h0, X', hL, e1, e2, ⟨⟨r, u, hv, hp, hb⟩, hF⟩, st⟩ | ⟨q, st₀, t, T', L, E, ce, h0, X', hL, e1, e2, ⟨u, hp, hb, hF⟩, hce, hcv, hcl, st⟩
  · cases hv
    obtain ⟨k1, k2, k3⟩ := vx_keep h0 e1 hS hA hf hL hF
    obtain ⟨t2, a1, b1⟩ := kk r u t T'.heap (locs ++ L) e1.symm (by rw [← e2]; exact X'.warmed.alike) hp hb k1 k2 k3 T' rfl X'
    exact ⟨t2, st t2 a1, b1⟩
  · obtain ⟨k1, k2, k3⟩ := vx_keep h0 e1 hS hAX hf hL hF
    obtain ⟨t2, a1, b1⟩ := kx E ce q u t T'.heap (locs ++ L) e1.symm (by rw [← e2]; exact X'.warmed.alike) hp hb k1 k2 k3 (by rw [e1]; exact hce) hcv hcl T' rfl X'
    exact ⟨t2, st.trans a1, b1⟩
theorem vx_callv {S SX : Type} {post : S → Prop} {px : SX → Prop} {B : S → State → Prop} {BX : String → SX → State → Prop} {AX : Nat → Prop} (hr : vx_Run p l e R s m args below meth c H locs cells slots mc ms (F0 m pc ls st0) rest (va_Qv post B A1 a) (vx_X px BX AX) free) (hS : va_S A0 H0 H locs) (hA : ∀ q, q < H.size → A1 q → A0 q) (hf : ∀ q, free q → A0 q) (hAX : ∀ q, q < H.size → AX q → A0 q)
    (kx : ∀ (E : String) (ce : Cell) (q9 : Addr) (u : SX) (t : State) (H1 : Heap) (locs1 : List Loc), t.heap = H1 → s.vm.Alike t.vm → px u → BX E u t → H.size ≤ H1.size → (∀ q : Nat, q < H.size → ¬ AX q → H1[q]? = H[q]?) → va_S A0 H0 H1 locs1 → H1[q9]? = some ce → ce.vm = .none → s.vm.findClass E = some ce.cls → vx_W p l e R s m args below meth c H1 locs1 (cells + mc) (slots + ms) Q (F0 m pc ls rest) q9)
    (kk : ∀ (u : S) (t : State) (H1 : Heap) (locs1 : List Loc), t.heap = H1 → s.vm.Alike t.vm → post u → B u t → H.size ≤ H1.size → (∀ q : Nat, q < H.size → ¬ A1 q → H1[q]? = H[q]?) → va_S A0 H0 H1 locs1 → W p l e R s m args below meth c H1 locs1 (cells + mc) (slots + ms) Q (F0 m (pc + 3) ls (rest))) : W p l e R s m args below meth c H locs cells slots Q (F0 m pc ls st0) := by
  intro T hT X
  rcases hr T hT X with ⟨v, st₀, t, T', L, h0, X', hL, e1, e2, ⟨⟨u, hv, hp, hb⟩, hF⟩, st⟩ | ⟨q, st₀, t, T', L, E, ce, h0, X', hL, e1, e2, ⟨u, hp, hb, hF⟩, hce, hcv, hcl, st⟩
  · cases hv
    obtain ⟨k1, k2, k3⟩ := vx_keep h0 e1 hS hA hf hL hF
    obtain ⟨t2, a1, b1⟩ := kk u t T'.heap (locs ++ L) e1.symm (by rw [← e2]; exact X'.warmed.alike) hp hb k1 k2 k3 T' rfl X'
    exact ⟨t2, st t2 a1, b1⟩
  · obtain ⟨k1, k2, k3⟩ := vx_keep h0 e1 hS hAX hf hL hF
    obtain ⟨t2, a1, b1⟩ := kx E ce q u t T'.heap (locs ++ L) e1.symm (by rw [← e2]; exact X'.warmed.alike) hp hb k1 k2 k3 (by rw [e1]; exact hce) hcv hcl T' rfl X'
    exact ⟨t2, st.trans a1, b1⟩
/-- caught by the row x of this method's table; the rows ahead don't take it -/
theorem vx_catch {own name : String} {E : String} {ce : Cell} {q : Addr} (hown : s.vm.findClass own = some m.cls) (pre : List ExceptionTableEntry) (x : ExceptionTableEntry) (suf : List ExceptionTableEntry) (hsplit : c.exceptionTable.toList = pre ++ x :: suf)
    (hpass : ∀ z ∈ pre, covers z pc = false ∨ (z.catchType ≠ 0 ∧ ∃ nm : String, (Cond.classLink own z.catchType nm).before args s = true ∧ va_Nc E nm s)) (hx : covers x pc = true) (h0 : x.catchType ≠ 0)
    (hlink : (Cond.classLink own x.catchType name).before args s = true) (hcast : (Cond.castable E name).before args s = true) (hcell : H[q]? = some ce) (hv : ce.vm = .none) (hcl : s.vm.findClass E = some ce.cls)
    (kk : W p l e R s m args below meth c H locs cells slots Q (F0 m x.handlerPc ls [.ref q])) : vx_W p l e R s m args below meth c H locs cells slots Q (F0 m pc ls rest) q := by
  intro T hT X
  have hpl : e.platform.magicAccessors = ({} : Platform).magicAccessors := by rw [X.admits.platform]
  obtain ⟨c3, c4, hc3, hc4, hasg⟩ := Cond.castable_spec hcast
  cases Option.some.inj (hc3.symm.trans hcl)
  obtain ⟨c5, hc5, hcl5⟩ := Cond.classLink_spec hown hlink e.platform hpl
  cases Option.some.inj (hc4.symm.trans hc5)
  obtain ⟨vm', X', st⟩ := X.thenCaughtThrough q (g := F0 m pc ls rest) rfl (Steps.refl _) (by rw [hT]; exact hcell) (by rw [hv]; rfl) (by obtain ⟨k9, h9, -⟩ := Vm.findClass_spec hcl; exact ⟨k9, h9⟩) pre x suf hsplit
    (fun z hz => by
      rcases hpass z hz with h | ⟨hz0, nm, hl1, hn1⟩
      · exact Or.inl h
      · obtain ⟨c6, hc6, hcl6⟩ := Cond.classLink_spec hown hl1 e.platform hpl
        obtain ⟨a8, b8, h1, h2, h3⟩ := hn1
        cases Option.some.inj (h1.symm.trans hcl)
        cases Option.some.inj (h2.symm.trans hc6)
        exact Or.inr ⟨hz0, _, hcl6, h3⟩) hx (Or.inr ⟨h0, c4, hcl5, hasg⟩)
  obtain ⟨t, a1, b1⟩ := kk (T.setVm vm') hT X'
  exact ⟨t, st.trans a1, b1⟩
end Rows
section Ends
variable {p : Program} {l : Launch} {e : Env} {R : Room} {s : State} {m : MethodId} {args : Array Value} {below : List Frame} {meth : Method} {c : Code} {H : Heap} {locs : List Loc} {cells slots : Nat} {Q : State → Prop}
variable {mc ms : Nat} {free : Addr → Prop} {A0 A1 : Nat → Prop} {H0 : Heap} {a : Array Value} {ls : Array Slot} {st0 rest : List Value}
variable {Qc : Array Value → State → Outcome → State → Prop} {XC : String → State → State → Prop}
/-- what a body that may throw owes at its end -/
def vx_MQ (below : List Frame) (Qc : Array Value → State → Outcome → State → Prop) (XC : String → State → State → Prop) (a : Array Value) (s : State) (mc ms : Nat) (free : Addr → Prop) : State → Prop := fun t =>
  ∃ o, t.status = .running ∧ Ended t below o ∧ vx_Q Qc XC mc ms free a s o t
theorem vx_ret {g : JFrame} {mc ms : Nat} (k : W p l e R s m args below meth c H locs cells slots (MQ below Qc args s mc ms free) g) : W p l e R s m args below meth c H locs cells slots (vx_MQ below Qc XC args s mc ms free) g := by
  intro T hT X
  obtain ⟨t, a1, o, b1, b2, b3, b4⟩ := k T hT X
  exact ⟨t, a1, o, b1, b2, Or.inl ⟨b3, b4⟩⟩
/-- not caught here: it goes on to the caller -/
theorem vx_widen {g : JFrame} {q : Addr} {k n : Nat} (h1 : cells ≤ k) (h2 : slots ≤ n) (kk : vx_W p l e R s m args below meth c H locs k n Q g q) : vx_W p l e R s m args below meth c H locs cells slots Q g q := fun T hT X => kk T hT (stand_widen X h1 h2)
theorem vx_out {pc : Nat} {E : String} {ce : Cell} {q : Addr} {mc ms : Nat} (hout : ∀ x ∈ c.exceptionTable.toList, covers x pc = false) (hlocks : meth.locks = false) (hcell : H[q]? = some ce) (hv : ce.vm = .none) (hcl : s.vm.findClass E = some ce.cls)
    (hx : ∀ t : State, t.heap = H → s.vm.Alike t.vm → XC E s t) (hf : ∀ z ∈ locs, free z.base) (hc : cells ≤ mc) (hs : slots ≤ ms) :
    vx_W p l e R s m args below meth c H locs cells slots (vx_MQ below Qc XC args s mc ms free) (F0 m pc ls rest) q := by
  intro T hT X
  obtain ⟨st1, hrun, hend, hW, hsm⟩ := X.leaveThrown q (g := F0 m pc ls rest) rfl rfl rfl hout hlocks
  have hcell9 : (T.setFrames (.throwing q :: below)).heap[q]? = some ce := by
    show T.heap[q]? = some ce
    rw [hT]; exact hcell
  exact ⟨_, st1, .threw q, hrun, hend, Or.inr ⟨q, rfl, E, ce, locs, hx _ hT hW.alike, hcell9, hv, hcl, hW, hsm.mono hc hs, hf⟩⟩
theorem vx_frame {U : State} {k n : Nat} (h : s.sameButNew ({ U with vm := s.vm } : State) locs k n) : s.heap.size ≤ U.heap.size ∧ ∀ q : Nat, q < s.heap.size → (∀ z ∈ locs, z.base ≠ q) → U.heap[q]? = s.heap[q]? := by
  obtain ⟨-, h2, -, -, -, h6⟩ := h
  refine ⟨h2, fun q hq hz => ?_⟩
  obtain ⟨c9, e1, e2, e3, e4⟩ := h6 q _ (Array.getElem?_eq_getElem hq)
  have hs : c9.slots = (s.heap[q]).slots := Array.ext_getElem? fun i => e4 i fun hm => hz _ hm rfl
  have h9 : c9 = s.heap[q] := by
    rw [hs] at e2
    exact e2
  have e5 : U.heap[q]? = some c9 := e1
  rw [e5, h9, Array.getElem?_eq_getElem hq]
/-- the words of a throw but the four that speak of the heap -/
def vx_no (w : Cond) : Bool := decide (w ≠ .isRef (.static Bundle.tN "UNASSIGNED_STACK" Bundle.steD)) && decide (w ≠ .isRef (.static Bundle.tN "SUPPRESSED_SENTINEL" Bundle.listD)) && decide (w ≠ .laysStatic Bundle.tN "UNASSIGNED_STACK" Bundle.steD) && decide (w ≠ .laysStatic Bundle.tN "SUPPRESSED_SENTINEL" Bundle.listD)
def vx_at0 (own : String) (ic : Nat) (X : String) (names : List String) : List Cond := (Bundle.ownAtoms0 own ic X names).filter vx_no
def vx_atS (own : String) (ic : Nat) (X : String) (names : List String) : List Cond := (Bundle.ownAtoms own ic X names).filter vx_no
/-- a word that the tables alone decide, or a good one -/
def vx_ot (w : Cond) : Bool := w.onTables || goodWord w
theorem vx_ot_at {args a' : Array Value} {s U : State} {w : Cond} (hW : s.WarmedH U.vm) (hvm : s.vm = U.vm) (hg : vx_ot w = true) (h : w.before args s = true) : w.before a' U = true := by
  simp only [vx_ot, Bool.or_eq_true] at hg
  rcases hg with hg | hg
  · exact va_tabs hg hvm h
  · exact word_at hW (good_of_word hg) h
/-- a list's words: the good ones out of the method's own list, the others by premises of their own -/
theorem vx_hat {args : Array Value} {s : State} {L B : List Cond} (h1 : ∀ w ∈ L.filter goodWord, w.before args s = true) (h2 : ∀ w ∈ L.filter (fun w => !goodWord w), w ∈ B) (h3 : ∀ w ∈ B, w.before args s = true) : ∀ w ∈ L, w.before args s = true := by
  intro w hw
  by_cases g : goodWord w = true
  · exact h1 w (List.mem_filter.mpr ⟨hw, g⟩)
  · refine h3 w (h2 w (List.mem_filter.mpr ⟨hw, ?_⟩))
    show (!goodWord w) = true
    cases hgw : goodWord w
    · rfl
    · exact absurd hgw g
theorem vx_c {args : Array Value} {s : State} {w : Cond} {B : List Cond} (h : w.before args s = true) (t : ∀ w ∈ B, w.before args s = true) : ∀ w' ∈ w :: B, w'.before args s = true := fun w' h' => (List.mem_cons.mp h').elim (fun e => by rw [e]; exact h) (t w')
theorem vx_n {args : Array Value} {s : State} : ∀ w ∈ ([] : List Cond), w.before args s = true := fun _ h => nomatch h
theorem vx_own {args : Array Value} {s : State} {L : List Cond} (h1 : ∀ w ∈ L.filter vx_no, w.before args s = true)
    (hU : (Cond.isRef (.static Bundle.tN "UNASSIGNED_STACK" Bundle.steD)).before args s = true) (hN : (Cond.isRef (.static Bundle.tN "SUPPRESSED_SENTINEL" Bundle.listD)).before args s = true)
    (lU : (Cond.laysStatic Bundle.tN "UNASSIGNED_STACK" Bundle.steD).before args s = true) (lN : (Cond.laysStatic Bundle.tN "SUPPRESSED_SENTINEL" Bundle.listD).before args s = true) : ∀ w ∈ L, w.before args s = true := by
  intro w hw
  by_cases e1 : w = .isRef (.static Bundle.tN "UNASSIGNED_STACK" Bundle.steD)
  · rw [e1]; exact hU
  · by_cases e2 : w = .isRef (.static Bundle.tN "SUPPRESSED_SENTINEL" Bundle.listD)
    · rw [e2]; exact hN
    · by_cases e3 : w = .laysStatic Bundle.tN "UNASSIGNED_STACK" Bundle.steD
      · rw [e3]; exact lU
      · by_cases e4 : w = .laysStatic Bundle.tN "SUPPRESSED_SENTINEL" Bundle.listD
        · rw [e4]; exact lN
        · exact h1 w (List.mem_filter.mpr ⟨hw, by unfold vx_no; rw [decide_eq_true e1, decide_eq_true e2, decide_eq_true e3, decide_eq_true e4]; rfl⟩)
/-- where a static field lies, its class's statics cell in H -/
def vx_L (C n d : String) (A : Nat → Prop) (U : State) (H : Heap) : Prop := ∃ (c : ClassId) (k : Class) (i : Nat) (f : Field) (a : Nat) (cell : Cell), U.vm.findClass C = some c ∧ U.fieldFound? C n d = some (c, k, i, f) ∧ f.isStatic = true ∧ k.statics = some a ∧ H[a]? = some cell ∧ cell.vm.isStatics = true ∧ cell.cls = c ∧ f.slot < cell.slots.size ∧ k.staticTypes[f.slot]? = some f.type ∧ ¬ A a
theorem vx_L.moved {C n d : String} {A : Nat → Prop} {u U : State} {H : Heap} (hvm : u.vm.Alike U.vm) (h : vx_L C n d A u H) : vx_L C n d A U H := by
  obtain ⟨c, k, i, f, a, cell, h1, h2, h3, h4, h5, h6, h7, h8, h9, h10⟩ := h
  obtain ⟨k', hi', he⟩ := State.fieldFound?_setVm hvm h2
  exact ⟨c, k', i, f, a, cell, by rw [hvm.findClass]; exact h1, hi', h3, by rw [he]; exact h4, h5, h6, h7, h8, by rw [he]; exact h9, h10⟩
theorem vx_L.kept {C n d : String} {A : Nat → Prop} {U : State} {H H1 : Heap} (h : vx_L C n d A U H) (hq : ∀ a : Nat, a < H.size → ¬ A a → H1[a]? = H[a]?) : vx_L C n d A U H1 := by
  obtain ⟨c, k, i, f, a, cell, h1, h2, h3, h4, h5, h6, h7, h8, h9, h10⟩ := h
  exact ⟨c, k, i, f, a, cell, h1, h2, h3, h4, by rw [hq a (Array.getElem?_eq_some_iff.mp h5).1 h10]; exact h5, h6, h7, h8, h9, h10⟩
theorem vx_L.narrow {C n d : String} {A B : Nat → Prop} {U : State} {H : Heap} (h : vx_L C n d A U H) (hAB : ∀ q, B q → A q) : vx_L C n d B U H := by
  obtain ⟨c, k, i, f, a, cell, h1, h2, h3, h4, h5, h6, h7, h8, h9, h10⟩ := h
  exact ⟨c, k, i, f, a, cell, h1, h2, h3, h4, h5, h6, h7, h8, h9, fun z => h10 (hAB _ z)⟩
theorem vx_L.word {C n d : String} {A : Nat → Prop} {s : State} {args : Array Value} (h : vx_L C n d A s s.heap) : (Cond.laysStatic C n d).before args s = true := by
  obtain ⟨c, k, i, f, a, cell, h1, h2, h3, h4, h5, h6, h7, h8, h9, -⟩ := h
  show (Cond.laysStatic C n d).holds args s none s [] = true
  exact Cond.laysStatic_of h1 h2 h3 h4 h5 h6 h7 h8 h9
/-- .. and what it holds: null or some reference -/
def vx_Zq (C n d : String) (A : Nat → Prop) (U : State) (H : Heap) : Prop := va_Zq C n d A U H ∧ vx_L C n d A U H
theorem vx_Zq.moved {C n d : String} {A : Nat → Prop} {u U : State} {H : Heap} (hvm : u.vm.Alike U.vm) (h : vx_Zq C n d A u H) : vx_Zq C n d A U H := ⟨va_Zq.moved hvm h.1, vx_L.moved hvm h.2⟩
theorem vx_Zq.kept {C n d : String} {A : Nat → Prop} {U : State} {H H1 : Heap} (h : vx_Zq C n d A U H) (hq : ∀ a : Nat, a < H.size → ¬ A a → H1[a]? = H[a]?) : vx_Zq C n d A U H1 := ⟨va_Zq.kept h.1 hq, vx_L.kept h.2 hq⟩
theorem vx_Zq.narrow {C n d : String} {A B : Nat → Prop} {U : State} {H : Heap} (h : vx_Zq C n d A U H) (hAB : ∀ q, B q → A q) : vx_Zq C n d B U H := ⟨va_Zq.narrow h.1 hAB, vx_L.narrow h.2 hAB⟩
theorem vx_Zqof {args : Array Value} {s : State} {C n d : String} {A : Nat → Prop} (hl : (Cond.laysStatic C n d).before args s = true) (hini : (Cond.initialized C).before args s = true) (h : (Cond.isRef (.static C n d)).before args s = true) (hA : ∀ a : Nat, a < s.heap.size → ¬ A a) : vx_Zq C n d A s s.heap := by
  refine ⟨va_Zqof hl hini h hA, ?_⟩
  obtain ⟨c, k, i, f, a, cell, h1, h2, h3, h4, h5, h6, h7, h8, h9⟩ := Cond.laysStatic_spec hl
  exact ⟨c, k, i, f, a, cell, h1, h2, h3, h4, h5, h6, h7, h8, h9, hA a (Array.getElem?_eq_some_iff.mp h5).1⟩
theorem vx_isRef {C n d : String} {v : Value} {A : Nat → Prop} {s : State} {args : Array Value} (h : va_Z C n d v A s s.heap) (hv : v.isRef = true) : (Cond.isRef (.static C n d)).before args s = true := by
  obtain ⟨cf, kf, fi, f, a, cell, h1, h2, h3, h4, h5, h6, h7, -⟩ := h
  have he : (Term.static C n d).eval args s none [] s = some v := by
    simp [Term.eval, State.fieldNamed?, h1, h2, h4, h5, h6, h7]
  simp only [Cond.before, Cond.holds, Cond.value, he]
  cases v <;> simp_all [Value.isRef]
theorem vx_isRefq {C n d : String} {A : Nat → Prop} {s : State} {args : Array Value} (h : va_Zq C n d A s s.heap) : (Cond.isRef (.static C n d)).before args s = true := by
  rcases h with h | ⟨t, h⟩
  · exact vx_isRef h rfl
  · exact vx_isRef h rfl
/-- the same frame, seen from here: as if the method were called anew in this heap -/
theorem vx_rebase {T : State} (X : Stand p l e R s m args below meth c T locs cells slots) {R' : Room} (hf : R'.frames ≤ R.frames) (hl : R'.locals ≤ R.locals) (hc : cells + R'.cells ≤ R.cells) (hs : slots + R'.slots ≤ R.slots) :
    Stand p l e R' ((T.setVm s.vm).setFrames (.invoking m args :: below)) m args below meth c T [] 0 0 := by
  have htop : (T.setVm s.vm).topJava?.isSome := X.here.top
  have hF : ((T.setVm s.vm).setFrames (.invoking m args :: below)).frames = .invoking m args :: below := State.frames_setFrames _ (State.cur_lt_of_top htop)
  obtain ⟨g₀, hg0⟩ := Option.isSome_iff_exists.mp htop
  obtain ⟨r, hr⟩ := State.topJava?_eq_some.mp hg0
  have hl9 : e.platform.stackLimits (T.setVm s.vm).me = e.platform.stackLimits s.me := X.limits
  have hb9 : (T.setVm s.vm).me.stackBytes = s.me.stackBytes := X.bytes
  refine ⟨X.admits, X.cas, X.clock, hF, ?_, X.hears, X.method, X.code, X.here, X.tail, X.warmed, ?_, ?_, ?_⟩
  · have h := X.room
    have hU : ((T.setVm s.vm).setFrames (.invoking m args :: below)).localsInUse = s.localsInUse := by
      rw [State.localsInUse_invoking hF (meth := meth) (c := c) X.method X.code, State.localsInUse_invoking X.frames X.method X.code]
    simp only [State.hasRoom, Bool.and_eq_true, decide_eq_true_eq] at h ⊢
    obtain ⟨⟨⟨⟨h1, h2, h3, h4, h5, h6⟩, h7⟩, h8⟩, h9⟩ := h
    rw [X.frames, List.length_cons] at h2 h3
    have q1 := X.heapSize
    have q2 := X.used
    simp only [hF, hU, List.length_cons, State.stackLimits_setFrames, State.stackBytes_setFrames, hl9, hb9]
    refine ⟨⟨⟨⟨by omega, by omega, by omega, by omega, by omega, h6⟩, ?_⟩, ?_⟩, X.book⟩
    · show T.heap.size + R'.cells ≤ e.platform.maxCells
      omega
    · show T.slotsUsed + R'.slots ≤ e.platform.maxSlots
      omega
  · rw [State.stackLimits_setFrames]; rfl
  · rw [State.stackBytes_setFrames]; rfl
  · refine ⟨?_, Nat.le_refl _, Nat.le_refl _, ?_, ?_, fun a c9 h9 => ⟨c9, h9, rfl, rfl, fun _ _ => rfl⟩⟩
    · obtain ⟨t, ht, -⟩ := State.frames_cons hr
      show T.setVm s.vm = { ((T.setVm s.vm).setFrames (.invoking m args :: below)).setFrames (T.setVm s.vm).frames with heap := T.heap, slotsUsed := T.slotsUsed }
      rw [State.setFrames_setFrames, State.setFrames_self ht]
      rfl
    · show T.slotsUsed = T.slotsUsed + ((T.heap.toList.drop T.heap.size).map (·.slots.size)).sum
      rw [List.drop_eq_nil_of_le (Nat.le_of_eq Array.length_toList)]
      rfl
    · show ((T.heap.toList.drop T.heap.size).map (·.slots.size)).sum ≤ 0
      rw [List.drop_eq_nil_of_le (Nat.le_of_eq Array.length_toList)]
      exact Nat.le_refl _
/-- 'throw new E()': new; dup; invokespecial; athrow -/
theorem vx_throw0 {cc : ByteArray} {pc : Nat} (hexec : p.tables.exec = Jvm.exec) (hb : c.code = cc) (hl : l.stackTraces = false) {own cls : String} {names : List String} {ik ic mc ms : Nat} {A : Nat → Prop}
    (hown : s.vm.findClass own = some m.cls) (hcls : Bundle.fit cls = true) (hnames : ∀ n ∈ names, Bundle.fit n = true)
    (hk : (Cond.classLink own ik cls).before args s = true) (hini : (Cond.initialized cls).before args s = true) (hat : ∀ w ∈ vx_at0 own ic cls names, w.before args s = true)
    (hgood : ∀ w ∈ Cond.classLink own ik cls :: Cond.initialized cls :: vx_at0 own ic cls names, vx_ot w = true)
    (hU : vx_Zq Bundle.tN "UNASSIGNED_STACK" Bundle.steD A s s.heap) (hN : vx_Zq Bundle.tN "SUPPRESSED_SENTINEL" Bundle.listD A s s.heap) (hS : va_S A s.heap H locs) (hsize : ls.size = c.maxLocals)
    (d0 : decode cc pc = .ok (.new ik, 3)) (d3 : decode cc (pc + 3) = .ok (.dup, 1)) (d4 : decode cc (pc + 4) = .ok (.invokespecial ic, 3)) (d7 : decode cc (pc + 7) = .ok (.athrow, 1))
    (hout : ∀ x ∈ c.exceptionTable.toList, covers x (pc + 7) = false)
    (hRframes : names.length + 3 < R.frames) (hRlocals : (rest.map fun v => v.category).sum + (13 * (names.length + 1) + 42) ≤ R.locals) (hRcells : cells + 1 ≤ R.cells) (hRslots : slots + 6 ≤ R.slots) (hlocks : meth.locks = false)
    (hx : ∀ t : State, s.vm.Alike t.vm → H.size ≤ t.heap.size → (∀ q : Nat, q < H.size → t.heap[q]? = H[q]?) → XC cls s t)
    (hf : ∀ z ∈ locs, free z.base) (hc : cells + 1 ≤ mc) (hs : slots + 6 ≤ ms) :
    W p l e R s m args below meth c H locs cells slots (vx_MQ below Qc XC args s mc ms free) (F0 m pc ls rest) := by
  intro T hT X
  have htr : e.platform.stackTraces = false := (show e.platform.stackTraces = l.stackTraces by rw [X.admits.platform]).trans hl
  have Y := vx_rebase X (R' := { frames := R.frames, locals := R.locals, cells := 1, slots := 6 }) (Nat.le_refl _) (Nat.le_refl _) hRcells hRslots
  obtain ⟨s', hA⟩ : ∃ z, z = (T.setVm s.vm).setFrames (.invoking m args :: below) := ⟨_, rfl⟩
  rw [← hA] at Y
  have hvm : s'.vm = s.vm := by rw [hA]; rfl
  have hhp : s'.heap = H := by rw [hA]; exact hT
  have hW0 : s.WarmedH s'.vm := by rw [hvm]; exact State.WarmedH.refl s
  have hat' : ∀ w ∈ vx_at0 own ic cls names, w.before args s' = true := fun w hw => vx_ot_at hW0 hvm.symm (hgood w (List.mem_cons_of_mem _ (List.mem_cons_of_mem _ hw))) (hat w hw)
  have hk' : (Cond.classLink own ik cls).before args s' = true := vx_ot_at hW0 hvm.symm (hgood _ List.mem_cons_self) hk
  have hini' : (Cond.initialized cls).before args s' = true := vx_ot_at hW0 hvm.symm (hgood _ (List.mem_cons_of_mem _ List.mem_cons_self)) hini
  have hU' : vx_Zq Bundle.tN "UNASSIGNED_STACK" Bundle.steD A s' s'.heap := by rw [hhp]; exact vx_Zq.moved hW0.alike (hU.kept hS.2.1)
  have hN' : vx_Zq Bundle.tN "SUPPRESSED_SENTINEL" Bundle.listD A s' s'.heap := by rw [hhp]; exact vx_Zq.moved hW0.alike (hN.kept hS.2.1)
  have h : ∀ w ∈ Bundle.ownAtoms0 own ic cls names, w.before args s' = true := vx_own hat' (vx_isRefq hU'.1) (vx_isRefq hN'.1) hU'.2.word hN'.2.word
  have hown' : s'.vm.findClass own = some m.cls := by rw [hvm]; exact hown
  have hins : (Cond.instantiable cls 6).before args s' = true := h _ (by simp [Bundle.ownAtoms0])
  obtain ⟨vm₁, cX, kX, hfX, hkX, -, -, X₁, st1⟩ := Y.newCold hexec (own := own) (C := cls) (index := ik) (n := 6) hown' hk' hins hini'
    (g := F0 m pc ls rest) rfl (by rw [hb]; exact d0) (Nat.le_refl _) (Nat.le_refl _)
  generalize hT1 : (T.setVm vm₁).pushCell { cls := cX, slots := kX.instanceTypes.map defaultValue, vm := .none } = T1 at X₁ st1
  have hcat : (Value.ref T.heap.size).category = 1 := rfl
  have hcellA : T1.heap[T.heap.size]? = some (freshCell cX kX) := by rw [← hT1]; exact State.heap_pushCell_size _ _
  have d3' : decode c.code (pc + 3) = .ok (.dup, 1) := by rw [hb]; exact d3
  obtain ⟨U, hsteps, hrun, hend, hW, hsame, ce, hce, hO⟩ := X₁.ctorThrow0 hexec htr (own := own) (cls := cls) (names := names) (ic := ic) hown' hcls hnames h (fun x hx => nomatch hx) hfX hkX hcellA (by rw [hhp, hT]; exact Nat.le_refl _)
    (g := { method := m, pc := pc + 4, locals := ls, stack := .ref T.heap.size :: .ref T.heap.size :: rest, locked := none }) rfl hsize rfl rfl (rest := rest) rfl
    (by rw [hb]; exact d4) (by rw [hb]; exact d7) hout hRframes (by simp only [List.map_cons, List.sum_cons, hcat]; omega) hlocks
  obtain ⟨f1, f2⟩ := vx_frame hsame
  rw [hhp] at f1 f2
  have hWs : s.WarmedH U.vm := State.WarmedH.trans hW0 hW
  have hcl : s.vm.findClass cls = some ce.cls := by
    have h9 := hO.cls
    rw [hvm] at h9
    exact h9
  have hall : s.sameButNew ({ U with vm := s.vm } : State) locs mc ms := by
    subst hA
    obtain ⟨e1, e2⟩ := hsame
    rw [State.setFrames_setFrames] at e1
    have h2 : (T.setVm s.vm).sameButNew ({ U with vm := s.vm } : State) [] (0 + 1) (0 + 6) := ⟨e1, e2⟩
    have h3 := X.same.trans h2
    rw [List.append_nil] at h3
    exact h3.mono hc hs
  refine ⟨U, ?_, .threw T.heap.size, hrun, hend, Or.inr ⟨T.heap.size, rfl, cls, ce, locs, hx U hWs.alike f1 (fun q hq => f2 q hq (fun z hz => nomatch hz)), hce, hO.vm, hcl, hWs, hall, hf⟩⟩
  refine st1 _ ?_
  show Steps p.tables e below (T1.setTop { method := m, pc := pc + 3, locals := ls, stack := .ref T.heap.size :: rest, locked := none }) _
  jvm_step X₁.here [X₁.here.top, hexec, d3', Value.category]
  exact hsteps
/-- 'throw new E("text")': new; dup; ldc; invokespecial; athrow -/
theorem vx_throwS {cc : ByteArray} {pc : Nat} (hexec : p.tables.exec = Jvm.exec) (hb : c.code = cc) (hl : l.stackTraces = false) {own cls text : String} {names : List String} {ik is ic mc ms sa : Nat} {A : Nat → Prop}
    (hown : s.vm.findClass own = some m.cls) (hcls : Bundle.fit cls = true) (hnames : ∀ n ∈ names, Bundle.fit n = true)
    (hk : (Cond.classLink own ik cls).before args s = true) (hini : (Cond.initialized cls).before args s = true) (hstr : vk_R own is text sa s) (hat : ∀ w ∈ vx_atS own ic cls names, w.before args s = true)
    (hgood : ∀ w ∈ Cond.classLink own ik cls :: Cond.initialized cls :: vx_atS own ic cls names, vx_ot w = true)
    (hU : vx_Zq Bundle.tN "UNASSIGNED_STACK" Bundle.steD A s s.heap) (hN : vx_Zq Bundle.tN "SUPPRESSED_SENTINEL" Bundle.listD A s s.heap) (hS : va_S A s.heap H locs) (hsize : ls.size = c.maxLocals)
    (d0 : decode cc pc = .ok (.new ik, 3)) (d3 : decode cc (pc + 3) = .ok (.dup, 1)) (d4 : decode cc (pc + 4) = .ok (.ldc is, 2)) (d6 : decode cc (pc + 6) = .ok (.invokespecial ic, 3)) (d9 : decode cc (pc + 9) = .ok (.athrow, 1))
    (hout : ∀ x ∈ c.exceptionTable.toList, covers x (pc + 9) = false)
    (hRframes : names.length + 3 < R.frames) (hRlocals : (rest.map fun v => v.category).sum + (13 * (names.length + 1) + 43) ≤ R.locals) (hRcells : cells + 1 ≤ R.cells) (hRslots : slots + 6 ≤ R.slots) (hlocks : meth.locks = false)
    (hx : ∀ t : State, s.vm.Alike t.vm → H.size ≤ t.heap.size → (∀ q : Nat, q < H.size → t.heap[q]? = H[q]?) → XC cls s t)
    (hf : ∀ z ∈ locs, free z.base) (hc : cells + 1 ≤ mc) (hs : slots + 6 ≤ ms) :
    W p l e R s m args below meth c H locs cells slots (vx_MQ below Qc XC args s mc ms free) (F0 m pc ls rest) := by
  intro T hT X
  have htr : e.platform.stackTraces = false := (show e.platform.stackTraces = l.stackTraces by rw [X.admits.platform]).trans hl
  have Y := vx_rebase X (R' := { frames := R.frames, locals := R.locals, cells := 1, slots := 6 }) (Nat.le_refl _) (Nat.le_refl _) hRcells hRslots
  obtain ⟨s', hA⟩ : ∃ z, z = (T.setVm s.vm).setFrames (.invoking m args :: below) := ⟨_, rfl⟩
  rw [← hA] at Y
  have hvm : s'.vm = s.vm := by rw [hA]; rfl
  have hhp : s'.heap = H := by rw [hA]; exact hT
  have hW0 : s.WarmedH s'.vm := by rw [hvm]; exact State.WarmedH.refl s
  have hat' : ∀ w ∈ vx_atS own ic cls names, w.before args s' = true := fun w hw => vx_ot_at hW0 hvm.symm (hgood w (List.mem_cons_of_mem _ (List.mem_cons_of_mem _ hw))) (hat w hw)
  have hk' : (Cond.classLink own ik cls).before args s' = true := vx_ot_at hW0 hvm.symm (hgood _ List.mem_cons_self) hk
  have hini' : (Cond.initialized cls).before args s' = true := vx_ot_at hW0 hvm.symm (hgood _ (List.mem_cons_of_mem _ List.mem_cons_self)) hini
  have hU' : vx_Zq Bundle.tN "UNASSIGNED_STACK" Bundle.steD A s' s'.heap := by rw [hhp]; exact vx_Zq.moved hW0.alike (hU.kept hS.2.1)
  have hN' : vx_Zq Bundle.tN "SUPPRESSED_SENTINEL" Bundle.listD A s' s'.heap := by rw [hhp]; exact vx_Zq.moved hW0.alike (hN.kept hS.2.1)
  have h : ∀ w ∈ Bundle.ownAtoms own ic cls names, w.before args s' = true := vx_own hat' (vx_isRefq hU'.1) (vx_isRefq hN'.1) hU'.2.word hN'.2.word
  have hown' : s'.vm.findClass own = some m.cls := by rw [hvm]; exact hown
  have hins : (Cond.instantiable cls 6).before args s' = true := h _ (by simp [Bundle.ownAtoms])
  obtain ⟨vm₁, cX, kX, hfX, hkX, -, -, X₁, st1⟩ := Y.newCold hexec (own := own) (C := cls) (index := ik) (n := 6) hown' hk' hins hini'
    (g := F0 m pc ls rest) rfl (by rw [hb]; exact d0) (Nat.le_refl _) (Nat.le_refl _)
  generalize hT1 : (T.setVm vm₁).pushCell { cls := cX, slots := kX.instanceTypes.map defaultValue, vm := .none } = T1 at X₁ st1
  have hcat : (Value.ref T.heap.size).category = 1 := rfl
  have hcellA : T1.heap[T.heap.size]? = some (freshCell cX kX) := by rw [← hT1]; exact State.heap_pushCell_size _ _
  have d3' : decode c.code (pc + 3) = .ok (.dup, 1) := by rw [hb]; exact d3
  have d4' : decode c.code (pc + 4) = .ok (.ldc is, 2) := by rw [hb]; exact d4
  have hstr' : vk_R own is text sa s' := vk_R.warm hW0 hstr
  obtain ⟨U, hsteps, hrun, hend, hW, hsame, ce, hce, hO⟩ := X₁.ctorThrowS hexec htr (own := own) (cls := cls) (names := names) (ic := ic) hown' hcls hnames h (fun x hx => nomatch hx) hfX hkX hcellA (by rw [hhp, hT]; exact Nat.le_refl _) (msg := .ref sa) rfl
    (g := { method := m, pc := pc + 6, locals := ls, stack := .ref sa :: .ref T.heap.size :: .ref T.heap.size :: rest, locked := none }) rfl hsize rfl rfl (rest := rest) rfl
    (by rw [hb]; exact d6) (by rw [hb]; exact d9) hout hRframes (by simp only [List.map_cons, List.sum_cons, hcat]; omega) hlocks
  obtain ⟨f1, f2⟩ := vx_frame hsame
  rw [hhp] at f1 f2
  have hWs : s.WarmedH U.vm := State.WarmedH.trans hW0 hW
  have hcl : s.vm.findClass cls = some ce.cls := by
    have h9 := hO.cls
    rw [hvm] at h9
    exact h9
  have hall : s.sameButNew ({ U with vm := s.vm } : State) locs mc ms := by
    subst hA
    obtain ⟨e1, e2⟩ := hsame
    rw [State.setFrames_setFrames] at e1
    have h2 : (T.setVm s.vm).sameButNew ({ U with vm := s.vm } : State) [] (0 + 1) (0 + 6) := ⟨e1, e2⟩
    have h3 := X.same.trans h2
    rw [List.append_nil] at h3
    exact h3.mono hc hs
  refine ⟨U, ?_, .threw T.heap.size, hrun, hend, Or.inr ⟨T.heap.size, rfl, cls, ce, locs, hx U hWs.alike f1 (fun q hq => f2 q hq (fun z hz => nomatch hz)), hce, hO.vm, hcl, hWs, hall, hf⟩⟩
  refine st1 _ ?_
  show Steps p.tables e below (T1.setTop { method := m, pc := pc + 3, locals := ls, stack := .ref T.heap.size :: rest, locked := none }) _
  jvm_step X₁.here [X₁.here.top, hexec, d3', Value.category]
  exact X₁.ldcString hexec (own := own) (text := text) (index := is) (a := sa) hown' hstr'.1 hstr'.2
    (g := { method := m, pc := pc + 4, locals := ls, stack := .ref T.heap.size :: .ref T.heap.size :: rest, locked := none }) rfl d4' _ hsteps
/-- 'throw new E("text")', the text by a wide index -/
theorem vx_throwSW {cc : ByteArray} {pc : Nat} (hexec : p.tables.exec = Jvm.exec) (hb : c.code = cc) (hl : l.stackTraces = false) {own cls text : String} {names : List String} {ik is ic mc ms sa : Nat} {A : Nat → Prop}
    (hown : s.vm.findClass own = some m.cls) (hcls : Bundle.fit cls = true) (hnames : ∀ n ∈ names, Bundle.fit n = true)
    (hk : (Cond.classLink own ik cls).before args s = true) (hini : (Cond.initialized cls).before args s = true) (hstr : vk_R own is text sa s) (hat : ∀ w ∈ vx_atS own ic cls names, w.before args s = true)
    (hgood : ∀ w ∈ Cond.classLink own ik cls :: Cond.initialized cls :: vx_atS own ic cls names, vx_ot w = true)
    (hU : vx_Zq Bundle.tN "UNASSIGNED_STACK" Bundle.steD A s s.heap) (hN : vx_Zq Bundle.tN "SUPPRESSED_SENTINEL" Bundle.listD A s s.heap) (hS : va_S A s.heap H locs) (hsize : ls.size = c.maxLocals)
    (d0 : decode cc pc = .ok (.new ik, 3)) (d3 : decode cc (pc + 3) = .ok (.dup, 1)) (d4 : decode cc (pc + 4) = .ok (.ldc_w is, 3)) (d7 : decode cc (pc + 7) = .ok (.invokespecial ic, 3)) (d10 : decode cc (pc + 10) = .ok (.athrow, 1))
    (hout : ∀ x ∈ c.exceptionTable.toList, covers x (pc + 10) = false)
    (hRframes : names.length + 3 < R.frames) (hRlocals : (rest.map fun v => v.category).sum + (13 * (names.length + 1) + 43) ≤ R.locals) (hRcells : cells + 1 ≤ R.cells) (hRslots : slots + 6 ≤ R.slots) (hlocks : meth.locks = false)
    (hx : ∀ t : State, s.vm.Alike t.vm → H.size ≤ t.heap.size → (∀ q : Nat, q < H.size → t.heap[q]? = H[q]?) → XC cls s t)
    (hf : ∀ z ∈ locs, free z.base) (hc : cells + 1 ≤ mc) (hs : slots + 6 ≤ ms) :
    W p l e R s m args below meth c H locs cells slots (vx_MQ below Qc XC args s mc ms free) (F0 m pc ls rest) := by
  intro T hT X
  have htr : e.platform.stackTraces = false := (show e.platform.stackTraces = l.stackTraces by rw [X.admits.platform]).trans hl
  have Y := vx_rebase X (R' := { frames := R.frames, locals := R.locals, cells := 1, slots := 6 }) (Nat.le_refl _) (Nat.le_refl _) hRcells hRslots
  obtain ⟨s', hA⟩ : ∃ z, z = (T.setVm s.vm).setFrames (.invoking m args :: below) := ⟨_, rfl⟩
  rw [← hA] at Y
  have hvm : s'.vm = s.vm := by rw [hA]; rfl
  have hhp : s'.heap = H := by rw [hA]; exact hT
  have hW0 : s.WarmedH s'.vm := by rw [hvm]; exact State.WarmedH.refl s
  have hat' : ∀ w ∈ vx_atS own ic cls names, w.before args s' = true := fun w hw => vx_ot_at hW0 hvm.symm (hgood w (List.mem_cons_of_mem _ (List.mem_cons_of_mem _ hw))) (hat w hw)
  have hk' : (Cond.classLink own ik cls).before args s' = true := vx_ot_at hW0 hvm.symm (hgood _ List.mem_cons_self) hk
  have hini' : (Cond.initialized cls).before args s' = true := vx_ot_at hW0 hvm.symm (hgood _ (List.mem_cons_of_mem _ List.mem_cons_self)) hini
  have hU' : vx_Zq Bundle.tN "UNASSIGNED_STACK" Bundle.steD A s' s'.heap := by rw [hhp]; exact vx_Zq.moved hW0.alike (hU.kept hS.2.1)
  have hN' : vx_Zq Bundle.tN "SUPPRESSED_SENTINEL" Bundle.listD A s' s'.heap := by rw [hhp]; exact vx_Zq.moved hW0.alike (hN.kept hS.2.1)
  have h : ∀ w ∈ Bundle.ownAtoms own ic cls names, w.before args s' = true := vx_own hat' (vx_isRefq hU'.1) (vx_isRefq hN'.1) hU'.2.word hN'.2.word
  have hown' : s'.vm.findClass own = some m.cls := by rw [hvm]; exact hown
  have hins : (Cond.instantiable cls 6).before args s' = true := h _ (by simp [Bundle.ownAtoms])
  obtain ⟨vm₁, cX, kX, hfX, hkX, -, -, X₁, st1⟩ := Y.newCold hexec (own := own) (C := cls) (index := ik) (n := 6) hown' hk' hins hini'
    (g := F0 m pc ls rest) rfl (by rw [hb]; exact d0) (Nat.le_refl _) (Nat.le_refl _)
  generalize hT1 : (T.setVm vm₁).pushCell { cls := cX, slots := kX.instanceTypes.map defaultValue, vm := .none } = T1 at X₁ st1
  have hcat : (Value.ref T.heap.size).category = 1 := rfl
  have hcellA : T1.heap[T.heap.size]? = some (freshCell cX kX) := by rw [← hT1]; exact State.heap_pushCell_size _ _
  have d3' : decode c.code (pc + 3) = .ok (.dup, 1) := by rw [hb]; exact d3
  have d4' : decode c.code (pc + 4) = .ok (.ldc_w is, 3) := by rw [hb]; exact d4
  have hstr' : vk_R own is text sa s' := vk_R.warm hW0 hstr
  obtain ⟨U, hsteps, hrun, hend, hW, hsame, ce, hce, hO⟩ := X₁.ctorThrowS hexec htr (own := own) (cls := cls) (names := names) (ic := ic) hown' hcls hnames h (fun x hx => nomatch hx) hfX hkX hcellA (by rw [hhp, hT]; exact Nat.le_refl _) (msg := .ref sa) rfl
    (g := { method := m, pc := pc + 7, locals := ls, stack := .ref sa :: .ref T.heap.size :: .ref T.heap.size :: rest, locked := none }) rfl hsize rfl rfl (rest := rest) rfl
    (by rw [hb]; exact d7) (by rw [hb]; exact d10) hout hRframes (by simp only [List.map_cons, List.sum_cons, hcat]; omega) hlocks
  obtain ⟨f1, f2⟩ := vx_frame hsame
  rw [hhp] at f1 f2
  have hWs : s.WarmedH U.vm := State.WarmedH.trans hW0 hW
  have hcl : s.vm.findClass cls = some ce.cls := by
    have h9 := hO.cls
    rw [hvm] at h9
    exact h9
  have hall : s.sameButNew ({ U with vm := s.vm } : State) locs mc ms := by
    subst hA
    obtain ⟨e1, e2⟩ := hsame
    rw [State.setFrames_setFrames] at e1
    have h2 : (T.setVm s.vm).sameButNew ({ U with vm := s.vm } : State) [] (0 + 1) (0 + 6) := ⟨e1, e2⟩
    have h3 := X.same.trans h2
    rw [List.append_nil] at h3
    exact h3.mono hc hs
  refine ⟨U, ?_, .threw T.heap.size, hrun, hend, Or.inr ⟨T.heap.size, rfl, cls, ce, locs, hx U hWs.alike f1 (fun q hq => f2 q hq (fun z hz => nomatch hz)), hce, hO.vm, hcl, hWs, hall, hf⟩⟩
  refine st1 _ ?_
  show Steps p.tables e below (T1.setTop { method := m, pc := pc + 3, locals := ls, stack := .ref T.heap.size :: rest, locked := none }) _
  jvm_step X₁.here [X₁.here.top, hexec, d3', Value.category]
  exact X₁.ldcStringW hexec (own := own) (text := text) (index := is) (a := sa) hown' hstr'.1 hstr'.2
    (g := { method := m, pc := pc + 4, locals := ls, stack := .ref T.heap.size :: .ref T.heap.size :: rest, locked := none }) rfl d4' _ hsteps
end Ends
section Bodies
variable {l : Launch}
theorem vx_ofW {y : MethodName} {ws ws' : List Cond} {rm : Room} {Pc : Array Value → State → Prop} {Qc : Array Value → State → Outcome → State → Prop} {XC : String → State → State → Prop} {mc ms : Nat} {free : Addr → Prop} {cc : ByteArray} {maxL : Nat} {ret : Option FieldType}
    (hy : plainName y.cls = true) (hw : ws = Cond.code y cc maxL ret :: ws')
    (body : ∀ p e s m args below meth c s₁, BodyLoose p l y (headSpec ws rm) cc maxL ret e s m args below meth c s₁ → c.maxLocals = maxL → (∀ x ∈ c.exceptionTable.toList, False) → Pc args s →
      W p l e (headSpec ws rm).room s m args below meth c s.heap [] 0 0 (vx_MQ below Qc XC args s mc ms free) (entryFrame m args maxL)) : vx_Met l y ws rm Pc Qc XC mc ms free := by
  refine MetFree.of_bodyS (code := cc) (maxLocals := maxL) (ret := ret) hy ?_ ?_
  · intro args s m h hn
    obtain ⟨meth, c, h1, h2, h3, h4, h5, h6, -, -⟩ := Cond.code_spec hn (atoms_spec (ws := ws) h _ (by rw [hw]; exact List.mem_cons_self))
    exact ⟨meth, c, h1, h2, h3, h4, h5, h6⟩
  · intro p e s m args below meth c s₁ B hml hP _
    have hh0 : s₁.heap = s.heap := by rw [B.state]; rfl
    have ht : ∀ x ∈ c.exceptionTable.toList, False := by
      obtain ⟨meth9, c9, h1, h2, -, -, -, -, h7, -⟩ := Cond.code_spec B.named (atoms_spec (ws := ws) B.pre _ (by rw [hw]; exact List.mem_cons_self))
      cases Option.some.inj (h1.symm.trans B.method)
      cases Option.some.inj (h2.symm.trans (Stand.of_body B).code)
      intro x hx
      rw [Array.isEmpty_iff.mp h7] at hx
      cases hx
    obtain ⟨t, a1, o, b1, b2, b3⟩ := body p e s m args below meth c s₁ B hml ht hP s₁ hh0 (Stand.of_body B)
    exact ⟨t, o, a1, b1, b2, b3⟩
/-- the table of a body with handlers -/
theorem vx_table {p : Program} {x y : MethodName} {S : Spec} {cc bytes : ByteArray} {maxL maxL' : Nat} {ret ret' : Option FieldType} {e : Env} {s s₁ : State} {m : MethodId} {args : Array Value} {below : List Frame} {meth : Method} {c : Code} {hh : List (Nat × Nat × Nat × Nat)}
    (B : BodyLoose p l y S cc maxL ret e s m args below meth c s₁) (h : (Cond.codeWith y bytes maxL' ret' hh).before args s = true) : c.exceptionTable.toList = tableOf hh := by
  obtain ⟨m9, meth9, c9, hn9, h1, h2, -, -, h6, -⟩ := Cond.codeWith_spec h
  cases Option.some.inj (hn9.symm.trans B.named)
  cases Option.some.inj (h1.symm.trans B.method)
  cases Option.some.inj (h2.symm.trans (Stand.of_body B).code)
  rw [← h6, table_eq]
end Bodies
end VXA
/-! ===== END ===== -/
/-! ===== BEGIN a static call of a method with an exception table ===== -/
section VXS
variable {p : Program} {l : Launch} {e : Env} {R : Room} {s : State} {m : MethodId} {args : Array Value} {below : List Frame} {meth : Method} {c : Code} {T : State} {H : Heap} {locs : List Loc} {cells slots : Nat}
abbrev vx_CSW (R : Room) (s : State) (args : Array Value) (own : String) (index : Nat) (y : MethodName) (bytes : ByteArray) (maxL : Nat) (ret : Option FieldType) (hh : List (Nat × Nat × Nat × Nat)) (ws : List Cond) (rm : Room) (mc ms n : Nat) : Prop :=
  (rm.cells = mc ∧ rm.slots = ms ∧ rm.frames + 1 ≤ R.frames ∧ 8 + (maxL + 11) + rm.locals ≤ R.locals ∧ (∀ w ∈ ws, ∀ (a' : Array Value) (U : State), s.WarmedH U.vm → w.before a' U = true) ∧ Cond.codeWith y bytes maxL ret hh ∈ ws) ∧
  (Cond.codeWith y bytes maxL ret hh).before args s = true ∧ (Cond.initialized y.cls).before args s = true ∧ (y.cls ≠ "java/lang/invoke/MethodHandle" ∧ y.cls ≠ "java/lang/invoke/VarHandle") ∧
  (∀ sig, parseMethodDescriptor y.desc = some sig → n = sig.parameters.length) ∧ (Cond.methodLink own index y).before args s = true ∧ (Cond.static y).before args s = true
theorem vx_cwSW {own : String} {index maxL mc ms : Nat} {y : MethodName} {bytes : ByteArray} {ret : Option FieldType} {hh : List (Nat × Nat × Nat × Nat)} {Ts ws ws' : List Cond} {rm : Room} (n : Nat) (ht : ∀ w ∈ Ts, w.before args s = true) (hT : GoodIn Ts (va_wsS own index y ws)) (hw : ws = Cond.codeWith y bytes maxL ret hh :: ws') (hrc : rm.cells = mc) (hrs : rm.slots = ms)
    (hd : y.cls ≠ "java/lang/invoke/MethodHandle" ∧ y.cls ≠ "java/lang/invoke/VarHandle" ∧ (parseMethodDescriptor y.desc).map (fun d => d.parameters.length) = some n) (hR : rm.frames + 1 ≤ R.frames ∧ 8 + (maxL + 11) + rm.locals ≤ R.locals) :
    vx_CSW R s args own index y bytes maxL ret hh ws rm mc ms n := by
  have ok : ∀ w ∈ va_wsS own index y ws, w.before args s = true := fun w h => ht w (hT w h).1
  have hG : GoodIn Ts ws := fun w h => hT w (by unfold va_wsS; exact List.mem_append_right _ h)
  have hc : Cond.codeWith y bytes maxL ret hh ∈ ws := by rw [hw]; exact List.mem_cons_self
  refine ⟨⟨hrc, hrs, hR.1, hR.2, pay_in ht hG, hc⟩, ht _ (hG _ hc).1, ok _ (by simp [va_wsS]), ⟨hd.1, hd.2.1⟩, fun sig h => ?_, ok _ (by simp [va_wsS]), ok _ (by simp [va_wsS])⟩
  have h2 := hd.2.2
  rw [h] at h2
  exact (Option.some.inj h2).symm
theorem vx_callSW (X : Stand p l e R s m args below meth c T locs cells slots) (hexec : p.tables.exec = Jvm.exec) {own : String} {index : Nat} {y : MethodName} {bytes : ByteArray} {maxL : Nat} {ret : Option FieldType} {hh : List (Nat × Nat × Nat × Nat)}
    (hown : s.vm.findClass own = some m.cls) (hlink : (Cond.methodLink own index y).before args s = true) (hstat : (Cond.static y).before args s = true) (hinit : (Cond.initialized y.cls).before args s = true)
    (hcode : (Cond.codeWith y bytes maxL ret hh).before args s = true) (hy : y.cls ≠ "java/lang/invoke/MethodHandle" ∧ y.cls ≠ "java/lang/invoke/VarHandle")
    {W9 : Nat} {Pre : Pt → Array Value → Prop} {Post : Pt → Array Value → Option Value → Pt → Prop} (hK : Back l R p e below s args y 3 W9 Pre Post)
    {g : JFrame} (hg : g.method = m) (hsize : g.locals.size = c.maxLocals) {argsL rest : List Value} (hlen : ∀ sig, parseMethodDescriptor y.desc = some sig → argsL.length = sig.parameters.length)
    (hstack : g.stack = argsL.reverse ++ rest) (hW : 2 * g.monitorRoom + (rest.map fun v => v.category).sum ≤ W9) (hdg : decode c.code g.pc = .ok (.invokestatic index, 3))
    (hpre : ∀ vm₁, s.WarmedH vm₁ → Pre ⟨T.setVm vm₁, locs, cells, slots⟩ argsL.toArray) :
    ∃ (v : Option Value) (vm₁ : Vm) (B : Pt), s.WarmedH vm₁ ∧ Stand p l e R s m args below meth c B.U B.locs B.cells B.slots ∧ Post ⟨T.setVm vm₁, locs, cells, slots⟩ argsL.toArray v B ∧
      ∀ target, Steps p.tables e below (B.U.setTop { g with pc := g.pc + 3, stack := v.toList ++ rest }) target → Steps p.tables e below (T.setTop g) target := by
  obtain ⟨mk, methM, cM, hnamed, hmethM, -, -, -, -, -, -, hsigM⟩ := Cond.codeWith_spec hcode
  have hstatic : methM.isStatic = true := Cond.static_spec hnamed hmethM hstat
  obtain ⟨kP, hkP, -⟩ := className_of_methodNamed hnamed
  have hinitP : kP.init = .initialized := Cond.initialized_spec (findClass_of_methodNamed hnamed) hkP hinit
  obtain ⟨vm₁, X₁, hstep₁⟩ := X.invokestatic hexec hown hlink hnamed hmethM hstatic hkP hinitP hy (g := g) hg (argsL := argsL) (rest := rest) (hlen _ hsigM) hstack hdg
  obtain ⟨v, B, X', hpost, hsteps⟩ := hK m meth c ⟨T.setVm vm₁, locs, cells, slots⟩ { g with stack := rest } (.invokestatic index) mk argsL.toArray X₁ hg hsize hdg hW (X₁.named hnamed) (hpre vm₁ X₁.warmed)
  exact ⟨v, vm₁, B, X₁.warmed, X', hpost, fun target h => hstep₁ _ fun acts => by rw [doInvoke_state]; exact hsteps.trans h⟩
theorem vx_runSW {y : MethodName} {bytes cc : ByteArray} {maxL nL mc ms n index : Nat} {ret : Option FieldType} {hh : List (Nat × Nat × Nat × Nat)} {ws : List Cond} {rm : Room} {Pc : Array Value → State → Prop} {Qc : Array Value → State → Outcome → State → Prop} {free : Addr → Prop} {Ts : List Cond} {own : String} {As rest : List Value} {g : JFrame}
    (S : CallFix p m c cc nL s args Ts own) (hM : Met l y ws rm Pc Qc mc ms free) (cw : vx_CSW R s args own index y bytes maxL ret hh ws rm mc ms n) (hp : PreS s H Pc As)
    (hg : g.method = m) (hn : As.length = n) (hsize : g.locals.size = nL) (hstack : g.stack = As.reverse ++ rest) (hW : 2 * g.monitorRoom + (rest.map fun v => v.category).sum ≤ 8) (hdg : decode cc g.pc = .ok (.invokestatic index, 3)) (hf : cells + mc ≤ R.cells ∧ slots + ms ≤ R.slots) :
    va_Run p l e R s m args below meth c H locs cells slots mc ms g rest (Qc As.toArray) (free) := by
  obtain ⟨⟨hrc, hrs, hfr, hlo, hws, hcw⟩, hcode, hini, hy, hlen, hl, hstt⟩ := cw
  have hK : Back l R p e below s args y 3 8 (PreOf R mc ms Pc) (PostOf Qc mc ms free) := va_backW (hh := hh) (bytes := bytes) (maxL := maxL) (ret := ret) hM hp.1 hrc hrs hfr hlo hws hcw (fun a' U hW => word_at hW (Or.inl (by first | rfl | simp [Cond.onTables, Cond.keeps, Cond.steady])) hini)
  obtain ⟨hx, hb, hml, ho, -⟩ := S
  intro T hT X
  obtain ⟨v, vm₁, ⟨U', l2, c2, s2⟩, hW₁, X', ⟨g', mk, t, L, e1, e2, hq, h1, hL, h2, h3⟩, st⟩ := vx_callSW X hx (hh := hh) (bytes := bytes) (maxL := maxL) (ret := ret) ho hl hstt hini hcode hy hK hg (hsize.trans hml.symm) (argsL := As) (rest := rest) (fun sig h => hn.trans (hlen sig h)) hstack hW (by rw [hb]; exact hdg)
    (fun vm₁ hW₁ => ⟨hf.1, hf.2, hp.2 (T.setVm vm₁) hT hW₁⟩)
  dsimp only [Pt.U, Pt.locs, Pt.cells, Pt.slots] at X' e1 e2 h1 h2 h3 st
  subst h1; subst h2; subst h3
  exact ⟨v, (T.setVm vm₁).calling g' mk As.toArray, t, U', L, hT, X', hL, e1, e2, hq, st⟩
/-- not caught here, past rows that name other classes: it goes on to the caller -/
theorem vx_outP {p : Program} {l : Launch} {e : Env} {R : Room} {s : State} {m : MethodId} {args : Array Value} {below : List Frame} {meth : Method} {c : Code} {H : Heap} {locs : List Loc} {cells slots : Nat} {free : Addr → Prop} {ls : Array Slot} {rest : List Value} {Qc : Array Value → State → Outcome → State → Prop} {XC : String → State → State → Prop}
    {pc : Nat} {own E : String} {ce : Cell} {q : Addr} {mc ms : Nat} (hown : s.vm.findClass own = some m.cls) (hlocks : meth.locks = false)
    (hpass : ∀ z ∈ c.exceptionTable.toList, covers z pc = false ∨ (z.catchType ≠ 0 ∧ ∃ nm : String, (Cond.classLink own z.catchType nm).before args s = true ∧ va_Nc E nm s)) (hcell : H[q]? = some ce) (hv : ce.vm = .none) (hcl : s.vm.findClass E = some ce.cls)
    (hx : ∀ t : State, t.heap = H → s.vm.Alike t.vm → XC E s t) (hf : ∀ z ∈ locs, free z.base) (hc : cells ≤ mc) (hs : slots ≤ ms) :
    vx_W p l e R s m args below meth c H locs cells slots (vx_MQ below Qc XC args s mc ms free) (F0 m pc ls rest) q := by
  intro T hT X
  have hpl : e.platform.magicAccessors = ({} : Platform).magicAccessors := by rw [X.admits.platform]
  obtain ⟨vm', hW', X', st⟩ := X.outThrough hlocks q (g := F0 m pc ls rest) rfl rfl rfl (cell := ce) (by rw [hT]; exact hcell) (by rw [hv]; rfl)
    (by obtain ⟨k9, h9, -⟩ := Vm.findClass_spec hcl; exact ⟨k9, h9⟩) (fun z hz => by
      rcases hpass z hz with h | ⟨hz0, nm, hl1, hn1⟩
      · exact Or.inl h
      · obtain ⟨c6, hc6, hcl6⟩ := Cond.classLink_spec hown hl1 e.platform hpl
        obtain ⟨a8, b8, h1, h2, h3⟩ := hn1
        cases Option.some.inj (h1.symm.trans hcl)
        cases Option.some.inj (h2.symm.trans hc6)
        exact Or.inr ⟨hz0, _, hcl6, h3⟩)
  obtain ⟨g₀, hfr⟩ := X'.frames_eq
  have hcell9 : ((T.setVm vm').setFrames (.throwing q :: below)).heap[q]? = some ce := by
    show T.heap[q]? = some ce
    rw [hT]; exact hcell
  have hend : Ended ((T.setVm vm').setFrames (.throwing q :: below)) below (.threw q) := State.frames_setFrames _ (State.cur_lt_of_frames hfr)
  refine ⟨(T.setVm vm').setFrames (.throwing q :: below), ?_, .threw q, X'.here.running, hend, Or.inr ⟨q, rfl, E, ce, locs, hx _ hT (X'.ends _).1.alike, hcell9, hv, hcl, (X'.ends _).1, (X'.ends _).2.mono hc hs, hf⟩⟩
  rw [X.pushThrowing_eq]
  exact st
/-- a thing of a world lies in the heap -/
theorem vx_lt {D : va_G} {cl : List vw_C} {ws : va_W} {H1 : Heap} (h : va_P D cl ws H1) {k : Nat} {q : Nat × va_E} (hk : ws[k]? = some q) : q.1 < H1.size := (h k q hk).lt
end VXS
/-! ===== END ===== -/
/-! ===== BEGIN methods with a table of their own: called by a name, returning or throwing ===== -/
section VXH
/-! vx_backW, vx_callVX, vx_callSX, vx_callVW, vx_runVW, vx_runVX, vx_runSX, vx_ofWH follow the same proofs as their sisters above (Free/Laws.lean, Shelf42/LK1.lean); vx_outP calls Shelf42/NT130.lean (outThrough). -/
section
variable {l : Launch} {R : Room} {p : Program} {e : Env} {below : List Frame} {s : State} {sargs : Array Value} {y : MethodName} {len W9 : Nat}
theorem vx_backW {ws : List Cond} {rm : Room} {Pc : Array Value → State → Prop} {Qc : Array Value → State → Outcome → State → Prop} {XC : String → State → State → Prop} {mc ms : Nat} {free : Addr → Prop} {bytes : ByteArray} {maxL : Nat} {ret : Option FieldType} {hh : List (Nat × Nat × Nat × Nat)}
    (hM : vx_Met l y ws rm Pc Qc XC mc ms free) (hblind : FrameBlind Pc) (hrc : rm.cells = mc) (hrs : rm.slots = ms)
    (hframes : rm.frames + 1 ≤ R.frames) (hlocals : W9 + (maxL + 11) + rm.locals ≤ R.locals)
    (hws : ∀ w ∈ ws, ∀ a' U, s.WarmedH U.vm → w.before a' U = true) (hcode : Cond.codeWith y bytes maxL ret hh ∈ ws) (hinit : ∀ a' U, s.WarmedH U.vm → (Cond.initialized y.cls).before a' U = true) :
    vx_Back l R p e below s sargs y len W9 (PreOf R mc ms Pc) (PostOf Qc mc ms free) (vx_Post XC mc ms free) := by
  intro m meth c A g ig mk a X hg hsize hdg hW hn hp
  have h1 : (headSpec ws rm).pre.before a A.U = true := atoms_intro fun w hw => hws w hw _ _ X.warmed
  have h2 : (Cond.codeWith y bytes maxL ret hh).before a A.U = true := hws _ hcode _ _ X.warmed
  have h3 : (Cond.initialized y.cls).before a A.U = true := hinit _ _ X.warmed
  have h4 : A.cells + (headSpec ws rm).room.cells ≤ R.cells := by rw [show (headSpec ws rm).room.cells = mc from hrc]; exact hp.1
  have h5 : A.slots + (headSpec ws rm).room.slots ≤ R.slots := by rw [show (headSpec ws rm).room.slots = ms from hrs]; exact hp.2.1
  have hPc : Pc a (A.U.calling g mk a) := hblind _ _ _ _ hp.2.2
  obtain ⟨U, Ls, c0, s0⟩ := A
  dsimp only [Pt.U, Pt.locs, Pt.cells, Pt.slots] at h1 h2 h3 h4 h5 X hn hPc ⊢
  obtain ⟨m9, methY, cY, hn9, hmY, hcY, -, hlY, -⟩ := Cond.codeWith_spec h2
  cases Option.some.inj (hn9.symm.trans hn)
  obtain ⟨kY, hkY, -⟩ := className_of_methodNamed hn
  have hinitY : kY.init = .initialized := Cond.initialized_spec (findClass_of_methodNamed hn) hkY h3
  have h : At U g.method c below := by rw [hg]; exact X.here
  have hlocals9 : W9 + (maxL + 11) + (headSpec ws rm).room.locals ≤ R.locals := hlocals
  have happ : (headSpec ws rm).appliesLoose y e.platform (U.calling g mk a) = true :=
    Spec.appliesLoose_calling (g := g) h hdg hn hkY hinitY
      (X.room_calling (g := g) (R' := (headSpec ws rm).room) hsize hmY hcY hframes (by rw [hlY]; omega) h4 h5) h1
  obtain ⟨mid, hmid⟩ := h.above
  have hfr : (U.setTop g).frames = (.java g :: mid) ++ below := by rw [State.frames_setTop' g h.top, hmid]; rfl
  obtain ⟨o, s₂, hsteps, -, hend, hq⟩ := Steps.callFree hM p X.admits X.cas X.clock (acts := []) hfr happ hPc trivial
  have hq' : vx_Q Qc XC mc ms free a (U.calling g mk a) o s₂ := hq
  rw [State.frames_setTop' g h.top] at hend
  obtain ⟨g₀, hg0⟩ := Option.isSome_iff_exists.mp h.top
  obtain ⟨r, hr⟩ := State.topJava?_eq_some.mp hg0
  have hr' : (({ U with heap := s₂.heap, slotsUsed := s₂.slotsUsed } : State).setVm s₂.vm).frames = .java g₀ :: r := hr
  rcases hq' with ⟨hqc, L, hfe, hL⟩ | ⟨q, rfl, E, ce, L, hx, hce, hcv, hcl, hW₂, hsm, hL⟩
  · obtain ⟨⟨v, rfl⟩, hW₂, e2, q2, q3, q4, q5, q6⟩ := id hfe
    have e3 : s₂ = ({ (U.calling g mk a).setFrames s₂.frames with heap := s₂.heap, slotsUsed := s₂.slotsUsed } : State).setVm s₂.vm := by
      have : s₂ = ({ s₂ with vm := (U.calling g mk a).vm } : State).setVm s₂.vm := rfl
      rw [e2] at this
      exact this
    obtain ⟨c₂, i₂, len₂, hc₂, hd₂, hf₂⟩ := hend
    have hW' : U.WarmedH s₂.vm := hW₂
    have hcc : c₂ = c := by
      have h1 : s₂.code? g.method = U.code? g.method := by
        rw [State.code?_eq, State.code?_eq, hW'.alike.method?]
      exact Option.some.inj (hc₂.symm.trans (h1.trans h.code))
    subst hcc
    have hlen : len₂ = len := by rw [hdg] at hd₂; cases hd₂; rfl
    subst hlen
    have hs₂ : s₂ = (({ U with heap := s₂.heap, slotsUsed := s₂.slotsUsed } : State).setVm s₂.vm).setTop { g with pc := g.pc + len₂, stack := v.toList ++ g.stack } := by
      refine e3.trans ?_
      rw [hf₂, State.calling_eq h.top, State.setFrames_setFrames, State.setTop_of_frames _ hr', hr]
      rfl
    have hsame : U.sameButNew ({ U with heap := s₂.heap, slotsUsed := s₂.slotsUsed } : State) L mc ms := by
      refine ⟨?_, q2, q3, q4, q5, q6⟩
      obtain ⟨t, ht, -⟩ := State.frames_cons hr
      show ({ U with heap := s₂.heap, slotsUsed := s₂.slotsUsed } : State) = { U.setFrames U.frames with heap := s₂.heap, slotsUsed := s₂.slotsUsed }
      rw [State.setFrames_self ht]
    subst hg
    refine Or.inl ⟨v, ⟨(({ U with heap := s₂.heap, slotsUsed := s₂.slotsUsed } : State).setVm s₂.vm), Ls ++ L, c0 + mc, s0 + ms⟩,
      ⟨X.admits, X.cas, X.clock, X.frames, X.room, X.hears, X.method, X.code, (X.here.setHeapUsed s₂.heap s₂.slotsUsed).setVm hW'.alike, X.tail, State.WarmedH.trans X.warmed hW', X.limits, X.bytes, X.same.trans (hsame.setVm s.vm)⟩,
      ⟨g, mk, s₂, L, rfl, rfl, hqc, rfl, hL, rfl, rfl⟩, ?_⟩
    show Steps p.tables e below _ ((({ U with heap := s₂.heap, slotsUsed := s₂.slotsUsed } : State).setVm s₂.vm).setTop { g with pc := g.pc + len₂, stack := v.toList ++ g.stack })
    rw [← hs₂]
    exact hsteps
  · obtain ⟨e2, q2, q3, q4, q5, q6⟩ := id hsm
    have e3 : s₂ = ({ (U.calling g mk a).setFrames s₂.frames with heap := s₂.heap, slotsUsed := s₂.slotsUsed } : State).setVm s₂.vm := by
      have : s₂ = ({ s₂ with vm := (U.calling g mk a).vm } : State).setVm s₂.vm := rfl
      rw [e2] at this
      exact this
    have hf₂ : s₂.frames = .throwing q :: .java g :: U.frames.tail := hend
    have hW' : U.WarmedH s₂.vm := hW₂
    have hs₂ : s₂ = ((({ U with heap := s₂.heap, slotsUsed := s₂.slotsUsed } : State).setVm s₂.vm).setTop g).pushFrame (.throwing q) := by
      refine e3.trans ?_
      rw [hf₂, State.calling_eq h.top, State.setFrames_setFrames, State.pushFrame, State.frames_setTop _ hr', State.setTop_of_frames _ hr', State.setFrames_setFrames, hr]
      rfl
    have hsame : U.sameButNew ({ U with heap := s₂.heap, slotsUsed := s₂.slotsUsed } : State) L mc ms := by
      refine ⟨?_, q2, q3, q4, q5, q6⟩
      obtain ⟨t, ht, -⟩ := State.frames_cons hr
      show ({ U with heap := s₂.heap, slotsUsed := s₂.slotsUsed } : State) = { U.setFrames U.frames with heap := s₂.heap, slotsUsed := s₂.slotsUsed }
      rw [State.setFrames_self ht]
    subst hg
    refine Or.inr ⟨q, ⟨(({ U with heap := s₂.heap, slotsUsed := s₂.slotsUsed } : State).setVm s₂.vm), Ls ++ L, c0 + mc, s0 + ms⟩,
      ⟨X.admits, X.cas, X.clock, X.frames, X.room, X.hears, X.method, X.code, (X.here.setHeapUsed s₂.heap s₂.slotsUsed).setVm hW'.alike, X.tail, State.WarmedH.trans X.warmed hW', X.limits, X.bytes, X.same.trans (hsame.setVm s.vm)⟩,
      ⟨g, mk, s₂, L, E, ce, rfl, rfl, hx, hce, hcv, hcl, rfl, hL, rfl, rfl⟩, ?_⟩
    show Steps p.tables e below _ (((({ U with heap := s₂.heap, slotsUsed := s₂.slotsUsed } : State).setVm s₂.vm).setTop g).pushFrame (.throwing q))
    rw [← hs₂]
    exact hsteps
end
variable {p : Program} {l : Launch} {e : Env} {R : Room} {s : State} {m : MethodId} {args : Array Value} {below : List Frame} {meth : Method} {c : Code} {T : State} {H : Heap} {locs : List Loc} {cells slots : Nat}
theorem vx_callVX (X : Stand p l e R s m args below meth c T locs cells slots) (hexec : p.tables.exec = Jvm.exec) {own C : String} {index : Nat} {y : MethodName} {bytes : ByteArray} {maxL : Nat} {ret : Option FieldType} {hh : List (Nat × Nat × Nat × Nat)}
    (hown : s.vm.findClass own = some m.cls) (hlink : (Cond.methodLink own index y).before args s = true) (hinst : (Cond.instanceMethod y).before args s = true) (hsel : (Cond.selects C y y).before args s = true)
    (hcode : (Cond.codeWith y bytes maxL ret hh).before args s = true) (hy : y.cls ≠ "java/lang/invoke/MethodHandle" ∧ y.cls ≠ "java/lang/invoke/VarHandle")
    {W9 : Nat} {Pre : Pt → Array Value → Prop} {Post : Pt → Array Value → Option Value → Pt → Prop} {PostX : Pt → Array Value → Addr → Pt → Prop} (hK : vx_Back l R p e below s args y 3 W9 Pre Post PostX)
    {b : Addr} {cellB : Cell} (hcell : T.heap[b]? = some cellB) (hobj : cellB.vm.isStatics = false) (hcls : s.vm.findClass C = some cellB.cls)
    {g : JFrame} (hg : g.method = m) (hsize : g.locals.size = c.maxLocals) {argsL rest : List Value} (hlen : ∀ sig, parseMethodDescriptor y.desc = some sig → argsL.length = sig.parameters.length)
    (hstack : g.stack = argsL.reverse ++ .ref b :: rest) (hW : 2 * g.monitorRoom + (rest.map fun v => v.category).sum ≤ W9) (hdg : decode c.code g.pc = .ok (.invokevirtual index, 3))
    (hpre : ∀ vm₁, s.WarmedH vm₁ → Pre ⟨T.setVm vm₁, locs, cells, slots⟩ (Value.ref b :: argsL).toArray) :
    (∃ (v : Option Value) (vm₁ : Vm) (B : Pt), s.WarmedH vm₁ ∧ Stand p l e R s m args below meth c B.U B.locs B.cells B.slots ∧ Post ⟨T.setVm vm₁, locs, cells, slots⟩ (Value.ref b :: argsL).toArray v B ∧
      ∀ target, Steps p.tables e below (B.U.setTop { g with pc := g.pc + 3, stack := v.toList ++ rest }) target → Steps p.tables e below (T.setTop g) target) ∨
    (∃ (q : Addr) (vm₁ : Vm) (B : Pt), s.WarmedH vm₁ ∧ Stand p l e R s m args below meth c B.U B.locs B.cells B.slots ∧ PostX ⟨T.setVm vm₁, locs, cells, slots⟩ (Value.ref b :: argsL).toArray q B ∧
      Steps p.tables e below (T.setTop g) ((B.U.setTop { g with stack := rest }).pushFrame (.throwing q))) := by
  obtain ⟨mk, methM, hnamed, hmethM, hstM, habM⟩ := Cond.instanceMethod_spec hinst
  obtain ⟨m8, methM', cM, hn8, hmethM', -, -, -, -, -, -, hsigM⟩ := Cond.codeWith_spec hcode
  cases Option.some.inj (hn8.symm.trans hnamed)
  cases hmethM.symm.trans hmethM'
  obtain ⟨c2, r2, m2, q1, q2, q3, q4, kP, hkP, hkPi⟩ := Cond.selects_spec hsel
  cases hcls.symm.trans q1
  cases (State.methodFound?_of_named hnamed hy).symm.trans q2
  cases hnamed.symm.trans q3
  have hselP : selectMethod e.platform s.vm cellB.cls mk = .method mk := by rw [Launch.admits_selectMethod X.admits]; exact q4
  obtain ⟨vm₁, X₁, hstep₁⟩ := X.invokevirtual hexec hown hlink hnamed hmethM hstM hkP hkPi hy (a := b) (cell := cellB) hcell
    (fun z h => by rw [h] at hobj; cases hobj) hselP hmethM habM hkP hkPi (g := g) hg (argsL := argsL) (rest := rest) (hlen _ hsigM) hstack hdg
  rcases hK m meth c ⟨T.setVm vm₁, locs, cells, slots⟩ { g with stack := rest } (.invokevirtual index) mk (Value.ref b :: argsL).toArray X₁ hg hsize hdg hW (X₁.named hnamed) (hpre vm₁ X₁.warmed) with ⟨v, B, X', hpost, hsteps⟩ | ⟨q, B, X', hpost, hsteps⟩
  · exact Or.inl ⟨v, vm₁, B, X₁.warmed, X', hpost, fun target h => hstep₁ _ fun acts => by rw [doInvoke_state]; exact hsteps.trans h⟩
  · exact Or.inr ⟨q, vm₁, B, X₁.warmed, X', hpost, hstep₁ _ fun acts => by rw [doInvoke_state]; exact hsteps⟩
theorem vx_callSX (X : Stand p l e R s m args below meth c T locs cells slots) (hexec : p.tables.exec = Jvm.exec) {own : String} {index : Nat} {y : MethodName} {bytes : ByteArray} {maxL : Nat} {ret : Option FieldType} {hh : List (Nat × Nat × Nat × Nat)}
    (hown : s.vm.findClass own = some m.cls) (hlink : (Cond.methodLink own index y).before args s = true) (hstat : (Cond.static y).before args s = true) (hinit : (Cond.initialized y.cls).before args s = true)
    (hcode : (Cond.codeWith y bytes maxL ret hh).before args s = true) (hy : y.cls ≠ "java/lang/invoke/MethodHandle" ∧ y.cls ≠ "java/lang/invoke/VarHandle")
    {W9 : Nat} {Pre : Pt → Array Value → Prop} {Post : Pt → Array Value → Option Value → Pt → Prop} {PostX : Pt → Array Value → Addr → Pt → Prop} (hK : vx_Back l R p e below s args y 3 W9 Pre Post PostX)
    {g : JFrame} (hg : g.method = m) (hsize : g.locals.size = c.maxLocals) {argsL rest : List Value} (hlen : ∀ sig, parseMethodDescriptor y.desc = some sig → argsL.length = sig.parameters.length)
    (hstack : g.stack = argsL.reverse ++ rest) (hW : 2 * g.monitorRoom + (rest.map fun v => v.category).sum ≤ W9) (hdg : decode c.code g.pc = .ok (.invokestatic index, 3))
    (hpre : ∀ vm₁, s.WarmedH vm₁ → Pre ⟨T.setVm vm₁, locs, cells, slots⟩ argsL.toArray) :
    (∃ (v : Option Value) (vm₁ : Vm) (B : Pt), s.WarmedH vm₁ ∧ Stand p l e R s m args below meth c B.U B.locs B.cells B.slots ∧ Post ⟨T.setVm vm₁, locs, cells, slots⟩ argsL.toArray v B ∧
      ∀ target, Steps p.tables e below (B.U.setTop { g with pc := g.pc + 3, stack := v.toList ++ rest }) target → Steps p.tables e below (T.setTop g) target) ∨
    (∃ (q : Addr) (vm₁ : Vm) (B : Pt), s.WarmedH vm₁ ∧ Stand p l e R s m args below meth c B.U B.locs B.cells B.slots ∧ PostX ⟨T.setVm vm₁, locs, cells, slots⟩ argsL.toArray q B ∧
      Steps p.tables e below (T.setTop g) ((B.U.setTop { g with stack := rest }).pushFrame (.throwing q))) := by
  obtain ⟨mk, methM, cM, hnamed, hmethM, -, -, -, -, -, -, hsigM⟩ := Cond.codeWith_spec hcode
  have hstatic : methM.isStatic = true := Cond.static_spec hnamed hmethM hstat
  obtain ⟨kP, hkP, -⟩ := className_of_methodNamed hnamed
  have hinitP : kP.init = .initialized := Cond.initialized_spec (findClass_of_methodNamed hnamed) hkP hinit
  obtain ⟨vm₁, X₁, hstep₁⟩ := X.invokestatic hexec hown hlink hnamed hmethM hstatic hkP hinitP hy (g := g) hg (argsL := argsL) (rest := rest) (hlen _ hsigM) hstack hdg
  rcases hK m meth c ⟨T.setVm vm₁, locs, cells, slots⟩ { g with stack := rest } (.invokestatic index) mk argsL.toArray X₁ hg hsize hdg hW (X₁.named hnamed) (hpre vm₁ X₁.warmed) with ⟨v, B, X', hpost, hsteps⟩ | ⟨q, B, X', hpost, hsteps⟩
  · exact Or.inl ⟨v, vm₁, B, X₁.warmed, X', hpost, fun target h => hstep₁ _ fun acts => by rw [doInvoke_state]; exact hsteps.trans h⟩
  · exact Or.inr ⟨q, vm₁, B, X₁.warmed, X', hpost, hstep₁ _ fun acts => by rw [doInvoke_state]; exact hsteps⟩
theorem vx_callVW (X : Stand p l e R s m args below meth c T locs cells slots) (hexec : p.tables.exec = Jvm.exec) {own C : String} {index : Nat} {y : MethodName} {bytes : ByteArray} {maxL : Nat} {ret : Option FieldType} {hh : List (Nat × Nat × Nat × Nat)}
    (hown : s.vm.findClass own = some m.cls) (hlink : (Cond.methodLink own index y).before args s = true) (hinst : (Cond.instanceMethod y).before args s = true) (hsel : (Cond.selects C y y).before args s = true)
    (hcode : (Cond.codeWith y bytes maxL ret hh).before args s = true) (hy : y.cls ≠ "java/lang/invoke/MethodHandle" ∧ y.cls ≠ "java/lang/invoke/VarHandle")
    {W9 : Nat} {Pre : Pt → Array Value → Prop} {Post : Pt → Array Value → Option Value → Pt → Prop} (hK : Back l R p e below s args y 3 W9 Pre Post)
    {b : Addr} {cellB : Cell} (hcell : T.heap[b]? = some cellB) (hobj : cellB.vm.isStatics = false) (hcls : s.vm.findClass C = some cellB.cls)
    {g : JFrame} (hg : g.method = m) (hsize : g.locals.size = c.maxLocals) {argsL rest : List Value} (hlen : ∀ sig, parseMethodDescriptor y.desc = some sig → argsL.length = sig.parameters.length)
    (hstack : g.stack = argsL.reverse ++ .ref b :: rest) (hW : 2 * g.monitorRoom + (rest.map fun v => v.category).sum ≤ W9) (hdg : decode c.code g.pc = .ok (.invokevirtual index, 3))
    (hpre : ∀ vm₁, s.WarmedH vm₁ → Pre ⟨T.setVm vm₁, locs, cells, slots⟩ (Value.ref b :: argsL).toArray) :
    ∃ (v : Option Value) (vm₁ : Vm) (B : Pt), s.WarmedH vm₁ ∧ Stand p l e R s m args below meth c B.U B.locs B.cells B.slots ∧ Post ⟨T.setVm vm₁, locs, cells, slots⟩ (Value.ref b :: argsL).toArray v B ∧
      ∀ target, Steps p.tables e below (B.U.setTop { g with pc := g.pc + 3, stack := v.toList ++ rest }) target → Steps p.tables e below (T.setTop g) target := by
  obtain ⟨mk, methM, hnamed, hmethM, hstM, habM⟩ := Cond.instanceMethod_spec hinst
  obtain ⟨m8, methM', cM, hn8, hmethM', -, -, -, -, -, -, hsigM⟩ := Cond.codeWith_spec hcode
  cases Option.some.inj (hn8.symm.trans hnamed)
  cases hmethM.symm.trans hmethM'
  obtain ⟨c2, r2, m2, q1, q2, q3, q4, kP, hkP, hkPi⟩ := Cond.selects_spec hsel
  cases hcls.symm.trans q1
  cases (State.methodFound?_of_named hnamed hy).symm.trans q2
  cases hnamed.symm.trans q3
  have hselP : selectMethod e.platform s.vm cellB.cls mk = .method mk := by rw [Launch.admits_selectMethod X.admits]; exact q4
  obtain ⟨vm₁, X₁, hstep₁⟩ := X.invokevirtual hexec hown hlink hnamed hmethM hstM hkP hkPi hy (a := b) (cell := cellB) hcell
    (fun z h => by rw [h] at hobj; cases hobj) hselP hmethM habM hkP hkPi (g := g) hg (argsL := argsL) (rest := rest) (hlen _ hsigM) hstack hdg
  obtain ⟨v, B, X', hpost, hsteps⟩ := hK m meth c ⟨T.setVm vm₁, locs, cells, slots⟩ { g with stack := rest } (.invokevirtual index) mk (Value.ref b :: argsL).toArray X₁ hg hsize hdg hW (X₁.named hnamed) (hpre vm₁ X₁.warmed)
  exact ⟨v, vm₁, B, X₁.warmed, X', hpost, fun target h => hstep₁ _ fun acts => by rw [doInvoke_state]; exact hsteps.trans h⟩
abbrev vx_CVW (R : Room) (s : State) (args : Array Value) (own C : String) (index : Nat) (y : MethodName) (bytes : ByteArray) (maxL : Nat) (ret : Option FieldType) (hh : List (Nat × Nat × Nat × Nat)) (ws : List Cond) (rm : Room) (mc ms n : Nat) : Prop :=
  (rm.cells = mc ∧ rm.slots = ms ∧ rm.frames + 1 ≤ R.frames ∧ 8 + (maxL + 11) + rm.locals ≤ R.locals ∧ (∀ w ∈ ws, ∀ (a' : Array Value) (U : State), s.WarmedH U.vm → w.before a' U = true) ∧ Cond.codeWith y bytes maxL ret hh ∈ ws) ∧
  (Cond.codeWith y bytes maxL ret hh).before args s = true ∧ (Cond.initialized y.cls).before args s = true ∧ (y.cls ≠ "java/lang/invoke/MethodHandle" ∧ y.cls ≠ "java/lang/invoke/VarHandle") ∧
  (∀ sig, parseMethodDescriptor y.desc = some sig → n = sig.parameters.length) ∧ (Cond.methodLink own index y).before args s = true ∧ (Cond.instanceMethod y).before args s = true ∧ (Cond.selects C y y).before args s = true
theorem vx_cwVW {own C : String} {index maxL mc ms : Nat} {y : MethodName} {bytes : ByteArray} {ret : Option FieldType} {hh : List (Nat × Nat × Nat × Nat)} {Ts ws ws' : List Cond} {rm : Room} (n : Nat) (ht : ∀ w ∈ Ts, w.before args s = true) (hT : GoodIn Ts (wsV own index C y ws)) (hw : ws = Cond.codeWith y bytes maxL ret hh :: ws') (hrc : rm.cells = mc) (hrs : rm.slots = ms)
    (hd : y.cls = C ∧ y.cls ≠ "java/lang/invoke/MethodHandle" ∧ y.cls ≠ "java/lang/invoke/VarHandle" ∧ (parseMethodDescriptor y.desc).map (fun d => d.parameters.length) = some n) (hR : rm.frames + 1 ≤ R.frames ∧ 8 + (maxL + 11) + rm.locals ≤ R.locals) :
    vx_CVW R s args own C index y bytes maxL ret hh ws rm mc ms n := by
  obtain ⟨hC, hd⟩ := hd
  subst hC
  have ok : ∀ w ∈ wsV own index y.cls y ws, w.before args s = true := fun w h => ht w (hT w h).1
  have hG : GoodIn Ts ws := fun w h => hT w (by unfold wsV; exact List.mem_append_right _ h)
  have hc : Cond.codeWith y bytes maxL ret hh ∈ ws := by rw [hw]; exact List.mem_cons_self
  refine ⟨⟨hrc, hrs, hR.1, hR.2, pay_in ht hG, hc⟩, ht _ (hG _ hc).1, ok _ (by simp [wsV]), ⟨hd.1, hd.2.1⟩, fun sig h => ?_, ok _ (by simp [wsV]), ok _ (by simp [wsV]), ok _ (by simp [wsV])⟩
  have h2 := hd.2.2
  rw [h] at h2
  exact (Option.some.inj h2).symm
theorem vx_runVW {y : MethodName} {bytes cc : ByteArray} {maxL nL mc ms n index : Nat} {ret : Option FieldType} {hh : List (Nat × Nat × Nat × Nat)} {ws : List Cond} {rm : Room} {Pc : Array Value → State → Prop} {Qc : Array Value → State → Outcome → State → Prop} {free : Addr → Prop} {Ts : List Cond} {own C : String} {b : Addr} {As rest : List Value} {g : JFrame}
    (S : CallFix p m c cc nL s args Ts own) (hM : Met l y ws rm Pc Qc mc ms free) (cw : vx_CVW R s args own C index y bytes maxL ret hh ws rm mc ms n) (hp : PreV s H C b Pc As)
    (hg : g.method = m) (hn : As.length = n) (hsize : g.locals.size = nL) (hstack : g.stack = As.reverse ++ .ref b :: rest) (hW : 2 * g.monitorRoom + (rest.map fun v => v.category).sum ≤ 8) (hdg : decode cc g.pc = .ok (.invokevirtual index, 3)) (hf : cells + mc ≤ R.cells ∧ slots + ms ≤ R.slots) :
    va_Run p l e R s m args below meth c H locs cells slots mc ms g rest (Qc (Value.ref b :: As).toArray) free := by
  obtain ⟨⟨hrc, hrs, hfr, hlo, hws, hcw⟩, hcode, hini, hy, hlen, hl, hin, hse⟩ := cw
  have hK : Back l R p e below s args y 3 8 (PreOf R mc ms Pc) (PostOf Qc mc ms free) := va_backW (hh := hh) (bytes := bytes) (maxL := maxL) (ret := ret) hM hp.1 hrc hrs hfr hlo hws hcw (fun a' U hW => word_at hW (Or.inl (by first | rfl | simp [Cond.onTables, Cond.keeps, Cond.steady])) hini)
  obtain ⟨hx, hb, hml, ho, -⟩ := S
  obtain ⟨-, ⟨cellB, hcB, hoB, hclB⟩, hPc⟩ := hp
  intro T hT X
  obtain ⟨v, vm₁, ⟨U', l2, c2, s2⟩, hW₁, X', ⟨g', mk, t, L, e1, e2, hq, h1, hL, h2, h3⟩, st⟩ := vx_callVW X hx (C := C) (hh := hh) (bytes := bytes) (maxL := maxL) (ret := ret) ho hl hin hse hcode hy hK (by rw [hT]; exact hcB) hoB hclB hg (hsize.trans hml.symm) (argsL := As) (rest := rest) (fun sig h => hn.trans (hlen sig h)) hstack hW (by rw [hb]; exact hdg)
    (fun vm₁ hW₁ => ⟨hf.1, hf.2, hPc (T.setVm vm₁) hT hW₁⟩)
  dsimp only [Pt.U, Pt.locs, Pt.cells, Pt.slots] at X' e1 e2 h1 h2 h3 st
  subst h1; subst h2; subst h3
  exact ⟨v, (T.setVm vm₁).calling g' mk (Value.ref b :: As).toArray, t, U', L, hT, X', hL, e1, e2, hq, st⟩
section
variable {y : MethodName} {bytes cc : ByteArray} {maxL nL mc ms n index : Nat} {ret : Option FieldType} {ws : List Cond} {rm : Room} {Pc : Array Value → State → Prop} {Qc : Array Value → State → Outcome → State → Prop} {XC : String → State → State → Prop} {free : Addr → Prop} {Ts : List Cond} {own C : String} {b : Addr} {As rest : List Value} {g : JFrame}
theorem vx_runVX {hh : List (Nat × Nat × Nat × Nat)} (S : CallFix p m c cc nL s args Ts own) (hM : vx_Met l y ws rm Pc Qc XC mc ms free) (cw : vx_CVW R s args own C index y bytes maxL ret hh ws rm mc ms n) (hp : PreV s H C b Pc As)
    (hg : g.method = m) (hn : As.length = n) (hsize : g.locals.size = nL) (hstack : g.stack = As.reverse ++ .ref b :: rest) (hW : 2 * g.monitorRoom + (rest.map fun v => v.category).sum ≤ 8) (hdg : decode cc g.pc = .ok (.invokevirtual index, 3)) (hf : cells + mc ≤ R.cells ∧ slots + ms ≤ R.slots) :
    vx_Run p l e R s m args below meth c H locs cells slots mc ms g rest (Qc (Value.ref b :: As).toArray) XC free := by
  obtain ⟨⟨hrc, hrs, hfr, hlo, hws, hcw⟩, hcode, hini, hy, hlen, hl, hin, hse⟩ := cw
  have hK : vx_Back l R p e below s args y 3 8 (PreOf R mc ms Pc) (PostOf Qc mc ms free) (vx_Post XC mc ms free) := vx_backW (hh := hh) (bytes := bytes) (maxL := maxL) (ret := ret) hM hp.1 hrc hrs hfr hlo hws hcw (fun a' U hW => word_at hW (Or.inl (by first | rfl | simp [Cond.onTables, Cond.keeps, Cond.steady])) hini)
  obtain ⟨hx, hb, hml, ho, -⟩ := S
  obtain ⟨-, ⟨cellB, hcB, hoB, hclB⟩, hPc⟩ := hp
  intro T hT X
  rcases vx_callVX X hx (C := C) (hh := hh) (bytes := bytes) (maxL := maxL) (ret := ret) ho hl hin hse hcode hy hK (by rw [hT]; exact hcB) hoB hclB hg (hsize.trans hml.symm) (argsL := As) (rest := rest) (fun sig h => hn.trans (hlen sig h)) hstack hW (by rw [hb]; exact hdg)
    (fun vm₁ hW₁ => ⟨hf.1, hf.2, hPc (T.setVm vm₁) hT hW₁⟩) with ⟨v, vm₁, ⟨U', l2, c2, s2⟩, hW₁, X', ⟨g', mk, t, L, e1, e2, hq, h1, hL, h2, h3⟩, st⟩ | ⟨q, vm₁, ⟨U', l2, c2, s2⟩, hW₁, X', ⟨g', mk, t, L, E, ce, e1, e2, hq, hce, hcv, hcl, h1, hL, h2, h3⟩, st⟩
  · dsimp only [Pt.U, Pt.locs, Pt.cells, Pt.slots] at X' e1 e2 h1 h2 h3 st
    subst h1; subst h2; subst h3
    exact Or.inl ⟨v, (T.setVm vm₁).calling g' mk (Value.ref b :: As).toArray, t, U', L, hT, X', hL, e1, e2, hq, st⟩
  · dsimp only [Pt.U, Pt.locs, Pt.cells, Pt.slots] at X' e1 e2 h1 h2 h3 st hcl
    subst h1; subst h2; subst h3
    exact Or.inr ⟨q, (T.setVm vm₁).calling g' mk (Value.ref b :: As).toArray, t, U', L, E, ce, hT, X', hL, e1, e2, hq, hce, hcv, vx_cls hW₁ hcl, st⟩
theorem vx_runSX {hh : List (Nat × Nat × Nat × Nat)} (S : CallFix p m c cc nL s args Ts own) (hM : vx_Met l y ws rm Pc Qc XC mc ms free) (cw : vx_CSW R s args own index y bytes maxL ret hh ws rm mc ms n) (hp : PreS s H Pc As)
    (hg : g.method = m) (hn : As.length = n) (hsize : g.locals.size = nL) (hstack : g.stack = As.reverse ++ rest) (hW : 2 * g.monitorRoom + (rest.map fun v => v.category).sum ≤ 8) (hdg : decode cc g.pc = .ok (.invokestatic index, 3)) (hf : cells + mc ≤ R.cells ∧ slots + ms ≤ R.slots) :
    vx_Run p l e R s m args below meth c H locs cells slots mc ms g rest (Qc As.toArray) XC free := by
  obtain ⟨⟨hrc, hrs, hfr, hlo, hws, hcw⟩, hcode, hini, hy, hlen, hl, hstt⟩ := cw
  have hK : vx_Back l R p e below s args y 3 8 (PreOf R mc ms Pc) (PostOf Qc mc ms free) (vx_Post XC mc ms free) := vx_backW (hh := hh) (bytes := bytes) (maxL := maxL) (ret := ret) hM hp.1 hrc hrs hfr hlo hws hcw (fun a' U hW => word_at hW (Or.inl (by first | rfl | simp [Cond.onTables, Cond.keeps, Cond.steady])) hini)
  obtain ⟨hx, hb, hml, ho, -⟩ := S
  intro T hT X
  rcases vx_callSX X hx (hh := hh) (bytes := bytes) (maxL := maxL) (ret := ret) ho hl hstt hini hcode hy hK hg (hsize.trans hml.symm) (argsL := As) (rest := rest) (fun sig h => hn.trans (hlen sig h)) hstack hW (by rw [hb]; exact hdg)
    (fun vm₁ hW₁ => ⟨hf.1, hf.2, hp.2 (T.setVm vm₁) hT hW₁⟩) with ⟨v, vm₁, ⟨U', l2, c2, s2⟩, hW₁, X', ⟨g', mk, t, L, e1, e2, hq, h1, hL, h2, h3⟩, st⟩ | ⟨q, vm₁, ⟨U', l2, c2, s2⟩, hW₁, X', ⟨g', mk, t, L, E, ce, e1, e2, hq, hce, hcv, hcl, h1, hL, h2, h3⟩, st⟩
  · dsimp only [Pt.U, Pt.locs, Pt.cells, Pt.slots] at X' e1 e2 h1 h2 h3 st
    subst h1; subst h2; subst h3
    exact Or.inl ⟨v, (T.setVm vm₁).calling g' mk As.toArray, t, U', L, hT, X', hL, e1, e2, hq, st⟩
  · dsimp only [Pt.U, Pt.locs, Pt.cells, Pt.slots] at X' e1 e2 h1 h2 h3 st hcl
    subst h1; subst h2; subst h3
    exact Or.inr ⟨q, (T.setVm vm₁).calling g' mk As.toArray, t, U', L, E, ce, hT, X', hL, e1, e2, hq, hce, hcv, vx_cls hW₁ hcl, st⟩
end
end VXH
theorem vx_ofWH {l : Launch} {y : MethodName} {ws ws' : List Cond} {rm : Room} {Pc : Array Value → State → Prop} {Qc : Array Value → State → Outcome → State → Prop} {XC : String → State → State → Prop} {mc ms : Nat} {free : Addr → Prop} {cc : ByteArray} {maxL : Nat} {ret : Option FieldType} {hh : List (Nat × Nat × Nat × Nat)}
    (hy : plainName y.cls = true) (hw : ws = Cond.codeWith y cc maxL ret hh :: ws')
    (body : ∀ p e s m args below meth c s₁, BodyLoose p l y (headSpec ws rm) cc maxL ret e s m args below meth c s₁ → c.maxLocals = maxL → Pc args s →
      W p l e (headSpec ws rm).room s m args below meth c s.heap [] 0 0 (vx_MQ below Qc XC args s mc ms free) (entryFrame m args maxL)) : vx_Met l y ws rm Pc Qc XC mc ms free := by
  refine MetFree.of_bodyS (code := cc) (maxLocals := maxL) (ret := ret) hy ?_ ?_
  · intro args s m h hn
    obtain ⟨m9, meth, c, hn9, h1, h2, h3, h4, -, h5, h6, -⟩ := Cond.codeWith_spec (atoms_spec (ws := ws) h _ (by rw [hw]; exact List.mem_cons_self))
    cases hn.symm.trans hn9
    exact ⟨meth, c, h1, h2, h3, h4, h5, h6⟩
  · intro p e s m args below meth c s₁ B hml hP _
    have hh0 : s₁.heap = s.heap := by rw [B.state]; rfl
    obtain ⟨t, a1, o, b1, b2, b3⟩ := body p e s m args below meth c s₁ B hml hP s₁ hh0 (Stand.of_body B)
    exact ⟨t, o, a1, b1, b2, b3⟩
/-! ===== END ===== -/
end
section
def RX0 : String := "CoinRails$CoinText"
def TX0 : u_T := fun k => match k with
  | 0 => ("CoinRails$CoinText", "bytes", "[I", true)
  | 1 => ("CoinRails$CoinText", "length", "I", false)
  | 2 => ("CoinRails$CoinText", "kindOf", "[I", true)
  | 3 => ("CoinRails$CoinText", "wearOf", "[I", true)
  | _ => ("CoinRails$CoinText", "coins", "I", false)
def tyX0 : Nat → FieldType := fun k => match k with
  | 0 => .array .int
  | 1 => .int
  | 2 => .array .int
  | 3 => .array .int
  | _ => .int
abbrev wsX00 : List Cond := u_ws RX0 TX0 5
theorem nmX0 : ∀ a, a < 5 → ∀ b, b < 5 → a ≠ b → (TX0 a).2.1 ≠ (TX0 b).2.1 := by decide +kernel
theorem tyX0_ok : ∀ k, k < 5 → parseFieldDescriptor (TX0 k).2.2.1 = some (tyX0 k) := by decide +kernel
abbrev cX0_init : ByteArray := prog_2_method_1_code
def yX0_init : MethodName := ⟨RX0, "<init>", "()V"⟩
def RX1 : String := "CoinRails$History"
def TX1 : u_T := fun k => match k with
  | 0 => ("CoinRails$History", "ring", "[LCoinRails$State;", true)
  | 1 => ("CoinRails$History", "next", "I", false)
  | _ => ("CoinRails$History", "states", "I", false)
def tyX1 : Nat → FieldType := fun k => match k with
  | 0 => .array (.object "CoinRails$State")
  | 1 => .int
  | _ => .int
abbrev wsX10 : List Cond := u_ws RX1 TX1 3
theorem nmX1 : ∀ a, a < 3 → ∀ b, b < 3 → a ≠ b → (TX1 a).2.1 ≠ (TX1 b).2.1 := by decide +kernel
theorem tyX1_ok : ∀ k, k < 3 → parseFieldDescriptor (TX1 k).2.2.1 = some (tyX1 k) := by decide +kernel
abbrev cX1_init : ByteArray := prog_3_method_1_code
def yX1_init : MethodName := ⟨RX1, "<init>", "()V"⟩
abbrev cX1_save : ByteArray := prog_3_method_2_code
def yX1_save : MethodName := ⟨RX1, "save", "(LCoinRails$State;)V"⟩
abbrev cX1_restore : ByteArray := prog_3_method_3_code
def yX1_restore : MethodName := ⟨RX1, "restore", "(LCoinRails$State;)I"⟩
def RX2 : String := "CoinRails$State"
def TX2 : u_T := fun k => match k with
  | 0 => ("CoinRails$State", "kinds", "I", false)
  | 1 => ("CoinRails$State", "diameter", "[I", true)
  | 2 => ("CoinRails$State", "worth", "[I", true)
  | 3 => ("CoinRails$State", "home", "[I", true)
  | 4 => ("CoinRails$State", "fed", "[I", true)
  | 5 => ("CoinRails$State", "rejects", "[I", true)
  | 6 => ("CoinRails$State", "gap", "[I", true)
  | 7 => ("CoinRails$State", "use", "[I", true)
  | 8 => ("CoinRails$State", "stuckKind", "[I", true)
  | 9 => ("CoinRails$State", "stuckWear", "[I", true)
  | 10 => ("CoinRails$State", "rolled", "[I", true)
  | 11 => ("CoinRails$State", "bags", "[I", true)
  | _ => ("CoinRails$State", "takenAway", "I", false)
def tyX2 : Nat → FieldType := fun k => match k with
  | 0 => .int
  | 1 => .array .int
  | 2 => .array .int
  | 3 => .array .int
  | 4 => .array .int
  | 5 => .array .int
  | 6 => .array .int
  | 7 => .array .int
  | 8 => .array .int
  | 9 => .array .int
  | 10 => .array .int
  | 11 => .array .int
  | _ => .int
abbrev wsX20 : List Cond := u_ws RX2 TX2 13
theorem nmX2 : ∀ a, a < 13 → ∀ b, b < 13 → a ≠ b → (TX2 a).2.1 ≠ (TX2 b).2.1 := by decide +kernel
theorem tyX2_ok : ∀ k, k < 13 → parseFieldDescriptor (TX2 k).2.2.1 = some (tyX2 k) := by decide +kernel
abbrev cX2_init : ByteArray := prog_4_method_1_code
def yX2_init : MethodName := ⟨RX2, "<init>", "()V"⟩
abbrev cX2_copyFrom : ByteArray := prog_4_method_2_code
def yX2_copyFrom : MethodName := ⟨RX2, "copyFrom", "(LCoinRails$State;)V"⟩
abbrev cX2_putKind : ByteArray := prog_4_method_3_code
def yX2_putKind : MethodName := ⟨RX2, "putKind", "(III)I"⟩
abbrev cX2_isStuck : ByteArray := prog_4_method_4_code
def yX2_isStuck : MethodName := ⟨RX2, "isStuck", "(I)Z"⟩
abbrev cX2_isFull : ByteArray := prog_4_method_5_code
def yX2_isFull : MethodName := ⟨RX2, "isFull", "(I)Z"⟩
abbrev cX2_placeFor : ByteArray := prog_4_method_6_code
def yX2_placeFor : MethodName := ⟨RX2, "placeFor", "(II)I"⟩
abbrev cX2_size : ByteArray := prog_4_method_7_code
def yX2_size : MethodName := ⟨RX2, "size", "(II)I"⟩
abbrev cX2_wearAt : ByteArray := prog_4_method_8_code
def yX2_wearAt : MethodName := ⟨RX2, "wearAt", "(II)I"⟩
abbrev cX2_putCoin : ByteArray := prog_4_method_9_code
def yX2_putCoin : MethodName := ⟨RX2, "putCoin", "(II)I"⟩
abbrev cX2_rollOver : ByteArray := prog_4_method_10_code
def yX2_rollOver : MethodName := ⟨RX2, "rollOver", "(I)V"⟩
abbrev cX2_useRail : ByteArray := prog_4_method_11_code
def yX2_useRail : MethodName := ⟨RX2, "useRail", "(I)V"⟩
abbrev cX2_putCoinsByChance : ByteArray := prog_4_method_12_code
def yX2_putCoinsByChance : MethodName := ⟨RX2, "putCoinsByChance", "(II)I"⟩
abbrev cX2_loosen : ByteArray := prog_4_method_13_code
def yX2_loosen : MethodName := ⟨RX2, "loosen", "(I)I"⟩
abbrev cX2_emptyBag : ByteArray := prog_4_method_14_code
def yX2_emptyBag : MethodName := ⟨RX2, "emptyBag", "(I)I"⟩
abbrev cX2_removeRejects : ByteArray := prog_4_method_15_code
def yX2_removeRejects : MethodName := ⟨RX2, "removeRejects", "()I"⟩
abbrev cX2_aboutKind : ByteArray := prog_4_method_16_code
def yX2_aboutKind : MethodName := ⟨RX2, "aboutKind", "(II)I"⟩
abbrev cX2_aboutRail : ByteArray := prog_4_method_17_code
def yX2_aboutRail : MethodName := ⟨RX2, "aboutRail", "(II)I"⟩
abbrev cX2_aboutAll : ByteArray := prog_4_method_18_code
def yX2_aboutAll : MethodName := ⟨RX2, "aboutAll", "(I)I"⟩
abbrev cX2_sum : ByteArray := prog_4_method_19_code
def yX2_sum : MethodName := ⟨RX2, "sum", "([I)I"⟩
abbrev cX2_coinsOfKind : ByteArray := prog_4_method_20_code
def yX2_coinsOfKind : MethodName := ⟨RX2, "coinsOfKind", "(II)I"⟩
abbrev cX2_coinsIn : ByteArray := prog_4_method_21_code
def yX2_coinsIn : MethodName := ⟨RX2, "coinsIn", "(I)I"⟩
abbrev cX2_coinsInBags : ByteArray := prog_4_method_22_code
def yX2_coinsInBags : MethodName := ⟨RX2, "coinsInBags", "()I"⟩
abbrev cX2_coinsOfKindInBags : ByteArray := prog_4_method_23_code
def yX2_coinsOfKindInBags : MethodName := ⟨RX2, "coinsOfKindInBags", "(I)I"⟩
abbrev cX2_stuckOfKind : ByteArray := prog_4_method_24_code
def yX2_stuckOfKind : MethodName := ⟨RX2, "stuckOfKind", "(I)I"⟩
abbrev cX2_stuckRails : ByteArray := prog_4_method_25_code
def yX2_stuckRails : MethodName := ⟨RX2, "stuckRails", "()I"⟩
abbrev cX2_fullBags : ByteArray := prog_4_method_26_code
def yX2_fullBags : MethodName := ⟨RX2, "fullBags", "()I"⟩
abbrev cX2_kindOfRail : ByteArray := prog_4_method_27_code
def yX2_kindOfRail : MethodName := ⟨RX2, "kindOfRail", "(I)I"⟩
abbrev cX2_supposedWorth : ByteArray := prog_4_method_28_code
def yX2_supposedWorth : MethodName := ⟨RX2, "supposedWorth", "(I)I"⟩
abbrev cX2_supposedWorthOfAll : ByteArray := prog_4_method_29_code
def yX2_supposedWorthOfAll : MethodName := ⟨RX2, "supposedWorthOfAll", "()I"⟩
abbrev cX2_trueWorth : ByteArray := prog_4_method_30_code
def yX2_trueWorth : MethodName := ⟨RX2, "trueWorth", "(I)I"⟩
abbrev cX2_trueWorthOfAll : ByteArray := prog_4_method_31_code
def yX2_trueWorthOfAll : MethodName := ⟨RX2, "trueWorthOfAll", "()I"⟩
abbrev cX2_misfitsIn : ByteArray := prog_4_method_32_code
def yX2_misfitsIn : MethodName := ⟨RX2, "misfitsIn", "(I)I"⟩
abbrev cX2_misfits : ByteArray := prog_4_method_33_code
def yX2_misfits : MethodName := ⟨RX2, "misfits", "()I"⟩
abbrev cX2_fallsHome : ByteArray := prog_4_method_36_code
def yX2_fallsHome : MethodName := ⟨RX2, "fallsHome", "(II)Z"⟩
abbrev cX2_mostFittingWear : ByteArray := prog_4_method_37_code
def yX2_mostFittingWear : MethodName := ⟨RX2, "mostFittingWear", "(I)I"⟩
abbrev cX2_leastSortingGap : ByteArray := prog_4_method_38_code
def yX2_leastSortingGap : MethodName := ⟨RX2, "leastSortingGap", "(I)I"⟩
abbrev cX2_coinsUntilAstray : ByteArray := prog_4_method_39_code
def yX2_coinsUntilAstray : MethodName := ⟨RX2, "coinsUntilAstray", "(I)I"⟩
def RX3 : String := "CoinRails"
def TX3 : u_T := fun k => match k with
  | 0 => ("CoinRails", "now", "LCoinRails$State;", true)
  | 1 => ("CoinRails", "history", "LCoinRails$History;", true)
  | _ => ("CoinRails", "text", "LCoinRails$CoinText;", true)
def tyX3 : Nat → FieldType := fun k => match k with
  | 0 => .object "CoinRails$State"
  | 1 => .object "CoinRails$History"
  | _ => .object "CoinRails$CoinText"
abbrev wsX30 : List Cond := u_ws RX3 TX3 3
theorem nmX3 : ∀ a, a < 3 → ∀ b, b < 3 → a ≠ b → (TX3 a).2.1 ≠ (TX3 b).2.1 := by decide +kernel
theorem tyX3_ok : ∀ k, k < 3 → parseFieldDescriptor (TX3 k).2.2.1 = some (tyX3 k) := by decide +kernel
abbrev cX3_init : ByteArray := prog_1_method_1_code
def yX3_init : MethodName := ⟨RX3, "<init>", "()V"⟩
abbrev cX3_addKind : ByteArray := prog_1_method_2_code
def yX3_addKind : MethodName := ⟨RX3, "addKind", "(III)I"⟩
abbrev cX3_setGap : ByteArray := prog_1_method_4_code
def yX3_setGap : MethodName := ⟨RX3, "setGap", "(II)I"⟩
abbrev cX3_feed : ByteArray := prog_1_method_5_code
def yX3_feed : MethodName := ⟨RX3, "feed", "(II)I"⟩
abbrev cX3_feedSome : ByteArray := prog_1_method_6_code
def yX3_feedSome : MethodName := ⟨RX3, "feedSome", "(II)I"⟩
abbrev cX3_free : ByteArray := prog_1_method_7_code
def yX3_free : MethodName := ⟨RX3, "free", "(I)I"⟩
abbrev cX3_takeBag : ByteArray := prog_1_method_8_code
def yX3_takeBag : MethodName := ⟨RX3, "takeBag", "(I)I"⟩
abbrev cX3_takeRejects : ByteArray := prog_1_method_9_code
def yX3_takeRejects : MethodName := ⟨RX3, "takeRejects", "()I"⟩
abbrev cX3_kind : ByteArray := prog_1_method_10_code
def yX3_kind : MethodName := ⟨RX3, "kind", "(II)I"⟩
abbrev cX3_rail : ByteArray := prog_1_method_11_code
def yX3_rail : MethodName := ⟨RX3, "rail", "(II)I"⟩
abbrev cX3_count : ByteArray := prog_1_method_12_code
def yX3_count : MethodName := ⟨RX3, "count", "(II)I"⟩
abbrev cX3_value : ByteArray := prog_1_method_13_code
def yX3_value : MethodName := ⟨RX3, "value", "(I)I"⟩
abbrev cX3_where : ByteArray := prog_1_method_14_code
def yX3_where : MethodName := ⟨RX3, "where", "(II)I"⟩
abbrev cX3_mostWear : ByteArray := prog_1_method_15_code
def yX3_mostWear : MethodName := ⟨RX3, "mostWear", "(I)I"⟩
abbrev cX3_bestGap : ByteArray := prog_1_method_16_code
def yX3_bestGap : MethodName := ⟨RX3, "bestGap", "(I)I"⟩
abbrev cX3_supply : ByteArray := prog_1_method_17_code
def yX3_supply : MethodName := ⟨RX3, "supply", "(I)I"⟩
abbrev cX3_right : ByteArray := prog_1_method_19_code
def yX3_right : MethodName := ⟨RX3, "right", "()D"⟩
abbrev cX3_undo : ByteArray := prog_1_method_23_code
def yX3_undo : MethodName := ⟨RX3, "undo", "()I"⟩
abbrev cX3_checkKind : ByteArray := prog_1_method_27_code
def yX3_checkKind : MethodName := ⟨RX3, "checkKind", "(I)V"⟩
abbrev cX3_checkRail : ByteArray := prog_1_method_28_code
def yX3_checkRail : MethodName := ⟨RX3, "checkRail", "(I)V"⟩
abbrev cX3_checkArgument : ByteArray := prog_1_method_29_code
def yX3_checkArgument : MethodName := ⟨RX3, "checkArgument", "(III)V"⟩
abbrev cX3_isRail : ByteArray := prog_1_method_30_code
def yX3_isRail : MethodName := ⟨RX3, "isRail", "(I)Z"⟩
def RX4 : String := "CoinRailsModel"
def TX4 : u_T := fun k => match k with
  | _ => ("", "", "", false)
def tyX4 : Nat → FieldType := fun k => match k with
  | _ => .int
abbrev wsX40 : List Cond := u_ws RX4 TX4 0
theorem nmX4 : ∀ a, a < 0 → ∀ b, b < 0 → a ≠ b → (TX4 a).2.1 ≠ (TX4 b).2.1 := by decide +kernel
theorem tyX4_ok : ∀ k, k < 0 → parseFieldDescriptor (TX4 k).2.2.1 = some (tyX4 k) := by decide +kernel
def RJ9 : String := "java/lang/Math"
def TJ9 : u_T := fun k => match k with
  | _ => ("", "", "", false)
def tyJ9 : Nat → FieldType := fun k => match k with
  | _ => .int
abbrev wsJ90 : List Cond := u_ws RJ9 TJ9 0
theorem nmJ9 : ∀ a, a < 0 → ∀ b, b < 0 → a ≠ b → (TJ9 a).2.1 ≠ (TJ9 b).2.1 := by decide +kernel
theorem tyJ9_ok : ∀ k, k < 0 → parseFieldDescriptor (TJ9 k).2.2.1 = some (tyJ9 k) := by decide +kernel
abbrev cJ9_max_7cf53 : ByteArray := prog_11_method_65_code
def yJ9_max_7cf53 : MethodName := ⟨RJ9, "max", "(II)I"⟩
abbrev cJ9_min_7cf53 : ByteArray := prog_11_method_69_code
def yJ9_min_7cf53 : MethodName := ⟨RJ9, "min", "(II)I"⟩
def RJ0 : String := "java/lang/String"
def TJ0 : u_T := fun k => match k with
  | _ => ("", "", "", false)
def tyJ0 : Nat → FieldType := fun k => match k with
  | _ => .int
abbrev wsJ00 : List Cond := u_ws RJ0 TJ0 0
theorem nmJ0 : ∀ a, a < 0 → ∀ b, b < 0 → a ≠ b → (TJ0 a).2.1 ≠ (TJ0 b).2.1 := by decide +kernel
theorem tyJ0_ok : ∀ k, k < 0 → parseFieldDescriptor (TJ0 k).2.2.1 = some (tyJ0 k) := by decide +kernel
def RJ10 : String := "java/lang/System"
def TJ10 : u_T := fun k => match k with
  | _ => ("", "", "", false)
def tyJ10 : Nat → FieldType := fun k => match k with
  | _ => .int
abbrev wsJ100 : List Cond := u_ws RJ10 TJ10 0
theorem nmJ10 : ∀ a, a < 0 → ∀ b, b < 0 → a ≠ b → (TJ10 a).2.1 ≠ (TJ10 b).2.1 := by decide +kernel
theorem tyJ10_ok : ∀ k, k < 0 → parseFieldDescriptor (TJ10 k).2.2.1 = some (tyJ10 k) := by decide +kernel
def RL : String := "CoinRailsLaw"
abbrev cL_cell : ByteArray := method_2_code
def yL_cell : MethodName := ⟨RL, "cell", "([II)I"⟩
abbrev cL_up : ByteArray := method_3_code
def yL_up : MethodName := ⟨RL, "up", "(II)I"⟩
abbrev cL_kinds : ByteArray := method_4_code
def yL_kinds : MethodName := ⟨RL, "kinds", "(LCoinRails;LCoinRails;[I)Z"⟩
abbrev cL_isStep : ByteArray := method_5_code
def yL_isStep : MethodName := ⟨RL, "isStep", "(LCoinRails;LCoinRails;I)Z"⟩
abbrev cL_areAlike : ByteArray := method_6_code
def yL_areAlike : MethodName := ⟨RL, "areAlike", "(LCoinRails;LCoinRails;)Z"⟩
abbrev cL_isSound : ByteArray := method_7_code
def yL_isSound : MethodName := ⟨RL, "isSound", "(LCoinRails;)Z"⟩
abbrev cL_law : ByteArray := code
def yL_law : MethodName := ⟨RL, "law", "([I)Z"⟩
def wsX0_init : List Cond := .code yX0_init cX0_init 1 none :: ([.methodLink RX0 3 objectInit, .instanceMethod objectInit, .code objectInit ⟨#[0xb1]⟩ 1 none, .arrayClass .int, .fieldLink RX0 9 "CoinRails$CoinText" "bytes" "[I", .fieldLink RX0 15 "CoinRails$CoinText" "kindOf" "[I", .fieldLink RX0 18 "CoinRails$CoinText" "wearOf" "[I"] ++ wsX00)
def wsX2_init : List Cond := .code yX2_init cX2_init 2 none :: ([.methodLink RX2 3 objectInit, .instanceMethod objectInit, .code objectInit ⟨#[0xb1]⟩ 1 none, .arrayClass .int, .fieldLink RX2 9 "CoinRails$State" "diameter" "[I", .fieldLink RX2 15 "CoinRails$State" "worth" "[I", .fieldLink RX2 18 "CoinRails$State" "home" "[I", .fieldLink RX2 21 "CoinRails$State" "fed" "[I", .fieldLink RX2 24 "CoinRails$State" "rejects" "[I", .fieldLink RX2 27 "CoinRails$State" "gap" "[I", .fieldLink RX2 30 "CoinRails$State" "use" "[I", .fieldLink RX2 33 "CoinRails$State" "stuckKind" "[I", .fieldLink RX2 36 "CoinRails$State" "stuckWear" "[I", .fieldLink RX2 39 "CoinRails$State" "rolled" "[I", .fieldLink RX2 42 "CoinRails$State" "bags" "[I"] ++ wsX20)
def wsX1_init : List Cond := .code yX1_init cX1_init 2 none :: ([.methodLink RX1 3 objectInit, .instanceMethod objectInit, .code objectInit ⟨#[0xb1]⟩ 1 none, .classLink RX1 9 RX2, .fieldLink RX1 11 "CoinRails$History" "ring" "[LCoinRails$State;", .instantiable RX2 13, .initialized RX2, .methodLink RX1 17 yX2_init, .instanceMethod yX2_init, .code yX2_init cX2_init 2 none, .methodLink RX2 3 objectInit, .arrayClass .int, .fieldLink RX2 9 "CoinRails$State" "diameter" "[I", .fieldLink RX2 15 "CoinRails$State" "worth" "[I", .fieldLink RX2 18 "CoinRails$State" "home" "[I", .fieldLink RX2 21 "CoinRails$State" "fed" "[I", .fieldLink RX2 24 "CoinRails$State" "rejects" "[I", .fieldLink RX2 27 "CoinRails$State" "gap" "[I", .fieldLink RX2 30 "CoinRails$State" "use" "[I", .fieldLink RX2 33 "CoinRails$State" "stuckKind" "[I", .fieldLink RX2 36 "CoinRails$State" "stuckWear" "[I", .fieldLink RX2 39 "CoinRails$State" "rolled" "[I", .fieldLink RX2 42 "CoinRails$State" "bags" "[I"] ++ wsX10 ++ wsX20)
def wsX2_copyFrom : List Cond := .code yX2_copyFrom cX2_copyFrom 2 none :: ([.fieldLink RX2 45 "CoinRails$State" "kinds" "I", .fieldLink RX2 9 "CoinRails$State" "diameter" "[I", .methodLink RX2 49 arraycopyName, .native arraycopyName, .static arraycopyName, .initialized "java/lang/System", .fieldLink RX2 15 "CoinRails$State" "worth" "[I", .fieldLink RX2 18 "CoinRails$State" "home" "[I", .fieldLink RX2 21 "CoinRails$State" "fed" "[I", .fieldLink RX2 24 "CoinRails$State" "rejects" "[I", .fieldLink RX2 27 "CoinRails$State" "gap" "[I", .fieldLink RX2 30 "CoinRails$State" "use" "[I", .fieldLink RX2 33 "CoinRails$State" "stuckKind" "[I", .fieldLink RX2 36 "CoinRails$State" "stuckWear" "[I", .fieldLink RX2 39 "CoinRails$State" "rolled" "[I", .fieldLink RX2 42 "CoinRails$State" "bags" "[I", .fieldLink RX2 55 "CoinRails$State" "takenAway" "I"] ++ wsX20)
def wsX1_save_r1 : List Cond := [Cond.fieldLink RX1 11 "CoinRails$History" "ring" "[LCoinRails$State;", Cond.fieldLink RX1 18 "CoinRails$History" "next" "I", Cond.fieldLink RX1 26 "CoinRails$History" "states" "I", Cond.methodLink RX1 29 Lib.Math.min.name, Cond.static Lib.Math.min.name, Cond.initialized "java/lang/Math", Cond.code Lib.Math.min.name Lib.Math.min.code 2 (some .int), Cond.methodLink RX1 22 yX2_copyFrom, Cond.instanceMethod yX2_copyFrom, Cond.selects RX2 yX2_copyFrom yX2_copyFrom, Cond.initialized RX2, Cond.code yX2_copyFrom cX2_copyFrom 2 none, Cond.fieldLink RX2 45 "CoinRails$State" "kinds" "I", Cond.fieldLink RX2 9 "CoinRails$State" "diameter" "[I", Cond.methodLink RX2 49 arraycopyName, Cond.native arraycopyName, Cond.static arraycopyName, Cond.initialized "java/lang/System", Cond.fieldLink RX2 15 "CoinRails$State" "worth" "[I", Cond.fieldLink RX2 18 "CoinRails$State" "home" "[I", Cond.fieldLink RX2 21 "CoinRails$State" "fed" "[I", Cond.fieldLink RX2 24 "CoinRails$State" "rejects" "[I", Cond.fieldLink RX2 27 "CoinRails$State" "gap" "[I", Cond.fieldLink RX2 30 "CoinRails$State" "use" "[I"]
def wsX1_save_r2 : List Cond := [Cond.fieldLink RX2 33 "CoinRails$State" "stuckKind" "[I", Cond.fieldLink RX2 36 "CoinRails$State" "stuckWear" "[I", Cond.fieldLink RX2 39 "CoinRails$State" "rolled" "[I", Cond.fieldLink RX2 42 "CoinRails$State" "bags" "[I", Cond.fieldLink RX2 55 "CoinRails$State" "takenAway" "I"]
def wsX1_save : List Cond := .code yX1_save cX1_save 2 none :: ((wsX1_save_r1 ++ wsX1_save_r2) ++ wsX10 ++ wsX20)
def wsX1_restore_r1 : List Cond := [Cond.fieldLink RX1 18 "CoinRails$History" "next" "I", Cond.fieldLink RX1 26 "CoinRails$History" "states" "I", Cond.fieldLink RX1 11 "CoinRails$History" "ring" "[LCoinRails$State;", Cond.methodLink RX1 22 yX2_copyFrom, Cond.instanceMethod yX2_copyFrom, Cond.selects RX2 yX2_copyFrom yX2_copyFrom, Cond.initialized RX2, Cond.code yX2_copyFrom cX2_copyFrom 2 none, Cond.fieldLink RX2 45 "CoinRails$State" "kinds" "I", Cond.fieldLink RX2 9 "CoinRails$State" "diameter" "[I", Cond.methodLink RX2 49 arraycopyName, Cond.native arraycopyName, Cond.static arraycopyName, Cond.initialized "java/lang/System", Cond.fieldLink RX2 15 "CoinRails$State" "worth" "[I", Cond.fieldLink RX2 18 "CoinRails$State" "home" "[I", Cond.fieldLink RX2 21 "CoinRails$State" "fed" "[I", Cond.fieldLink RX2 24 "CoinRails$State" "rejects" "[I", Cond.fieldLink RX2 27 "CoinRails$State" "gap" "[I", Cond.fieldLink RX2 30 "CoinRails$State" "use" "[I", Cond.fieldLink RX2 33 "CoinRails$State" "stuckKind" "[I", Cond.fieldLink RX2 36 "CoinRails$State" "stuckWear" "[I", Cond.fieldLink RX2 39 "CoinRails$State" "rolled" "[I", Cond.fieldLink RX2 42 "CoinRails$State" "bags" "[I"]
def wsX1_restore_r2 : List Cond := [Cond.fieldLink RX2 55 "CoinRails$State" "takenAway" "I"]
def wsX1_restore : List Cond := .code yX1_restore cX1_restore 2 (some .int) :: ((wsX1_restore_r1 ++ wsX1_restore_r2) ++ wsX10 ++ wsX20)
def wsX2_putKind : List Cond := .code yX2_putKind cX2_putKind 5 (some .int) :: ([.fieldLink RX2 45 "CoinRails$State" "kinds" "I", .fieldLink RX2 9 "CoinRails$State" "diameter" "[I", .fieldLink RX2 15 "CoinRails$State" "worth" "[I", .fieldLink RX2 18 "CoinRails$State" "home" "[I"] ++ wsX20)
def wsX2_isStuck : List Cond := .code yX2_isStuck cX2_isStuck 2 (some .boolean) :: ([.fieldLink RX2 33 "CoinRails$State" "stuckKind" "[I"] ++ wsX20)
def wsX2_coinsIn : List Cond := .code yX2_coinsIn cX2_coinsIn 4 (some .int) :: ([.fieldLink RX2 42 "CoinRails$State" "bags" "[I"] ++ wsX20)
def wsX2_isFull : List Cond := .code yX2_isFull cX2_isFull 2 (some .boolean) :: ([.methodLink RX2 58 yX2_coinsIn, .instanceMethod yX2_coinsIn, .selects RX2 yX2_coinsIn yX2_coinsIn, .initialized RX2, .code yX2_coinsIn cX2_coinsIn 4 (some .int), .fieldLink RX2 42 "CoinRails$State" "bags" "[I"] ++ wsX20)
def wsX2_wearAt : List Cond := .code yX2_wearAt cX2_wearAt 3 (some .int) :: ([.methodLink RX2 81 Lib.Math.min.name, .static Lib.Math.min.name, .initialized "java/lang/Math", .code Lib.Math.min.name Lib.Math.min.code 2 (some .int)])
def wsX2_size : List Cond := .code yX2_size cX2_size 3 (some .int) :: ([.fieldLink RX2 9 "CoinRails$State" "diameter" "[I", .methodLink RX2 76 Lib.Math.max.name, .static Lib.Math.max.name, .initialized "java/lang/Math", .code Lib.Math.max.name Lib.Math.max.code 2 (some .int)] ++ wsX20)
def wsX2_placeFor_r1 : List Cond := [Cond.fieldLink RX2 27 "CoinRails$State" "gap" "[I", Cond.methodLink RX2 62 yX2_wearAt, Cond.instanceMethod yX2_wearAt, Cond.selects RX2 yX2_wearAt yX2_wearAt, Cond.initialized RX2, Cond.code yX2_wearAt cX2_wearAt 3 (some .int), Cond.methodLink RX2 81 Lib.Math.min.name, Cond.static Lib.Math.min.name, Cond.initialized "java/lang/Math", Cond.code Lib.Math.min.name Lib.Math.min.code 2 (some .int), Cond.methodLink RX2 66 yX2_size, Cond.instanceMethod yX2_size, Cond.selects RX2 yX2_size yX2_size, Cond.code yX2_size cX2_size 3 (some .int), Cond.fieldLink RX2 9 "CoinRails$State" "diameter" "[I", Cond.methodLink RX2 76 Lib.Math.max.name, Cond.static Lib.Math.max.name, Cond.code Lib.Math.max.name Lib.Math.max.code 2 (some .int), Cond.methodLink RX2 69 yX2_isStuck, Cond.instanceMethod yX2_isStuck, Cond.selects RX2 yX2_isStuck yX2_isStuck, Cond.code yX2_isStuck cX2_isStuck 2 (some .boolean), Cond.fieldLink RX2 33 "CoinRails$State" "stuckKind" "[I", Cond.methodLink RX2 73 yX2_isFull]
def wsX2_placeFor_r2 : List Cond := [Cond.instanceMethod yX2_isFull, Cond.selects RX2 yX2_isFull yX2_isFull, Cond.code yX2_isFull cX2_isFull 2 (some .boolean), Cond.methodLink RX2 58 yX2_coinsIn, Cond.instanceMethod yX2_coinsIn, Cond.selects RX2 yX2_coinsIn yX2_coinsIn, Cond.code yX2_coinsIn cX2_coinsIn 4 (some .int), Cond.fieldLink RX2 42 "CoinRails$State" "bags" "[I"]
def wsX2_placeFor : List Cond := .code yX2_placeFor cX2_placeFor 6 (some .int) :: ((wsX2_placeFor_r1 ++ wsX2_placeFor_r2) ++ wsX20)
def wsX2_rollOver : List Cond := .code yX2_rollOver cX2_rollOver 3 none :: ([.fieldLink RX2 39 "CoinRails$State" "rolled" "[I"] ++ wsX20)
def wsX2_useRail : List Cond := .code yX2_useRail cX2_useRail 2 none :: ([.fieldLink RX2 30 "CoinRails$State" "use" "[I", .fieldLink RX2 27 "CoinRails$State" "gap" "[I", .methodLink RX2 81 Lib.Math.min.name, .static Lib.Math.min.name, .initialized "java/lang/Math", .code Lib.Math.min.name Lib.Math.min.code 2 (some .int)] ++ wsX20)
def wsX2_putCoin_r1 : List Cond := [Cond.fieldLink RX2 21 "CoinRails$State" "fed" "[I", Cond.fieldLink RX2 24 "CoinRails$State" "rejects" "[I", Cond.fieldLink RX2 33 "CoinRails$State" "stuckKind" "[I", Cond.fieldLink RX2 36 "CoinRails$State" "stuckWear" "[I", Cond.fieldLink RX2 42 "CoinRails$State" "bags" "[I", Cond.methodLink RX2 84 yX2_placeFor, Cond.instanceMethod yX2_placeFor, Cond.selects RX2 yX2_placeFor yX2_placeFor, Cond.initialized RX2, Cond.code yX2_placeFor cX2_placeFor 6 (some .int), Cond.fieldLink RX2 27 "CoinRails$State" "gap" "[I", Cond.methodLink RX2 62 yX2_wearAt, Cond.instanceMethod yX2_wearAt, Cond.selects RX2 yX2_wearAt yX2_wearAt, Cond.code yX2_wearAt cX2_wearAt 3 (some .int), Cond.methodLink RX2 81 Lib.Math.min.name, Cond.static Lib.Math.min.name, Cond.initialized "java/lang/Math", Cond.code Lib.Math.min.name Lib.Math.min.code 2 (some .int), Cond.methodLink RX2 66 yX2_size, Cond.instanceMethod yX2_size, Cond.selects RX2 yX2_size yX2_size, Cond.code yX2_size cX2_size 3 (some .int), Cond.fieldLink RX2 9 "CoinRails$State" "diameter" "[I"]
def wsX2_putCoin_r2 : List Cond := [Cond.methodLink RX2 76 Lib.Math.max.name, Cond.static Lib.Math.max.name, Cond.code Lib.Math.max.name Lib.Math.max.code 2 (some .int), Cond.methodLink RX2 69 yX2_isStuck, Cond.instanceMethod yX2_isStuck, Cond.selects RX2 yX2_isStuck yX2_isStuck, Cond.code yX2_isStuck cX2_isStuck 2 (some .boolean), Cond.methodLink RX2 73 yX2_isFull, Cond.instanceMethod yX2_isFull, Cond.selects RX2 yX2_isFull yX2_isFull, Cond.code yX2_isFull cX2_isFull 2 (some .boolean), Cond.methodLink RX2 58 yX2_coinsIn, Cond.instanceMethod yX2_coinsIn, Cond.selects RX2 yX2_coinsIn yX2_coinsIn, Cond.code yX2_coinsIn cX2_coinsIn 4 (some .int), Cond.methodLink RX2 87 yX2_rollOver, Cond.instanceMethod yX2_rollOver, Cond.selects RX2 yX2_rollOver yX2_rollOver, Cond.code yX2_rollOver cX2_rollOver 3 none, Cond.fieldLink RX2 39 "CoinRails$State" "rolled" "[I", Cond.methodLink RX2 91 yX2_useRail, Cond.instanceMethod yX2_useRail, Cond.selects RX2 yX2_useRail yX2_useRail, Cond.code yX2_useRail cX2_useRail 2 none]
def wsX2_putCoin_r3 : List Cond := [Cond.fieldLink RX2 30 "CoinRails$State" "use" "[I"]
def wsX2_putCoin : List Cond := .code yX2_putCoin cX2_putCoin 5 (some .int) :: ((wsX2_putCoin_r1 ++ (wsX2_putCoin_r2 ++ wsX2_putCoin_r3)) ++ wsX20)
def wsX2_putCoinsByChance_r1 : List Cond := [Cond.constantLong RX2 94 (1103515245), Cond.constantLong RX2 96 (12345), Cond.constantLong RX2 98 (2147483648), Cond.constantLong RX2 100 (65536), Cond.fieldLink RX2 45 "CoinRails$State" "kinds" "I", Cond.constantLong RX2 102 (1048576), Cond.constantLong RX2 104 (40), Cond.methodLink RX2 106 yX2_putCoin, Cond.instanceMethod yX2_putCoin, Cond.selects RX2 yX2_putCoin yX2_putCoin, Cond.initialized RX2, Cond.code yX2_putCoin cX2_putCoin 5 (some .int), Cond.fieldLink RX2 21 "CoinRails$State" "fed" "[I", Cond.fieldLink RX2 24 "CoinRails$State" "rejects" "[I", Cond.fieldLink RX2 33 "CoinRails$State" "stuckKind" "[I", Cond.fieldLink RX2 36 "CoinRails$State" "stuckWear" "[I", Cond.fieldLink RX2 42 "CoinRails$State" "bags" "[I", Cond.methodLink RX2 84 yX2_placeFor, Cond.instanceMethod yX2_placeFor, Cond.selects RX2 yX2_placeFor yX2_placeFor, Cond.code yX2_placeFor cX2_placeFor 6 (some .int), Cond.fieldLink RX2 27 "CoinRails$State" "gap" "[I", Cond.methodLink RX2 62 yX2_wearAt, Cond.instanceMethod yX2_wearAt]
def wsX2_putCoinsByChance_r2 : List Cond := [Cond.selects RX2 yX2_wearAt yX2_wearAt, Cond.code yX2_wearAt cX2_wearAt 3 (some .int), Cond.methodLink RX2 81 Lib.Math.min.name, Cond.static Lib.Math.min.name, Cond.initialized "java/lang/Math", Cond.code Lib.Math.min.name Lib.Math.min.code 2 (some .int), Cond.methodLink RX2 66 yX2_size, Cond.instanceMethod yX2_size, Cond.selects RX2 yX2_size yX2_size, Cond.code yX2_size cX2_size 3 (some .int), Cond.fieldLink RX2 9 "CoinRails$State" "diameter" "[I", Cond.methodLink RX2 76 Lib.Math.max.name, Cond.static Lib.Math.max.name, Cond.code Lib.Math.max.name Lib.Math.max.code 2 (some .int), Cond.methodLink RX2 69 yX2_isStuck, Cond.instanceMethod yX2_isStuck, Cond.selects RX2 yX2_isStuck yX2_isStuck, Cond.code yX2_isStuck cX2_isStuck 2 (some .boolean), Cond.methodLink RX2 73 yX2_isFull, Cond.instanceMethod yX2_isFull, Cond.selects RX2 yX2_isFull yX2_isFull, Cond.code yX2_isFull cX2_isFull 2 (some .boolean), Cond.methodLink RX2 58 yX2_coinsIn, Cond.instanceMethod yX2_coinsIn]
def wsX2_putCoinsByChance_r3 : List Cond := [Cond.selects RX2 yX2_coinsIn yX2_coinsIn, Cond.code yX2_coinsIn cX2_coinsIn 4 (some .int), Cond.methodLink RX2 87 yX2_rollOver, Cond.instanceMethod yX2_rollOver, Cond.selects RX2 yX2_rollOver yX2_rollOver, Cond.code yX2_rollOver cX2_rollOver 3 none, Cond.fieldLink RX2 39 "CoinRails$State" "rolled" "[I", Cond.methodLink RX2 91 yX2_useRail, Cond.instanceMethod yX2_useRail, Cond.selects RX2 yX2_useRail yX2_useRail, Cond.code yX2_useRail cX2_useRail 2 none, Cond.fieldLink RX2 30 "CoinRails$State" "use" "[I"]
def wsX2_putCoinsByChance : List Cond := .code yX2_putCoinsByChance cX2_putCoinsByChance 9 (some .int) :: ((wsX2_putCoinsByChance_r1 ++ (wsX2_putCoinsByChance_r2 ++ wsX2_putCoinsByChance_r3)) ++ wsX20)
def wsX2_loosen : List Cond := .code yX2_loosen cX2_loosen 3 (some .int) :: ([.fieldLink RX2 33 "CoinRails$State" "stuckKind" "[I", .fieldLink RX2 24 "CoinRails$State" "rejects" "[I", .fieldLink RX2 42 "CoinRails$State" "bags" "[I", .fieldLink RX2 36 "CoinRails$State" "stuckWear" "[I", .methodLink RX2 73 yX2_isFull, .instanceMethod yX2_isFull, .selects RX2 yX2_isFull yX2_isFull, .initialized RX2, .code yX2_isFull cX2_isFull 2 (some .boolean), .methodLink RX2 58 yX2_coinsIn, .instanceMethod yX2_coinsIn, .selects RX2 yX2_coinsIn yX2_coinsIn, .code yX2_coinsIn cX2_coinsIn 4 (some .int)] ++ wsX20)
def wsX2_emptyBag : List Cond := .code yX2_emptyBag cX2_emptyBag 4 (some .int) :: ([.fieldLink RX2 42 "CoinRails$State" "bags" "[I", .fieldLink RX2 55 "CoinRails$State" "takenAway" "I", .methodLink RX2 58 yX2_coinsIn, .instanceMethod yX2_coinsIn, .selects RX2 yX2_coinsIn yX2_coinsIn, .initialized RX2, .code yX2_coinsIn cX2_coinsIn 4 (some .int)] ++ wsX20)
def wsX2_sum : List Cond := .code yX2_sum cX2_sum 6 (some .int) :: ([])
def wsX2_removeRejects : List Cond := .code yX2_removeRejects cX2_removeRejects 3 (some .int) :: ([.fieldLink RX2 24 "CoinRails$State" "rejects" "[I", .fieldLink RX2 55 "CoinRails$State" "takenAway" "I", .methodLink RX2 109 yX2_sum, .static yX2_sum, .initialized RX2, .code yX2_sum cX2_sum 6 (some .int)] ++ wsX20)
def wsX2_coinsOfKind : List Cond := .code yX2_coinsOfKind cX2_coinsOfKind 3 (some .int) :: ([.fieldLink RX2 42 "CoinRails$State" "bags" "[I"] ++ wsX20)
def wsX2_coinsOfKindInBags : List Cond := .code yX2_coinsOfKindInBags cX2_coinsOfKindInBags 4 (some .int) :: ([.methodLink RX2 150 yX2_coinsOfKind, .instanceMethod yX2_coinsOfKind, .selects RX2 yX2_coinsOfKind yX2_coinsOfKind, .initialized RX2, .code yX2_coinsOfKind cX2_coinsOfKind 3 (some .int), .fieldLink RX2 42 "CoinRails$State" "bags" "[I"] ++ wsX20)
def wsX2_stuckOfKind : List Cond := .code yX2_stuckOfKind cX2_stuckOfKind 4 (some .int) :: ([.fieldLink RX2 33 "CoinRails$State" "stuckKind" "[I"] ++ wsX20)
def wsX2_aboutKind : List Cond := .code yX2_aboutKind cX2_aboutKind 3 (some .int) :: ([.fieldLink RX2 9 "CoinRails$State" "diameter" "[I", .fieldLink RX2 15 "CoinRails$State" "worth" "[I", .fieldLink RX2 18 "CoinRails$State" "home" "[I", .fieldLink RX2 24 "CoinRails$State" "rejects" "[I", .fieldLink RX2 21 "CoinRails$State" "fed" "[I", .methodLink RX2 113 yX2_coinsOfKindInBags, .instanceMethod yX2_coinsOfKindInBags, .selects RX2 yX2_coinsOfKindInBags yX2_coinsOfKindInBags, .initialized RX2, .code yX2_coinsOfKindInBags cX2_coinsOfKindInBags 4 (some .int), .methodLink RX2 150 yX2_coinsOfKind, .instanceMethod yX2_coinsOfKind, .selects RX2 yX2_coinsOfKind yX2_coinsOfKind, .code yX2_coinsOfKind cX2_coinsOfKind 3 (some .int), .fieldLink RX2 42 "CoinRails$State" "bags" "[I", .methodLink RX2 116 yX2_stuckOfKind, .instanceMethod yX2_stuckOfKind, .selects RX2 yX2_stuckOfKind yX2_stuckOfKind, .code yX2_stuckOfKind cX2_stuckOfKind 4 (some .int), .fieldLink RX2 33 "CoinRails$State" "stuckKind" "[I"] ++ wsX20)
def wsX2_kindOfRail : List Cond := .code yX2_kindOfRail cX2_kindOfRail 3 (some .int) :: ([.fieldLink RX2 45 "CoinRails$State" "kinds" "I", .fieldLink RX2 18 "CoinRails$State" "home" "[I"] ++ wsX20)
def wsX2_supposedWorth : List Cond := .code yX2_supposedWorth cX2_supposedWorth 3 (some .int) :: ([.fieldLink RX2 15 "CoinRails$State" "worth" "[I", .methodLink RX2 128 yX2_kindOfRail, .instanceMethod yX2_kindOfRail, .selects RX2 yX2_kindOfRail yX2_kindOfRail, .initialized RX2, .code yX2_kindOfRail cX2_kindOfRail 3 (some .int), .fieldLink RX2 45 "CoinRails$State" "kinds" "I", .fieldLink RX2 18 "CoinRails$State" "home" "[I", .methodLink RX2 58 yX2_coinsIn, .instanceMethod yX2_coinsIn, .selects RX2 yX2_coinsIn yX2_coinsIn, .code yX2_coinsIn cX2_coinsIn 4 (some .int), .fieldLink RX2 42 "CoinRails$State" "bags" "[I"] ++ wsX20)
def wsX2_trueWorth : List Cond := .code yX2_trueWorth cX2_trueWorth 4 (some .int) :: ([.fieldLink RX2 45 "CoinRails$State" "kinds" "I", .fieldLink RX2 15 "CoinRails$State" "worth" "[I", .methodLink RX2 150 yX2_coinsOfKind, .instanceMethod yX2_coinsOfKind, .selects RX2 yX2_coinsOfKind yX2_coinsOfKind, .initialized RX2, .code yX2_coinsOfKind cX2_coinsOfKind 3 (some .int), .fieldLink RX2 42 "CoinRails$State" "bags" "[I"] ++ wsX20)
def wsX2_misfitsIn : List Cond := .code yX2_misfitsIn cX2_misfitsIn 4 (some .int) :: ([.fieldLink RX2 45 "CoinRails$State" "kinds" "I", .fieldLink RX2 18 "CoinRails$State" "home" "[I", .methodLink RX2 150 yX2_coinsOfKind, .instanceMethod yX2_coinsOfKind, .selects RX2 yX2_coinsOfKind yX2_coinsOfKind, .initialized RX2, .code yX2_coinsOfKind cX2_coinsOfKind 3 (some .int), .fieldLink RX2 42 "CoinRails$State" "bags" "[I"] ++ wsX20)
def wsX2_aboutRail_r1 : List Cond := [Cond.fieldLink RX2 27 "CoinRails$State" "gap" "[I", Cond.fieldLink RX2 30 "CoinRails$State" "use" "[I", Cond.fieldLink RX2 33 "CoinRails$State" "stuckKind" "[I", Cond.fieldLink RX2 36 "CoinRails$State" "stuckWear" "[I", Cond.fieldLink RX2 39 "CoinRails$State" "rolled" "[I", Cond.methodLink RX2 58 yX2_coinsIn, Cond.instanceMethod yX2_coinsIn, Cond.selects RX2 yX2_coinsIn yX2_coinsIn, Cond.initialized RX2, Cond.code yX2_coinsIn cX2_coinsIn 4 (some .int), Cond.fieldLink RX2 42 "CoinRails$State" "bags" "[I", Cond.methodLink RX2 119 yX2_supposedWorth, Cond.instanceMethod yX2_supposedWorth, Cond.selects RX2 yX2_supposedWorth yX2_supposedWorth, Cond.code yX2_supposedWorth cX2_supposedWorth 3 (some .int), Cond.fieldLink RX2 15 "CoinRails$State" "worth" "[I", Cond.methodLink RX2 128 yX2_kindOfRail, Cond.instanceMethod yX2_kindOfRail, Cond.selects RX2 yX2_kindOfRail yX2_kindOfRail, Cond.code yX2_kindOfRail cX2_kindOfRail 3 (some .int), Cond.fieldLink RX2 45 "CoinRails$State" "kinds" "I", Cond.fieldLink RX2 18 "CoinRails$State" "home" "[I", Cond.methodLink RX2 122 yX2_trueWorth, Cond.instanceMethod yX2_trueWorth]
def wsX2_aboutRail_r2 : List Cond := [Cond.selects RX2 yX2_trueWorth yX2_trueWorth, Cond.code yX2_trueWorth cX2_trueWorth 4 (some .int), Cond.methodLink RX2 150 yX2_coinsOfKind, Cond.instanceMethod yX2_coinsOfKind, Cond.selects RX2 yX2_coinsOfKind yX2_coinsOfKind, Cond.code yX2_coinsOfKind cX2_coinsOfKind 3 (some .int), Cond.methodLink RX2 125 yX2_misfitsIn, Cond.instanceMethod yX2_misfitsIn, Cond.selects RX2 yX2_misfitsIn yX2_misfitsIn, Cond.code yX2_misfitsIn cX2_misfitsIn 4 (some .int)]
def wsX2_aboutRail : List Cond := .code yX2_aboutRail cX2_aboutRail 3 (some .int) :: ((wsX2_aboutRail_r1 ++ wsX2_aboutRail_r2) ++ wsX20)
def wsX2_coinsInBags : List Cond := .code yX2_coinsInBags cX2_coinsInBags 1 (some .int) :: ([.fieldLink RX2 42 "CoinRails$State" "bags" "[I", .methodLink RX2 109 yX2_sum, .static yX2_sum, .initialized RX2, .code yX2_sum cX2_sum 6 (some .int)] ++ wsX20)
def wsX2_stuckRails : List Cond := .code yX2_stuckRails cX2_stuckRails 3 (some .int) :: ([.methodLink RX2 69 yX2_isStuck, .instanceMethod yX2_isStuck, .selects RX2 yX2_isStuck yX2_isStuck, .initialized RX2, .code yX2_isStuck cX2_isStuck 2 (some .boolean), .fieldLink RX2 33 "CoinRails$State" "stuckKind" "[I"] ++ wsX20)
def wsX2_misfits : List Cond := .code yX2_misfits cX2_misfits 3 (some .int) :: ([.methodLink RX2 125 yX2_misfitsIn, .instanceMethod yX2_misfitsIn, .selects RX2 yX2_misfitsIn yX2_misfitsIn, .initialized RX2, .code yX2_misfitsIn cX2_misfitsIn 4 (some .int), .fieldLink RX2 45 "CoinRails$State" "kinds" "I", .fieldLink RX2 18 "CoinRails$State" "home" "[I", .methodLink RX2 150 yX2_coinsOfKind, .instanceMethod yX2_coinsOfKind, .selects RX2 yX2_coinsOfKind yX2_coinsOfKind, .code yX2_coinsOfKind cX2_coinsOfKind 3 (some .int), .fieldLink RX2 42 "CoinRails$State" "bags" "[I"] ++ wsX20)
def wsX2_supposedWorthOfAll : List Cond := .code yX2_supposedWorthOfAll cX2_supposedWorthOfAll 3 (some .int) :: ([.methodLink RX2 119 yX2_supposedWorth, .instanceMethod yX2_supposedWorth, .selects RX2 yX2_supposedWorth yX2_supposedWorth, .initialized RX2, .code yX2_supposedWorth cX2_supposedWorth 3 (some .int), .fieldLink RX2 15 "CoinRails$State" "worth" "[I", .methodLink RX2 128 yX2_kindOfRail, .instanceMethod yX2_kindOfRail, .selects RX2 yX2_kindOfRail yX2_kindOfRail, .code yX2_kindOfRail cX2_kindOfRail 3 (some .int), .fieldLink RX2 45 "CoinRails$State" "kinds" "I", .fieldLink RX2 18 "CoinRails$State" "home" "[I", .methodLink RX2 58 yX2_coinsIn, .instanceMethod yX2_coinsIn, .selects RX2 yX2_coinsIn yX2_coinsIn, .code yX2_coinsIn cX2_coinsIn 4 (some .int), .fieldLink RX2 42 "CoinRails$State" "bags" "[I"] ++ wsX20)
def wsX2_trueWorthOfAll : List Cond := .code yX2_trueWorthOfAll cX2_trueWorthOfAll 3 (some .int) :: ([.methodLink RX2 122 yX2_trueWorth, .instanceMethod yX2_trueWorth, .selects RX2 yX2_trueWorth yX2_trueWorth, .initialized RX2, .code yX2_trueWorth cX2_trueWorth 4 (some .int), .fieldLink RX2 45 "CoinRails$State" "kinds" "I", .fieldLink RX2 15 "CoinRails$State" "worth" "[I", .methodLink RX2 150 yX2_coinsOfKind, .instanceMethod yX2_coinsOfKind, .selects RX2 yX2_coinsOfKind yX2_coinsOfKind, .code yX2_coinsOfKind cX2_coinsOfKind 3 (some .int), .fieldLink RX2 42 "CoinRails$State" "bags" "[I"] ++ wsX20)
def wsX2_fullBags : List Cond := .code yX2_fullBags cX2_fullBags 3 (some .int) :: ([.methodLink RX2 73 yX2_isFull, .instanceMethod yX2_isFull, .selects RX2 yX2_isFull yX2_isFull, .initialized RX2, .code yX2_isFull cX2_isFull 2 (some .boolean), .methodLink RX2 58 yX2_coinsIn, .instanceMethod yX2_coinsIn, .selects RX2 yX2_coinsIn yX2_coinsIn, .code yX2_coinsIn cX2_coinsIn 4 (some .int), .fieldLink RX2 42 "CoinRails$State" "bags" "[I"] ++ wsX20)
def wsX2_aboutAll_r1 : List Cond := [Cond.fieldLink RX2 45 "CoinRails$State" "kinds" "I", Cond.fieldLink RX2 21 "CoinRails$State" "fed" "[I", Cond.fieldLink RX2 24 "CoinRails$State" "rejects" "[I", Cond.fieldLink RX2 55 "CoinRails$State" "takenAway" "I", Cond.methodLink RX2 109 yX2_sum, Cond.static yX2_sum, Cond.initialized RX2, Cond.code yX2_sum cX2_sum 6 (some .int), Cond.methodLink RX2 131 yX2_coinsInBags, Cond.instanceMethod yX2_coinsInBags, Cond.selects RX2 yX2_coinsInBags yX2_coinsInBags, Cond.code yX2_coinsInBags cX2_coinsInBags 1 (some .int), Cond.fieldLink RX2 42 "CoinRails$State" "bags" "[I", Cond.methodLink RX2 135 yX2_stuckRails, Cond.instanceMethod yX2_stuckRails, Cond.selects RX2 yX2_stuckRails yX2_stuckRails, Cond.code yX2_stuckRails cX2_stuckRails 3 (some .int), Cond.methodLink RX2 69 yX2_isStuck, Cond.instanceMethod yX2_isStuck, Cond.selects RX2 yX2_isStuck yX2_isStuck, Cond.code yX2_isStuck cX2_isStuck 2 (some .boolean), Cond.fieldLink RX2 33 "CoinRails$State" "stuckKind" "[I", Cond.methodLink RX2 138 yX2_misfits, Cond.instanceMethod yX2_misfits]
def wsX2_aboutAll_r2 : List Cond := [Cond.selects RX2 yX2_misfits yX2_misfits, Cond.code yX2_misfits cX2_misfits 3 (some .int), Cond.methodLink RX2 125 yX2_misfitsIn, Cond.instanceMethod yX2_misfitsIn, Cond.selects RX2 yX2_misfitsIn yX2_misfitsIn, Cond.code yX2_misfitsIn cX2_misfitsIn 4 (some .int), Cond.fieldLink RX2 18 "CoinRails$State" "home" "[I", Cond.methodLink RX2 150 yX2_coinsOfKind, Cond.instanceMethod yX2_coinsOfKind, Cond.selects RX2 yX2_coinsOfKind yX2_coinsOfKind, Cond.code yX2_coinsOfKind cX2_coinsOfKind 3 (some .int), Cond.methodLink RX2 141 yX2_supposedWorthOfAll, Cond.instanceMethod yX2_supposedWorthOfAll, Cond.selects RX2 yX2_supposedWorthOfAll yX2_supposedWorthOfAll, Cond.code yX2_supposedWorthOfAll cX2_supposedWorthOfAll 3 (some .int), Cond.methodLink RX2 119 yX2_supposedWorth, Cond.instanceMethod yX2_supposedWorth, Cond.selects RX2 yX2_supposedWorth yX2_supposedWorth, Cond.code yX2_supposedWorth cX2_supposedWorth 3 (some .int), Cond.fieldLink RX2 15 "CoinRails$State" "worth" "[I", Cond.methodLink RX2 128 yX2_kindOfRail, Cond.instanceMethod yX2_kindOfRail, Cond.selects RX2 yX2_kindOfRail yX2_kindOfRail, Cond.code yX2_kindOfRail cX2_kindOfRail 3 (some .int)]
def wsX2_aboutAll_r3 : List Cond := [Cond.methodLink RX2 58 yX2_coinsIn, Cond.instanceMethod yX2_coinsIn, Cond.selects RX2 yX2_coinsIn yX2_coinsIn, Cond.code yX2_coinsIn cX2_coinsIn 4 (some .int), Cond.methodLink RX2 144 yX2_trueWorthOfAll, Cond.instanceMethod yX2_trueWorthOfAll, Cond.selects RX2 yX2_trueWorthOfAll yX2_trueWorthOfAll, Cond.code yX2_trueWorthOfAll cX2_trueWorthOfAll 3 (some .int), Cond.methodLink RX2 122 yX2_trueWorth, Cond.instanceMethod yX2_trueWorth, Cond.selects RX2 yX2_trueWorth yX2_trueWorth, Cond.code yX2_trueWorth cX2_trueWorth 4 (some .int), Cond.methodLink RX2 147 yX2_fullBags, Cond.instanceMethod yX2_fullBags, Cond.selects RX2 yX2_fullBags yX2_fullBags, Cond.code yX2_fullBags cX2_fullBags 3 (some .int), Cond.methodLink RX2 73 yX2_isFull, Cond.instanceMethod yX2_isFull, Cond.selects RX2 yX2_isFull yX2_isFull, Cond.code yX2_isFull cX2_isFull 2 (some .boolean)]
def wsX2_aboutAll : List Cond := .code yX2_aboutAll cX2_aboutAll 2 (some .int) :: ((wsX2_aboutAll_r1 ++ (wsX2_aboutAll_r2 ++ wsX2_aboutAll_r3)) ++ wsX20)
def wsX2_fallsHome_r1 : List Cond := [Cond.fieldLink RX2 18 "CoinRails$State" "home" "[I", Cond.methodLink RX2 84 yX2_placeFor, Cond.instanceMethod yX2_placeFor, Cond.selects RX2 yX2_placeFor yX2_placeFor, Cond.initialized RX2, Cond.code yX2_placeFor cX2_placeFor 6 (some .int), Cond.fieldLink RX2 27 "CoinRails$State" "gap" "[I", Cond.methodLink RX2 62 yX2_wearAt, Cond.instanceMethod yX2_wearAt, Cond.selects RX2 yX2_wearAt yX2_wearAt, Cond.code yX2_wearAt cX2_wearAt 3 (some .int), Cond.methodLink RX2 81 Lib.Math.min.name, Cond.static Lib.Math.min.name, Cond.initialized "java/lang/Math", Cond.code Lib.Math.min.name Lib.Math.min.code 2 (some .int), Cond.methodLink RX2 66 yX2_size, Cond.instanceMethod yX2_size, Cond.selects RX2 yX2_size yX2_size, Cond.code yX2_size cX2_size 3 (some .int), Cond.fieldLink RX2 9 "CoinRails$State" "diameter" "[I", Cond.methodLink RX2 76 Lib.Math.max.name, Cond.static Lib.Math.max.name, Cond.code Lib.Math.max.name Lib.Math.max.code 2 (some .int), Cond.methodLink RX2 69 yX2_isStuck]
def wsX2_fallsHome_r2 : List Cond := [Cond.instanceMethod yX2_isStuck, Cond.selects RX2 yX2_isStuck yX2_isStuck, Cond.code yX2_isStuck cX2_isStuck 2 (some .boolean), Cond.fieldLink RX2 33 "CoinRails$State" "stuckKind" "[I", Cond.methodLink RX2 73 yX2_isFull, Cond.instanceMethod yX2_isFull, Cond.selects RX2 yX2_isFull yX2_isFull, Cond.code yX2_isFull cX2_isFull 2 (some .boolean), Cond.methodLink RX2 58 yX2_coinsIn, Cond.instanceMethod yX2_coinsIn, Cond.selects RX2 yX2_coinsIn yX2_coinsIn, Cond.code yX2_coinsIn cX2_coinsIn 4 (some .int), Cond.fieldLink RX2 42 "CoinRails$State" "bags" "[I"]
def wsX2_fallsHome : List Cond := .code yX2_fallsHome cX2_fallsHome 3 (some .boolean) :: ((wsX2_fallsHome_r1 ++ wsX2_fallsHome_r2) ++ wsX20)
def wsX2_mostFittingWear_r1 : List Cond := [Cond.methodLink RX2 156 yX2_fallsHome, Cond.instanceMethod yX2_fallsHome, Cond.selects RX2 yX2_fallsHome yX2_fallsHome, Cond.initialized RX2, Cond.code yX2_fallsHome cX2_fallsHome 3 (some .boolean), Cond.fieldLink RX2 18 "CoinRails$State" "home" "[I", Cond.methodLink RX2 84 yX2_placeFor, Cond.instanceMethod yX2_placeFor, Cond.selects RX2 yX2_placeFor yX2_placeFor, Cond.code yX2_placeFor cX2_placeFor 6 (some .int), Cond.fieldLink RX2 27 "CoinRails$State" "gap" "[I", Cond.methodLink RX2 62 yX2_wearAt, Cond.instanceMethod yX2_wearAt, Cond.selects RX2 yX2_wearAt yX2_wearAt, Cond.code yX2_wearAt cX2_wearAt 3 (some .int), Cond.methodLink RX2 81 Lib.Math.min.name, Cond.static Lib.Math.min.name, Cond.initialized "java/lang/Math", Cond.code Lib.Math.min.name Lib.Math.min.code 2 (some .int), Cond.methodLink RX2 66 yX2_size, Cond.instanceMethod yX2_size, Cond.selects RX2 yX2_size yX2_size, Cond.code yX2_size cX2_size 3 (some .int), Cond.fieldLink RX2 9 "CoinRails$State" "diameter" "[I"]
def wsX2_mostFittingWear_r2 : List Cond := [Cond.methodLink RX2 76 Lib.Math.max.name, Cond.static Lib.Math.max.name, Cond.code Lib.Math.max.name Lib.Math.max.code 2 (some .int), Cond.methodLink RX2 69 yX2_isStuck, Cond.instanceMethod yX2_isStuck, Cond.selects RX2 yX2_isStuck yX2_isStuck, Cond.code yX2_isStuck cX2_isStuck 2 (some .boolean), Cond.fieldLink RX2 33 "CoinRails$State" "stuckKind" "[I", Cond.methodLink RX2 73 yX2_isFull, Cond.instanceMethod yX2_isFull, Cond.selects RX2 yX2_isFull yX2_isFull, Cond.code yX2_isFull cX2_isFull 2 (some .boolean), Cond.methodLink RX2 58 yX2_coinsIn, Cond.instanceMethod yX2_coinsIn, Cond.selects RX2 yX2_coinsIn yX2_coinsIn, Cond.code yX2_coinsIn cX2_coinsIn 4 (some .int), Cond.fieldLink RX2 42 "CoinRails$State" "bags" "[I"]
def wsX2_mostFittingWear : List Cond := .code yX2_mostFittingWear cX2_mostFittingWear 4 (some .int) :: ((wsX2_mostFittingWear_r1 ++ wsX2_mostFittingWear_r2) ++ wsX20)
def wsX2_leastSortingGap : List Cond := .code yX2_leastSortingGap cX2_leastSortingGap 5 (some .int) :: ([.fieldLink RX2 45 "CoinRails$State" "kinds" "I", .fieldLink RX2 18 "CoinRails$State" "home" "[I", .fieldLink RX2 9 "CoinRails$State" "diameter" "[I", .methodLink RX2 76 Lib.Math.max.name, .static Lib.Math.max.name, .initialized "java/lang/Math", .code Lib.Math.max.name Lib.Math.max.code 2 (some .int), .methodLink RX2 81 Lib.Math.min.name, .static Lib.Math.min.name, .code Lib.Math.min.name Lib.Math.min.code 2 (some .int)] ++ wsX20)
def wsX2_coinsUntilAstray_r1 : List Cond := [Cond.fieldLink RX2 18 "CoinRails$State" "home" "[I", Cond.methodLink RX2 156 yX2_fallsHome, Cond.instanceMethod yX2_fallsHome, Cond.selects RX2 yX2_fallsHome yX2_fallsHome, Cond.initialized RX2, Cond.code yX2_fallsHome cX2_fallsHome 3 (some .boolean), Cond.methodLink RX2 84 yX2_placeFor, Cond.instanceMethod yX2_placeFor, Cond.selects RX2 yX2_placeFor yX2_placeFor, Cond.code yX2_placeFor cX2_placeFor 6 (some .int), Cond.fieldLink RX2 27 "CoinRails$State" "gap" "[I", Cond.methodLink RX2 62 yX2_wearAt, Cond.instanceMethod yX2_wearAt, Cond.selects RX2 yX2_wearAt yX2_wearAt, Cond.code yX2_wearAt cX2_wearAt 3 (some .int), Cond.methodLink RX2 81 Lib.Math.min.name, Cond.static Lib.Math.min.name, Cond.initialized "java/lang/Math", Cond.code Lib.Math.min.name Lib.Math.min.code 2 (some .int), Cond.methodLink RX2 66 yX2_size, Cond.instanceMethod yX2_size, Cond.selects RX2 yX2_size yX2_size, Cond.code yX2_size cX2_size 3 (some .int), Cond.fieldLink RX2 9 "CoinRails$State" "diameter" "[I"]
def wsX2_coinsUntilAstray_r2 : List Cond := [Cond.methodLink RX2 76 Lib.Math.max.name, Cond.static Lib.Math.max.name, Cond.code Lib.Math.max.name Lib.Math.max.code 2 (some .int), Cond.methodLink RX2 69 yX2_isStuck, Cond.instanceMethod yX2_isStuck, Cond.selects RX2 yX2_isStuck yX2_isStuck, Cond.code yX2_isStuck cX2_isStuck 2 (some .boolean), Cond.fieldLink RX2 33 "CoinRails$State" "stuckKind" "[I", Cond.methodLink RX2 73 yX2_isFull, Cond.instanceMethod yX2_isFull, Cond.selects RX2 yX2_isFull yX2_isFull, Cond.code yX2_isFull cX2_isFull 2 (some .boolean), Cond.methodLink RX2 58 yX2_coinsIn, Cond.instanceMethod yX2_coinsIn, Cond.selects RX2 yX2_coinsIn yX2_coinsIn, Cond.code yX2_coinsIn cX2_coinsIn 4 (some .int), Cond.fieldLink RX2 42 "CoinRails$State" "bags" "[I"]
def wsX2_coinsUntilAstray : List Cond := .code yX2_coinsUntilAstray cX2_coinsUntilAstray 2 (some .int) :: ((wsX2_coinsUntilAstray_r1 ++ wsX2_coinsUntilAstray_r2) ++ wsX20)
def wsX3_init_r1 : List Cond := [Cond.methodLink RX3 3 objectInit, Cond.instanceMethod objectInit, Cond.code objectInit ⟨#[0xb1]⟩ 1 none, Cond.classLink RX3 9 RX2, Cond.instantiable RX2 13, Cond.initialized RX2, Cond.fieldLink RX3 12 "CoinRails" "now" "LCoinRails$State;", Cond.classLink RX3 16 RX1, Cond.instantiable RX1 3, Cond.initialized RX1, Cond.fieldLink RX3 19 "CoinRails" "history" "LCoinRails$History;", Cond.classLink RX3 23 RX0, Cond.instantiable RX0 5, Cond.initialized RX0, Cond.fieldLink RX3 26 "CoinRails" "text" "LCoinRails$CoinText;", Cond.methodLink RX3 11 yX2_init, Cond.instanceMethod yX2_init, Cond.code yX2_init cX2_init 2 none, Cond.methodLink RX2 3 objectInit, Cond.arrayClass .int, Cond.fieldLink RX2 9 "CoinRails$State" "diameter" "[I", Cond.fieldLink RX2 15 "CoinRails$State" "worth" "[I", Cond.fieldLink RX2 18 "CoinRails$State" "home" "[I", Cond.fieldLink RX2 21 "CoinRails$State" "fed" "[I"]
def wsX3_init_r2 : List Cond := [Cond.fieldLink RX2 24 "CoinRails$State" "rejects" "[I", Cond.fieldLink RX2 27 "CoinRails$State" "gap" "[I", Cond.fieldLink RX2 30 "CoinRails$State" "use" "[I", Cond.fieldLink RX2 33 "CoinRails$State" "stuckKind" "[I", Cond.fieldLink RX2 36 "CoinRails$State" "stuckWear" "[I", Cond.fieldLink RX2 39 "CoinRails$State" "rolled" "[I", Cond.fieldLink RX2 42 "CoinRails$State" "bags" "[I", Cond.methodLink RX3 18 yX1_init, Cond.instanceMethod yX1_init, Cond.code yX1_init cX1_init 2 none, Cond.methodLink RX1 3 objectInit, Cond.classLink RX1 9 RX2, Cond.fieldLink RX1 11 "CoinRails$History" "ring" "[LCoinRails$State;", Cond.methodLink RX1 17 yX2_init, Cond.instanceMethod yX0_init, Cond.code yX0_init cX0_init 1 none, Cond.methodLink RX0 3 objectInit, Cond.fieldLink RX0 9 "CoinRails$CoinText" "bytes" "[I", Cond.fieldLink RX0 15 "CoinRails$CoinText" "kindOf" "[I", Cond.fieldLink RX0 18 "CoinRails$CoinText" "wearOf" "[I"]
def wsX3_init : List Cond := .code yX3_init cX3_init 1 none :: ((wsX3_init_r1 ++ wsX3_init_r2) ++ wsX20 ++ wsX30 ++ wsX10 ++ wsX00)
def wsX3_checkArgument : List Cond := .code yX3_checkArgument cX3_checkArgument 3 none :: ([.classLink RX3 182 "java/lang/IllegalArgumentException", .initialized "java/lang/IllegalArgumentException"] ++ (vx_atS RX3 186 "java/lang/IllegalArgumentException" ["java/lang/RuntimeException", "java/lang/Exception"]).filter goodWord)
def wsX3_addKind_r1 : List Cond := [Cond.classLink RX3 38 "java/lang/IllegalStateException", Cond.initialized "java/lang/IllegalStateException", Cond.fieldLink RX3 12 "CoinRails" "now" "LCoinRails$State;", Cond.fieldLink RX3 34 "CoinRails$State" "kinds" "I", Cond.fieldLink RX3 19 "CoinRails" "history" "LCoinRails$History;", Cond.methodLink RX3 30 yX3_checkArgument, Cond.static yX3_checkArgument, Cond.initialized RX3, Cond.code yX3_checkArgument cX3_checkArgument 3 none, Cond.classLink RX3 182 "java/lang/IllegalArgumentException", Cond.initialized "java/lang/IllegalArgumentException", Cond.methodLink RX3 45 yX1_save, Cond.instanceMethod yX1_save, Cond.selects RX1 yX1_save yX1_save, Cond.initialized RX1, Cond.code yX1_save cX1_save 2 none, Cond.fieldLink RX1 11 "CoinRails$History" "ring" "[LCoinRails$State;", Cond.fieldLink RX1 18 "CoinRails$History" "next" "I", Cond.fieldLink RX1 26 "CoinRails$History" "states" "I", Cond.methodLink RX1 29 Lib.Math.min.name, Cond.static Lib.Math.min.name, Cond.initialized "java/lang/Math", Cond.code Lib.Math.min.name Lib.Math.min.code 2 (some .int), Cond.methodLink RX1 22 yX2_copyFrom]
def wsX3_addKind_r2 : List Cond := [Cond.instanceMethod yX2_copyFrom, Cond.selects RX2 yX2_copyFrom yX2_copyFrom, Cond.initialized RX2, Cond.code yX2_copyFrom cX2_copyFrom 2 none, Cond.fieldLink RX2 45 "CoinRails$State" "kinds" "I", Cond.fieldLink RX2 9 "CoinRails$State" "diameter" "[I", Cond.methodLink RX2 49 arraycopyName, Cond.native arraycopyName, Cond.static arraycopyName, Cond.initialized "java/lang/System", Cond.fieldLink RX2 15 "CoinRails$State" "worth" "[I", Cond.fieldLink RX2 18 "CoinRails$State" "home" "[I", Cond.fieldLink RX2 21 "CoinRails$State" "fed" "[I", Cond.fieldLink RX2 24 "CoinRails$State" "rejects" "[I", Cond.fieldLink RX2 27 "CoinRails$State" "gap" "[I", Cond.fieldLink RX2 30 "CoinRails$State" "use" "[I", Cond.fieldLink RX2 33 "CoinRails$State" "stuckKind" "[I", Cond.fieldLink RX2 36 "CoinRails$State" "stuckWear" "[I", Cond.fieldLink RX2 39 "CoinRails$State" "rolled" "[I", Cond.fieldLink RX2 42 "CoinRails$State" "bags" "[I", Cond.fieldLink RX2 55 "CoinRails$State" "takenAway" "I", Cond.methodLink RX3 49 yX2_putKind, Cond.instanceMethod yX2_putKind, Cond.selects RX2 yX2_putKind yX2_putKind]
def wsX3_addKind_r3 : List Cond := [Cond.code yX2_putKind cX2_putKind 5 (some .int)]
def wsX3_addKind : List Cond := .code yX3_addKind cX3_addKind 4 (some .int) :: ((wsX3_addKind_r1 ++ (wsX3_addKind_r2 ++ wsX3_addKind_r3)) ++ wsX30 ++ wsX20 ++ wsX10 ++ (vx_atS RX3 42 "java/lang/IllegalStateException" ["java/lang/RuntimeException", "java/lang/Exception"]).filter goodWord ++ (vx_atS RX3 186 "java/lang/IllegalArgumentException" ["java/lang/RuntimeException", "java/lang/Exception"]).filter goodWord)
def wsX3_isRail : List Cond := .code yX3_isRail cX3_isRail 1 (some .boolean) :: ([])
def wsX3_checkRail : List Cond := .code yX3_checkRail cX3_checkRail 1 none :: ([.classLink RX3 175 "java/lang/IndexOutOfBoundsException", .initialized "java/lang/IndexOutOfBoundsException", .methodLink RX3 152 yX3_isRail, .static yX3_isRail, .initialized RX3, .code yX3_isRail cX3_isRail 1 (some .boolean)] ++ (vx_atS RX3 179 "java/lang/IndexOutOfBoundsException" ["java/lang/RuntimeException", "java/lang/Exception"]).filter goodWord)
def wsX3_setGap_r1 : List Cond := [Cond.classLink RX3 38 "java/lang/IllegalStateException", Cond.initialized "java/lang/IllegalStateException", Cond.fieldLink RX3 12 "CoinRails" "now" "LCoinRails$State;", Cond.fieldLink RX3 19 "CoinRails" "history" "LCoinRails$History;", Cond.fieldLink RX3 70 "CoinRails$State" "gap" "[I", Cond.fieldLink RX3 73 "CoinRails$State" "use" "[I", Cond.methodLink RX3 61 yX3_checkRail, Cond.static yX3_checkRail, Cond.initialized RX3, Cond.code yX3_checkRail cX3_checkRail 1 none, Cond.classLink RX3 175 "java/lang/IndexOutOfBoundsException", Cond.initialized "java/lang/IndexOutOfBoundsException", Cond.methodLink RX3 152 yX3_isRail, Cond.static yX3_isRail, Cond.code yX3_isRail cX3_isRail 1 (some .boolean), Cond.methodLink RX3 30 yX3_checkArgument, Cond.static yX3_checkArgument, Cond.code yX3_checkArgument cX3_checkArgument 3 none, Cond.classLink RX3 182 "java/lang/IllegalArgumentException", Cond.initialized "java/lang/IllegalArgumentException", Cond.methodLink RX3 64 yX2_isStuck, Cond.instanceMethod yX2_isStuck, Cond.selects RX2 yX2_isStuck yX2_isStuck, Cond.initialized RX2]
def wsX3_setGap_r2 : List Cond := [Cond.code yX2_isStuck cX2_isStuck 2 (some .boolean), Cond.fieldLink RX2 33 "CoinRails$State" "stuckKind" "[I", Cond.methodLink RX3 45 yX1_save, Cond.instanceMethod yX1_save, Cond.selects RX1 yX1_save yX1_save, Cond.initialized RX1, Cond.code yX1_save cX1_save 2 none, Cond.fieldLink RX1 11 "CoinRails$History" "ring" "[LCoinRails$State;", Cond.fieldLink RX1 18 "CoinRails$History" "next" "I", Cond.fieldLink RX1 26 "CoinRails$History" "states" "I", Cond.methodLink RX1 29 Lib.Math.min.name, Cond.static Lib.Math.min.name, Cond.initialized "java/lang/Math", Cond.code Lib.Math.min.name Lib.Math.min.code 2 (some .int), Cond.methodLink RX1 22 yX2_copyFrom, Cond.instanceMethod yX2_copyFrom, Cond.selects RX2 yX2_copyFrom yX2_copyFrom, Cond.code yX2_copyFrom cX2_copyFrom 2 none, Cond.fieldLink RX2 45 "CoinRails$State" "kinds" "I", Cond.fieldLink RX2 9 "CoinRails$State" "diameter" "[I", Cond.methodLink RX2 49 arraycopyName, Cond.native arraycopyName, Cond.static arraycopyName, Cond.initialized "java/lang/System"]
def wsX3_setGap_r3 : List Cond := [Cond.fieldLink RX2 15 "CoinRails$State" "worth" "[I", Cond.fieldLink RX2 18 "CoinRails$State" "home" "[I", Cond.fieldLink RX2 21 "CoinRails$State" "fed" "[I", Cond.fieldLink RX2 24 "CoinRails$State" "rejects" "[I", Cond.fieldLink RX2 27 "CoinRails$State" "gap" "[I", Cond.fieldLink RX2 30 "CoinRails$State" "use" "[I", Cond.fieldLink RX2 36 "CoinRails$State" "stuckWear" "[I", Cond.fieldLink RX2 39 "CoinRails$State" "rolled" "[I", Cond.fieldLink RX2 42 "CoinRails$State" "bags" "[I", Cond.fieldLink RX2 55 "CoinRails$State" "takenAway" "I"]
def wsX3_setGap : List Cond := .code yX3_setGap cX3_setGap 4 (some .int) :: ((wsX3_setGap_r1 ++ (wsX3_setGap_r2 ++ wsX3_setGap_r3)) ++ wsX30 ++ wsX20 ++ wsX10 ++ (vx_atS RX3 42 "java/lang/IllegalStateException" ["java/lang/RuntimeException", "java/lang/Exception"]).filter goodWord ++ (vx_atS RX3 179 "java/lang/IndexOutOfBoundsException" ["java/lang/RuntimeException", "java/lang/Exception"]).filter goodWord ++ (vx_atS RX3 186 "java/lang/IllegalArgumentException" ["java/lang/RuntimeException", "java/lang/Exception"]).filter goodWord)
def wsX3_checkKind : List Cond := .code yX3_checkKind cX3_checkKind 2 none :: ([.classLink RX3 175 "java/lang/IndexOutOfBoundsException", .initialized "java/lang/IndexOutOfBoundsException", .fieldLink RX3 12 "CoinRails" "now" "LCoinRails$State;", .fieldLink RX3 34 "CoinRails$State" "kinds" "I"] ++ wsX30 ++ wsX20 ++ (vx_atS RX3 179 "java/lang/IndexOutOfBoundsException" ["java/lang/RuntimeException", "java/lang/Exception"]).filter goodWord)
def wsX3_feed_r1 : List Cond := [Cond.fieldLink RX3 19 "CoinRails" "history" "LCoinRails$History;", Cond.fieldLink RX3 12 "CoinRails" "now" "LCoinRails$State;", Cond.methodLink RX3 53 yX3_checkKind, Cond.instanceMethod yX3_checkKind, Cond.selects RX3 yX3_checkKind yX3_checkKind, Cond.initialized RX3, Cond.code yX3_checkKind cX3_checkKind 2 none, Cond.classLink RX3 175 "java/lang/IndexOutOfBoundsException", Cond.initialized "java/lang/IndexOutOfBoundsException", Cond.fieldLink RX3 34 "CoinRails$State" "kinds" "I", Cond.methodLink RX3 30 yX3_checkArgument, Cond.static yX3_checkArgument, Cond.code yX3_checkArgument cX3_checkArgument 3 none, Cond.classLink RX3 182 "java/lang/IllegalArgumentException", Cond.initialized "java/lang/IllegalArgumentException", Cond.methodLink RX3 45 yX1_save, Cond.instanceMethod yX1_save, Cond.selects RX1 yX1_save yX1_save, Cond.initialized RX1, Cond.code yX1_save cX1_save 2 none, Cond.fieldLink RX1 11 "CoinRails$History" "ring" "[LCoinRails$State;", Cond.fieldLink RX1 18 "CoinRails$History" "next" "I", Cond.fieldLink RX1 26 "CoinRails$History" "states" "I", Cond.methodLink RX1 29 Lib.Math.min.name]
def wsX3_feed_r2 : List Cond := [Cond.static Lib.Math.min.name, Cond.initialized "java/lang/Math", Cond.code Lib.Math.min.name Lib.Math.min.code 2 (some .int), Cond.methodLink RX1 22 yX2_copyFrom, Cond.instanceMethod yX2_copyFrom, Cond.selects RX2 yX2_copyFrom yX2_copyFrom, Cond.initialized RX2, Cond.code yX2_copyFrom cX2_copyFrom 2 none, Cond.fieldLink RX2 45 "CoinRails$State" "kinds" "I", Cond.fieldLink RX2 9 "CoinRails$State" "diameter" "[I", Cond.methodLink RX2 49 arraycopyName, Cond.native arraycopyName, Cond.static arraycopyName, Cond.initialized "java/lang/System", Cond.fieldLink RX2 15 "CoinRails$State" "worth" "[I", Cond.fieldLink RX2 18 "CoinRails$State" "home" "[I", Cond.fieldLink RX2 21 "CoinRails$State" "fed" "[I", Cond.fieldLink RX2 24 "CoinRails$State" "rejects" "[I", Cond.fieldLink RX2 27 "CoinRails$State" "gap" "[I", Cond.fieldLink RX2 30 "CoinRails$State" "use" "[I", Cond.fieldLink RX2 33 "CoinRails$State" "stuckKind" "[I", Cond.fieldLink RX2 36 "CoinRails$State" "stuckWear" "[I", Cond.fieldLink RX2 39 "CoinRails$State" "rolled" "[I", Cond.fieldLink RX2 42 "CoinRails$State" "bags" "[I"]
def wsX3_feed_r3 : List Cond := [Cond.fieldLink RX2 55 "CoinRails$State" "takenAway" "I", Cond.methodLink RX3 76 yX2_putCoin, Cond.instanceMethod yX2_putCoin, Cond.selects RX2 yX2_putCoin yX2_putCoin, Cond.code yX2_putCoin cX2_putCoin 5 (some .int), Cond.methodLink RX2 84 yX2_placeFor, Cond.instanceMethod yX2_placeFor, Cond.selects RX2 yX2_placeFor yX2_placeFor, Cond.code yX2_placeFor cX2_placeFor 6 (some .int), Cond.methodLink RX2 62 yX2_wearAt, Cond.instanceMethod yX2_wearAt, Cond.selects RX2 yX2_wearAt yX2_wearAt, Cond.code yX2_wearAt cX2_wearAt 3 (some .int), Cond.methodLink RX2 81 Lib.Math.min.name, Cond.methodLink RX2 66 yX2_size, Cond.instanceMethod yX2_size, Cond.selects RX2 yX2_size yX2_size, Cond.code yX2_size cX2_size 3 (some .int), Cond.methodLink RX2 76 Lib.Math.max.name, Cond.static Lib.Math.max.name, Cond.code Lib.Math.max.name Lib.Math.max.code 2 (some .int), Cond.methodLink RX2 69 yX2_isStuck, Cond.instanceMethod yX2_isStuck, Cond.selects RX2 yX2_isStuck yX2_isStuck]
def wsX3_feed_r4 : List Cond := [Cond.code yX2_isStuck cX2_isStuck 2 (some .boolean), Cond.methodLink RX2 73 yX2_isFull, Cond.instanceMethod yX2_isFull, Cond.selects RX2 yX2_isFull yX2_isFull, Cond.code yX2_isFull cX2_isFull 2 (some .boolean), Cond.methodLink RX2 58 yX2_coinsIn, Cond.instanceMethod yX2_coinsIn, Cond.selects RX2 yX2_coinsIn yX2_coinsIn, Cond.code yX2_coinsIn cX2_coinsIn 4 (some .int), Cond.methodLink RX2 87 yX2_rollOver, Cond.instanceMethod yX2_rollOver, Cond.selects RX2 yX2_rollOver yX2_rollOver, Cond.code yX2_rollOver cX2_rollOver 3 none, Cond.methodLink RX2 91 yX2_useRail, Cond.instanceMethod yX2_useRail, Cond.selects RX2 yX2_useRail yX2_useRail, Cond.code yX2_useRail cX2_useRail 2 none]
def wsX3_feed : List Cond := .code yX3_feed cX3_feed 3 (some .int) :: ((wsX3_feed_r1 ++ (wsX3_feed_r2 ++ (wsX3_feed_r3 ++ wsX3_feed_r4))) ++ wsX30 ++ wsX20 ++ wsX10 ++ (vx_atS RX3 179 "java/lang/IndexOutOfBoundsException" ["java/lang/RuntimeException", "java/lang/Exception"]).filter goodWord ++ (vx_atS RX3 186 "java/lang/IllegalArgumentException" ["java/lang/RuntimeException", "java/lang/Exception"]).filter goodWord)
def wsX3_feedSome_r1 : List Cond := [Cond.classLink RX3 38 "java/lang/IllegalStateException", Cond.initialized "java/lang/IllegalStateException", Cond.constant RX3 80 (999999), Cond.fieldLink RX3 12 "CoinRails" "now" "LCoinRails$State;", Cond.fieldLink RX3 34 "CoinRails$State" "kinds" "I", Cond.fieldLink RX3 19 "CoinRails" "history" "LCoinRails$History;", Cond.methodLink RX3 30 yX3_checkArgument, Cond.static yX3_checkArgument, Cond.initialized RX3, Cond.code yX3_checkArgument cX3_checkArgument 3 none, Cond.classLink RX3 182 "java/lang/IllegalArgumentException", Cond.initialized "java/lang/IllegalArgumentException", Cond.methodLink RX3 45 yX1_save, Cond.instanceMethod yX1_save, Cond.selects RX1 yX1_save yX1_save, Cond.initialized RX1, Cond.code yX1_save cX1_save 2 none, Cond.fieldLink RX1 11 "CoinRails$History" "ring" "[LCoinRails$State;", Cond.fieldLink RX1 18 "CoinRails$History" "next" "I", Cond.fieldLink RX1 26 "CoinRails$History" "states" "I", Cond.methodLink RX1 29 Lib.Math.min.name, Cond.static Lib.Math.min.name, Cond.initialized "java/lang/Math", Cond.code Lib.Math.min.name Lib.Math.min.code 2 (some .int)]
def wsX3_feedSome_r2 : List Cond := [Cond.methodLink RX1 22 yX2_copyFrom, Cond.instanceMethod yX2_copyFrom, Cond.selects RX2 yX2_copyFrom yX2_copyFrom, Cond.initialized RX2, Cond.code yX2_copyFrom cX2_copyFrom 2 none, Cond.fieldLink RX2 45 "CoinRails$State" "kinds" "I", Cond.fieldLink RX2 9 "CoinRails$State" "diameter" "[I", Cond.methodLink RX2 49 arraycopyName, Cond.native arraycopyName, Cond.static arraycopyName, Cond.initialized "java/lang/System", Cond.fieldLink RX2 15 "CoinRails$State" "worth" "[I", Cond.fieldLink RX2 18 "CoinRails$State" "home" "[I", Cond.fieldLink RX2 21 "CoinRails$State" "fed" "[I", Cond.fieldLink RX2 24 "CoinRails$State" "rejects" "[I", Cond.fieldLink RX2 27 "CoinRails$State" "gap" "[I", Cond.fieldLink RX2 30 "CoinRails$State" "use" "[I", Cond.fieldLink RX2 33 "CoinRails$State" "stuckKind" "[I", Cond.fieldLink RX2 36 "CoinRails$State" "stuckWear" "[I", Cond.fieldLink RX2 39 "CoinRails$State" "rolled" "[I", Cond.fieldLink RX2 42 "CoinRails$State" "bags" "[I", Cond.fieldLink RX2 55 "CoinRails$State" "takenAway" "I", Cond.methodLink RX3 83 yX2_putCoinsByChance, Cond.instanceMethod yX2_putCoinsByChance]
def wsX3_feedSome_r3 : List Cond := [Cond.selects RX2 yX2_putCoinsByChance yX2_putCoinsByChance, Cond.code yX2_putCoinsByChance cX2_putCoinsByChance 9 (some .int), Cond.constantLong RX2 94 (1103515245), Cond.constantLong RX2 96 (12345), Cond.constantLong RX2 98 (2147483648), Cond.constantLong RX2 100 (65536), Cond.constantLong RX2 102 (1048576), Cond.constantLong RX2 104 (40), Cond.methodLink RX2 106 yX2_putCoin, Cond.instanceMethod yX2_putCoin, Cond.selects RX2 yX2_putCoin yX2_putCoin, Cond.code yX2_putCoin cX2_putCoin 5 (some .int), Cond.methodLink RX2 84 yX2_placeFor, Cond.instanceMethod yX2_placeFor, Cond.selects RX2 yX2_placeFor yX2_placeFor, Cond.code yX2_placeFor cX2_placeFor 6 (some .int), Cond.methodLink RX2 62 yX2_wearAt, Cond.instanceMethod yX2_wearAt, Cond.selects RX2 yX2_wearAt yX2_wearAt, Cond.code yX2_wearAt cX2_wearAt 3 (some .int), Cond.methodLink RX2 81 Lib.Math.min.name, Cond.methodLink RX2 66 yX2_size, Cond.instanceMethod yX2_size, Cond.selects RX2 yX2_size yX2_size]
def wsX3_feedSome_r4 : List Cond := [Cond.code yX2_size cX2_size 3 (some .int), Cond.methodLink RX2 76 Lib.Math.max.name, Cond.static Lib.Math.max.name, Cond.code Lib.Math.max.name Lib.Math.max.code 2 (some .int), Cond.methodLink RX2 69 yX2_isStuck, Cond.instanceMethod yX2_isStuck, Cond.selects RX2 yX2_isStuck yX2_isStuck, Cond.code yX2_isStuck cX2_isStuck 2 (some .boolean), Cond.methodLink RX2 73 yX2_isFull, Cond.instanceMethod yX2_isFull, Cond.selects RX2 yX2_isFull yX2_isFull, Cond.code yX2_isFull cX2_isFull 2 (some .boolean), Cond.methodLink RX2 58 yX2_coinsIn, Cond.instanceMethod yX2_coinsIn, Cond.selects RX2 yX2_coinsIn yX2_coinsIn, Cond.code yX2_coinsIn cX2_coinsIn 4 (some .int), Cond.methodLink RX2 87 yX2_rollOver, Cond.instanceMethod yX2_rollOver, Cond.selects RX2 yX2_rollOver yX2_rollOver, Cond.code yX2_rollOver cX2_rollOver 3 none, Cond.methodLink RX2 91 yX2_useRail, Cond.instanceMethod yX2_useRail, Cond.selects RX2 yX2_useRail yX2_useRail, Cond.code yX2_useRail cX2_useRail 2 none]
def wsX3_feedSome : List Cond := .code yX3_feedSome cX3_feedSome 3 (some .int) :: ((wsX3_feedSome_r1 ++ (wsX3_feedSome_r2 ++ (wsX3_feedSome_r3 ++ wsX3_feedSome_r4))) ++ wsX30 ++ wsX20 ++ wsX10 ++ (vx_atS RX3 42 "java/lang/IllegalStateException" ["java/lang/RuntimeException", "java/lang/Exception"]).filter goodWord ++ (vx_atS RX3 186 "java/lang/IllegalArgumentException" ["java/lang/RuntimeException", "java/lang/Exception"]).filter goodWord)
def wsX3_free_r1 : List Cond := [Cond.classLink RX3 38 "java/lang/IllegalStateException", Cond.initialized "java/lang/IllegalStateException", Cond.fieldLink RX3 12 "CoinRails" "now" "LCoinRails$State;", Cond.fieldLink RX3 19 "CoinRails" "history" "LCoinRails$History;", Cond.methodLink RX3 61 yX3_checkRail, Cond.static yX3_checkRail, Cond.initialized RX3, Cond.code yX3_checkRail cX3_checkRail 1 none, Cond.classLink RX3 175 "java/lang/IndexOutOfBoundsException", Cond.initialized "java/lang/IndexOutOfBoundsException", Cond.methodLink RX3 152 yX3_isRail, Cond.static yX3_isRail, Cond.code yX3_isRail cX3_isRail 1 (some .boolean), Cond.methodLink RX3 64 yX2_isStuck, Cond.instanceMethod yX2_isStuck, Cond.selects RX2 yX2_isStuck yX2_isStuck, Cond.initialized RX2, Cond.code yX2_isStuck cX2_isStuck 2 (some .boolean), Cond.fieldLink RX2 33 "CoinRails$State" "stuckKind" "[I", Cond.methodLink RX3 45 yX1_save, Cond.instanceMethod yX1_save, Cond.selects RX1 yX1_save yX1_save, Cond.initialized RX1, Cond.code yX1_save cX1_save 2 none]
def wsX3_free_r2 : List Cond := [Cond.fieldLink RX1 11 "CoinRails$History" "ring" "[LCoinRails$State;", Cond.fieldLink RX1 18 "CoinRails$History" "next" "I", Cond.fieldLink RX1 26 "CoinRails$History" "states" "I", Cond.methodLink RX1 29 Lib.Math.min.name, Cond.static Lib.Math.min.name, Cond.initialized "java/lang/Math", Cond.code Lib.Math.min.name Lib.Math.min.code 2 (some .int), Cond.methodLink RX1 22 yX2_copyFrom, Cond.instanceMethod yX2_copyFrom, Cond.selects RX2 yX2_copyFrom yX2_copyFrom, Cond.code yX2_copyFrom cX2_copyFrom 2 none, Cond.fieldLink RX2 45 "CoinRails$State" "kinds" "I", Cond.fieldLink RX2 9 "CoinRails$State" "diameter" "[I", Cond.methodLink RX2 49 arraycopyName, Cond.native arraycopyName, Cond.static arraycopyName, Cond.initialized "java/lang/System", Cond.fieldLink RX2 15 "CoinRails$State" "worth" "[I", Cond.fieldLink RX2 18 "CoinRails$State" "home" "[I", Cond.fieldLink RX2 21 "CoinRails$State" "fed" "[I", Cond.fieldLink RX2 24 "CoinRails$State" "rejects" "[I", Cond.fieldLink RX2 27 "CoinRails$State" "gap" "[I", Cond.fieldLink RX2 30 "CoinRails$State" "use" "[I", Cond.fieldLink RX2 36 "CoinRails$State" "stuckWear" "[I"]
def wsX3_free_r3 : List Cond := [Cond.fieldLink RX2 39 "CoinRails$State" "rolled" "[I", Cond.fieldLink RX2 42 "CoinRails$State" "bags" "[I", Cond.fieldLink RX2 55 "CoinRails$State" "takenAway" "I", Cond.methodLink RX3 88 yX2_loosen, Cond.instanceMethod yX2_loosen, Cond.selects RX2 yX2_loosen yX2_loosen, Cond.code yX2_loosen cX2_loosen 3 (some .int), Cond.methodLink RX2 73 yX2_isFull, Cond.instanceMethod yX2_isFull, Cond.selects RX2 yX2_isFull yX2_isFull, Cond.code yX2_isFull cX2_isFull 2 (some .boolean), Cond.methodLink RX2 58 yX2_coinsIn, Cond.instanceMethod yX2_coinsIn, Cond.selects RX2 yX2_coinsIn yX2_coinsIn, Cond.code yX2_coinsIn cX2_coinsIn 4 (some .int)]
def wsX3_free : List Cond := .code yX3_free cX3_free 2 (some .int) :: ((wsX3_free_r1 ++ (wsX3_free_r2 ++ wsX3_free_r3)) ++ wsX30 ++ wsX20 ++ wsX10 ++ (vx_atS RX3 42 "java/lang/IllegalStateException" ["java/lang/RuntimeException", "java/lang/Exception"]).filter goodWord ++ (vx_atS RX3 179 "java/lang/IndexOutOfBoundsException" ["java/lang/RuntimeException", "java/lang/Exception"]).filter goodWord)
def wsX3_takeBag_r1 : List Cond := [Cond.fieldLink RX3 19 "CoinRails" "history" "LCoinRails$History;", Cond.fieldLink RX3 12 "CoinRails" "now" "LCoinRails$State;", Cond.methodLink RX3 61 yX3_checkRail, Cond.static yX3_checkRail, Cond.initialized RX3, Cond.code yX3_checkRail cX3_checkRail 1 none, Cond.classLink RX3 175 "java/lang/IndexOutOfBoundsException", Cond.initialized "java/lang/IndexOutOfBoundsException", Cond.methodLink RX3 152 yX3_isRail, Cond.static yX3_isRail, Cond.code yX3_isRail cX3_isRail 1 (some .boolean), Cond.methodLink RX3 45 yX1_save, Cond.instanceMethod yX1_save, Cond.selects RX1 yX1_save yX1_save, Cond.initialized RX1, Cond.code yX1_save cX1_save 2 none, Cond.fieldLink RX1 11 "CoinRails$History" "ring" "[LCoinRails$State;", Cond.fieldLink RX1 18 "CoinRails$History" "next" "I", Cond.fieldLink RX1 26 "CoinRails$History" "states" "I", Cond.methodLink RX1 29 Lib.Math.min.name, Cond.static Lib.Math.min.name, Cond.initialized "java/lang/Math", Cond.code Lib.Math.min.name Lib.Math.min.code 2 (some .int), Cond.methodLink RX1 22 yX2_copyFrom]
def wsX3_takeBag_r2 : List Cond := [Cond.instanceMethod yX2_copyFrom, Cond.selects RX2 yX2_copyFrom yX2_copyFrom, Cond.initialized RX2, Cond.code yX2_copyFrom cX2_copyFrom 2 none, Cond.fieldLink RX2 45 "CoinRails$State" "kinds" "I", Cond.fieldLink RX2 9 "CoinRails$State" "diameter" "[I", Cond.methodLink RX2 49 arraycopyName, Cond.native arraycopyName, Cond.static arraycopyName, Cond.initialized "java/lang/System", Cond.fieldLink RX2 15 "CoinRails$State" "worth" "[I", Cond.fieldLink RX2 18 "CoinRails$State" "home" "[I", Cond.fieldLink RX2 21 "CoinRails$State" "fed" "[I", Cond.fieldLink RX2 24 "CoinRails$State" "rejects" "[I", Cond.fieldLink RX2 27 "CoinRails$State" "gap" "[I", Cond.fieldLink RX2 30 "CoinRails$State" "use" "[I", Cond.fieldLink RX2 33 "CoinRails$State" "stuckKind" "[I", Cond.fieldLink RX2 36 "CoinRails$State" "stuckWear" "[I", Cond.fieldLink RX2 39 "CoinRails$State" "rolled" "[I", Cond.fieldLink RX2 42 "CoinRails$State" "bags" "[I", Cond.fieldLink RX2 55 "CoinRails$State" "takenAway" "I", Cond.methodLink RX3 92 yX2_emptyBag, Cond.instanceMethod yX2_emptyBag, Cond.selects RX2 yX2_emptyBag yX2_emptyBag]
def wsX3_takeBag_r3 : List Cond := [Cond.code yX2_emptyBag cX2_emptyBag 4 (some .int), Cond.methodLink RX2 58 yX2_coinsIn, Cond.instanceMethod yX2_coinsIn, Cond.selects RX2 yX2_coinsIn yX2_coinsIn, Cond.code yX2_coinsIn cX2_coinsIn 4 (some .int)]
def wsX3_takeBag : List Cond := .code yX3_takeBag cX3_takeBag 2 (some .int) :: ((wsX3_takeBag_r1 ++ (wsX3_takeBag_r2 ++ wsX3_takeBag_r3)) ++ wsX30 ++ wsX10 ++ wsX20 ++ (vx_atS RX3 179 "java/lang/IndexOutOfBoundsException" ["java/lang/RuntimeException", "java/lang/Exception"]).filter goodWord)
def wsX3_takeRejects_r1 : List Cond := [Cond.fieldLink RX3 19 "CoinRails" "history" "LCoinRails$History;", Cond.fieldLink RX3 12 "CoinRails" "now" "LCoinRails$State;", Cond.methodLink RX3 45 yX1_save, Cond.instanceMethod yX1_save, Cond.selects RX1 yX1_save yX1_save, Cond.initialized RX1, Cond.code yX1_save cX1_save 2 none, Cond.fieldLink RX1 11 "CoinRails$History" "ring" "[LCoinRails$State;", Cond.fieldLink RX1 18 "CoinRails$History" "next" "I", Cond.fieldLink RX1 26 "CoinRails$History" "states" "I", Cond.methodLink RX1 29 Lib.Math.min.name, Cond.static Lib.Math.min.name, Cond.initialized "java/lang/Math", Cond.code Lib.Math.min.name Lib.Math.min.code 2 (some .int), Cond.methodLink RX1 22 yX2_copyFrom, Cond.instanceMethod yX2_copyFrom, Cond.selects RX2 yX2_copyFrom yX2_copyFrom, Cond.initialized RX2, Cond.code yX2_copyFrom cX2_copyFrom 2 none, Cond.fieldLink RX2 45 "CoinRails$State" "kinds" "I", Cond.fieldLink RX2 9 "CoinRails$State" "diameter" "[I", Cond.methodLink RX2 49 arraycopyName, Cond.native arraycopyName, Cond.static arraycopyName]
def wsX3_takeRejects_r2 : List Cond := [Cond.initialized "java/lang/System", Cond.fieldLink RX2 15 "CoinRails$State" "worth" "[I", Cond.fieldLink RX2 18 "CoinRails$State" "home" "[I", Cond.fieldLink RX2 21 "CoinRails$State" "fed" "[I", Cond.fieldLink RX2 24 "CoinRails$State" "rejects" "[I", Cond.fieldLink RX2 27 "CoinRails$State" "gap" "[I", Cond.fieldLink RX2 30 "CoinRails$State" "use" "[I", Cond.fieldLink RX2 33 "CoinRails$State" "stuckKind" "[I", Cond.fieldLink RX2 36 "CoinRails$State" "stuckWear" "[I", Cond.fieldLink RX2 39 "CoinRails$State" "rolled" "[I", Cond.fieldLink RX2 42 "CoinRails$State" "bags" "[I", Cond.fieldLink RX2 55 "CoinRails$State" "takenAway" "I", Cond.methodLink RX3 95 yX2_removeRejects, Cond.instanceMethod yX2_removeRejects, Cond.selects RX2 yX2_removeRejects yX2_removeRejects, Cond.code yX2_removeRejects cX2_removeRejects 3 (some .int), Cond.methodLink RX2 109 yX2_sum, Cond.static yX2_sum, Cond.code yX2_sum cX2_sum 6 (some .int)]
def wsX3_takeRejects : List Cond := .code yX3_takeRejects cX3_takeRejects 1 (some .int) :: ((wsX3_takeRejects_r1 ++ wsX3_takeRejects_r2) ++ wsX30 ++ wsX10 ++ wsX20)
def wsX3_kind_r1 : List Cond := [Cond.fieldLink RX3 12 "CoinRails" "now" "LCoinRails$State;", Cond.methodLink RX3 53 yX3_checkKind, Cond.instanceMethod yX3_checkKind, Cond.selects RX3 yX3_checkKind yX3_checkKind, Cond.initialized RX3, Cond.code yX3_checkKind cX3_checkKind 2 none, Cond.classLink RX3 175 "java/lang/IndexOutOfBoundsException", Cond.initialized "java/lang/IndexOutOfBoundsException", Cond.fieldLink RX3 34 "CoinRails$State" "kinds" "I", Cond.methodLink RX3 30 yX3_checkArgument, Cond.static yX3_checkArgument, Cond.code yX3_checkArgument cX3_checkArgument 3 none, Cond.classLink RX3 182 "java/lang/IllegalArgumentException", Cond.initialized "java/lang/IllegalArgumentException", Cond.methodLink RX3 99 yX2_aboutKind, Cond.instanceMethod yX2_aboutKind, Cond.selects RX2 yX2_aboutKind yX2_aboutKind, Cond.initialized RX2, Cond.code yX2_aboutKind cX2_aboutKind 3 (some .int), Cond.fieldLink RX2 9 "CoinRails$State" "diameter" "[I", Cond.fieldLink RX2 15 "CoinRails$State" "worth" "[I", Cond.fieldLink RX2 18 "CoinRails$State" "home" "[I", Cond.fieldLink RX2 24 "CoinRails$State" "rejects" "[I", Cond.fieldLink RX2 21 "CoinRails$State" "fed" "[I"]
def wsX3_kind_r2 : List Cond := [Cond.methodLink RX2 113 yX2_coinsOfKindInBags, Cond.instanceMethod yX2_coinsOfKindInBags, Cond.selects RX2 yX2_coinsOfKindInBags yX2_coinsOfKindInBags, Cond.code yX2_coinsOfKindInBags cX2_coinsOfKindInBags 4 (some .int), Cond.methodLink RX2 150 yX2_coinsOfKind, Cond.instanceMethod yX2_coinsOfKind, Cond.selects RX2 yX2_coinsOfKind yX2_coinsOfKind, Cond.code yX2_coinsOfKind cX2_coinsOfKind 3 (some .int), Cond.fieldLink RX2 42 "CoinRails$State" "bags" "[I", Cond.methodLink RX2 116 yX2_stuckOfKind, Cond.instanceMethod yX2_stuckOfKind, Cond.selects RX2 yX2_stuckOfKind yX2_stuckOfKind, Cond.code yX2_stuckOfKind cX2_stuckOfKind 4 (some .int), Cond.fieldLink RX2 33 "CoinRails$State" "stuckKind" "[I"]
def wsX3_kind : List Cond := .code yX3_kind cX3_kind 3 (some .int) :: ((wsX3_kind_r1 ++ wsX3_kind_r2) ++ wsX30 ++ wsX20 ++ (vx_atS RX3 179 "java/lang/IndexOutOfBoundsException" ["java/lang/RuntimeException", "java/lang/Exception"]).filter goodWord ++ (vx_atS RX3 186 "java/lang/IllegalArgumentException" ["java/lang/RuntimeException", "java/lang/Exception"]).filter goodWord)
def wsX3_rail_r1 : List Cond := [Cond.fieldLink RX3 12 "CoinRails" "now" "LCoinRails$State;", Cond.methodLink RX3 61 yX3_checkRail, Cond.static yX3_checkRail, Cond.initialized RX3, Cond.code yX3_checkRail cX3_checkRail 1 none, Cond.classLink RX3 175 "java/lang/IndexOutOfBoundsException", Cond.initialized "java/lang/IndexOutOfBoundsException", Cond.methodLink RX3 152 yX3_isRail, Cond.static yX3_isRail, Cond.code yX3_isRail cX3_isRail 1 (some .boolean), Cond.methodLink RX3 30 yX3_checkArgument, Cond.static yX3_checkArgument, Cond.code yX3_checkArgument cX3_checkArgument 3 none, Cond.classLink RX3 182 "java/lang/IllegalArgumentException", Cond.initialized "java/lang/IllegalArgumentException", Cond.methodLink RX3 102 yX2_aboutRail, Cond.instanceMethod yX2_aboutRail, Cond.selects RX2 yX2_aboutRail yX2_aboutRail, Cond.initialized RX2, Cond.code yX2_aboutRail cX2_aboutRail 3 (some .int), Cond.fieldLink RX2 27 "CoinRails$State" "gap" "[I", Cond.fieldLink RX2 30 "CoinRails$State" "use" "[I", Cond.fieldLink RX2 33 "CoinRails$State" "stuckKind" "[I", Cond.fieldLink RX2 36 "CoinRails$State" "stuckWear" "[I"]
def wsX3_rail_r2 : List Cond := [Cond.fieldLink RX2 39 "CoinRails$State" "rolled" "[I", Cond.methodLink RX2 58 yX2_coinsIn, Cond.instanceMethod yX2_coinsIn, Cond.selects RX2 yX2_coinsIn yX2_coinsIn, Cond.code yX2_coinsIn cX2_coinsIn 4 (some .int), Cond.fieldLink RX2 42 "CoinRails$State" "bags" "[I", Cond.methodLink RX2 119 yX2_supposedWorth, Cond.instanceMethod yX2_supposedWorth, Cond.selects RX2 yX2_supposedWorth yX2_supposedWorth, Cond.code yX2_supposedWorth cX2_supposedWorth 3 (some .int), Cond.fieldLink RX2 15 "CoinRails$State" "worth" "[I", Cond.methodLink RX2 128 yX2_kindOfRail, Cond.instanceMethod yX2_kindOfRail, Cond.selects RX2 yX2_kindOfRail yX2_kindOfRail, Cond.code yX2_kindOfRail cX2_kindOfRail 3 (some .int), Cond.fieldLink RX2 45 "CoinRails$State" "kinds" "I", Cond.fieldLink RX2 18 "CoinRails$State" "home" "[I", Cond.methodLink RX2 122 yX2_trueWorth, Cond.instanceMethod yX2_trueWorth, Cond.selects RX2 yX2_trueWorth yX2_trueWorth, Cond.code yX2_trueWorth cX2_trueWorth 4 (some .int), Cond.methodLink RX2 150 yX2_coinsOfKind, Cond.instanceMethod yX2_coinsOfKind, Cond.selects RX2 yX2_coinsOfKind yX2_coinsOfKind]
def wsX3_rail_r3 : List Cond := [Cond.code yX2_coinsOfKind cX2_coinsOfKind 3 (some .int), Cond.methodLink RX2 125 yX2_misfitsIn, Cond.instanceMethod yX2_misfitsIn, Cond.selects RX2 yX2_misfitsIn yX2_misfitsIn, Cond.code yX2_misfitsIn cX2_misfitsIn 4 (some .int)]
def wsX3_rail : List Cond := .code yX3_rail cX3_rail 3 (some .int) :: ((wsX3_rail_r1 ++ (wsX3_rail_r2 ++ wsX3_rail_r3)) ++ wsX30 ++ wsX20 ++ (vx_atS RX3 179 "java/lang/IndexOutOfBoundsException" ["java/lang/RuntimeException", "java/lang/Exception"]).filter goodWord ++ (vx_atS RX3 186 "java/lang/IllegalArgumentException" ["java/lang/RuntimeException", "java/lang/Exception"]).filter goodWord)
def wsX3_count : List Cond := .code yX3_count cX3_count 3 (some .int) :: ([.fieldLink RX3 12 "CoinRails" "now" "LCoinRails$State;", .methodLink RX3 61 yX3_checkRail, .static yX3_checkRail, .initialized RX3, .code yX3_checkRail cX3_checkRail 1 none, .classLink RX3 175 "java/lang/IndexOutOfBoundsException", .initialized "java/lang/IndexOutOfBoundsException", .methodLink RX3 152 yX3_isRail, .static yX3_isRail, .code yX3_isRail cX3_isRail 1 (some .boolean), .methodLink RX3 53 yX3_checkKind, .instanceMethod yX3_checkKind, .selects RX3 yX3_checkKind yX3_checkKind, .code yX3_checkKind cX3_checkKind 2 none, .fieldLink RX3 34 "CoinRails$State" "kinds" "I", .methodLink RX3 105 yX2_coinsOfKind, .instanceMethod yX2_coinsOfKind, .selects RX2 yX2_coinsOfKind yX2_coinsOfKind, .initialized RX2, .code yX2_coinsOfKind cX2_coinsOfKind 3 (some .int), .fieldLink RX2 42 "CoinRails$State" "bags" "[I"] ++ wsX30 ++ wsX20 ++ (vx_atS RX3 179 "java/lang/IndexOutOfBoundsException" ["java/lang/RuntimeException", "java/lang/Exception"]).filter goodWord)
def wsX3_value_r1 : List Cond := [Cond.fieldLink RX3 12 "CoinRails" "now" "LCoinRails$State;", Cond.methodLink RX3 30 yX3_checkArgument, Cond.static yX3_checkArgument, Cond.initialized RX3, Cond.code yX3_checkArgument cX3_checkArgument 3 none, Cond.classLink RX3 182 "java/lang/IllegalArgumentException", Cond.initialized "java/lang/IllegalArgumentException", Cond.methodLink RX3 108 yX2_aboutAll, Cond.instanceMethod yX2_aboutAll, Cond.selects RX2 yX2_aboutAll yX2_aboutAll, Cond.initialized RX2, Cond.code yX2_aboutAll cX2_aboutAll 2 (some .int), Cond.fieldLink RX2 45 "CoinRails$State" "kinds" "I", Cond.fieldLink RX2 21 "CoinRails$State" "fed" "[I", Cond.fieldLink RX2 24 "CoinRails$State" "rejects" "[I", Cond.fieldLink RX2 55 "CoinRails$State" "takenAway" "I", Cond.methodLink RX2 109 yX2_sum, Cond.static yX2_sum, Cond.code yX2_sum cX2_sum 6 (some .int), Cond.methodLink RX2 131 yX2_coinsInBags, Cond.instanceMethod yX2_coinsInBags, Cond.selects RX2 yX2_coinsInBags yX2_coinsInBags, Cond.code yX2_coinsInBags cX2_coinsInBags 1 (some .int), Cond.fieldLink RX2 42 "CoinRails$State" "bags" "[I"]
def wsX3_value_r2 : List Cond := [Cond.methodLink RX2 135 yX2_stuckRails, Cond.instanceMethod yX2_stuckRails, Cond.selects RX2 yX2_stuckRails yX2_stuckRails, Cond.code yX2_stuckRails cX2_stuckRails 3 (some .int), Cond.methodLink RX2 69 yX2_isStuck, Cond.instanceMethod yX2_isStuck, Cond.selects RX2 yX2_isStuck yX2_isStuck, Cond.code yX2_isStuck cX2_isStuck 2 (some .boolean), Cond.fieldLink RX2 33 "CoinRails$State" "stuckKind" "[I", Cond.methodLink RX2 138 yX2_misfits, Cond.instanceMethod yX2_misfits, Cond.selects RX2 yX2_misfits yX2_misfits, Cond.code yX2_misfits cX2_misfits 3 (some .int), Cond.methodLink RX2 125 yX2_misfitsIn, Cond.instanceMethod yX2_misfitsIn, Cond.selects RX2 yX2_misfitsIn yX2_misfitsIn, Cond.code yX2_misfitsIn cX2_misfitsIn 4 (some .int), Cond.fieldLink RX2 18 "CoinRails$State" "home" "[I", Cond.methodLink RX2 150 yX2_coinsOfKind, Cond.instanceMethod yX2_coinsOfKind, Cond.selects RX2 yX2_coinsOfKind yX2_coinsOfKind, Cond.code yX2_coinsOfKind cX2_coinsOfKind 3 (some .int), Cond.methodLink RX2 141 yX2_supposedWorthOfAll, Cond.instanceMethod yX2_supposedWorthOfAll]
def wsX3_value_r3 : List Cond := [Cond.selects RX2 yX2_supposedWorthOfAll yX2_supposedWorthOfAll, Cond.code yX2_supposedWorthOfAll cX2_supposedWorthOfAll 3 (some .int), Cond.methodLink RX2 119 yX2_supposedWorth, Cond.instanceMethod yX2_supposedWorth, Cond.selects RX2 yX2_supposedWorth yX2_supposedWorth, Cond.code yX2_supposedWorth cX2_supposedWorth 3 (some .int), Cond.fieldLink RX2 15 "CoinRails$State" "worth" "[I", Cond.methodLink RX2 128 yX2_kindOfRail, Cond.instanceMethod yX2_kindOfRail, Cond.selects RX2 yX2_kindOfRail yX2_kindOfRail, Cond.code yX2_kindOfRail cX2_kindOfRail 3 (some .int), Cond.methodLink RX2 58 yX2_coinsIn, Cond.instanceMethod yX2_coinsIn, Cond.selects RX2 yX2_coinsIn yX2_coinsIn, Cond.code yX2_coinsIn cX2_coinsIn 4 (some .int), Cond.methodLink RX2 144 yX2_trueWorthOfAll, Cond.instanceMethod yX2_trueWorthOfAll, Cond.selects RX2 yX2_trueWorthOfAll yX2_trueWorthOfAll, Cond.code yX2_trueWorthOfAll cX2_trueWorthOfAll 3 (some .int), Cond.methodLink RX2 122 yX2_trueWorth, Cond.instanceMethod yX2_trueWorth, Cond.selects RX2 yX2_trueWorth yX2_trueWorth, Cond.code yX2_trueWorth cX2_trueWorth 4 (some .int), Cond.methodLink RX2 147 yX2_fullBags]
def wsX3_value_r4 : List Cond := [Cond.instanceMethod yX2_fullBags, Cond.selects RX2 yX2_fullBags yX2_fullBags, Cond.code yX2_fullBags cX2_fullBags 3 (some .int), Cond.methodLink RX2 73 yX2_isFull, Cond.instanceMethod yX2_isFull, Cond.selects RX2 yX2_isFull yX2_isFull, Cond.code yX2_isFull cX2_isFull 2 (some .boolean)]
def wsX3_value : List Cond := .code yX3_value cX3_value 2 (some .int) :: ((wsX3_value_r1 ++ (wsX3_value_r2 ++ (wsX3_value_r3 ++ wsX3_value_r4))) ++ wsX30 ++ wsX20 ++ (vx_atS RX3 186 "java/lang/IllegalArgumentException" ["java/lang/RuntimeException", "java/lang/Exception"]).filter goodWord)
def wsX3_where_r1 : List Cond := [Cond.fieldLink RX3 12 "CoinRails" "now" "LCoinRails$State;", Cond.methodLink RX3 53 yX3_checkKind, Cond.instanceMethod yX3_checkKind, Cond.selects RX3 yX3_checkKind yX3_checkKind, Cond.initialized RX3, Cond.code yX3_checkKind cX3_checkKind 2 none, Cond.classLink RX3 175 "java/lang/IndexOutOfBoundsException", Cond.initialized "java/lang/IndexOutOfBoundsException", Cond.fieldLink RX3 34 "CoinRails$State" "kinds" "I", Cond.methodLink RX3 30 yX3_checkArgument, Cond.static yX3_checkArgument, Cond.code yX3_checkArgument cX3_checkArgument 3 none, Cond.classLink RX3 182 "java/lang/IllegalArgumentException", Cond.initialized "java/lang/IllegalArgumentException", Cond.methodLink RX3 111 yX2_placeFor, Cond.instanceMethod yX2_placeFor, Cond.selects RX2 yX2_placeFor yX2_placeFor, Cond.initialized RX2, Cond.code yX2_placeFor cX2_placeFor 6 (some .int), Cond.fieldLink RX2 27 "CoinRails$State" "gap" "[I", Cond.methodLink RX2 62 yX2_wearAt, Cond.instanceMethod yX2_wearAt, Cond.selects RX2 yX2_wearAt yX2_wearAt, Cond.code yX2_wearAt cX2_wearAt 3 (some .int)]
def wsX3_where_r2 : List Cond := [Cond.methodLink RX2 81 Lib.Math.min.name, Cond.static Lib.Math.min.name, Cond.initialized "java/lang/Math", Cond.code Lib.Math.min.name Lib.Math.min.code 2 (some .int), Cond.methodLink RX2 66 yX2_size, Cond.instanceMethod yX2_size, Cond.selects RX2 yX2_size yX2_size, Cond.code yX2_size cX2_size 3 (some .int), Cond.fieldLink RX2 9 "CoinRails$State" "diameter" "[I", Cond.methodLink RX2 76 Lib.Math.max.name, Cond.static Lib.Math.max.name, Cond.code Lib.Math.max.name Lib.Math.max.code 2 (some .int), Cond.methodLink RX2 69 yX2_isStuck, Cond.instanceMethod yX2_isStuck, Cond.selects RX2 yX2_isStuck yX2_isStuck, Cond.code yX2_isStuck cX2_isStuck 2 (some .boolean), Cond.fieldLink RX2 33 "CoinRails$State" "stuckKind" "[I", Cond.methodLink RX2 73 yX2_isFull, Cond.instanceMethod yX2_isFull, Cond.selects RX2 yX2_isFull yX2_isFull, Cond.code yX2_isFull cX2_isFull 2 (some .boolean), Cond.methodLink RX2 58 yX2_coinsIn, Cond.instanceMethod yX2_coinsIn, Cond.selects RX2 yX2_coinsIn yX2_coinsIn]
def wsX3_where_r3 : List Cond := [Cond.code yX2_coinsIn cX2_coinsIn 4 (some .int), Cond.fieldLink RX2 42 "CoinRails$State" "bags" "[I"]
def wsX3_where : List Cond := .code yX3_where cX3_where 3 (some .int) :: ((wsX3_where_r1 ++ (wsX3_where_r2 ++ wsX3_where_r3)) ++ wsX30 ++ wsX20 ++ (vx_atS RX3 179 "java/lang/IndexOutOfBoundsException" ["java/lang/RuntimeException", "java/lang/Exception"]).filter goodWord ++ (vx_atS RX3 186 "java/lang/IllegalArgumentException" ["java/lang/RuntimeException", "java/lang/Exception"]).filter goodWord)
def wsX3_mostWear_r1 : List Cond := [Cond.fieldLink RX3 12 "CoinRails" "now" "LCoinRails$State;", Cond.methodLink RX3 53 yX3_checkKind, Cond.instanceMethod yX3_checkKind, Cond.selects RX3 yX3_checkKind yX3_checkKind, Cond.initialized RX3, Cond.code yX3_checkKind cX3_checkKind 2 none, Cond.classLink RX3 175 "java/lang/IndexOutOfBoundsException", Cond.initialized "java/lang/IndexOutOfBoundsException", Cond.fieldLink RX3 34 "CoinRails$State" "kinds" "I", Cond.methodLink RX3 114 yX2_mostFittingWear, Cond.instanceMethod yX2_mostFittingWear, Cond.selects RX2 yX2_mostFittingWear yX2_mostFittingWear, Cond.initialized RX2, Cond.code yX2_mostFittingWear cX2_mostFittingWear 4 (some .int), Cond.methodLink RX2 156 yX2_fallsHome, Cond.instanceMethod yX2_fallsHome, Cond.selects RX2 yX2_fallsHome yX2_fallsHome, Cond.code yX2_fallsHome cX2_fallsHome 3 (some .boolean), Cond.fieldLink RX2 18 "CoinRails$State" "home" "[I", Cond.methodLink RX2 84 yX2_placeFor, Cond.instanceMethod yX2_placeFor, Cond.selects RX2 yX2_placeFor yX2_placeFor, Cond.code yX2_placeFor cX2_placeFor 6 (some .int), Cond.fieldLink RX2 27 "CoinRails$State" "gap" "[I"]
def wsX3_mostWear_r2 : List Cond := [Cond.methodLink RX2 62 yX2_wearAt, Cond.instanceMethod yX2_wearAt, Cond.selects RX2 yX2_wearAt yX2_wearAt, Cond.code yX2_wearAt cX2_wearAt 3 (some .int), Cond.methodLink RX2 81 Lib.Math.min.name, Cond.static Lib.Math.min.name, Cond.initialized "java/lang/Math", Cond.code Lib.Math.min.name Lib.Math.min.code 2 (some .int), Cond.methodLink RX2 66 yX2_size, Cond.instanceMethod yX2_size, Cond.selects RX2 yX2_size yX2_size, Cond.code yX2_size cX2_size 3 (some .int), Cond.fieldLink RX2 9 "CoinRails$State" "diameter" "[I", Cond.methodLink RX2 76 Lib.Math.max.name, Cond.static Lib.Math.max.name, Cond.code Lib.Math.max.name Lib.Math.max.code 2 (some .int), Cond.methodLink RX2 69 yX2_isStuck, Cond.instanceMethod yX2_isStuck, Cond.selects RX2 yX2_isStuck yX2_isStuck, Cond.code yX2_isStuck cX2_isStuck 2 (some .boolean), Cond.fieldLink RX2 33 "CoinRails$State" "stuckKind" "[I", Cond.methodLink RX2 73 yX2_isFull, Cond.instanceMethod yX2_isFull, Cond.selects RX2 yX2_isFull yX2_isFull]
def wsX3_mostWear_r3 : List Cond := [Cond.code yX2_isFull cX2_isFull 2 (some .boolean), Cond.methodLink RX2 58 yX2_coinsIn, Cond.instanceMethod yX2_coinsIn, Cond.selects RX2 yX2_coinsIn yX2_coinsIn, Cond.code yX2_coinsIn cX2_coinsIn 4 (some .int), Cond.fieldLink RX2 42 "CoinRails$State" "bags" "[I"]
def wsX3_mostWear : List Cond := .code yX3_mostWear cX3_mostWear 2 (some .int) :: ((wsX3_mostWear_r1 ++ (wsX3_mostWear_r2 ++ wsX3_mostWear_r3)) ++ wsX30 ++ wsX20 ++ (vx_atS RX3 179 "java/lang/IndexOutOfBoundsException" ["java/lang/RuntimeException", "java/lang/Exception"]).filter goodWord)
def wsX3_bestGap_r1 : List Cond := [Cond.fieldLink RX3 12 "CoinRails" "now" "LCoinRails$State;", Cond.methodLink RX3 61 yX3_checkRail, Cond.static yX3_checkRail, Cond.initialized RX3, Cond.code yX3_checkRail cX3_checkRail 1 none, Cond.classLink RX3 175 "java/lang/IndexOutOfBoundsException", Cond.initialized "java/lang/IndexOutOfBoundsException", Cond.methodLink RX3 152 yX3_isRail, Cond.static yX3_isRail, Cond.code yX3_isRail cX3_isRail 1 (some .boolean), Cond.methodLink RX3 117 yX2_leastSortingGap, Cond.instanceMethod yX2_leastSortingGap, Cond.selects RX2 yX2_leastSortingGap yX2_leastSortingGap, Cond.initialized RX2, Cond.code yX2_leastSortingGap cX2_leastSortingGap 5 (some .int), Cond.fieldLink RX2 45 "CoinRails$State" "kinds" "I", Cond.fieldLink RX2 18 "CoinRails$State" "home" "[I", Cond.fieldLink RX2 9 "CoinRails$State" "diameter" "[I", Cond.methodLink RX2 76 Lib.Math.max.name, Cond.static Lib.Math.max.name, Cond.initialized "java/lang/Math", Cond.code Lib.Math.max.name Lib.Math.max.code 2 (some .int), Cond.methodLink RX2 81 Lib.Math.min.name, Cond.static Lib.Math.min.name]
def wsX3_bestGap_r2 : List Cond := [Cond.code Lib.Math.min.name Lib.Math.min.code 2 (some .int)]
def wsX3_bestGap : List Cond := .code yX3_bestGap cX3_bestGap 2 (some .int) :: ((wsX3_bestGap_r1 ++ wsX3_bestGap_r2) ++ wsX30 ++ wsX20 ++ (vx_atS RX3 179 "java/lang/IndexOutOfBoundsException" ["java/lang/RuntimeException", "java/lang/Exception"]).filter goodWord)
def wsX3_supply_r1 : List Cond := [Cond.fieldLink RX3 12 "CoinRails" "now" "LCoinRails$State;", Cond.methodLink RX3 53 yX3_checkKind, Cond.instanceMethod yX3_checkKind, Cond.selects RX3 yX3_checkKind yX3_checkKind, Cond.initialized RX3, Cond.code yX3_checkKind cX3_checkKind 2 none, Cond.classLink RX3 175 "java/lang/IndexOutOfBoundsException", Cond.initialized "java/lang/IndexOutOfBoundsException", Cond.fieldLink RX3 34 "CoinRails$State" "kinds" "I", Cond.methodLink RX3 120 yX2_coinsUntilAstray, Cond.instanceMethod yX2_coinsUntilAstray, Cond.selects RX2 yX2_coinsUntilAstray yX2_coinsUntilAstray, Cond.initialized RX2, Cond.code yX2_coinsUntilAstray cX2_coinsUntilAstray 2 (some .int), Cond.fieldLink RX2 18 "CoinRails$State" "home" "[I", Cond.methodLink RX2 156 yX2_fallsHome, Cond.instanceMethod yX2_fallsHome, Cond.selects RX2 yX2_fallsHome yX2_fallsHome, Cond.code yX2_fallsHome cX2_fallsHome 3 (some .boolean), Cond.methodLink RX2 84 yX2_placeFor, Cond.instanceMethod yX2_placeFor, Cond.selects RX2 yX2_placeFor yX2_placeFor, Cond.code yX2_placeFor cX2_placeFor 6 (some .int), Cond.fieldLink RX2 27 "CoinRails$State" "gap" "[I"]
def wsX3_supply_r2 : List Cond := [Cond.methodLink RX2 62 yX2_wearAt, Cond.instanceMethod yX2_wearAt, Cond.selects RX2 yX2_wearAt yX2_wearAt, Cond.code yX2_wearAt cX2_wearAt 3 (some .int), Cond.methodLink RX2 81 Lib.Math.min.name, Cond.static Lib.Math.min.name, Cond.initialized "java/lang/Math", Cond.code Lib.Math.min.name Lib.Math.min.code 2 (some .int), Cond.methodLink RX2 66 yX2_size, Cond.instanceMethod yX2_size, Cond.selects RX2 yX2_size yX2_size, Cond.code yX2_size cX2_size 3 (some .int), Cond.fieldLink RX2 9 "CoinRails$State" "diameter" "[I", Cond.methodLink RX2 76 Lib.Math.max.name, Cond.static Lib.Math.max.name, Cond.code Lib.Math.max.name Lib.Math.max.code 2 (some .int), Cond.methodLink RX2 69 yX2_isStuck, Cond.instanceMethod yX2_isStuck, Cond.selects RX2 yX2_isStuck yX2_isStuck, Cond.code yX2_isStuck cX2_isStuck 2 (some .boolean), Cond.fieldLink RX2 33 "CoinRails$State" "stuckKind" "[I", Cond.methodLink RX2 73 yX2_isFull, Cond.instanceMethod yX2_isFull, Cond.selects RX2 yX2_isFull yX2_isFull]
def wsX3_supply_r3 : List Cond := [Cond.code yX2_isFull cX2_isFull 2 (some .boolean), Cond.methodLink RX2 58 yX2_coinsIn, Cond.instanceMethod yX2_coinsIn, Cond.selects RX2 yX2_coinsIn yX2_coinsIn, Cond.code yX2_coinsIn cX2_coinsIn 4 (some .int), Cond.fieldLink RX2 42 "CoinRails$State" "bags" "[I"]
def wsX3_supply : List Cond := .code yX3_supply cX3_supply 2 (some .int) :: ((wsX3_supply_r1 ++ (wsX3_supply_r2 ++ wsX3_supply_r3)) ++ wsX30 ++ wsX20 ++ (vx_atS RX3 179 "java/lang/IndexOutOfBoundsException" ["java/lang/RuntimeException", "java/lang/Exception"]).filter goodWord)
def wsX3_right : List Cond := .code yX3_right cX3_right 2 (some .double) :: ([.fieldLink RX3 12 "CoinRails" "now" "LCoinRails$State;", .methodLink RX3 126 yX2_coinsInBags, .instanceMethod yX2_coinsInBags, .selects RX2 yX2_coinsInBags yX2_coinsInBags, .initialized RX2, .code yX2_coinsInBags cX2_coinsInBags 1 (some .int), .fieldLink RX2 42 "CoinRails$State" "bags" "[I", .methodLink RX2 109 yX2_sum, .static yX2_sum, .code yX2_sum cX2_sum 6 (some .int), .methodLink RX3 129 yX2_misfits, .instanceMethod yX2_misfits, .selects RX2 yX2_misfits yX2_misfits, .code yX2_misfits cX2_misfits 3 (some .int), .methodLink RX2 125 yX2_misfitsIn, .instanceMethod yX2_misfitsIn, .selects RX2 yX2_misfitsIn yX2_misfitsIn, .code yX2_misfitsIn cX2_misfitsIn 4 (some .int), .fieldLink RX2 45 "CoinRails$State" "kinds" "I", .fieldLink RX2 18 "CoinRails$State" "home" "[I", .methodLink RX2 150 yX2_coinsOfKind, .instanceMethod yX2_coinsOfKind, .selects RX2 yX2_coinsOfKind yX2_coinsOfKind, .code yX2_coinsOfKind cX2_coinsOfKind 3 (some .int)] ++ wsX30 ++ wsX20)
def wsX3_undo_r1 : List Cond := [Cond.classLink RX3 38 "java/lang/IllegalStateException", Cond.initialized "java/lang/IllegalStateException", Cond.fieldLink RX3 19 "CoinRails" "history" "LCoinRails$History;", Cond.fieldLink RX3 155 "CoinRails$History" "states" "I", Cond.fieldLink RX3 12 "CoinRails" "now" "LCoinRails$State;", Cond.methodLink RX3 160 yX1_restore, Cond.instanceMethod yX1_restore, Cond.selects RX1 yX1_restore yX1_restore, Cond.initialized RX1, Cond.code yX1_restore cX1_restore 2 (some .int), Cond.fieldLink RX1 18 "CoinRails$History" "next" "I", Cond.fieldLink RX1 26 "CoinRails$History" "states" "I", Cond.fieldLink RX1 11 "CoinRails$History" "ring" "[LCoinRails$State;", Cond.methodLink RX1 22 yX2_copyFrom, Cond.instanceMethod yX2_copyFrom, Cond.selects RX2 yX2_copyFrom yX2_copyFrom, Cond.initialized RX2, Cond.code yX2_copyFrom cX2_copyFrom 2 none, Cond.fieldLink RX2 45 "CoinRails$State" "kinds" "I", Cond.fieldLink RX2 9 "CoinRails$State" "diameter" "[I", Cond.methodLink RX2 49 arraycopyName, Cond.native arraycopyName, Cond.static arraycopyName, Cond.initialized "java/lang/System"]
def wsX3_undo_r2 : List Cond := [Cond.fieldLink RX2 15 "CoinRails$State" "worth" "[I", Cond.fieldLink RX2 18 "CoinRails$State" "home" "[I", Cond.fieldLink RX2 21 "CoinRails$State" "fed" "[I", Cond.fieldLink RX2 24 "CoinRails$State" "rejects" "[I", Cond.fieldLink RX2 27 "CoinRails$State" "gap" "[I", Cond.fieldLink RX2 30 "CoinRails$State" "use" "[I", Cond.fieldLink RX2 33 "CoinRails$State" "stuckKind" "[I", Cond.fieldLink RX2 36 "CoinRails$State" "stuckWear" "[I", Cond.fieldLink RX2 39 "CoinRails$State" "rolled" "[I", Cond.fieldLink RX2 42 "CoinRails$State" "bags" "[I", Cond.fieldLink RX2 55 "CoinRails$State" "takenAway" "I"]
def wsX3_undo : List Cond := .code yX3_undo cX3_undo 1 (some .int) :: ((wsX3_undo_r1 ++ wsX3_undo_r2) ++ wsX30 ++ wsX10 ++ wsX20 ++ (vx_atS RX3 42 "java/lang/IllegalStateException" ["java/lang/RuntimeException", "java/lang/Exception"]).filter goodWord)
def wsJ9_max_7cf53 : List Cond := .code yJ9_max_7cf53 cJ9_max_7cf53 2 (some .int) :: ([])
def wsJ9_min_7cf53 : List Cond := .code yJ9_min_7cf53 cJ9_min_7cf53 2 (some .int) :: ([])
def wsL_cell : List Cond := .code yL_cell cL_cell 2 (some .int) :: ([.constant RL 7 (1116352408)])
def wsL_up : List Cond := .code yL_up cL_up 2 (some .int) :: ([.constant RL 8 (2147483647)])
def wsL_kinds_r1 : List Cond := [Cond.methodLink RL 9 yL_cell, Cond.static yL_cell, Cond.initialized RL, Cond.code yL_cell cL_cell 2 (some .int), Cond.constant RL 7 (1116352408), Cond.methodLink RL 15 yL_up, Cond.static yL_up, Cond.code yL_up cL_up 2 (some .int), Cond.constant RL 8 (2147483647), Cond.methodLink RL 19 yX3_addKind, Cond.instanceMethod yX3_addKind, Cond.selects RX3 yX3_addKind yX3_addKind, Cond.initialized RX3, Cond.code yX3_addKind cX3_addKind 4 (some .int), Cond.classLink RX3 38 "java/lang/IllegalStateException", Cond.initialized "java/lang/IllegalStateException", Cond.fieldLink RX3 12 "CoinRails" "now" "LCoinRails$State;", Cond.fieldLink RX3 34 "CoinRails$State" "kinds" "I", Cond.fieldLink RX3 19 "CoinRails" "history" "LCoinRails$History;", Cond.methodLink RX3 30 yX3_checkArgument, Cond.static yX3_checkArgument, Cond.code yX3_checkArgument cX3_checkArgument 3 none, Cond.classLink RX3 182 "java/lang/IllegalArgumentException", Cond.initialized "java/lang/IllegalArgumentException"]
def wsL_kinds_r2 : List Cond := [Cond.methodLink RX3 45 yX1_save, Cond.instanceMethod yX1_save, Cond.selects RX1 yX1_save yX1_save, Cond.initialized RX1, Cond.code yX1_save cX1_save 2 none, Cond.fieldLink RX1 11 "CoinRails$History" "ring" "[LCoinRails$State;", Cond.fieldLink RX1 18 "CoinRails$History" "next" "I", Cond.fieldLink RX1 26 "CoinRails$History" "states" "I", Cond.methodLink RX1 29 Lib.Math.min.name, Cond.static Lib.Math.min.name, Cond.initialized "java/lang/Math", Cond.code Lib.Math.min.name Lib.Math.min.code 2 (some .int), Cond.methodLink RX1 22 yX2_copyFrom, Cond.instanceMethod yX2_copyFrom, Cond.selects RX2 yX2_copyFrom yX2_copyFrom, Cond.initialized RX2, Cond.code yX2_copyFrom cX2_copyFrom 2 none, Cond.fieldLink RX2 45 "CoinRails$State" "kinds" "I", Cond.fieldLink RX2 9 "CoinRails$State" "diameter" "[I", Cond.methodLink RX2 49 arraycopyName, Cond.native arraycopyName, Cond.static arraycopyName, Cond.initialized "java/lang/System", Cond.fieldLink RX2 15 "CoinRails$State" "worth" "[I"]
def wsL_kinds_r3 : List Cond := [Cond.fieldLink RX2 18 "CoinRails$State" "home" "[I", Cond.fieldLink RX2 21 "CoinRails$State" "fed" "[I", Cond.fieldLink RX2 24 "CoinRails$State" "rejects" "[I", Cond.fieldLink RX2 27 "CoinRails$State" "gap" "[I", Cond.fieldLink RX2 30 "CoinRails$State" "use" "[I", Cond.fieldLink RX2 33 "CoinRails$State" "stuckKind" "[I", Cond.fieldLink RX2 36 "CoinRails$State" "stuckWear" "[I", Cond.fieldLink RX2 39 "CoinRails$State" "rolled" "[I", Cond.fieldLink RX2 42 "CoinRails$State" "bags" "[I", Cond.fieldLink RX2 55 "CoinRails$State" "takenAway" "I", Cond.methodLink RX3 49 yX2_putKind, Cond.instanceMethod yX2_putKind, Cond.selects RX2 yX2_putKind yX2_putKind, Cond.code yX2_putKind cX2_putKind 5 (some .int)]
def wsL_kinds : List Cond := .code yL_kinds cL_kinds 7 (some .boolean) :: ((wsL_kinds_r1 ++ (wsL_kinds_r2 ++ wsL_kinds_r3)) ++ wsX30 ++ wsX20 ++ wsX10 ++ (vx_atS RX3 42 "java/lang/IllegalStateException" ["java/lang/RuntimeException", "java/lang/Exception"]).filter goodWord ++ (vx_atS RX3 186 "java/lang/IllegalArgumentException" ["java/lang/RuntimeException", "java/lang/Exception"]).filter goodWord)
def wsL_isStep_r1 : List Cond := [Cond.methodLink RL 15 yL_up, Cond.static yL_up, Cond.initialized RL, Cond.code yL_up cL_up 2 (some .int), Cond.constant RL 8 (2147483647), Cond.methodLink RL 25 yX3_kind, Cond.instanceMethod yX3_kind, Cond.selects RX3 yX3_kind yX3_kind, Cond.initialized RX3, Cond.code yX3_kind cX3_kind 3 (some .int), Cond.fieldLink RX3 12 "CoinRails" "now" "LCoinRails$State;", Cond.methodLink RX3 53 yX3_checkKind, Cond.instanceMethod yX3_checkKind, Cond.selects RX3 yX3_checkKind yX3_checkKind, Cond.code yX3_checkKind cX3_checkKind 2 none, Cond.classLink RX3 175 "java/lang/IndexOutOfBoundsException", Cond.initialized "java/lang/IndexOutOfBoundsException", Cond.fieldLink RX3 34 "CoinRails$State" "kinds" "I", Cond.methodLink RX3 30 yX3_checkArgument, Cond.static yX3_checkArgument, Cond.code yX3_checkArgument cX3_checkArgument 3 none, Cond.classLink RX3 182 "java/lang/IllegalArgumentException", Cond.initialized "java/lang/IllegalArgumentException", Cond.methodLink RX3 99 yX2_aboutKind]
def wsL_isStep_r2 : List Cond := [Cond.instanceMethod yX2_aboutKind, Cond.selects RX2 yX2_aboutKind yX2_aboutKind, Cond.initialized RX2, Cond.code yX2_aboutKind cX2_aboutKind 3 (some .int), Cond.fieldLink RX2 9 "CoinRails$State" "diameter" "[I", Cond.fieldLink RX2 15 "CoinRails$State" "worth" "[I", Cond.fieldLink RX2 18 "CoinRails$State" "home" "[I", Cond.fieldLink RX2 24 "CoinRails$State" "rejects" "[I", Cond.fieldLink RX2 21 "CoinRails$State" "fed" "[I", Cond.methodLink RX2 113 yX2_coinsOfKindInBags, Cond.instanceMethod yX2_coinsOfKindInBags, Cond.selects RX2 yX2_coinsOfKindInBags yX2_coinsOfKindInBags, Cond.code yX2_coinsOfKindInBags cX2_coinsOfKindInBags 4 (some .int), Cond.methodLink RX2 150 yX2_coinsOfKind, Cond.instanceMethod yX2_coinsOfKind, Cond.selects RX2 yX2_coinsOfKind yX2_coinsOfKind, Cond.code yX2_coinsOfKind cX2_coinsOfKind 3 (some .int), Cond.fieldLink RX2 42 "CoinRails$State" "bags" "[I", Cond.methodLink RX2 116 yX2_stuckOfKind, Cond.instanceMethod yX2_stuckOfKind, Cond.selects RX2 yX2_stuckOfKind yX2_stuckOfKind, Cond.code yX2_stuckOfKind cX2_stuckOfKind 4 (some .int), Cond.fieldLink RX2 33 "CoinRails$State" "stuckKind" "[I", Cond.methodLink RL 28 yX3_rail]
def wsL_isStep_r3 : List Cond := [Cond.instanceMethod yX3_rail, Cond.selects RX3 yX3_rail yX3_rail, Cond.code yX3_rail cX3_rail 3 (some .int), Cond.methodLink RX3 61 yX3_checkRail, Cond.static yX3_checkRail, Cond.code yX3_checkRail cX3_checkRail 1 none, Cond.methodLink RX3 152 yX3_isRail, Cond.static yX3_isRail, Cond.code yX3_isRail cX3_isRail 1 (some .boolean), Cond.methodLink RX3 102 yX2_aboutRail, Cond.instanceMethod yX2_aboutRail, Cond.selects RX2 yX2_aboutRail yX2_aboutRail, Cond.code yX2_aboutRail cX2_aboutRail 3 (some .int), Cond.fieldLink RX2 27 "CoinRails$State" "gap" "[I", Cond.fieldLink RX2 30 "CoinRails$State" "use" "[I", Cond.fieldLink RX2 36 "CoinRails$State" "stuckWear" "[I", Cond.fieldLink RX2 39 "CoinRails$State" "rolled" "[I", Cond.methodLink RX2 58 yX2_coinsIn, Cond.instanceMethod yX2_coinsIn, Cond.selects RX2 yX2_coinsIn yX2_coinsIn, Cond.code yX2_coinsIn cX2_coinsIn 4 (some .int), Cond.methodLink RX2 119 yX2_supposedWorth, Cond.instanceMethod yX2_supposedWorth, Cond.selects RX2 yX2_supposedWorth yX2_supposedWorth]
def wsL_isStep_r4 : List Cond := [Cond.code yX2_supposedWorth cX2_supposedWorth 3 (some .int), Cond.methodLink RX2 128 yX2_kindOfRail, Cond.instanceMethod yX2_kindOfRail, Cond.selects RX2 yX2_kindOfRail yX2_kindOfRail, Cond.code yX2_kindOfRail cX2_kindOfRail 3 (some .int), Cond.fieldLink RX2 45 "CoinRails$State" "kinds" "I", Cond.methodLink RX2 122 yX2_trueWorth, Cond.instanceMethod yX2_trueWorth, Cond.selects RX2 yX2_trueWorth yX2_trueWorth, Cond.code yX2_trueWorth cX2_trueWorth 4 (some .int), Cond.methodLink RX2 125 yX2_misfitsIn, Cond.instanceMethod yX2_misfitsIn, Cond.selects RX2 yX2_misfitsIn yX2_misfitsIn, Cond.code yX2_misfitsIn cX2_misfitsIn 4 (some .int), Cond.methodLink RL 31 yX3_setGap, Cond.instanceMethod yX3_setGap, Cond.selects RX3 yX3_setGap yX3_setGap, Cond.code yX3_setGap cX3_setGap 4 (some .int), Cond.classLink RX3 38 "java/lang/IllegalStateException", Cond.initialized "java/lang/IllegalStateException", Cond.fieldLink RX3 19 "CoinRails" "history" "LCoinRails$History;", Cond.fieldLink RX3 70 "CoinRails$State" "gap" "[I", Cond.fieldLink RX3 73 "CoinRails$State" "use" "[I", Cond.methodLink RX3 64 yX2_isStuck]
def wsL_isStep_r5 : List Cond := [Cond.instanceMethod yX2_isStuck, Cond.selects RX2 yX2_isStuck yX2_isStuck, Cond.code yX2_isStuck cX2_isStuck 2 (some .boolean), Cond.methodLink RX3 45 yX1_save, Cond.instanceMethod yX1_save, Cond.selects RX1 yX1_save yX1_save, Cond.initialized RX1, Cond.code yX1_save cX1_save 2 none, Cond.fieldLink RX1 11 "CoinRails$History" "ring" "[LCoinRails$State;", Cond.fieldLink RX1 18 "CoinRails$History" "next" "I", Cond.fieldLink RX1 26 "CoinRails$History" "states" "I", Cond.methodLink RX1 29 Lib.Math.min.name, Cond.static Lib.Math.min.name, Cond.initialized "java/lang/Math", Cond.code Lib.Math.min.name Lib.Math.min.code 2 (some .int), Cond.methodLink RX1 22 yX2_copyFrom, Cond.instanceMethod yX2_copyFrom, Cond.selects RX2 yX2_copyFrom yX2_copyFrom, Cond.code yX2_copyFrom cX2_copyFrom 2 none, Cond.methodLink RX2 49 arraycopyName, Cond.native arraycopyName, Cond.static arraycopyName, Cond.initialized "java/lang/System", Cond.fieldLink RX2 55 "CoinRails$State" "takenAway" "I"]
def wsL_isStep_r6 : List Cond := [Cond.methodLink RL 34 yX3_free, Cond.instanceMethod yX3_free, Cond.selects RX3 yX3_free yX3_free, Cond.code yX3_free cX3_free 2 (some .int), Cond.methodLink RX3 88 yX2_loosen, Cond.instanceMethod yX2_loosen, Cond.selects RX2 yX2_loosen yX2_loosen, Cond.code yX2_loosen cX2_loosen 3 (some .int), Cond.methodLink RX2 73 yX2_isFull, Cond.instanceMethod yX2_isFull, Cond.selects RX2 yX2_isFull yX2_isFull, Cond.code yX2_isFull cX2_isFull 2 (some .boolean), Cond.methodLink RL 38 yX3_takeBag, Cond.instanceMethod yX3_takeBag, Cond.selects RX3 yX3_takeBag yX3_takeBag, Cond.code yX3_takeBag cX3_takeBag 2 (some .int), Cond.methodLink RX3 92 yX2_emptyBag, Cond.instanceMethod yX2_emptyBag, Cond.selects RX2 yX2_emptyBag yX2_emptyBag, Cond.code yX2_emptyBag cX2_emptyBag 4 (some .int), Cond.methodLink RL 41 yX3_takeRejects, Cond.instanceMethod yX3_takeRejects, Cond.selects RX3 yX3_takeRejects yX3_takeRejects, Cond.code yX3_takeRejects cX3_takeRejects 1 (some .int)]
def wsL_isStep_r7 : List Cond := [Cond.methodLink RX3 95 yX2_removeRejects, Cond.instanceMethod yX2_removeRejects, Cond.selects RX2 yX2_removeRejects yX2_removeRejects, Cond.code yX2_removeRejects cX2_removeRejects 3 (some .int), Cond.methodLink RX2 109 yX2_sum, Cond.static yX2_sum, Cond.code yX2_sum cX2_sum 6 (some .int), Cond.methodLink RL 45 yX3_where, Cond.instanceMethod yX3_where, Cond.selects RX3 yX3_where yX3_where, Cond.code yX3_where cX3_where 3 (some .int), Cond.methodLink RX3 111 yX2_placeFor, Cond.instanceMethod yX2_placeFor, Cond.selects RX2 yX2_placeFor yX2_placeFor, Cond.code yX2_placeFor cX2_placeFor 6 (some .int), Cond.methodLink RX2 62 yX2_wearAt, Cond.instanceMethod yX2_wearAt, Cond.selects RX2 yX2_wearAt yX2_wearAt, Cond.code yX2_wearAt cX2_wearAt 3 (some .int), Cond.methodLink RX2 81 Lib.Math.min.name, Cond.methodLink RX2 66 yX2_size, Cond.instanceMethod yX2_size, Cond.selects RX2 yX2_size yX2_size, Cond.code yX2_size cX2_size 3 (some .int)]
def wsL_isStep_r8 : List Cond := [Cond.methodLink RX2 76 Lib.Math.max.name, Cond.static Lib.Math.max.name, Cond.code Lib.Math.max.name Lib.Math.max.code 2 (some .int), Cond.methodLink RX2 69 yX2_isStuck, Cond.methodLink RL 48 yX3_feed, Cond.instanceMethod yX3_feed, Cond.selects RX3 yX3_feed yX3_feed, Cond.code yX3_feed cX3_feed 3 (some .int), Cond.methodLink RX3 76 yX2_putCoin, Cond.instanceMethod yX2_putCoin, Cond.selects RX2 yX2_putCoin yX2_putCoin, Cond.code yX2_putCoin cX2_putCoin 5 (some .int), Cond.methodLink RX2 84 yX2_placeFor, Cond.methodLink RX2 87 yX2_rollOver, Cond.instanceMethod yX2_rollOver, Cond.selects RX2 yX2_rollOver yX2_rollOver, Cond.code yX2_rollOver cX2_rollOver 3 none, Cond.methodLink RX2 91 yX2_useRail, Cond.instanceMethod yX2_useRail, Cond.selects RX2 yX2_useRail yX2_useRail, Cond.code yX2_useRail cX2_useRail 2 none]
def wsL_isStep : List Cond := .code yL_isStep cL_isStep 10 (some .boolean) :: ((wsL_isStep_r1 ++ (wsL_isStep_r2 ++ (wsL_isStep_r3 ++ (wsL_isStep_r4 ++ (wsL_isStep_r5 ++ (wsL_isStep_r6 ++ (wsL_isStep_r7 ++ wsL_isStep_r8))))))) ++ wsX30 ++ wsX20 ++ wsX10 ++ (vx_atS RX3 179 "java/lang/IndexOutOfBoundsException" ["java/lang/RuntimeException", "java/lang/Exception"]).filter goodWord ++ (vx_atS RX3 186 "java/lang/IllegalArgumentException" ["java/lang/RuntimeException", "java/lang/Exception"]).filter goodWord ++ (vx_atS RX3 42 "java/lang/IllegalStateException" ["java/lang/RuntimeException", "java/lang/Exception"]).filter goodWord)
def wsL_areAlike_r1 : List Cond := [Cond.methodLink RL 51 yX3_right, Cond.instanceMethod yX3_right, Cond.selects RX3 yX3_right yX3_right, Cond.initialized RX3, Cond.code yX3_right cX3_right 2 (some .double), Cond.fieldLink RX3 12 "CoinRails" "now" "LCoinRails$State;", Cond.methodLink RX3 126 yX2_coinsInBags, Cond.instanceMethod yX2_coinsInBags, Cond.selects RX2 yX2_coinsInBags yX2_coinsInBags, Cond.initialized RX2, Cond.code yX2_coinsInBags cX2_coinsInBags 1 (some .int), Cond.fieldLink RX2 42 "CoinRails$State" "bags" "[I", Cond.methodLink RX2 109 yX2_sum, Cond.static yX2_sum, Cond.code yX2_sum cX2_sum 6 (some .int), Cond.methodLink RX3 129 yX2_misfits, Cond.instanceMethod yX2_misfits, Cond.selects RX2 yX2_misfits yX2_misfits, Cond.code yX2_misfits cX2_misfits 3 (some .int), Cond.methodLink RX2 125 yX2_misfitsIn, Cond.instanceMethod yX2_misfitsIn, Cond.selects RX2 yX2_misfitsIn yX2_misfitsIn, Cond.code yX2_misfitsIn cX2_misfitsIn 4 (some .int), Cond.fieldLink RX2 45 "CoinRails$State" "kinds" "I"]
def wsL_areAlike_r2 : List Cond := [Cond.fieldLink RX2 18 "CoinRails$State" "home" "[I", Cond.methodLink RX2 150 yX2_coinsOfKind, Cond.instanceMethod yX2_coinsOfKind, Cond.selects RX2 yX2_coinsOfKind yX2_coinsOfKind, Cond.code yX2_coinsOfKind cX2_coinsOfKind 3 (some .int), Cond.methodLink RL 55 yX3_value, Cond.instanceMethod yX3_value, Cond.selects RX3 yX3_value yX3_value, Cond.code yX3_value cX3_value 2 (some .int), Cond.methodLink RX3 30 yX3_checkArgument, Cond.static yX3_checkArgument, Cond.code yX3_checkArgument cX3_checkArgument 3 none, Cond.classLink RX3 182 "java/lang/IllegalArgumentException", Cond.initialized "java/lang/IllegalArgumentException", Cond.methodLink RX3 108 yX2_aboutAll, Cond.instanceMethod yX2_aboutAll, Cond.selects RX2 yX2_aboutAll yX2_aboutAll, Cond.code yX2_aboutAll cX2_aboutAll 2 (some .int), Cond.fieldLink RX2 21 "CoinRails$State" "fed" "[I", Cond.fieldLink RX2 24 "CoinRails$State" "rejects" "[I", Cond.fieldLink RX2 55 "CoinRails$State" "takenAway" "I", Cond.methodLink RX2 131 yX2_coinsInBags, Cond.methodLink RX2 135 yX2_stuckRails, Cond.instanceMethod yX2_stuckRails]
def wsL_areAlike_r3 : List Cond := [Cond.selects RX2 yX2_stuckRails yX2_stuckRails, Cond.code yX2_stuckRails cX2_stuckRails 3 (some .int), Cond.methodLink RX2 69 yX2_isStuck, Cond.instanceMethod yX2_isStuck, Cond.selects RX2 yX2_isStuck yX2_isStuck, Cond.code yX2_isStuck cX2_isStuck 2 (some .boolean), Cond.fieldLink RX2 33 "CoinRails$State" "stuckKind" "[I", Cond.methodLink RX2 138 yX2_misfits, Cond.methodLink RX2 141 yX2_supposedWorthOfAll, Cond.instanceMethod yX2_supposedWorthOfAll, Cond.selects RX2 yX2_supposedWorthOfAll yX2_supposedWorthOfAll, Cond.code yX2_supposedWorthOfAll cX2_supposedWorthOfAll 3 (some .int), Cond.methodLink RX2 119 yX2_supposedWorth, Cond.instanceMethod yX2_supposedWorth, Cond.selects RX2 yX2_supposedWorth yX2_supposedWorth, Cond.code yX2_supposedWorth cX2_supposedWorth 3 (some .int), Cond.fieldLink RX2 15 "CoinRails$State" "worth" "[I", Cond.methodLink RX2 128 yX2_kindOfRail, Cond.instanceMethod yX2_kindOfRail, Cond.selects RX2 yX2_kindOfRail yX2_kindOfRail, Cond.code yX2_kindOfRail cX2_kindOfRail 3 (some .int), Cond.methodLink RX2 58 yX2_coinsIn, Cond.instanceMethod yX2_coinsIn, Cond.selects RX2 yX2_coinsIn yX2_coinsIn]
def wsL_areAlike_r4 : List Cond := [Cond.code yX2_coinsIn cX2_coinsIn 4 (some .int), Cond.methodLink RX2 144 yX2_trueWorthOfAll, Cond.instanceMethod yX2_trueWorthOfAll, Cond.selects RX2 yX2_trueWorthOfAll yX2_trueWorthOfAll, Cond.code yX2_trueWorthOfAll cX2_trueWorthOfAll 3 (some .int), Cond.methodLink RX2 122 yX2_trueWorth, Cond.instanceMethod yX2_trueWorth, Cond.selects RX2 yX2_trueWorth yX2_trueWorth, Cond.code yX2_trueWorth cX2_trueWorth 4 (some .int), Cond.methodLink RX2 147 yX2_fullBags, Cond.instanceMethod yX2_fullBags, Cond.selects RX2 yX2_fullBags yX2_fullBags, Cond.code yX2_fullBags cX2_fullBags 3 (some .int), Cond.methodLink RX2 73 yX2_isFull, Cond.instanceMethod yX2_isFull, Cond.selects RX2 yX2_isFull yX2_isFull, Cond.code yX2_isFull cX2_isFull 2 (some .boolean), Cond.methodLink RL 28 yX3_rail, Cond.instanceMethod yX3_rail, Cond.selects RX3 yX3_rail yX3_rail, Cond.code yX3_rail cX3_rail 3 (some .int), Cond.methodLink RX3 61 yX3_checkRail, Cond.static yX3_checkRail, Cond.code yX3_checkRail cX3_checkRail 1 none]
def wsL_areAlike_r5 : List Cond := [Cond.classLink RX3 175 "java/lang/IndexOutOfBoundsException", Cond.initialized "java/lang/IndexOutOfBoundsException", Cond.methodLink RX3 152 yX3_isRail, Cond.static yX3_isRail, Cond.code yX3_isRail cX3_isRail 1 (some .boolean), Cond.methodLink RX3 102 yX2_aboutRail, Cond.instanceMethod yX2_aboutRail, Cond.selects RX2 yX2_aboutRail yX2_aboutRail, Cond.code yX2_aboutRail cX2_aboutRail 3 (some .int), Cond.fieldLink RX2 27 "CoinRails$State" "gap" "[I", Cond.fieldLink RX2 30 "CoinRails$State" "use" "[I", Cond.fieldLink RX2 36 "CoinRails$State" "stuckWear" "[I", Cond.fieldLink RX2 39 "CoinRails$State" "rolled" "[I", Cond.methodLink RL 58 yX3_bestGap, Cond.instanceMethod yX3_bestGap, Cond.selects RX3 yX3_bestGap yX3_bestGap, Cond.code yX3_bestGap cX3_bestGap 2 (some .int), Cond.methodLink RX3 117 yX2_leastSortingGap, Cond.instanceMethod yX2_leastSortingGap, Cond.selects RX2 yX2_leastSortingGap yX2_leastSortingGap, Cond.code yX2_leastSortingGap cX2_leastSortingGap 5 (some .int), Cond.fieldLink RX2 9 "CoinRails$State" "diameter" "[I", Cond.methodLink RX2 76 Lib.Math.max.name, Cond.static Lib.Math.max.name]
def wsL_areAlike_r6 : List Cond := [Cond.initialized "java/lang/Math", Cond.code Lib.Math.max.name Lib.Math.max.code 2 (some .int), Cond.methodLink RX2 81 Lib.Math.min.name, Cond.static Lib.Math.min.name, Cond.code Lib.Math.min.name Lib.Math.min.code 2 (some .int), Cond.methodLink RL 25 yX3_kind, Cond.instanceMethod yX3_kind, Cond.selects RX3 yX3_kind yX3_kind, Cond.code yX3_kind cX3_kind 3 (some .int), Cond.methodLink RX3 53 yX3_checkKind, Cond.instanceMethod yX3_checkKind, Cond.selects RX3 yX3_checkKind yX3_checkKind, Cond.code yX3_checkKind cX3_checkKind 2 none, Cond.fieldLink RX3 34 "CoinRails$State" "kinds" "I", Cond.methodLink RX3 99 yX2_aboutKind, Cond.instanceMethod yX2_aboutKind, Cond.selects RX2 yX2_aboutKind yX2_aboutKind, Cond.code yX2_aboutKind cX2_aboutKind 3 (some .int), Cond.methodLink RX2 113 yX2_coinsOfKindInBags, Cond.instanceMethod yX2_coinsOfKindInBags, Cond.selects RX2 yX2_coinsOfKindInBags yX2_coinsOfKindInBags, Cond.code yX2_coinsOfKindInBags cX2_coinsOfKindInBags 4 (some .int), Cond.methodLink RX2 116 yX2_stuckOfKind, Cond.instanceMethod yX2_stuckOfKind]
def wsL_areAlike_r7 : List Cond := [Cond.selects RX2 yX2_stuckOfKind yX2_stuckOfKind, Cond.code yX2_stuckOfKind cX2_stuckOfKind 4 (some .int), Cond.methodLink RL 61 yX3_supply, Cond.instanceMethod yX3_supply, Cond.selects RX3 yX3_supply yX3_supply, Cond.code yX3_supply cX3_supply 2 (some .int), Cond.methodLink RX3 120 yX2_coinsUntilAstray, Cond.instanceMethod yX2_coinsUntilAstray, Cond.selects RX2 yX2_coinsUntilAstray yX2_coinsUntilAstray, Cond.code yX2_coinsUntilAstray cX2_coinsUntilAstray 2 (some .int), Cond.methodLink RX2 156 yX2_fallsHome, Cond.instanceMethod yX2_fallsHome, Cond.selects RX2 yX2_fallsHome yX2_fallsHome, Cond.code yX2_fallsHome cX2_fallsHome 3 (some .boolean), Cond.methodLink RX2 84 yX2_placeFor, Cond.instanceMethod yX2_placeFor, Cond.selects RX2 yX2_placeFor yX2_placeFor, Cond.code yX2_placeFor cX2_placeFor 6 (some .int), Cond.methodLink RX2 62 yX2_wearAt, Cond.instanceMethod yX2_wearAt, Cond.selects RX2 yX2_wearAt yX2_wearAt, Cond.code yX2_wearAt cX2_wearAt 3 (some .int), Cond.methodLink RX2 66 yX2_size, Cond.instanceMethod yX2_size]
def wsL_areAlike_r8 : List Cond := [Cond.selects RX2 yX2_size yX2_size, Cond.code yX2_size cX2_size 3 (some .int), Cond.methodLink RL 64 yX3_mostWear, Cond.instanceMethod yX3_mostWear, Cond.selects RX3 yX3_mostWear yX3_mostWear, Cond.code yX3_mostWear cX3_mostWear 2 (some .int), Cond.methodLink RX3 114 yX2_mostFittingWear, Cond.instanceMethod yX2_mostFittingWear, Cond.selects RX2 yX2_mostFittingWear yX2_mostFittingWear, Cond.code yX2_mostFittingWear cX2_mostFittingWear 4 (some .int), Cond.methodLink RL 67 yX3_count, Cond.instanceMethod yX3_count, Cond.selects RX3 yX3_count yX3_count, Cond.code yX3_count cX3_count 3 (some .int), Cond.methodLink RX3 105 yX2_coinsOfKind]
def wsL_areAlike : List Cond := .code yL_areAlike cL_areAlike 6 (some .boolean) :: ((wsL_areAlike_r1 ++ (wsL_areAlike_r2 ++ (wsL_areAlike_r3 ++ (wsL_areAlike_r4 ++ (wsL_areAlike_r5 ++ (wsL_areAlike_r6 ++ (wsL_areAlike_r7 ++ wsL_areAlike_r8))))))) ++ wsX30 ++ wsX20 ++ (vx_atS RX3 186 "java/lang/IllegalArgumentException" ["java/lang/RuntimeException", "java/lang/Exception"]).filter goodWord ++ (vx_atS RX3 179 "java/lang/IndexOutOfBoundsException" ["java/lang/RuntimeException", "java/lang/Exception"]).filter goodWord)
def wsL_isSound_r1 : List Cond := [Cond.methodLink RL 55 yX3_value, Cond.instanceMethod yX3_value, Cond.selects RX3 yX3_value yX3_value, Cond.initialized RX3, Cond.code yX3_value cX3_value 2 (some .int), Cond.fieldLink RX3 12 "CoinRails" "now" "LCoinRails$State;", Cond.methodLink RX3 30 yX3_checkArgument, Cond.static yX3_checkArgument, Cond.code yX3_checkArgument cX3_checkArgument 3 none, Cond.classLink RX3 182 "java/lang/IllegalArgumentException", Cond.initialized "java/lang/IllegalArgumentException", Cond.methodLink RX3 108 yX2_aboutAll, Cond.instanceMethod yX2_aboutAll, Cond.selects RX2 yX2_aboutAll yX2_aboutAll, Cond.initialized RX2, Cond.code yX2_aboutAll cX2_aboutAll 2 (some .int), Cond.fieldLink RX2 45 "CoinRails$State" "kinds" "I", Cond.fieldLink RX2 21 "CoinRails$State" "fed" "[I", Cond.fieldLink RX2 24 "CoinRails$State" "rejects" "[I", Cond.fieldLink RX2 55 "CoinRails$State" "takenAway" "I", Cond.methodLink RX2 109 yX2_sum, Cond.static yX2_sum, Cond.code yX2_sum cX2_sum 6 (some .int), Cond.methodLink RX2 131 yX2_coinsInBags]
def wsL_isSound_r2 : List Cond := [Cond.instanceMethod yX2_coinsInBags, Cond.selects RX2 yX2_coinsInBags yX2_coinsInBags, Cond.code yX2_coinsInBags cX2_coinsInBags 1 (some .int), Cond.fieldLink RX2 42 "CoinRails$State" "bags" "[I", Cond.methodLink RX2 135 yX2_stuckRails, Cond.instanceMethod yX2_stuckRails, Cond.selects RX2 yX2_stuckRails yX2_stuckRails, Cond.code yX2_stuckRails cX2_stuckRails 3 (some .int), Cond.methodLink RX2 69 yX2_isStuck, Cond.instanceMethod yX2_isStuck, Cond.selects RX2 yX2_isStuck yX2_isStuck, Cond.code yX2_isStuck cX2_isStuck 2 (some .boolean), Cond.fieldLink RX2 33 "CoinRails$State" "stuckKind" "[I", Cond.methodLink RX2 138 yX2_misfits, Cond.instanceMethod yX2_misfits, Cond.selects RX2 yX2_misfits yX2_misfits, Cond.code yX2_misfits cX2_misfits 3 (some .int), Cond.methodLink RX2 125 yX2_misfitsIn, Cond.instanceMethod yX2_misfitsIn, Cond.selects RX2 yX2_misfitsIn yX2_misfitsIn, Cond.code yX2_misfitsIn cX2_misfitsIn 4 (some .int), Cond.fieldLink RX2 18 "CoinRails$State" "home" "[I", Cond.methodLink RX2 150 yX2_coinsOfKind, Cond.instanceMethod yX2_coinsOfKind]
def wsL_isSound_r3 : List Cond := [Cond.selects RX2 yX2_coinsOfKind yX2_coinsOfKind, Cond.code yX2_coinsOfKind cX2_coinsOfKind 3 (some .int), Cond.methodLink RX2 141 yX2_supposedWorthOfAll, Cond.instanceMethod yX2_supposedWorthOfAll, Cond.selects RX2 yX2_supposedWorthOfAll yX2_supposedWorthOfAll, Cond.code yX2_supposedWorthOfAll cX2_supposedWorthOfAll 3 (some .int), Cond.methodLink RX2 119 yX2_supposedWorth, Cond.instanceMethod yX2_supposedWorth, Cond.selects RX2 yX2_supposedWorth yX2_supposedWorth, Cond.code yX2_supposedWorth cX2_supposedWorth 3 (some .int), Cond.fieldLink RX2 15 "CoinRails$State" "worth" "[I", Cond.methodLink RX2 128 yX2_kindOfRail, Cond.instanceMethod yX2_kindOfRail, Cond.selects RX2 yX2_kindOfRail yX2_kindOfRail, Cond.code yX2_kindOfRail cX2_kindOfRail 3 (some .int), Cond.methodLink RX2 58 yX2_coinsIn, Cond.instanceMethod yX2_coinsIn, Cond.selects RX2 yX2_coinsIn yX2_coinsIn, Cond.code yX2_coinsIn cX2_coinsIn 4 (some .int), Cond.methodLink RX2 144 yX2_trueWorthOfAll, Cond.instanceMethod yX2_trueWorthOfAll, Cond.selects RX2 yX2_trueWorthOfAll yX2_trueWorthOfAll, Cond.code yX2_trueWorthOfAll cX2_trueWorthOfAll 3 (some .int), Cond.methodLink RX2 122 yX2_trueWorth]
def wsL_isSound_r4 : List Cond := [Cond.instanceMethod yX2_trueWorth, Cond.selects RX2 yX2_trueWorth yX2_trueWorth, Cond.code yX2_trueWorth cX2_trueWorth 4 (some .int), Cond.methodLink RX2 147 yX2_fullBags, Cond.instanceMethod yX2_fullBags, Cond.selects RX2 yX2_fullBags yX2_fullBags, Cond.code yX2_fullBags cX2_fullBags 3 (some .int), Cond.methodLink RX2 73 yX2_isFull, Cond.instanceMethod yX2_isFull, Cond.selects RX2 yX2_isFull yX2_isFull, Cond.code yX2_isFull cX2_isFull 2 (some .boolean), Cond.methodLink RL 51 yX3_right, Cond.instanceMethod yX3_right, Cond.selects RX3 yX3_right yX3_right, Cond.code yX3_right cX3_right 2 (some .double), Cond.methodLink RX3 126 yX2_coinsInBags, Cond.methodLink RX3 129 yX2_misfits, Cond.methodLink RL 25 yX3_kind, Cond.instanceMethod yX3_kind, Cond.selects RX3 yX3_kind yX3_kind, Cond.code yX3_kind cX3_kind 3 (some .int), Cond.methodLink RX3 53 yX3_checkKind, Cond.instanceMethod yX3_checkKind, Cond.selects RX3 yX3_checkKind yX3_checkKind]
def wsL_isSound_r5 : List Cond := [Cond.code yX3_checkKind cX3_checkKind 2 none, Cond.classLink RX3 175 "java/lang/IndexOutOfBoundsException", Cond.initialized "java/lang/IndexOutOfBoundsException", Cond.fieldLink RX3 34 "CoinRails$State" "kinds" "I", Cond.methodLink RX3 99 yX2_aboutKind, Cond.instanceMethod yX2_aboutKind, Cond.selects RX2 yX2_aboutKind yX2_aboutKind, Cond.code yX2_aboutKind cX2_aboutKind 3 (some .int), Cond.fieldLink RX2 9 "CoinRails$State" "diameter" "[I", Cond.methodLink RX2 113 yX2_coinsOfKindInBags, Cond.instanceMethod yX2_coinsOfKindInBags, Cond.selects RX2 yX2_coinsOfKindInBags yX2_coinsOfKindInBags, Cond.code yX2_coinsOfKindInBags cX2_coinsOfKindInBags 4 (some .int), Cond.methodLink RX2 116 yX2_stuckOfKind, Cond.instanceMethod yX2_stuckOfKind, Cond.selects RX2 yX2_stuckOfKind yX2_stuckOfKind, Cond.code yX2_stuckOfKind cX2_stuckOfKind 4 (some .int), Cond.methodLink RL 61 yX3_supply, Cond.instanceMethod yX3_supply, Cond.selects RX3 yX3_supply yX3_supply, Cond.code yX3_supply cX3_supply 2 (some .int), Cond.methodLink RX3 120 yX2_coinsUntilAstray, Cond.instanceMethod yX2_coinsUntilAstray, Cond.selects RX2 yX2_coinsUntilAstray yX2_coinsUntilAstray]
def wsL_isSound_r6 : List Cond := [Cond.code yX2_coinsUntilAstray cX2_coinsUntilAstray 2 (some .int), Cond.methodLink RX2 156 yX2_fallsHome, Cond.instanceMethod yX2_fallsHome, Cond.selects RX2 yX2_fallsHome yX2_fallsHome, Cond.code yX2_fallsHome cX2_fallsHome 3 (some .boolean), Cond.methodLink RX2 84 yX2_placeFor, Cond.instanceMethod yX2_placeFor, Cond.selects RX2 yX2_placeFor yX2_placeFor, Cond.code yX2_placeFor cX2_placeFor 6 (some .int), Cond.fieldLink RX2 27 "CoinRails$State" "gap" "[I", Cond.methodLink RX2 62 yX2_wearAt, Cond.instanceMethod yX2_wearAt, Cond.selects RX2 yX2_wearAt yX2_wearAt, Cond.code yX2_wearAt cX2_wearAt 3 (some .int), Cond.methodLink RX2 81 Lib.Math.min.name, Cond.static Lib.Math.min.name, Cond.initialized "java/lang/Math", Cond.code Lib.Math.min.name Lib.Math.min.code 2 (some .int), Cond.methodLink RX2 66 yX2_size, Cond.instanceMethod yX2_size, Cond.selects RX2 yX2_size yX2_size, Cond.code yX2_size cX2_size 3 (some .int), Cond.methodLink RX2 76 Lib.Math.max.name, Cond.static Lib.Math.max.name]
def wsL_isSound_r7 : List Cond := [Cond.code Lib.Math.max.name Lib.Math.max.code 2 (some .int), Cond.methodLink RL 64 yX3_mostWear, Cond.instanceMethod yX3_mostWear, Cond.selects RX3 yX3_mostWear yX3_mostWear, Cond.code yX3_mostWear cX3_mostWear 2 (some .int), Cond.methodLink RX3 114 yX2_mostFittingWear, Cond.instanceMethod yX2_mostFittingWear, Cond.selects RX2 yX2_mostFittingWear yX2_mostFittingWear, Cond.code yX2_mostFittingWear cX2_mostFittingWear 4 (some .int), Cond.methodLink RL 28 yX3_rail, Cond.instanceMethod yX3_rail, Cond.selects RX3 yX3_rail yX3_rail, Cond.code yX3_rail cX3_rail 3 (some .int), Cond.methodLink RX3 61 yX3_checkRail, Cond.static yX3_checkRail, Cond.code yX3_checkRail cX3_checkRail 1 none, Cond.methodLink RX3 152 yX3_isRail, Cond.static yX3_isRail, Cond.code yX3_isRail cX3_isRail 1 (some .boolean), Cond.methodLink RX3 102 yX2_aboutRail, Cond.instanceMethod yX2_aboutRail, Cond.selects RX2 yX2_aboutRail yX2_aboutRail, Cond.code yX2_aboutRail cX2_aboutRail 3 (some .int), Cond.fieldLink RX2 30 "CoinRails$State" "use" "[I"]
def wsL_isSound_r8 : List Cond := [Cond.fieldLink RX2 36 "CoinRails$State" "stuckWear" "[I", Cond.fieldLink RX2 39 "CoinRails$State" "rolled" "[I"]
def wsL_isSound : List Cond := .code yL_isSound cL_isSound 5 (some .boolean) :: ((wsL_isSound_r1 ++ (wsL_isSound_r2 ++ (wsL_isSound_r3 ++ (wsL_isSound_r4 ++ (wsL_isSound_r5 ++ (wsL_isSound_r6 ++ (wsL_isSound_r7 ++ wsL_isSound_r8))))))) ++ wsX30 ++ wsX20 ++ (vx_atS RX3 186 "java/lang/IllegalArgumentException" ["java/lang/RuntimeException", "java/lang/Exception"]).filter goodWord ++ (vx_atS RX3 179 "java/lang/IndexOutOfBoundsException" ["java/lang/RuntimeException", "java/lang/Exception"]).filter goodWord)
def wsL_law0_r1 : List Cond := [Cond.classLink RL 20 RX3, Cond.instantiable RX3 3, Cond.initialized RX3, Cond.methodLink RL 70 yX3_init, Cond.instanceMethod yX3_init, Cond.code yX3_init cX3_init 1 none, Cond.methodLink RX3 3 objectInit, Cond.instanceMethod objectInit, Cond.code objectInit ⟨#[0xb1]⟩ 1 none, Cond.classLink RX3 9 RX2, Cond.instantiable RX2 13, Cond.initialized RX2, Cond.fieldLink RX3 12 "CoinRails" "now" "LCoinRails$State;", Cond.classLink RX3 16 RX1, Cond.instantiable RX1 3, Cond.initialized RX1, Cond.fieldLink RX3 19 "CoinRails" "history" "LCoinRails$History;", Cond.classLink RX3 23 RX0, Cond.instantiable RX0 5, Cond.initialized RX0, Cond.fieldLink RX3 26 "CoinRails" "text" "LCoinRails$CoinText;", Cond.methodLink RX3 11 yX2_init, Cond.instanceMethod yX2_init, Cond.code yX2_init cX2_init 2 none]
def wsL_law0_r2 : List Cond := [Cond.methodLink RX2 3 objectInit, Cond.arrayClass .int, Cond.fieldLink RX2 9 "CoinRails$State" "diameter" "[I", Cond.fieldLink RX2 15 "CoinRails$State" "worth" "[I", Cond.fieldLink RX2 18 "CoinRails$State" "home" "[I", Cond.fieldLink RX2 21 "CoinRails$State" "fed" "[I", Cond.fieldLink RX2 24 "CoinRails$State" "rejects" "[I", Cond.fieldLink RX2 27 "CoinRails$State" "gap" "[I", Cond.fieldLink RX2 30 "CoinRails$State" "use" "[I", Cond.fieldLink RX2 33 "CoinRails$State" "stuckKind" "[I", Cond.fieldLink RX2 36 "CoinRails$State" "stuckWear" "[I", Cond.fieldLink RX2 39 "CoinRails$State" "rolled" "[I", Cond.fieldLink RX2 42 "CoinRails$State" "bags" "[I", Cond.methodLink RX3 18 yX1_init, Cond.instanceMethod yX1_init, Cond.code yX1_init cX1_init 2 none, Cond.methodLink RX1 3 objectInit, Cond.classLink RX1 9 RX2, Cond.fieldLink RX1 11 "CoinRails$History" "ring" "[LCoinRails$State;", Cond.methodLink RX1 17 yX2_init, Cond.instanceMethod yX0_init, Cond.code yX0_init cX0_init 1 none, Cond.methodLink RX0 3 objectInit, Cond.fieldLink RX0 9 "CoinRails$CoinText" "bytes" "[I"]
def wsL_law0_r3 : List Cond := [Cond.fieldLink RX0 15 "CoinRails$CoinText" "kindOf" "[I", Cond.fieldLink RX0 18 "CoinRails$CoinText" "wearOf" "[I", Cond.methodLink RL 71 yL_kinds, Cond.static yL_kinds, Cond.initialized RL, Cond.code yL_kinds cL_kinds 7 (some .boolean), Cond.methodLink RL 9 yL_cell, Cond.static yL_cell, Cond.code yL_cell cL_cell 2 (some .int), Cond.constant RL 7 (1116352408), Cond.methodLink RL 15 yL_up, Cond.static yL_up, Cond.code yL_up cL_up 2 (some .int), Cond.constant RL 8 (2147483647), Cond.methodLink RL 19 yX3_addKind, Cond.instanceMethod yX3_addKind, Cond.selects RX3 yX3_addKind yX3_addKind, Cond.code yX3_addKind cX3_addKind 4 (some .int), Cond.classLink RX3 38 "java/lang/IllegalStateException", Cond.initialized "java/lang/IllegalStateException", Cond.fieldLink RX3 34 "CoinRails$State" "kinds" "I", Cond.methodLink RX3 30 yX3_checkArgument, Cond.static yX3_checkArgument, Cond.code yX3_checkArgument cX3_checkArgument 3 none]
def wsL_law0_r4 : List Cond := [Cond.classLink RX3 182 "java/lang/IllegalArgumentException", Cond.initialized "java/lang/IllegalArgumentException", Cond.methodLink RX3 45 yX1_save, Cond.instanceMethod yX1_save, Cond.selects RX1 yX1_save yX1_save, Cond.code yX1_save cX1_save 2 none, Cond.fieldLink RX1 18 "CoinRails$History" "next" "I", Cond.fieldLink RX1 26 "CoinRails$History" "states" "I", Cond.methodLink RX1 29 Lib.Math.min.name, Cond.static Lib.Math.min.name, Cond.initialized "java/lang/Math", Cond.code Lib.Math.min.name Lib.Math.min.code 2 (some .int), Cond.methodLink RX1 22 yX2_copyFrom, Cond.instanceMethod yX2_copyFrom, Cond.selects RX2 yX2_copyFrom yX2_copyFrom, Cond.code yX2_copyFrom cX2_copyFrom 2 none, Cond.fieldLink RX2 45 "CoinRails$State" "kinds" "I", Cond.methodLink RX2 49 arraycopyName, Cond.native arraycopyName, Cond.static arraycopyName, Cond.initialized "java/lang/System", Cond.fieldLink RX2 55 "CoinRails$State" "takenAway" "I", Cond.methodLink RX3 49 yX2_putKind, Cond.instanceMethod yX2_putKind]
def wsL_law0_r5 : List Cond := [Cond.selects RX2 yX2_putKind yX2_putKind, Cond.code yX2_putKind cX2_putKind 5 (some .int), Cond.methodLink RL 75 yL_isStep, Cond.static yL_isStep, Cond.code yL_isStep cL_isStep 10 (some .boolean), Cond.methodLink RL 25 yX3_kind, Cond.instanceMethod yX3_kind, Cond.selects RX3 yX3_kind yX3_kind, Cond.code yX3_kind cX3_kind 3 (some .int), Cond.methodLink RX3 53 yX3_checkKind, Cond.instanceMethod yX3_checkKind, Cond.selects RX3 yX3_checkKind yX3_checkKind, Cond.code yX3_checkKind cX3_checkKind 2 none, Cond.classLink RX3 175 "java/lang/IndexOutOfBoundsException", Cond.initialized "java/lang/IndexOutOfBoundsException", Cond.methodLink RX3 99 yX2_aboutKind, Cond.instanceMethod yX2_aboutKind, Cond.selects RX2 yX2_aboutKind yX2_aboutKind, Cond.code yX2_aboutKind cX2_aboutKind 3 (some .int), Cond.methodLink RX2 113 yX2_coinsOfKindInBags, Cond.instanceMethod yX2_coinsOfKindInBags, Cond.selects RX2 yX2_coinsOfKindInBags yX2_coinsOfKindInBags, Cond.code yX2_coinsOfKindInBags cX2_coinsOfKindInBags 4 (some .int), Cond.methodLink RX2 150 yX2_coinsOfKind]
def wsL_law0_r6 : List Cond := [Cond.instanceMethod yX2_coinsOfKind, Cond.selects RX2 yX2_coinsOfKind yX2_coinsOfKind, Cond.code yX2_coinsOfKind cX2_coinsOfKind 3 (some .int), Cond.methodLink RX2 116 yX2_stuckOfKind, Cond.instanceMethod yX2_stuckOfKind, Cond.selects RX2 yX2_stuckOfKind yX2_stuckOfKind, Cond.code yX2_stuckOfKind cX2_stuckOfKind 4 (some .int), Cond.methodLink RL 28 yX3_rail, Cond.instanceMethod yX3_rail, Cond.selects RX3 yX3_rail yX3_rail, Cond.code yX3_rail cX3_rail 3 (some .int), Cond.methodLink RX3 61 yX3_checkRail, Cond.static yX3_checkRail, Cond.code yX3_checkRail cX3_checkRail 1 none, Cond.methodLink RX3 152 yX3_isRail, Cond.static yX3_isRail, Cond.code yX3_isRail cX3_isRail 1 (some .boolean), Cond.methodLink RX3 102 yX2_aboutRail, Cond.instanceMethod yX2_aboutRail, Cond.selects RX2 yX2_aboutRail yX2_aboutRail, Cond.code yX2_aboutRail cX2_aboutRail 3 (some .int), Cond.methodLink RX2 58 yX2_coinsIn, Cond.instanceMethod yX2_coinsIn, Cond.selects RX2 yX2_coinsIn yX2_coinsIn]
def wsL_law0_r7 : List Cond := [Cond.code yX2_coinsIn cX2_coinsIn 4 (some .int), Cond.methodLink RX2 119 yX2_supposedWorth, Cond.instanceMethod yX2_supposedWorth, Cond.selects RX2 yX2_supposedWorth yX2_supposedWorth, Cond.code yX2_supposedWorth cX2_supposedWorth 3 (some .int), Cond.methodLink RX2 128 yX2_kindOfRail, Cond.instanceMethod yX2_kindOfRail, Cond.selects RX2 yX2_kindOfRail yX2_kindOfRail, Cond.code yX2_kindOfRail cX2_kindOfRail 3 (some .int), Cond.methodLink RX2 122 yX2_trueWorth, Cond.instanceMethod yX2_trueWorth, Cond.selects RX2 yX2_trueWorth yX2_trueWorth, Cond.code yX2_trueWorth cX2_trueWorth 4 (some .int), Cond.methodLink RX2 125 yX2_misfitsIn, Cond.instanceMethod yX2_misfitsIn, Cond.selects RX2 yX2_misfitsIn yX2_misfitsIn, Cond.code yX2_misfitsIn cX2_misfitsIn 4 (some .int), Cond.methodLink RL 31 yX3_setGap, Cond.instanceMethod yX3_setGap, Cond.selects RX3 yX3_setGap yX3_setGap, Cond.code yX3_setGap cX3_setGap 4 (some .int), Cond.fieldLink RX3 70 "CoinRails$State" "gap" "[I", Cond.fieldLink RX3 73 "CoinRails$State" "use" "[I", Cond.methodLink RX3 64 yX2_isStuck]
def wsL_law0_r8 : List Cond := [Cond.instanceMethod yX2_isStuck, Cond.selects RX2 yX2_isStuck yX2_isStuck, Cond.code yX2_isStuck cX2_isStuck 2 (some .boolean), Cond.methodLink RL 34 yX3_free, Cond.instanceMethod yX3_free, Cond.selects RX3 yX3_free yX3_free, Cond.code yX3_free cX3_free 2 (some .int), Cond.methodLink RX3 88 yX2_loosen, Cond.instanceMethod yX2_loosen, Cond.selects RX2 yX2_loosen yX2_loosen, Cond.code yX2_loosen cX2_loosen 3 (some .int), Cond.methodLink RX2 73 yX2_isFull, Cond.instanceMethod yX2_isFull, Cond.selects RX2 yX2_isFull yX2_isFull, Cond.code yX2_isFull cX2_isFull 2 (some .boolean), Cond.methodLink RL 38 yX3_takeBag, Cond.instanceMethod yX3_takeBag, Cond.selects RX3 yX3_takeBag yX3_takeBag, Cond.code yX3_takeBag cX3_takeBag 2 (some .int), Cond.methodLink RX3 92 yX2_emptyBag, Cond.instanceMethod yX2_emptyBag, Cond.selects RX2 yX2_emptyBag yX2_emptyBag, Cond.code yX2_emptyBag cX2_emptyBag 4 (some .int), Cond.methodLink RL 41 yX3_takeRejects]
def wsL_law0_r9 : List Cond := [Cond.instanceMethod yX3_takeRejects, Cond.selects RX3 yX3_takeRejects yX3_takeRejects, Cond.code yX3_takeRejects cX3_takeRejects 1 (some .int), Cond.methodLink RX3 95 yX2_removeRejects, Cond.instanceMethod yX2_removeRejects, Cond.selects RX2 yX2_removeRejects yX2_removeRejects, Cond.code yX2_removeRejects cX2_removeRejects 3 (some .int), Cond.methodLink RX2 109 yX2_sum, Cond.static yX2_sum, Cond.code yX2_sum cX2_sum 6 (some .int), Cond.methodLink RL 45 yX3_where, Cond.instanceMethod yX3_where, Cond.selects RX3 yX3_where yX3_where, Cond.code yX3_where cX3_where 3 (some .int), Cond.methodLink RX3 111 yX2_placeFor, Cond.instanceMethod yX2_placeFor, Cond.selects RX2 yX2_placeFor yX2_placeFor, Cond.code yX2_placeFor cX2_placeFor 6 (some .int), Cond.methodLink RX2 62 yX2_wearAt, Cond.instanceMethod yX2_wearAt, Cond.selects RX2 yX2_wearAt yX2_wearAt, Cond.code yX2_wearAt cX2_wearAt 3 (some .int), Cond.methodLink RX2 81 Lib.Math.min.name, Cond.methodLink RX2 66 yX2_size]
def wsL_law0_r10 : List Cond := [Cond.instanceMethod yX2_size, Cond.selects RX2 yX2_size yX2_size, Cond.code yX2_size cX2_size 3 (some .int), Cond.methodLink RX2 76 Lib.Math.max.name, Cond.static Lib.Math.max.name, Cond.code Lib.Math.max.name Lib.Math.max.code 2 (some .int), Cond.methodLink RX2 69 yX2_isStuck, Cond.methodLink RL 48 yX3_feed, Cond.instanceMethod yX3_feed, Cond.selects RX3 yX3_feed yX3_feed, Cond.code yX3_feed cX3_feed 3 (some .int), Cond.methodLink RX3 76 yX2_putCoin, Cond.instanceMethod yX2_putCoin, Cond.selects RX2 yX2_putCoin yX2_putCoin, Cond.code yX2_putCoin cX2_putCoin 5 (some .int), Cond.methodLink RX2 84 yX2_placeFor, Cond.methodLink RX2 87 yX2_rollOver, Cond.instanceMethod yX2_rollOver, Cond.selects RX2 yX2_rollOver yX2_rollOver, Cond.code yX2_rollOver cX2_rollOver 3 none, Cond.methodLink RX2 91 yX2_useRail, Cond.instanceMethod yX2_useRail, Cond.selects RX2 yX2_useRail yX2_useRail, Cond.code yX2_useRail cX2_useRail 2 none]
def wsL_law0_r11 : List Cond := [Cond.methodLink RL 79 yL_areAlike, Cond.static yL_areAlike, Cond.code yL_areAlike cL_areAlike 6 (some .boolean), Cond.methodLink RL 51 yX3_right, Cond.instanceMethod yX3_right, Cond.selects RX3 yX3_right yX3_right, Cond.code yX3_right cX3_right 2 (some .double), Cond.methodLink RX3 126 yX2_coinsInBags, Cond.instanceMethod yX2_coinsInBags, Cond.selects RX2 yX2_coinsInBags yX2_coinsInBags, Cond.code yX2_coinsInBags cX2_coinsInBags 1 (some .int), Cond.methodLink RX3 129 yX2_misfits, Cond.instanceMethod yX2_misfits, Cond.selects RX2 yX2_misfits yX2_misfits, Cond.code yX2_misfits cX2_misfits 3 (some .int), Cond.methodLink RL 55 yX3_value, Cond.instanceMethod yX3_value, Cond.selects RX3 yX3_value yX3_value, Cond.code yX3_value cX3_value 2 (some .int), Cond.methodLink RX3 108 yX2_aboutAll, Cond.instanceMethod yX2_aboutAll, Cond.selects RX2 yX2_aboutAll yX2_aboutAll, Cond.code yX2_aboutAll cX2_aboutAll 2 (some .int), Cond.methodLink RX2 131 yX2_coinsInBags]
def wsL_law0_r12 : List Cond := [Cond.methodLink RX2 135 yX2_stuckRails, Cond.instanceMethod yX2_stuckRails, Cond.selects RX2 yX2_stuckRails yX2_stuckRails, Cond.code yX2_stuckRails cX2_stuckRails 3 (some .int), Cond.methodLink RX2 138 yX2_misfits, Cond.methodLink RX2 141 yX2_supposedWorthOfAll, Cond.instanceMethod yX2_supposedWorthOfAll, Cond.selects RX2 yX2_supposedWorthOfAll yX2_supposedWorthOfAll, Cond.code yX2_supposedWorthOfAll cX2_supposedWorthOfAll 3 (some .int), Cond.methodLink RX2 144 yX2_trueWorthOfAll, Cond.instanceMethod yX2_trueWorthOfAll, Cond.selects RX2 yX2_trueWorthOfAll yX2_trueWorthOfAll, Cond.code yX2_trueWorthOfAll cX2_trueWorthOfAll 3 (some .int), Cond.methodLink RX2 147 yX2_fullBags, Cond.instanceMethod yX2_fullBags, Cond.selects RX2 yX2_fullBags yX2_fullBags, Cond.code yX2_fullBags cX2_fullBags 3 (some .int), Cond.methodLink RL 58 yX3_bestGap, Cond.instanceMethod yX3_bestGap, Cond.selects RX3 yX3_bestGap yX3_bestGap, Cond.code yX3_bestGap cX3_bestGap 2 (some .int), Cond.methodLink RX3 117 yX2_leastSortingGap, Cond.instanceMethod yX2_leastSortingGap, Cond.selects RX2 yX2_leastSortingGap yX2_leastSortingGap]
def wsL_law0_r13 : List Cond := [Cond.code yX2_leastSortingGap cX2_leastSortingGap 5 (some .int), Cond.methodLink RL 61 yX3_supply, Cond.instanceMethod yX3_supply, Cond.selects RX3 yX3_supply yX3_supply, Cond.code yX3_supply cX3_supply 2 (some .int), Cond.methodLink RX3 120 yX2_coinsUntilAstray, Cond.instanceMethod yX2_coinsUntilAstray, Cond.selects RX2 yX2_coinsUntilAstray yX2_coinsUntilAstray, Cond.code yX2_coinsUntilAstray cX2_coinsUntilAstray 2 (some .int), Cond.methodLink RX2 156 yX2_fallsHome, Cond.instanceMethod yX2_fallsHome, Cond.selects RX2 yX2_fallsHome yX2_fallsHome, Cond.code yX2_fallsHome cX2_fallsHome 3 (some .boolean), Cond.methodLink RL 64 yX3_mostWear, Cond.instanceMethod yX3_mostWear, Cond.selects RX3 yX3_mostWear yX3_mostWear, Cond.code yX3_mostWear cX3_mostWear 2 (some .int), Cond.methodLink RX3 114 yX2_mostFittingWear, Cond.instanceMethod yX2_mostFittingWear, Cond.selects RX2 yX2_mostFittingWear yX2_mostFittingWear, Cond.code yX2_mostFittingWear cX2_mostFittingWear 4 (some .int), Cond.methodLink RL 67 yX3_count, Cond.instanceMethod yX3_count, Cond.selects RX3 yX3_count yX3_count]
def wsL_law0_r14 : List Cond := [Cond.code yX3_count cX3_count 3 (some .int), Cond.methodLink RX3 105 yX2_coinsOfKind, Cond.methodLink RL 83 yL_isSound, Cond.static yL_isSound, Cond.code yL_isSound cL_isSound 5 (some .boolean), Cond.methodLink RL 87 yX3_feedSome, Cond.instanceMethod yX3_feedSome, Cond.selects RX3 yX3_feedSome yX3_feedSome, Cond.code yX3_feedSome cX3_feedSome 3 (some .int), Cond.constant RX3 80 (999999), Cond.methodLink RX3 83 yX2_putCoinsByChance, Cond.instanceMethod yX2_putCoinsByChance, Cond.selects RX2 yX2_putCoinsByChance yX2_putCoinsByChance, Cond.code yX2_putCoinsByChance cX2_putCoinsByChance 9 (some .int), Cond.constantLong RX2 94 (1103515245), Cond.constantLong RX2 96 (12345), Cond.constantLong RX2 98 (2147483648), Cond.constantLong RX2 100 (65536), Cond.constantLong RX2 102 (1048576), Cond.constantLong RX2 104 (40), Cond.methodLink RX2 106 yX2_putCoin, Cond.methodLink RL 90 yX3_undo, Cond.instanceMethod yX3_undo, Cond.selects RX3 yX3_undo yX3_undo]
def wsL_law0_r15 : List Cond := [Cond.code yX3_undo cX3_undo 1 (some .int), Cond.fieldLink RX3 155 "CoinRails$History" "states" "I", Cond.methodLink RX3 160 yX1_restore, Cond.instanceMethod yX1_restore, Cond.selects RX1 yX1_restore yX1_restore, Cond.code yX1_restore cX1_restore 2 (some .int)]
def wsL_law0 : List Cond := (wsL_law0_r1 ++ (wsL_law0_r2 ++ (wsL_law0_r3 ++ (wsL_law0_r4 ++ (wsL_law0_r5 ++ (wsL_law0_r6 ++ (wsL_law0_r7 ++ (wsL_law0_r8 ++ (wsL_law0_r9 ++ (wsL_law0_r10 ++ (wsL_law0_r11 ++ (wsL_law0_r12 ++ (wsL_law0_r13 ++ (wsL_law0_r14 ++ wsL_law0_r15)))))))))))))) ++ wsX30 ++ wsX20 ++ wsX10 ++ wsX00 ++ ([] : List Cond)
def wsL_law : List Cond := wsL_law0 ++ (vx_atS RX3 42 "java/lang/IllegalStateException" ["java/lang/RuntimeException", "java/lang/Exception"]).filter goodWord ++ (vx_atS RX3 186 "java/lang/IllegalArgumentException" ["java/lang/RuntimeException", "java/lang/Exception"]).filter goodWord ++ (vx_atS RX3 179 "java/lang/IndexOutOfBoundsException" ["java/lang/RuntimeException", "java/lang/Exception"]).filter goodWord
end
section
theorem dX0_init_0 : decode cX0_init 0 = .ok (.aload_n 0, 1) := by decide +kernel
theorem dX0_init_1 : decode cX0_init 1 = .ok (.invokespecial 3, 3) := by decide +kernel
theorem dX0_init_4 : decode cX0_init 4 = .ok (.aload_n 0, 1) := by decide +kernel
theorem dX0_init_5 : decode cX0_init 5 = .ok (.bipush 90, 2) := by decide +kernel
theorem dX0_init_7 : decode cX0_init 7 = .ok (.newarray .int, 2) := by decide +kernel
theorem dX0_init_9 : decode cX0_init 9 = .ok (.putfield 9, 3) := by decide +kernel
theorem dX0_init_12 : decode cX0_init 12 = .ok (.aload_n 0, 1) := by decide +kernel
theorem dX0_init_13 : decode cX0_init 13 = .ok (.bipush 45, 2) := by decide +kernel
theorem dX0_init_15 : decode cX0_init 15 = .ok (.newarray .int, 2) := by decide +kernel
theorem dX0_init_17 : decode cX0_init 17 = .ok (.putfield 15, 3) := by decide +kernel
theorem dX0_init_20 : decode cX0_init 20 = .ok (.aload_n 0, 1) := by decide +kernel
theorem dX0_init_21 : decode cX0_init 21 = .ok (.bipush 45, 2) := by decide +kernel
theorem dX0_init_23 : decode cX0_init 23 = .ok (.newarray .int, 2) := by decide +kernel
theorem dX0_init_25 : decode cX0_init 25 = .ok (.putfield 18, 3) := by decide +kernel
theorem dX0_init_28 : decode cX0_init 28 = .ok (.return_, 1) := by decide +kernel
set_option maxRecDepth 20000 in
theorem ggX1_init_X2_init : GoodIn wsX1_init wsX2_init := goodIn_r _ [10, 11, 2, 3, 12, 13, 14, 15, 16, 17, 18, 19, 20, 21, 22, 23, 27, 28, 29, 30, 31, 32, 33, 34, 35, 36, 37, 38, 39] (by decide +kernel) (by decide +kernel)
set_option maxRecDepth 20000 in
theorem gX1_init_X2_init : GoodIn wsX1_init (wsX2_init) := ggX1_init_X2_init
theorem dX1_init_0 : decode cX1_init 0 = .ok (.aload_n 0, 1) := by decide +kernel
theorem dX1_init_1 : decode cX1_init 1 = .ok (.invokespecial 3, 3) := by decide +kernel
theorem dX1_init_4 : decode cX1_init 4 = .ok (.aload_n 0, 1) := by decide +kernel
theorem dX1_init_5 : decode cX1_init 5 = .ok (.iconst 4, 1) := by decide +kernel
theorem dX1_init_6 : decode cX1_init 6 = .ok (.anewarray 9, 3) := by decide +kernel
theorem dX1_init_9 : decode cX1_init 9 = .ok (.putfield 11, 3) := by decide +kernel
theorem dX1_init_12 : decode cX1_init 12 = .ok (.iconst 0, 1) := by decide +kernel
theorem dX1_init_13 : decode cX1_init 13 = .ok (.istore_n 1, 1) := by decide +kernel
theorem dX1_init_14 : decode cX1_init 14 = .ok (.iload_n 1, 1) := by decide +kernel
theorem dX1_init_15 : decode cX1_init 15 = .ok (.iconst 4, 1) := by decide +kernel
theorem dX1_init_16 : decode cX1_init 16 = .ok (.if_icmp .ge 22, 3) := by decide +kernel
theorem dX1_init_19 : decode cX1_init 19 = .ok (.aload_n 0, 1) := by decide +kernel
theorem dX1_init_20 : decode cX1_init 20 = .ok (.getfield 11, 3) := by decide +kernel
theorem dX1_init_23 : decode cX1_init 23 = .ok (.iload_n 1, 1) := by decide +kernel
theorem dX1_init_24 : decode cX1_init 24 = .ok (.new 9, 3) := by decide +kernel
theorem dX1_init_27 : decode cX1_init 27 = .ok (.dup, 1) := by decide +kernel
theorem dX1_init_28 : decode cX1_init 28 = .ok (.invokespecial 17, 3) := by decide +kernel
theorem dX1_init_31 : decode cX1_init 31 = .ok (.aastore, 1) := by decide +kernel
theorem dX1_init_32 : decode cX1_init 32 = .ok (.iinc 1 1, 3) := by decide +kernel
theorem dX1_init_35 : decode cX1_init 35 = .ok (.goto (-21), 3) := by decide +kernel
theorem dX1_init_38 : decode cX1_init 38 = .ok (.return_, 1) := by decide +kernel
set_option maxRecDepth 20000 in
theorem ggX1_save_X2_copyFrom : GoodIn wsX1_save wsX2_copyFrom := goodIn_r _ [12, 13, 14, 15, 16, 17, 18, 19, 20, 21, 22, 23, 24, 25, 26, 27, 28, 29, 33, 34, 35, 36, 37, 38, 39, 40, 41, 42, 43, 44, 45] (by decide +kernel) (by decide +kernel)
set_option maxRecDepth 20000 in
theorem gX1_save_X2_copyFrom : GoodIn wsX1_save (wsV RX1 22 RX2 yX2_copyFrom wsX2_copyFrom) := goodIn_app (goodIn_of _ (by decide +kernel)) ggX1_save_X2_copyFrom
theorem dX1_save_0 : decode cX1_save 0 = .ok (.aload_n 0, 1) := by decide +kernel
theorem dX1_save_1 : decode cX1_save 1 = .ok (.getfield 11, 3) := by decide +kernel
theorem dX1_save_4 : decode cX1_save 4 = .ok (.aload_n 0, 1) := by decide +kernel
theorem dX1_save_5 : decode cX1_save 5 = .ok (.getfield 18, 3) := by decide +kernel
theorem dX1_save_8 : decode cX1_save 8 = .ok (.aaload, 1) := by decide +kernel
theorem dX1_save_9 : decode cX1_save 9 = .ok (.aload_n 1, 1) := by decide +kernel
theorem dX1_save_10 : decode cX1_save 10 = .ok (.invokevirtual 22, 3) := by decide +kernel
theorem dX1_save_13 : decode cX1_save 13 = .ok (.aload_n 0, 1) := by decide +kernel
theorem dX1_save_14 : decode cX1_save 14 = .ok (.aload_n 0, 1) := by decide +kernel
theorem dX1_save_15 : decode cX1_save 15 = .ok (.getfield 18, 3) := by decide +kernel
theorem dX1_save_18 : decode cX1_save 18 = .ok (.iconst 1, 1) := by decide +kernel
theorem dX1_save_19 : decode cX1_save 19 = .ok (.iadd, 1) := by decide +kernel
theorem dX1_save_20 : decode cX1_save 20 = .ok (.iconst 4, 1) := by decide +kernel
theorem dX1_save_21 : decode cX1_save 21 = .ok (.irem, 1) := by decide +kernel
theorem dX1_save_22 : decode cX1_save 22 = .ok (.putfield 18, 3) := by decide +kernel
theorem dX1_save_25 : decode cX1_save 25 = .ok (.aload_n 0, 1) := by decide +kernel
theorem dX1_save_26 : decode cX1_save 26 = .ok (.iconst 4, 1) := by decide +kernel
theorem dX1_save_27 : decode cX1_save 27 = .ok (.aload_n 0, 1) := by decide +kernel
theorem dX1_save_28 : decode cX1_save 28 = .ok (.getfield 26, 3) := by decide +kernel
theorem dX1_save_31 : decode cX1_save 31 = .ok (.iconst 1, 1) := by decide +kernel
theorem dX1_save_32 : decode cX1_save 32 = .ok (.iadd, 1) := by decide +kernel
theorem dX1_save_33 : decode cX1_save 33 = .ok (.invokestatic 29, 3) := by decide +kernel
theorem dX1_save_36 : decode cX1_save 36 = .ok (.putfield 26, 3) := by decide +kernel
theorem dX1_save_39 : decode cX1_save 39 = .ok (.return_, 1) := by decide +kernel
set_option maxRecDepth 20000 in
theorem ggX1_restore_X2_copyFrom : GoodIn wsX1_restore wsX2_copyFrom := goodIn_r _ [8, 9, 10, 11, 12, 13, 14, 15, 16, 17, 18, 19, 20, 21, 22, 23, 24, 25, 29, 30, 31, 32, 33, 34, 35, 36, 37, 38, 39, 40, 41] (by decide +kernel) (by decide +kernel)
set_option maxRecDepth 20000 in
theorem gX1_restore_X2_copyFrom : GoodIn wsX1_restore (wsV RX1 22 RX2 yX2_copyFrom wsX2_copyFrom) := goodIn_app (goodIn_of _ (by decide +kernel)) ggX1_restore_X2_copyFrom
theorem dX1_restore_0 : decode cX1_restore 0 = .ok (.aload_n 0, 1) := by decide +kernel
theorem dX1_restore_1 : decode cX1_restore 1 = .ok (.aload_n 0, 1) := by decide +kernel
theorem dX1_restore_2 : decode cX1_restore 2 = .ok (.getfield 18, 3) := by decide +kernel
theorem dX1_restore_5 : decode cX1_restore 5 = .ok (.iconst 4, 1) := by decide +kernel
theorem dX1_restore_6 : decode cX1_restore 6 = .ok (.iadd, 1) := by decide +kernel
theorem dX1_restore_7 : decode cX1_restore 7 = .ok (.iconst 1, 1) := by decide +kernel
theorem dX1_restore_8 : decode cX1_restore 8 = .ok (.isub, 1) := by decide +kernel
theorem dX1_restore_9 : decode cX1_restore 9 = .ok (.iconst 4, 1) := by decide +kernel
theorem dX1_restore_10 : decode cX1_restore 10 = .ok (.irem, 1) := by decide +kernel
theorem dX1_restore_11 : decode cX1_restore 11 = .ok (.putfield 18, 3) := by decide +kernel
theorem dX1_restore_14 : decode cX1_restore 14 = .ok (.aload_n 0, 1) := by decide +kernel
theorem dX1_restore_15 : decode cX1_restore 15 = .ok (.dup, 1) := by decide +kernel
theorem dX1_restore_16 : decode cX1_restore 16 = .ok (.getfield 26, 3) := by decide +kernel
theorem dX1_restore_19 : decode cX1_restore 19 = .ok (.iconst 1, 1) := by decide +kernel
theorem dX1_restore_20 : decode cX1_restore 20 = .ok (.isub, 1) := by decide +kernel
theorem dX1_restore_21 : decode cX1_restore 21 = .ok (.putfield 26, 3) := by decide +kernel
theorem dX1_restore_24 : decode cX1_restore 24 = .ok (.aload_n 1, 1) := by decide +kernel
theorem dX1_restore_25 : decode cX1_restore 25 = .ok (.aload_n 0, 1) := by decide +kernel
theorem dX1_restore_26 : decode cX1_restore 26 = .ok (.getfield 11, 3) := by decide +kernel
theorem dX1_restore_29 : decode cX1_restore 29 = .ok (.aload_n 0, 1) := by decide +kernel
theorem dX1_restore_30 : decode cX1_restore 30 = .ok (.getfield 18, 3) := by decide +kernel
theorem dX1_restore_33 : decode cX1_restore 33 = .ok (.aaload, 1) := by decide +kernel
theorem dX1_restore_34 : decode cX1_restore 34 = .ok (.invokevirtual 22, 3) := by decide +kernel
theorem dX1_restore_37 : decode cX1_restore 37 = .ok (.aload_n 0, 1) := by decide +kernel
theorem dX1_restore_38 : decode cX1_restore 38 = .ok (.getfield 26, 3) := by decide +kernel
theorem dX1_restore_41 : decode cX1_restore 41 = .ok (.ireturn, 1) := by decide +kernel
theorem dX2_init_0 : decode cX2_init 0 = .ok (.aload_n 0, 1) := by decide +kernel
theorem dX2_init_1 : decode cX2_init 1 = .ok (.invokespecial 3, 3) := by decide +kernel
theorem dX2_init_4 : decode cX2_init 4 = .ok (.aload_n 0, 1) := by decide +kernel
theorem dX2_init_5 : decode cX2_init 5 = .ok (.bipush 6, 2) := by decide +kernel
theorem dX2_init_7 : decode cX2_init 7 = .ok (.newarray .int, 2) := by decide +kernel
theorem dX2_init_9 : decode cX2_init 9 = .ok (.putfield 9, 3) := by decide +kernel
theorem dX2_init_12 : decode cX2_init 12 = .ok (.aload_n 0, 1) := by decide +kernel
theorem dX2_init_13 : decode cX2_init 13 = .ok (.bipush 6, 2) := by decide +kernel
theorem dX2_init_15 : decode cX2_init 15 = .ok (.newarray .int, 2) := by decide +kernel
theorem dX2_init_17 : decode cX2_init 17 = .ok (.putfield 15, 3) := by decide +kernel
theorem dX2_init_20 : decode cX2_init 20 = .ok (.aload_n 0, 1) := by decide +kernel
theorem dX2_init_21 : decode cX2_init 21 = .ok (.bipush 6, 2) := by decide +kernel
theorem dX2_init_23 : decode cX2_init 23 = .ok (.newarray .int, 2) := by decide +kernel
theorem dX2_init_25 : decode cX2_init 25 = .ok (.putfield 18, 3) := by decide +kernel
theorem dX2_init_28 : decode cX2_init 28 = .ok (.aload_n 0, 1) := by decide +kernel
theorem dX2_init_29 : decode cX2_init 29 = .ok (.bipush 6, 2) := by decide +kernel
theorem dX2_init_31 : decode cX2_init 31 = .ok (.newarray .int, 2) := by decide +kernel
theorem dX2_init_33 : decode cX2_init 33 = .ok (.putfield 21, 3) := by decide +kernel
theorem dX2_init_36 : decode cX2_init 36 = .ok (.aload_n 0, 1) := by decide +kernel
theorem dX2_init_37 : decode cX2_init 37 = .ok (.bipush 6, 2) := by decide +kernel
theorem dX2_init_39 : decode cX2_init 39 = .ok (.newarray .int, 2) := by decide +kernel
theorem dX2_init_41 : decode cX2_init 41 = .ok (.putfield 24, 3) := by decide +kernel
theorem dX2_init_44 : decode cX2_init 44 = .ok (.aload_n 0, 1) := by decide +kernel
theorem dX2_init_45 : decode cX2_init 45 = .ok (.bipush 6, 2) := by decide +kernel
theorem dX2_init_47 : decode cX2_init 47 = .ok (.newarray .int, 2) := by decide +kernel
theorem dX2_init_49 : decode cX2_init 49 = .ok (.putfield 27, 3) := by decide +kernel
theorem dX2_init_52 : decode cX2_init 52 = .ok (.aload_n 0, 1) := by decide +kernel
theorem dX2_init_53 : decode cX2_init 53 = .ok (.bipush 6, 2) := by decide +kernel
theorem dX2_init_55 : decode cX2_init 55 = .ok (.newarray .int, 2) := by decide +kernel
theorem dX2_init_57 : decode cX2_init 57 = .ok (.putfield 30, 3) := by decide +kernel
theorem dX2_init_60 : decode cX2_init 60 = .ok (.aload_n 0, 1) := by decide +kernel
theorem dX2_init_61 : decode cX2_init 61 = .ok (.bipush 6, 2) := by decide +kernel
theorem dX2_init_63 : decode cX2_init 63 = .ok (.newarray .int, 2) := by decide +kernel
theorem dX2_init_65 : decode cX2_init 65 = .ok (.putfield 33, 3) := by decide +kernel
theorem dX2_init_68 : decode cX2_init 68 = .ok (.aload_n 0, 1) := by decide +kernel
theorem dX2_init_69 : decode cX2_init 69 = .ok (.bipush 6, 2) := by decide +kernel
theorem dX2_init_71 : decode cX2_init 71 = .ok (.newarray .int, 2) := by decide +kernel
theorem dX2_init_73 : decode cX2_init 73 = .ok (.putfield 36, 3) := by decide +kernel
theorem dX2_init_76 : decode cX2_init 76 = .ok (.aload_n 0, 1) := by decide +kernel
theorem dX2_init_77 : decode cX2_init 77 = .ok (.bipush 6, 2) := by decide +kernel
theorem dX2_init_79 : decode cX2_init 79 = .ok (.newarray .int, 2) := by decide +kernel
theorem dX2_init_81 : decode cX2_init 81 = .ok (.putfield 39, 3) := by decide +kernel
theorem dX2_init_84 : decode cX2_init 84 = .ok (.aload_n 0, 1) := by decide +kernel
theorem dX2_init_85 : decode cX2_init 85 = .ok (.bipush 36, 2) := by decide +kernel
theorem dX2_init_87 : decode cX2_init 87 = .ok (.newarray .int, 2) := by decide +kernel
theorem dX2_init_89 : decode cX2_init 89 = .ok (.putfield 42, 3) := by decide +kernel
theorem dX2_init_92 : decode cX2_init 92 = .ok (.iconst 0, 1) := by decide +kernel
theorem dX2_init_93 : decode cX2_init 93 = .ok (.istore_n 1, 1) := by decide +kernel
theorem dX2_init_94 : decode cX2_init 94 = .ok (.iload_n 1, 1) := by decide +kernel
theorem dX2_init_95 : decode cX2_init 95 = .ok (.bipush 6, 2) := by decide +kernel
theorem dX2_init_97 : decode cX2_init 97 = .ok (.if_icmp .ge 38, 3) := by decide +kernel
theorem dX2_init_100 : decode cX2_init 100 = .ok (.aload_n 0, 1) := by decide +kernel
theorem dX2_init_101 : decode cX2_init 101 = .ok (.getfield 27, 3) := by decide +kernel
theorem dX2_init_104 : decode cX2_init 104 = .ok (.iload_n 1, 1) := by decide +kernel
theorem dX2_init_105 : decode cX2_init 105 = .ok (.sipush 1500, 3) := by decide +kernel
theorem dX2_init_108 : decode cX2_init 108 = .ok (.sipush 400, 3) := by decide +kernel
theorem dX2_init_111 : decode cX2_init 111 = .ok (.iload_n 1, 1) := by decide +kernel
theorem dX2_init_112 : decode cX2_init 112 = .ok (.imul, 1) := by decide +kernel
theorem dX2_init_113 : decode cX2_init 113 = .ok (.iadd, 1) := by decide +kernel
theorem dX2_init_114 : decode cX2_init 114 = .ok (.iastore, 1) := by decide +kernel
theorem dX2_init_115 : decode cX2_init 115 = .ok (.aload_n 0, 1) := by decide +kernel
theorem dX2_init_116 : decode cX2_init 116 = .ok (.getfield 33, 3) := by decide +kernel
theorem dX2_init_119 : decode cX2_init 119 = .ok (.iload_n 1, 1) := by decide +kernel
theorem dX2_init_120 : decode cX2_init 120 = .ok (.iconst (-1), 1) := by decide +kernel
theorem dX2_init_121 : decode cX2_init 121 = .ok (.iastore, 1) := by decide +kernel
theorem dX2_init_122 : decode cX2_init 122 = .ok (.aload_n 0, 1) := by decide +kernel
theorem dX2_init_123 : decode cX2_init 123 = .ok (.getfield 36, 3) := by decide +kernel
theorem dX2_init_126 : decode cX2_init 126 = .ok (.iload_n 1, 1) := by decide +kernel
theorem dX2_init_127 : decode cX2_init 127 = .ok (.iconst (-1), 1) := by decide +kernel
theorem dX2_init_128 : decode cX2_init 128 = .ok (.iastore, 1) := by decide +kernel
theorem dX2_init_129 : decode cX2_init 129 = .ok (.iinc 1 1, 3) := by decide +kernel
theorem dX2_init_132 : decode cX2_init 132 = .ok (.goto (-38), 3) := by decide +kernel
theorem dX2_init_135 : decode cX2_init 135 = .ok (.return_, 1) := by decide +kernel
theorem dX2_copyFrom_0 : decode cX2_copyFrom 0 = .ok (.aload_n 0, 1) := by decide +kernel
theorem dX2_copyFrom_1 : decode cX2_copyFrom 1 = .ok (.aload_n 1, 1) := by decide +kernel
theorem dX2_copyFrom_2 : decode cX2_copyFrom 2 = .ok (.getfield 45, 3) := by decide +kernel
theorem dX2_copyFrom_5 : decode cX2_copyFrom 5 = .ok (.putfield 45, 3) := by decide +kernel
theorem dX2_copyFrom_8 : decode cX2_copyFrom 8 = .ok (.aload_n 1, 1) := by decide +kernel
theorem dX2_copyFrom_9 : decode cX2_copyFrom 9 = .ok (.getfield 9, 3) := by decide +kernel
theorem dX2_copyFrom_12 : decode cX2_copyFrom 12 = .ok (.iconst 0, 1) := by decide +kernel
theorem dX2_copyFrom_13 : decode cX2_copyFrom 13 = .ok (.aload_n 0, 1) := by decide +kernel
theorem dX2_copyFrom_14 : decode cX2_copyFrom 14 = .ok (.getfield 9, 3) := by decide +kernel
theorem dX2_copyFrom_17 : decode cX2_copyFrom 17 = .ok (.iconst 0, 1) := by decide +kernel
theorem dX2_copyFrom_18 : decode cX2_copyFrom 18 = .ok (.bipush 6, 2) := by decide +kernel
theorem dX2_copyFrom_20 : decode cX2_copyFrom 20 = .ok (.invokestatic 49, 3) := by decide +kernel
theorem dX2_copyFrom_23 : decode cX2_copyFrom 23 = .ok (.aload_n 1, 1) := by decide +kernel
theorem dX2_copyFrom_24 : decode cX2_copyFrom 24 = .ok (.getfield 15, 3) := by decide +kernel
theorem dX2_copyFrom_27 : decode cX2_copyFrom 27 = .ok (.iconst 0, 1) := by decide +kernel
theorem dX2_copyFrom_28 : decode cX2_copyFrom 28 = .ok (.aload_n 0, 1) := by decide +kernel
theorem dX2_copyFrom_29 : decode cX2_copyFrom 29 = .ok (.getfield 15, 3) := by decide +kernel
theorem dX2_copyFrom_32 : decode cX2_copyFrom 32 = .ok (.iconst 0, 1) := by decide +kernel
theorem dX2_copyFrom_33 : decode cX2_copyFrom 33 = .ok (.bipush 6, 2) := by decide +kernel
theorem dX2_copyFrom_35 : decode cX2_copyFrom 35 = .ok (.invokestatic 49, 3) := by decide +kernel
theorem dX2_copyFrom_38 : decode cX2_copyFrom 38 = .ok (.aload_n 1, 1) := by decide +kernel
theorem dX2_copyFrom_39 : decode cX2_copyFrom 39 = .ok (.getfield 18, 3) := by decide +kernel
theorem dX2_copyFrom_42 : decode cX2_copyFrom 42 = .ok (.iconst 0, 1) := by decide +kernel
theorem dX2_copyFrom_43 : decode cX2_copyFrom 43 = .ok (.aload_n 0, 1) := by decide +kernel
theorem dX2_copyFrom_44 : decode cX2_copyFrom 44 = .ok (.getfield 18, 3) := by decide +kernel
theorem dX2_copyFrom_47 : decode cX2_copyFrom 47 = .ok (.iconst 0, 1) := by decide +kernel
theorem dX2_copyFrom_48 : decode cX2_copyFrom 48 = .ok (.bipush 6, 2) := by decide +kernel
theorem dX2_copyFrom_50 : decode cX2_copyFrom 50 = .ok (.invokestatic 49, 3) := by decide +kernel
theorem dX2_copyFrom_53 : decode cX2_copyFrom 53 = .ok (.aload_n 1, 1) := by decide +kernel
theorem dX2_copyFrom_54 : decode cX2_copyFrom 54 = .ok (.getfield 21, 3) := by decide +kernel
theorem dX2_copyFrom_57 : decode cX2_copyFrom 57 = .ok (.iconst 0, 1) := by decide +kernel
theorem dX2_copyFrom_58 : decode cX2_copyFrom 58 = .ok (.aload_n 0, 1) := by decide +kernel
theorem dX2_copyFrom_59 : decode cX2_copyFrom 59 = .ok (.getfield 21, 3) := by decide +kernel
theorem dX2_copyFrom_62 : decode cX2_copyFrom 62 = .ok (.iconst 0, 1) := by decide +kernel
theorem dX2_copyFrom_63 : decode cX2_copyFrom 63 = .ok (.bipush 6, 2) := by decide +kernel
theorem dX2_copyFrom_65 : decode cX2_copyFrom 65 = .ok (.invokestatic 49, 3) := by decide +kernel
theorem dX2_copyFrom_68 : decode cX2_copyFrom 68 = .ok (.aload_n 1, 1) := by decide +kernel
theorem dX2_copyFrom_69 : decode cX2_copyFrom 69 = .ok (.getfield 24, 3) := by decide +kernel
theorem dX2_copyFrom_72 : decode cX2_copyFrom 72 = .ok (.iconst 0, 1) := by decide +kernel
theorem dX2_copyFrom_73 : decode cX2_copyFrom 73 = .ok (.aload_n 0, 1) := by decide +kernel
theorem dX2_copyFrom_74 : decode cX2_copyFrom 74 = .ok (.getfield 24, 3) := by decide +kernel
theorem dX2_copyFrom_77 : decode cX2_copyFrom 77 = .ok (.iconst 0, 1) := by decide +kernel
theorem dX2_copyFrom_78 : decode cX2_copyFrom 78 = .ok (.bipush 6, 2) := by decide +kernel
theorem dX2_copyFrom_80 : decode cX2_copyFrom 80 = .ok (.invokestatic 49, 3) := by decide +kernel
theorem dX2_copyFrom_83 : decode cX2_copyFrom 83 = .ok (.aload_n 1, 1) := by decide +kernel
theorem dX2_copyFrom_84 : decode cX2_copyFrom 84 = .ok (.getfield 27, 3) := by decide +kernel
theorem dX2_copyFrom_87 : decode cX2_copyFrom 87 = .ok (.iconst 0, 1) := by decide +kernel
theorem dX2_copyFrom_88 : decode cX2_copyFrom 88 = .ok (.aload_n 0, 1) := by decide +kernel
theorem dX2_copyFrom_89 : decode cX2_copyFrom 89 = .ok (.getfield 27, 3) := by decide +kernel
theorem dX2_copyFrom_92 : decode cX2_copyFrom 92 = .ok (.iconst 0, 1) := by decide +kernel
theorem dX2_copyFrom_93 : decode cX2_copyFrom 93 = .ok (.bipush 6, 2) := by decide +kernel
theorem dX2_copyFrom_95 : decode cX2_copyFrom 95 = .ok (.invokestatic 49, 3) := by decide +kernel
theorem dX2_copyFrom_98 : decode cX2_copyFrom 98 = .ok (.aload_n 1, 1) := by decide +kernel
theorem dX2_copyFrom_99 : decode cX2_copyFrom 99 = .ok (.getfield 30, 3) := by decide +kernel
theorem dX2_copyFrom_102 : decode cX2_copyFrom 102 = .ok (.iconst 0, 1) := by decide +kernel
theorem dX2_copyFrom_103 : decode cX2_copyFrom 103 = .ok (.aload_n 0, 1) := by decide +kernel
theorem dX2_copyFrom_104 : decode cX2_copyFrom 104 = .ok (.getfield 30, 3) := by decide +kernel
theorem dX2_copyFrom_107 : decode cX2_copyFrom 107 = .ok (.iconst 0, 1) := by decide +kernel
theorem dX2_copyFrom_108 : decode cX2_copyFrom 108 = .ok (.bipush 6, 2) := by decide +kernel
theorem dX2_copyFrom_110 : decode cX2_copyFrom 110 = .ok (.invokestatic 49, 3) := by decide +kernel
theorem dX2_copyFrom_113 : decode cX2_copyFrom 113 = .ok (.aload_n 1, 1) := by decide +kernel
theorem dX2_copyFrom_114 : decode cX2_copyFrom 114 = .ok (.getfield 33, 3) := by decide +kernel
theorem dX2_copyFrom_117 : decode cX2_copyFrom 117 = .ok (.iconst 0, 1) := by decide +kernel
theorem dX2_copyFrom_118 : decode cX2_copyFrom 118 = .ok (.aload_n 0, 1) := by decide +kernel
theorem dX2_copyFrom_119 : decode cX2_copyFrom 119 = .ok (.getfield 33, 3) := by decide +kernel
theorem dX2_copyFrom_122 : decode cX2_copyFrom 122 = .ok (.iconst 0, 1) := by decide +kernel
theorem dX2_copyFrom_123 : decode cX2_copyFrom 123 = .ok (.bipush 6, 2) := by decide +kernel
theorem dX2_copyFrom_125 : decode cX2_copyFrom 125 = .ok (.invokestatic 49, 3) := by decide +kernel
theorem dX2_copyFrom_128 : decode cX2_copyFrom 128 = .ok (.aload_n 1, 1) := by decide +kernel
theorem dX2_copyFrom_129 : decode cX2_copyFrom 129 = .ok (.getfield 36, 3) := by decide +kernel
theorem dX2_copyFrom_132 : decode cX2_copyFrom 132 = .ok (.iconst 0, 1) := by decide +kernel
theorem dX2_copyFrom_133 : decode cX2_copyFrom 133 = .ok (.aload_n 0, 1) := by decide +kernel
theorem dX2_copyFrom_134 : decode cX2_copyFrom 134 = .ok (.getfield 36, 3) := by decide +kernel
theorem dX2_copyFrom_137 : decode cX2_copyFrom 137 = .ok (.iconst 0, 1) := by decide +kernel
theorem dX2_copyFrom_138 : decode cX2_copyFrom 138 = .ok (.bipush 6, 2) := by decide +kernel
theorem dX2_copyFrom_140 : decode cX2_copyFrom 140 = .ok (.invokestatic 49, 3) := by decide +kernel
theorem dX2_copyFrom_143 : decode cX2_copyFrom 143 = .ok (.aload_n 1, 1) := by decide +kernel
theorem dX2_copyFrom_144 : decode cX2_copyFrom 144 = .ok (.getfield 39, 3) := by decide +kernel
theorem dX2_copyFrom_147 : decode cX2_copyFrom 147 = .ok (.iconst 0, 1) := by decide +kernel
theorem dX2_copyFrom_148 : decode cX2_copyFrom 148 = .ok (.aload_n 0, 1) := by decide +kernel
theorem dX2_copyFrom_149 : decode cX2_copyFrom 149 = .ok (.getfield 39, 3) := by decide +kernel
theorem dX2_copyFrom_152 : decode cX2_copyFrom 152 = .ok (.iconst 0, 1) := by decide +kernel
theorem dX2_copyFrom_153 : decode cX2_copyFrom 153 = .ok (.bipush 6, 2) := by decide +kernel
theorem dX2_copyFrom_155 : decode cX2_copyFrom 155 = .ok (.invokestatic 49, 3) := by decide +kernel
theorem dX2_copyFrom_158 : decode cX2_copyFrom 158 = .ok (.aload_n 1, 1) := by decide +kernel
theorem dX2_copyFrom_159 : decode cX2_copyFrom 159 = .ok (.getfield 42, 3) := by decide +kernel
theorem dX2_copyFrom_162 : decode cX2_copyFrom 162 = .ok (.iconst 0, 1) := by decide +kernel
theorem dX2_copyFrom_163 : decode cX2_copyFrom 163 = .ok (.aload_n 0, 1) := by decide +kernel
theorem dX2_copyFrom_164 : decode cX2_copyFrom 164 = .ok (.getfield 42, 3) := by decide +kernel
theorem dX2_copyFrom_167 : decode cX2_copyFrom 167 = .ok (.iconst 0, 1) := by decide +kernel
theorem dX2_copyFrom_168 : decode cX2_copyFrom 168 = .ok (.bipush 36, 2) := by decide +kernel
theorem dX2_copyFrom_170 : decode cX2_copyFrom 170 = .ok (.invokestatic 49, 3) := by decide +kernel
theorem dX2_copyFrom_173 : decode cX2_copyFrom 173 = .ok (.aload_n 0, 1) := by decide +kernel
theorem dX2_copyFrom_174 : decode cX2_copyFrom 174 = .ok (.aload_n 1, 1) := by decide +kernel
theorem dX2_copyFrom_175 : decode cX2_copyFrom 175 = .ok (.getfield 55, 3) := by decide +kernel
theorem dX2_copyFrom_178 : decode cX2_copyFrom 178 = .ok (.putfield 55, 3) := by decide +kernel
theorem dX2_copyFrom_181 : decode cX2_copyFrom 181 = .ok (.return_, 1) := by decide +kernel
theorem dX2_putKind_0 : decode cX2_putKind 0 = .ok (.aload_n 0, 1) := by decide +kernel
theorem dX2_putKind_1 : decode cX2_putKind 1 = .ok (.getfield 45, 3) := by decide +kernel
theorem dX2_putKind_4 : decode cX2_putKind 4 = .ok (.istore 4, 2) := by decide +kernel
theorem dX2_putKind_6 : decode cX2_putKind 6 = .ok (.aload_n 0, 1) := by decide +kernel
theorem dX2_putKind_7 : decode cX2_putKind 7 = .ok (.getfield 9, 3) := by decide +kernel
theorem dX2_putKind_10 : decode cX2_putKind 10 = .ok (.iload 4, 2) := by decide +kernel
theorem dX2_putKind_12 : decode cX2_putKind 12 = .ok (.iload_n 1, 1) := by decide +kernel
theorem dX2_putKind_13 : decode cX2_putKind 13 = .ok (.iastore, 1) := by decide +kernel
theorem dX2_putKind_14 : decode cX2_putKind 14 = .ok (.aload_n 0, 1) := by decide +kernel
theorem dX2_putKind_15 : decode cX2_putKind 15 = .ok (.getfield 15, 3) := by decide +kernel
theorem dX2_putKind_18 : decode cX2_putKind 18 = .ok (.iload 4, 2) := by decide +kernel
theorem dX2_putKind_20 : decode cX2_putKind 20 = .ok (.iload_n 2, 1) := by decide +kernel
theorem dX2_putKind_21 : decode cX2_putKind 21 = .ok (.iastore, 1) := by decide +kernel
theorem dX2_putKind_22 : decode cX2_putKind 22 = .ok (.aload_n 0, 1) := by decide +kernel
theorem dX2_putKind_23 : decode cX2_putKind 23 = .ok (.getfield 18, 3) := by decide +kernel
theorem dX2_putKind_26 : decode cX2_putKind 26 = .ok (.iload 4, 2) := by decide +kernel
theorem dX2_putKind_28 : decode cX2_putKind 28 = .ok (.iload_n 3, 1) := by decide +kernel
theorem dX2_putKind_29 : decode cX2_putKind 29 = .ok (.iastore, 1) := by decide +kernel
theorem dX2_putKind_30 : decode cX2_putKind 30 = .ok (.aload_n 0, 1) := by decide +kernel
theorem dX2_putKind_31 : decode cX2_putKind 31 = .ok (.dup, 1) := by decide +kernel
theorem dX2_putKind_32 : decode cX2_putKind 32 = .ok (.getfield 45, 3) := by decide +kernel
theorem dX2_putKind_35 : decode cX2_putKind 35 = .ok (.iconst 1, 1) := by decide +kernel
theorem dX2_putKind_36 : decode cX2_putKind 36 = .ok (.iadd, 1) := by decide +kernel
theorem dX2_putKind_37 : decode cX2_putKind 37 = .ok (.putfield 45, 3) := by decide +kernel
theorem dX2_putKind_40 : decode cX2_putKind 40 = .ok (.iload 4, 2) := by decide +kernel
theorem dX2_putKind_42 : decode cX2_putKind 42 = .ok (.ireturn, 1) := by decide +kernel
theorem dX2_isStuck_0 : decode cX2_isStuck 0 = .ok (.aload_n 0, 1) := by decide +kernel
theorem dX2_isStuck_1 : decode cX2_isStuck 1 = .ok (.getfield 33, 3) := by decide +kernel
theorem dX2_isStuck_4 : decode cX2_isStuck 4 = .ok (.iload_n 1, 1) := by decide +kernel
theorem dX2_isStuck_5 : decode cX2_isStuck 5 = .ok (.iaload, 1) := by decide +kernel
theorem dX2_isStuck_6 : decode cX2_isStuck 6 = .ok (.iconst (-1), 1) := by decide +kernel
theorem dX2_isStuck_7 : decode cX2_isStuck 7 = .ok (.if_icmp .eq 7, 3) := by decide +kernel
theorem dX2_isStuck_10 : decode cX2_isStuck 10 = .ok (.iconst 1, 1) := by decide +kernel
theorem dX2_isStuck_11 : decode cX2_isStuck 11 = .ok (.goto 4, 3) := by decide +kernel
theorem dX2_isStuck_14 : decode cX2_isStuck 14 = .ok (.iconst 0, 1) := by decide +kernel
theorem dX2_isStuck_15 : decode cX2_isStuck 15 = .ok (.ireturn, 1) := by decide +kernel
set_option maxRecDepth 20000 in
theorem ggX2_isFull_X2_coinsIn : GoodIn wsX2_isFull wsX2_coinsIn := goodIn_r _ [5, 6, 7, 8, 9, 10, 11, 12, 13, 14, 15, 16, 17, 18, 19] (by decide +kernel) (by decide +kernel)
set_option maxRecDepth 20000 in
theorem gX2_isFull_X2_coinsIn : GoodIn wsX2_isFull (wsV RX2 58 RX2 yX2_coinsIn wsX2_coinsIn) := goodIn_app (goodIn_of _ (by decide +kernel)) ggX2_isFull_X2_coinsIn
theorem dX2_isFull_0 : decode cX2_isFull 0 = .ok (.aload_n 0, 1) := by decide +kernel
theorem dX2_isFull_1 : decode cX2_isFull 1 = .ok (.iload_n 1, 1) := by decide +kernel
theorem dX2_isFull_2 : decode cX2_isFull 2 = .ok (.invokevirtual 58, 3) := by decide +kernel
theorem dX2_isFull_5 : decode cX2_isFull 5 = .ok (.bipush 40, 2) := by decide +kernel
theorem dX2_isFull_7 : decode cX2_isFull 7 = .ok (.if_icmp .lt 7, 3) := by decide +kernel
theorem dX2_isFull_10 : decode cX2_isFull 10 = .ok (.iconst 1, 1) := by decide +kernel
theorem dX2_isFull_11 : decode cX2_isFull 11 = .ok (.goto 4, 3) := by decide +kernel
theorem dX2_isFull_14 : decode cX2_isFull 14 = .ok (.iconst 0, 1) := by decide +kernel
theorem dX2_isFull_15 : decode cX2_isFull 15 = .ok (.ireturn, 1) := by decide +kernel
set_option maxRecDepth 20000 in
theorem ggX2_placeFor_X2_wearAt : GoodIn wsX2_placeFor wsX2_wearAt := goodIn_r _ [6, 7, 8, 9, 10] (by decide +kernel) (by decide +kernel)
set_option maxRecDepth 20000 in
theorem gX2_placeFor_X2_wearAt : GoodIn wsX2_placeFor (wsV RX2 62 RX2 yX2_wearAt wsX2_wearAt) := goodIn_app (goodIn_of _ (by decide +kernel)) ggX2_placeFor_X2_wearAt
set_option maxRecDepth 20000 in
theorem ggX2_placeFor_X2_size : GoodIn wsX2_placeFor wsX2_size := goodIn_r _ [14, 15, 16, 17, 9, 18, 33, 34, 35, 36, 37, 38, 39, 40, 41, 42, 43, 44, 45] (by decide +kernel) (by decide +kernel)
set_option maxRecDepth 20000 in
theorem gX2_placeFor_X2_size : GoodIn wsX2_placeFor (wsV RX2 66 RX2 yX2_size wsX2_size) := goodIn_app (goodIn_of _ (by decide +kernel)) ggX2_placeFor_X2_size
set_option maxRecDepth 20000 in
theorem ggX2_placeFor_X2_isStuck : GoodIn wsX2_placeFor wsX2_isStuck := goodIn_r _ [22, 23, 33, 34, 35, 36, 37, 38, 39, 40, 41, 42, 43, 44, 45] (by decide +kernel) (by decide +kernel)
set_option maxRecDepth 20000 in
theorem gX2_placeFor_X2_isStuck : GoodIn wsX2_placeFor (wsV RX2 69 RX2 yX2_isStuck wsX2_isStuck) := goodIn_app (goodIn_of _ (by decide +kernel)) ggX2_placeFor_X2_isStuck
set_option maxRecDepth 20000 in
theorem ggX2_placeFor_X2_isFull : GoodIn wsX2_placeFor wsX2_isFull := goodIn_r _ [27, 28, 29, 30, 5, 31, 32, 33, 34, 35, 36, 37, 38, 39, 40, 41, 42, 43, 44, 45] (by decide +kernel) (by decide +kernel)
set_option maxRecDepth 20000 in
theorem gX2_placeFor_X2_isFull : GoodIn wsX2_placeFor (wsV RX2 73 RX2 yX2_isFull wsX2_isFull) := goodIn_app (goodIn_of _ (by decide +kernel)) ggX2_placeFor_X2_isFull
theorem dX2_placeFor_0 : decode cX2_placeFor 0 = .ok (.iconst 0, 1) := by decide +kernel
theorem dX2_placeFor_1 : decode cX2_placeFor 1 = .ok (.istore_n 3, 1) := by decide +kernel
theorem dX2_placeFor_2 : decode cX2_placeFor 2 = .ok (.iload_n 3, 1) := by decide +kernel
theorem dX2_placeFor_3 : decode cX2_placeFor 3 = .ok (.bipush 6, 2) := by decide +kernel
theorem dX2_placeFor_5 : decode cX2_placeFor 5 = .ok (.if_icmp .ge 77, 3) := by decide +kernel
theorem dX2_placeFor_8 : decode cX2_placeFor 8 = .ok (.aload_n 0, 1) := by decide +kernel
theorem dX2_placeFor_9 : decode cX2_placeFor 9 = .ok (.getfield 27, 3) := by decide +kernel
theorem dX2_placeFor_12 : decode cX2_placeFor 12 = .ok (.iload_n 3, 1) := by decide +kernel
theorem dX2_placeFor_13 : decode cX2_placeFor 13 = .ok (.iaload, 1) := by decide +kernel
theorem dX2_placeFor_14 : decode cX2_placeFor 14 = .ok (.aload_n 0, 1) := by decide +kernel
theorem dX2_placeFor_15 : decode cX2_placeFor 15 = .ok (.iload_n 1, 1) := by decide +kernel
theorem dX2_placeFor_16 : decode cX2_placeFor 16 = .ok (.aload_n 0, 1) := by decide +kernel
theorem dX2_placeFor_17 : decode cX2_placeFor 17 = .ok (.iload_n 3, 1) := by decide +kernel
theorem dX2_placeFor_18 : decode cX2_placeFor 18 = .ok (.iload_n 2, 1) := by decide +kernel
theorem dX2_placeFor_19 : decode cX2_placeFor 19 = .ok (.invokevirtual 62, 3) := by decide +kernel
theorem dX2_placeFor_22 : decode cX2_placeFor 22 = .ok (.invokevirtual 66, 3) := by decide +kernel
theorem dX2_placeFor_25 : decode cX2_placeFor 25 = .ok (.isub, 1) := by decide +kernel
theorem dX2_placeFor_26 : decode cX2_placeFor 26 = .ok (.istore 4, 2) := by decide +kernel
theorem dX2_placeFor_28 : decode cX2_placeFor 28 = .ok (.iload 4, 2) := by decide +kernel
theorem dX2_placeFor_30 : decode cX2_placeFor 30 = .ok (.ifCond .le 19, 3) := by decide +kernel
theorem dX2_placeFor_33 : decode cX2_placeFor 33 = .ok (.aload_n 0, 1) := by decide +kernel
theorem dX2_placeFor_34 : decode cX2_placeFor 34 = .ok (.iload_n 3, 1) := by decide +kernel
theorem dX2_placeFor_35 : decode cX2_placeFor 35 = .ok (.invokevirtual 69, 3) := by decide +kernel
theorem dX2_placeFor_38 : decode cX2_placeFor 38 = .ok (.ifCond .ne 11, 3) := by decide +kernel
theorem dX2_placeFor_41 : decode cX2_placeFor 41 = .ok (.aload_n 0, 1) := by decide +kernel
theorem dX2_placeFor_42 : decode cX2_placeFor 42 = .ok (.iload_n 3, 1) := by decide +kernel
theorem dX2_placeFor_43 : decode cX2_placeFor 43 = .ok (.invokevirtual 73, 3) := by decide +kernel
theorem dX2_placeFor_46 : decode cX2_placeFor 46 = .ok (.ifCond .eq 7, 3) := by decide +kernel
theorem dX2_placeFor_49 : decode cX2_placeFor 49 = .ok (.iconst 1, 1) := by decide +kernel
theorem dX2_placeFor_50 : decode cX2_placeFor 50 = .ok (.goto 4, 3) := by decide +kernel
theorem dX2_placeFor_53 : decode cX2_placeFor 53 = .ok (.iconst 0, 1) := by decide +kernel
theorem dX2_placeFor_54 : decode cX2_placeFor 54 = .ok (.istore 5, 2) := by decide +kernel
theorem dX2_placeFor_56 : decode cX2_placeFor 56 = .ok (.iload 5, 2) := by decide +kernel
theorem dX2_placeFor_58 : decode cX2_placeFor 58 = .ok (.ifCond .ne 18, 3) := by decide +kernel
theorem dX2_placeFor_61 : decode cX2_placeFor 61 = .ok (.iload 4, 2) := by decide +kernel
theorem dX2_placeFor_63 : decode cX2_placeFor 63 = .ok (.iconst 5, 1) := by decide +kernel
theorem dX2_placeFor_64 : decode cX2_placeFor 64 = .ok (.if_icmp .ge 10, 3) := by decide +kernel
theorem dX2_placeFor_67 : decode cX2_placeFor 67 = .ok (.bipush 10, 2) := by decide +kernel
theorem dX2_placeFor_69 : decode cX2_placeFor 69 = .ok (.iload_n 3, 1) := by decide +kernel
theorem dX2_placeFor_70 : decode cX2_placeFor 70 = .ok (.iadd, 1) := by decide +kernel
theorem dX2_placeFor_71 : decode cX2_placeFor 71 = .ok (.goto 4, 3) := by decide +kernel
theorem dX2_placeFor_74 : decode cX2_placeFor 74 = .ok (.iload_n 3, 1) := by decide +kernel
theorem dX2_placeFor_75 : decode cX2_placeFor 75 = .ok (.ireturn, 1) := by decide +kernel
theorem dX2_placeFor_76 : decode cX2_placeFor 76 = .ok (.iinc 3 1, 3) := by decide +kernel
theorem dX2_placeFor_79 : decode cX2_placeFor 79 = .ok (.goto (-77), 3) := by decide +kernel
theorem dX2_placeFor_82 : decode cX2_placeFor 82 = .ok (.iconst (-1), 1) := by decide +kernel
theorem dX2_placeFor_83 : decode cX2_placeFor 83 = .ok (.ireturn, 1) := by decide +kernel
theorem dX2_size_0 : decode cX2_size 0 = .ok (.iconst 1, 1) := by decide +kernel
theorem dX2_size_1 : decode cX2_size 1 = .ok (.aload_n 0, 1) := by decide +kernel
theorem dX2_size_2 : decode cX2_size 2 = .ok (.getfield 9, 3) := by decide +kernel
theorem dX2_size_5 : decode cX2_size 5 = .ok (.iload_n 1, 1) := by decide +kernel
theorem dX2_size_6 : decode cX2_size 6 = .ok (.iaload, 1) := by decide +kernel
theorem dX2_size_7 : decode cX2_size 7 = .ok (.iload_n 2, 1) := by decide +kernel
theorem dX2_size_8 : decode cX2_size 8 = .ok (.isub, 1) := by decide +kernel
theorem dX2_size_9 : decode cX2_size 9 = .ok (.invokestatic 76, 3) := by decide +kernel
theorem dX2_size_12 : decode cX2_size 12 = .ok (.ireturn, 1) := by decide +kernel
theorem dX2_wearAt_0 : decode cX2_wearAt 0 = .ok (.sipush 999, 3) := by decide +kernel
theorem dX2_wearAt_3 : decode cX2_wearAt 3 = .ok (.iload_n 2, 1) := by decide +kernel
theorem dX2_wearAt_4 : decode cX2_wearAt 4 = .ok (.iload_n 1, 1) := by decide +kernel
theorem dX2_wearAt_5 : decode cX2_wearAt 5 = .ok (.iadd, 1) := by decide +kernel
theorem dX2_wearAt_6 : decode cX2_wearAt 6 = .ok (.invokestatic 81, 3) := by decide +kernel
theorem dX2_wearAt_9 : decode cX2_wearAt 9 = .ok (.ireturn, 1) := by decide +kernel
set_option maxRecDepth 20000 in
theorem ggX2_putCoin_X2_placeFor : GoodIn wsX2_putCoin wsX2_placeFor := goodIn_r _ [10, 11, 12, 13, 14, 9, 15, 16, 17, 18, 19, 20, 21, 22, 23, 24, 25, 26, 27, 28, 29, 30, 31, 3, 32, 33, 34, 35, 36, 37, 38, 39, 5, 50, 51, 52, 53, 54, 55, 56, 57, 58, 59, 60, 61, 62] (by decide +kernel) (by decide +kernel)
set_option maxRecDepth 20000 in
theorem gX2_putCoin_X2_placeFor : GoodIn wsX2_putCoin (wsV RX2 84 RX2 yX2_placeFor wsX2_placeFor) := goodIn_app (goodIn_of _ (by decide +kernel)) ggX2_putCoin_X2_placeFor
set_option maxRecDepth 20000 in
theorem ggX2_putCoin_X2_rollOver : GoodIn wsX2_putCoin wsX2_rollOver := goodIn_r _ [43, 44, 50, 51, 52, 53, 54, 55, 56, 57, 58, 59, 60, 61, 62] (by decide +kernel) (by decide +kernel)
set_option maxRecDepth 20000 in
theorem gX2_putCoin_X2_rollOver : GoodIn wsX2_putCoin (wsV RX2 87 RX2 yX2_rollOver wsX2_rollOver) := goodIn_app (goodIn_of _ (by decide +kernel)) ggX2_putCoin_X2_rollOver
set_option maxRecDepth 20000 in
theorem ggX2_putCoin_X2_wearAt : GoodIn wsX2_putCoin wsX2_wearAt := goodIn_r _ [15, 16, 17, 18, 19] (by decide +kernel) (by decide +kernel)
set_option maxRecDepth 20000 in
theorem gX2_putCoin_X2_wearAt : GoodIn wsX2_putCoin (wsV RX2 62 RX2 yX2_wearAt wsX2_wearAt) := goodIn_app (goodIn_of _ (by decide +kernel)) ggX2_putCoin_X2_wearAt
set_option maxRecDepth 20000 in
theorem ggX2_putCoin_X2_useRail : GoodIn wsX2_putCoin wsX2_useRail := goodIn_r _ [48, 49, 11, 16, 17, 18, 19, 50, 51, 52, 53, 54, 55, 56, 57, 58, 59, 60, 61, 62] (by decide +kernel) (by decide +kernel)
set_option maxRecDepth 20000 in
theorem gX2_putCoin_X2_useRail : GoodIn wsX2_putCoin (wsV RX2 91 RX2 yX2_useRail wsX2_useRail) := goodIn_app (goodIn_of _ (by decide +kernel)) ggX2_putCoin_X2_useRail
theorem dX2_putCoin_0 : decode cX2_putCoin 0 = .ok (.aload_n 0, 1) := by decide +kernel
theorem dX2_putCoin_1 : decode cX2_putCoin 1 = .ok (.iload_n 1, 1) := by decide +kernel
theorem dX2_putCoin_2 : decode cX2_putCoin 2 = .ok (.iload_n 2, 1) := by decide +kernel
theorem dX2_putCoin_3 : decode cX2_putCoin 3 = .ok (.invokevirtual 84, 3) := by decide +kernel
theorem dX2_putCoin_6 : decode cX2_putCoin 6 = .ok (.istore_n 3, 1) := by decide +kernel
theorem dX2_putCoin_7 : decode cX2_putCoin 7 = .ok (.aload_n 0, 1) := by decide +kernel
theorem dX2_putCoin_8 : decode cX2_putCoin 8 = .ok (.getfield 21, 3) := by decide +kernel
theorem dX2_putCoin_11 : decode cX2_putCoin 11 = .ok (.iload_n 1, 1) := by decide +kernel
theorem dX2_putCoin_12 : decode cX2_putCoin 12 = .ok (.dup2, 1) := by decide +kernel
theorem dX2_putCoin_13 : decode cX2_putCoin 13 = .ok (.iaload, 1) := by decide +kernel
theorem dX2_putCoin_14 : decode cX2_putCoin 14 = .ok (.iconst 1, 1) := by decide +kernel
theorem dX2_putCoin_15 : decode cX2_putCoin 15 = .ok (.iadd, 1) := by decide +kernel
theorem dX2_putCoin_16 : decode cX2_putCoin 16 = .ok (.iastore, 1) := by decide +kernel
theorem dX2_putCoin_17 : decode cX2_putCoin 17 = .ok (.iload_n 3, 1) := by decide +kernel
theorem dX2_putCoin_18 : decode cX2_putCoin 18 = .ok (.iconst (-1), 1) := by decide +kernel
theorem dX2_putCoin_19 : decode cX2_putCoin 19 = .ok (.if_icmp .ne 22, 3) := by decide +kernel
theorem dX2_putCoin_22 : decode cX2_putCoin 22 = .ok (.aload_n 0, 1) := by decide +kernel
theorem dX2_putCoin_23 : decode cX2_putCoin 23 = .ok (.bipush 6, 2) := by decide +kernel
theorem dX2_putCoin_25 : decode cX2_putCoin 25 = .ok (.invokevirtual 87, 3) := by decide +kernel
theorem dX2_putCoin_28 : decode cX2_putCoin 28 = .ok (.aload_n 0, 1) := by decide +kernel
theorem dX2_putCoin_29 : decode cX2_putCoin 29 = .ok (.getfield 24, 3) := by decide +kernel
theorem dX2_putCoin_32 : decode cX2_putCoin 32 = .ok (.iload_n 1, 1) := by decide +kernel
theorem dX2_putCoin_33 : decode cX2_putCoin 33 = .ok (.dup2, 1) := by decide +kernel
theorem dX2_putCoin_34 : decode cX2_putCoin 34 = .ok (.iaload, 1) := by decide +kernel
theorem dX2_putCoin_35 : decode cX2_putCoin 35 = .ok (.iconst 1, 1) := by decide +kernel
theorem dX2_putCoin_36 : decode cX2_putCoin 36 = .ok (.iadd, 1) := by decide +kernel
theorem dX2_putCoin_37 : decode cX2_putCoin 37 = .ok (.iastore, 1) := by decide +kernel
theorem dX2_putCoin_38 : decode cX2_putCoin 38 = .ok (.goto 71, 3) := by decide +kernel
theorem dX2_putCoin_41 : decode cX2_putCoin 41 = .ok (.iload_n 3, 1) := by decide +kernel
theorem dX2_putCoin_42 : decode cX2_putCoin 42 = .ok (.bipush 10, 2) := by decide +kernel
theorem dX2_putCoin_44 : decode cX2_putCoin 44 = .ok (.if_icmp .lt 40, 3) := by decide +kernel
theorem dX2_putCoin_47 : decode cX2_putCoin 47 = .ok (.iload_n 3, 1) := by decide +kernel
theorem dX2_putCoin_48 : decode cX2_putCoin 48 = .ok (.bipush 10, 2) := by decide +kernel
theorem dX2_putCoin_50 : decode cX2_putCoin 50 = .ok (.isub, 1) := by decide +kernel
theorem dX2_putCoin_51 : decode cX2_putCoin 51 = .ok (.istore 4, 2) := by decide +kernel
theorem dX2_putCoin_53 : decode cX2_putCoin 53 = .ok (.aload_n 0, 1) := by decide +kernel
theorem dX2_putCoin_54 : decode cX2_putCoin 54 = .ok (.iload 4, 2) := by decide +kernel
theorem dX2_putCoin_56 : decode cX2_putCoin 56 = .ok (.invokevirtual 87, 3) := by decide +kernel
theorem dX2_putCoin_59 : decode cX2_putCoin 59 = .ok (.aload_n 0, 1) := by decide +kernel
theorem dX2_putCoin_60 : decode cX2_putCoin 60 = .ok (.getfield 33, 3) := by decide +kernel
theorem dX2_putCoin_63 : decode cX2_putCoin 63 = .ok (.iload 4, 2) := by decide +kernel
theorem dX2_putCoin_65 : decode cX2_putCoin 65 = .ok (.iload_n 1, 1) := by decide +kernel
theorem dX2_putCoin_66 : decode cX2_putCoin 66 = .ok (.iastore, 1) := by decide +kernel
theorem dX2_putCoin_67 : decode cX2_putCoin 67 = .ok (.aload_n 0, 1) := by decide +kernel
theorem dX2_putCoin_68 : decode cX2_putCoin 68 = .ok (.getfield 36, 3) := by decide +kernel
theorem dX2_putCoin_71 : decode cX2_putCoin 71 = .ok (.iload 4, 2) := by decide +kernel
theorem dX2_putCoin_73 : decode cX2_putCoin 73 = .ok (.aload_n 0, 1) := by decide +kernel
theorem dX2_putCoin_74 : decode cX2_putCoin 74 = .ok (.iload 4, 2) := by decide +kernel
theorem dX2_putCoin_76 : decode cX2_putCoin 76 = .ok (.iload_n 2, 1) := by decide +kernel
theorem dX2_putCoin_77 : decode cX2_putCoin 77 = .ok (.invokevirtual 62, 3) := by decide +kernel
theorem dX2_putCoin_80 : decode cX2_putCoin 80 = .ok (.iastore, 1) := by decide +kernel
theorem dX2_putCoin_81 : decode cX2_putCoin 81 = .ok (.goto 28, 3) := by decide +kernel
theorem dX2_putCoin_84 : decode cX2_putCoin 84 = .ok (.aload_n 0, 1) := by decide +kernel
theorem dX2_putCoin_85 : decode cX2_putCoin 85 = .ok (.iload_n 3, 1) := by decide +kernel
theorem dX2_putCoin_86 : decode cX2_putCoin 86 = .ok (.invokevirtual 87, 3) := by decide +kernel
theorem dX2_putCoin_89 : decode cX2_putCoin 89 = .ok (.aload_n 0, 1) := by decide +kernel
theorem dX2_putCoin_90 : decode cX2_putCoin 90 = .ok (.getfield 42, 3) := by decide +kernel
theorem dX2_putCoin_93 : decode cX2_putCoin 93 = .ok (.iload_n 3, 1) := by decide +kernel
theorem dX2_putCoin_94 : decode cX2_putCoin 94 = .ok (.bipush 6, 2) := by decide +kernel
theorem dX2_putCoin_96 : decode cX2_putCoin 96 = .ok (.imul, 1) := by decide +kernel
theorem dX2_putCoin_97 : decode cX2_putCoin 97 = .ok (.iload_n 1, 1) := by decide +kernel
theorem dX2_putCoin_98 : decode cX2_putCoin 98 = .ok (.iadd, 1) := by decide +kernel
theorem dX2_putCoin_99 : decode cX2_putCoin 99 = .ok (.dup2, 1) := by decide +kernel
theorem dX2_putCoin_100 : decode cX2_putCoin 100 = .ok (.iaload, 1) := by decide +kernel
theorem dX2_putCoin_101 : decode cX2_putCoin 101 = .ok (.iconst 1, 1) := by decide +kernel
theorem dX2_putCoin_102 : decode cX2_putCoin 102 = .ok (.iadd, 1) := by decide +kernel
theorem dX2_putCoin_103 : decode cX2_putCoin 103 = .ok (.iastore, 1) := by decide +kernel
theorem dX2_putCoin_104 : decode cX2_putCoin 104 = .ok (.aload_n 0, 1) := by decide +kernel
theorem dX2_putCoin_105 : decode cX2_putCoin 105 = .ok (.iload_n 3, 1) := by decide +kernel
theorem dX2_putCoin_106 : decode cX2_putCoin 106 = .ok (.invokevirtual 91, 3) := by decide +kernel
theorem dX2_putCoin_109 : decode cX2_putCoin 109 = .ok (.iload_n 3, 1) := by decide +kernel
theorem dX2_putCoin_110 : decode cX2_putCoin 110 = .ok (.ireturn, 1) := by decide +kernel
theorem dX2_rollOver_0 : decode cX2_rollOver 0 = .ok (.iconst 0, 1) := by decide +kernel
theorem dX2_rollOver_1 : decode cX2_rollOver 1 = .ok (.istore_n 2, 1) := by decide +kernel
theorem dX2_rollOver_2 : decode cX2_rollOver 2 = .ok (.iload_n 2, 1) := by decide +kernel
theorem dX2_rollOver_3 : decode cX2_rollOver 3 = .ok (.iload_n 1, 1) := by decide +kernel
theorem dX2_rollOver_4 : decode cX2_rollOver 4 = .ok (.if_icmp .ge 19, 3) := by decide +kernel
theorem dX2_rollOver_7 : decode cX2_rollOver 7 = .ok (.aload_n 0, 1) := by decide +kernel
theorem dX2_rollOver_8 : decode cX2_rollOver 8 = .ok (.getfield 39, 3) := by decide +kernel
theorem dX2_rollOver_11 : decode cX2_rollOver 11 = .ok (.iload_n 2, 1) := by decide +kernel
theorem dX2_rollOver_12 : decode cX2_rollOver 12 = .ok (.dup2, 1) := by decide +kernel
theorem dX2_rollOver_13 : decode cX2_rollOver 13 = .ok (.iaload, 1) := by decide +kernel
theorem dX2_rollOver_14 : decode cX2_rollOver 14 = .ok (.iconst 1, 1) := by decide +kernel
theorem dX2_rollOver_15 : decode cX2_rollOver 15 = .ok (.iadd, 1) := by decide +kernel
theorem dX2_rollOver_16 : decode cX2_rollOver 16 = .ok (.iastore, 1) := by decide +kernel
theorem dX2_rollOver_17 : decode cX2_rollOver 17 = .ok (.iinc 2 1, 3) := by decide +kernel
theorem dX2_rollOver_20 : decode cX2_rollOver 20 = .ok (.goto (-18), 3) := by decide +kernel
theorem dX2_rollOver_23 : decode cX2_rollOver 23 = .ok (.return_, 1) := by decide +kernel
theorem dX2_useRail_0 : decode cX2_useRail 0 = .ok (.aload_n 0, 1) := by decide +kernel
theorem dX2_useRail_1 : decode cX2_useRail 1 = .ok (.getfield 30, 3) := by decide +kernel
theorem dX2_useRail_4 : decode cX2_useRail 4 = .ok (.iload_n 1, 1) := by decide +kernel
theorem dX2_useRail_5 : decode cX2_useRail 5 = .ok (.dup2, 1) := by decide +kernel
theorem dX2_useRail_6 : decode cX2_useRail 6 = .ok (.iaload, 1) := by decide +kernel
theorem dX2_useRail_7 : decode cX2_useRail 7 = .ok (.iconst 1, 1) := by decide +kernel
theorem dX2_useRail_8 : decode cX2_useRail 8 = .ok (.iadd, 1) := by decide +kernel
theorem dX2_useRail_9 : decode cX2_useRail 9 = .ok (.iastore, 1) := by decide +kernel
theorem dX2_useRail_10 : decode cX2_useRail 10 = .ok (.aload_n 0, 1) := by decide +kernel
theorem dX2_useRail_11 : decode cX2_useRail 11 = .ok (.getfield 30, 3) := by decide +kernel
theorem dX2_useRail_14 : decode cX2_useRail 14 = .ok (.iload_n 1, 1) := by decide +kernel
theorem dX2_useRail_15 : decode cX2_useRail 15 = .ok (.iaload, 1) := by decide +kernel
theorem dX2_useRail_16 : decode cX2_useRail 16 = .ok (.bipush 20, 2) := by decide +kernel
theorem dX2_useRail_18 : decode cX2_useRail 18 = .ok (.if_icmp .lt 30, 3) := by decide +kernel
theorem dX2_useRail_21 : decode cX2_useRail 21 = .ok (.aload_n 0, 1) := by decide +kernel
theorem dX2_useRail_22 : decode cX2_useRail 22 = .ok (.getfield 30, 3) := by decide +kernel
theorem dX2_useRail_25 : decode cX2_useRail 25 = .ok (.iload_n 1, 1) := by decide +kernel
theorem dX2_useRail_26 : decode cX2_useRail 26 = .ok (.iconst 0, 1) := by decide +kernel
theorem dX2_useRail_27 : decode cX2_useRail 27 = .ok (.iastore, 1) := by decide +kernel
theorem dX2_useRail_28 : decode cX2_useRail 28 = .ok (.aload_n 0, 1) := by decide +kernel
theorem dX2_useRail_29 : decode cX2_useRail 29 = .ok (.getfield 27, 3) := by decide +kernel
theorem dX2_useRail_32 : decode cX2_useRail 32 = .ok (.iload_n 1, 1) := by decide +kernel
theorem dX2_useRail_33 : decode cX2_useRail 33 = .ok (.sipush 4100, 3) := by decide +kernel
theorem dX2_useRail_36 : decode cX2_useRail 36 = .ok (.aload_n 0, 1) := by decide +kernel
theorem dX2_useRail_37 : decode cX2_useRail 37 = .ok (.getfield 27, 3) := by decide +kernel
theorem dX2_useRail_40 : decode cX2_useRail 40 = .ok (.iload_n 1, 1) := by decide +kernel
theorem dX2_useRail_41 : decode cX2_useRail 41 = .ok (.iaload, 1) := by decide +kernel
theorem dX2_useRail_42 : decode cX2_useRail 42 = .ok (.iconst 1, 1) := by decide +kernel
theorem dX2_useRail_43 : decode cX2_useRail 43 = .ok (.iadd, 1) := by decide +kernel
theorem dX2_useRail_44 : decode cX2_useRail 44 = .ok (.invokestatic 81, 3) := by decide +kernel
theorem dX2_useRail_47 : decode cX2_useRail 47 = .ok (.iastore, 1) := by decide +kernel
theorem dX2_useRail_48 : decode cX2_useRail 48 = .ok (.return_, 1) := by decide +kernel
set_option maxRecDepth 20000 in
theorem ggX2_putCoinsByChance_X2_putCoin : GoodIn wsX2_putCoinsByChance wsX2_putCoin := goodIn_r _ [12, 13, 14, 15, 16, 17, 18, 19, 20, 11, 21, 22, 23, 24, 25, 26, 27, 28, 29, 30, 31, 32, 33, 34, 35, 36, 37, 38, 39, 40, 41, 42, 43, 44, 45, 46, 47, 48, 49, 50, 51, 52, 53, 54, 55, 56, 57, 58, 59, 60, 61, 62, 63, 64, 65, 66, 67, 68, 69, 70, 71, 72, 73] (by decide +kernel) (by decide +kernel)
set_option maxRecDepth 20000 in
theorem gX2_putCoinsByChance_X2_putCoin : GoodIn wsX2_putCoinsByChance (wsV RX2 106 RX2 yX2_putCoin wsX2_putCoin) := goodIn_app (goodIn_of _ (by decide +kernel)) ggX2_putCoinsByChance_X2_putCoin
theorem dX2_putCoinsByChance_0 : decode cX2_putCoinsByChance 0 = .ok (.iload_n 2, 1) := by decide +kernel
theorem dX2_putCoinsByChance_1 : decode cX2_putCoinsByChance 1 = .ok (.i2l, 1) := by decide +kernel
theorem dX2_putCoinsByChance_2 : decode cX2_putCoinsByChance 2 = .ok (.lstore_n 3, 1) := by decide +kernel
theorem dX2_putCoinsByChance_3 : decode cX2_putCoinsByChance 3 = .ok (.iconst 0, 1) := by decide +kernel
theorem dX2_putCoinsByChance_4 : decode cX2_putCoinsByChance 4 = .ok (.istore 5, 2) := by decide +kernel
theorem dX2_putCoinsByChance_6 : decode cX2_putCoinsByChance 6 = .ok (.iconst 0, 1) := by decide +kernel
theorem dX2_putCoinsByChance_7 : decode cX2_putCoinsByChance 7 = .ok (.istore 6, 2) := by decide +kernel
theorem dX2_putCoinsByChance_9 : decode cX2_putCoinsByChance 9 = .ok (.iload 6, 2) := by decide +kernel
theorem dX2_putCoinsByChance_11 : decode cX2_putCoinsByChance 11 = .ok (.iload_n 1, 1) := by decide +kernel
theorem dX2_putCoinsByChance_12 : decode cX2_putCoinsByChance 12 = .ok (.if_icmp .ge 64, 3) := by decide +kernel
theorem dX2_putCoinsByChance_15 : decode cX2_putCoinsByChance 15 = .ok (.ldc2_w 94, 3) := by decide +kernel
theorem dX2_putCoinsByChance_18 : decode cX2_putCoinsByChance 18 = .ok (.lload_n 3, 1) := by decide +kernel
theorem dX2_putCoinsByChance_19 : decode cX2_putCoinsByChance 19 = .ok (.lmul, 1) := by decide +kernel
theorem dX2_putCoinsByChance_20 : decode cX2_putCoinsByChance 20 = .ok (.ldc2_w 96, 3) := by decide +kernel
theorem dX2_putCoinsByChance_23 : decode cX2_putCoinsByChance 23 = .ok (.ladd, 1) := by decide +kernel
theorem dX2_putCoinsByChance_24 : decode cX2_putCoinsByChance 24 = .ok (.ldc2_w 98, 3) := by decide +kernel
theorem dX2_putCoinsByChance_27 : decode cX2_putCoinsByChance 27 = .ok (.lrem, 1) := by decide +kernel
theorem dX2_putCoinsByChance_28 : decode cX2_putCoinsByChance 28 = .ok (.lstore_n 3, 1) := by decide +kernel
theorem dX2_putCoinsByChance_29 : decode cX2_putCoinsByChance 29 = .ok (.lload_n 3, 1) := by decide +kernel
theorem dX2_putCoinsByChance_30 : decode cX2_putCoinsByChance 30 = .ok (.ldc2_w 100, 3) := by decide +kernel
theorem dX2_putCoinsByChance_33 : decode cX2_putCoinsByChance 33 = .ok (.ldiv, 1) := by decide +kernel
theorem dX2_putCoinsByChance_34 : decode cX2_putCoinsByChance 34 = .ok (.aload_n 0, 1) := by decide +kernel
theorem dX2_putCoinsByChance_35 : decode cX2_putCoinsByChance 35 = .ok (.getfield 45, 3) := by decide +kernel
theorem dX2_putCoinsByChance_38 : decode cX2_putCoinsByChance 38 = .ok (.i2l, 1) := by decide +kernel
theorem dX2_putCoinsByChance_39 : decode cX2_putCoinsByChance 39 = .ok (.lrem, 1) := by decide +kernel
theorem dX2_putCoinsByChance_40 : decode cX2_putCoinsByChance 40 = .ok (.l2i, 1) := by decide +kernel
theorem dX2_putCoinsByChance_41 : decode cX2_putCoinsByChance 41 = .ok (.istore 7, 2) := by decide +kernel
theorem dX2_putCoinsByChance_43 : decode cX2_putCoinsByChance 43 = .ok (.lload_n 3, 1) := by decide +kernel
theorem dX2_putCoinsByChance_44 : decode cX2_putCoinsByChance 44 = .ok (.ldc2_w 102, 3) := by decide +kernel
theorem dX2_putCoinsByChance_47 : decode cX2_putCoinsByChance 47 = .ok (.ldiv, 1) := by decide +kernel
theorem dX2_putCoinsByChance_48 : decode cX2_putCoinsByChance 48 = .ok (.ldc2_w 104, 3) := by decide +kernel
theorem dX2_putCoinsByChance_51 : decode cX2_putCoinsByChance 51 = .ok (.lrem, 1) := by decide +kernel
theorem dX2_putCoinsByChance_52 : decode cX2_putCoinsByChance 52 = .ok (.l2i, 1) := by decide +kernel
theorem dX2_putCoinsByChance_53 : decode cX2_putCoinsByChance 53 = .ok (.istore 8, 2) := by decide +kernel
theorem dX2_putCoinsByChance_55 : decode cX2_putCoinsByChance 55 = .ok (.aload_n 0, 1) := by decide +kernel
theorem dX2_putCoinsByChance_56 : decode cX2_putCoinsByChance 56 = .ok (.iload 7, 2) := by decide +kernel
theorem dX2_putCoinsByChance_58 : decode cX2_putCoinsByChance 58 = .ok (.iload 8, 2) := by decide +kernel
theorem dX2_putCoinsByChance_60 : decode cX2_putCoinsByChance 60 = .ok (.invokevirtual 106, 3) := by decide +kernel
theorem dX2_putCoinsByChance_63 : decode cX2_putCoinsByChance 63 = .ok (.iconst (-1), 1) := by decide +kernel
theorem dX2_putCoinsByChance_64 : decode cX2_putCoinsByChance 64 = .ok (.if_icmp .ne 6, 3) := by decide +kernel
theorem dX2_putCoinsByChance_67 : decode cX2_putCoinsByChance 67 = .ok (.iinc 5 1, 3) := by decide +kernel
theorem dX2_putCoinsByChance_70 : decode cX2_putCoinsByChance 70 = .ok (.iinc 6 1, 3) := by decide +kernel
theorem dX2_putCoinsByChance_73 : decode cX2_putCoinsByChance 73 = .ok (.goto (-64), 3) := by decide +kernel
theorem dX2_putCoinsByChance_76 : decode cX2_putCoinsByChance 76 = .ok (.iload 5, 2) := by decide +kernel
theorem dX2_putCoinsByChance_78 : decode cX2_putCoinsByChance 78 = .ok (.ireturn, 1) := by decide +kernel
set_option maxRecDepth 20000 in
theorem ggX2_loosen_X2_isFull : GoodIn wsX2_loosen wsX2_isFull := goodIn_r _ [9, 10, 11, 12, 8, 13, 3, 14, 15, 16, 17, 18, 19, 20, 21, 22, 23, 24, 25, 26] (by decide +kernel) (by decide +kernel)
set_option maxRecDepth 20000 in
theorem gX2_loosen_X2_isFull : GoodIn wsX2_loosen (wsV RX2 73 RX2 yX2_isFull wsX2_isFull) := goodIn_app (goodIn_of _ (by decide +kernel)) ggX2_loosen_X2_isFull
theorem dX2_loosen_0 : decode cX2_loosen 0 = .ok (.aload_n 0, 1) := by decide +kernel
theorem dX2_loosen_1 : decode cX2_loosen 1 = .ok (.getfield 33, 3) := by decide +kernel
theorem dX2_loosen_4 : decode cX2_loosen 4 = .ok (.iload_n 1, 1) := by decide +kernel
theorem dX2_loosen_5 : decode cX2_loosen 5 = .ok (.iaload, 1) := by decide +kernel
theorem dX2_loosen_6 : decode cX2_loosen 6 = .ok (.istore_n 2, 1) := by decide +kernel
theorem dX2_loosen_7 : decode cX2_loosen 7 = .ok (.aload_n 0, 1) := by decide +kernel
theorem dX2_loosen_8 : decode cX2_loosen 8 = .ok (.iload_n 1, 1) := by decide +kernel
theorem dX2_loosen_9 : decode cX2_loosen 9 = .ok (.invokevirtual 73, 3) := by decide +kernel
theorem dX2_loosen_12 : decode cX2_loosen 12 = .ok (.ifCond .eq 16, 3) := by decide +kernel
theorem dX2_loosen_15 : decode cX2_loosen 15 = .ok (.aload_n 0, 1) := by decide +kernel
theorem dX2_loosen_16 : decode cX2_loosen 16 = .ok (.getfield 24, 3) := by decide +kernel
theorem dX2_loosen_19 : decode cX2_loosen 19 = .ok (.iload_n 2, 1) := by decide +kernel
theorem dX2_loosen_20 : decode cX2_loosen 20 = .ok (.dup2, 1) := by decide +kernel
theorem dX2_loosen_21 : decode cX2_loosen 21 = .ok (.iaload, 1) := by decide +kernel
theorem dX2_loosen_22 : decode cX2_loosen 22 = .ok (.iconst 1, 1) := by decide +kernel
theorem dX2_loosen_23 : decode cX2_loosen 23 = .ok (.iadd, 1) := by decide +kernel
theorem dX2_loosen_24 : decode cX2_loosen 24 = .ok (.iastore, 1) := by decide +kernel
theorem dX2_loosen_25 : decode cX2_loosen 25 = .ok (.goto 18, 3) := by decide +kernel
theorem dX2_loosen_28 : decode cX2_loosen 28 = .ok (.aload_n 0, 1) := by decide +kernel
theorem dX2_loosen_29 : decode cX2_loosen 29 = .ok (.getfield 42, 3) := by decide +kernel
theorem dX2_loosen_32 : decode cX2_loosen 32 = .ok (.iload_n 1, 1) := by decide +kernel
theorem dX2_loosen_33 : decode cX2_loosen 33 = .ok (.bipush 6, 2) := by decide +kernel
theorem dX2_loosen_35 : decode cX2_loosen 35 = .ok (.imul, 1) := by decide +kernel
theorem dX2_loosen_36 : decode cX2_loosen 36 = .ok (.iload_n 2, 1) := by decide +kernel
theorem dX2_loosen_37 : decode cX2_loosen 37 = .ok (.iadd, 1) := by decide +kernel
theorem dX2_loosen_38 : decode cX2_loosen 38 = .ok (.dup2, 1) := by decide +kernel
theorem dX2_loosen_39 : decode cX2_loosen 39 = .ok (.iaload, 1) := by decide +kernel
theorem dX2_loosen_40 : decode cX2_loosen 40 = .ok (.iconst 1, 1) := by decide +kernel
theorem dX2_loosen_41 : decode cX2_loosen 41 = .ok (.iadd, 1) := by decide +kernel
theorem dX2_loosen_42 : decode cX2_loosen 42 = .ok (.iastore, 1) := by decide +kernel
theorem dX2_loosen_43 : decode cX2_loosen 43 = .ok (.aload_n 0, 1) := by decide +kernel
theorem dX2_loosen_44 : decode cX2_loosen 44 = .ok (.getfield 33, 3) := by decide +kernel
theorem dX2_loosen_47 : decode cX2_loosen 47 = .ok (.iload_n 1, 1) := by decide +kernel
theorem dX2_loosen_48 : decode cX2_loosen 48 = .ok (.iconst (-1), 1) := by decide +kernel
theorem dX2_loosen_49 : decode cX2_loosen 49 = .ok (.iastore, 1) := by decide +kernel
theorem dX2_loosen_50 : decode cX2_loosen 50 = .ok (.aload_n 0, 1) := by decide +kernel
theorem dX2_loosen_51 : decode cX2_loosen 51 = .ok (.getfield 36, 3) := by decide +kernel
theorem dX2_loosen_54 : decode cX2_loosen 54 = .ok (.iload_n 1, 1) := by decide +kernel
theorem dX2_loosen_55 : decode cX2_loosen 55 = .ok (.iconst (-1), 1) := by decide +kernel
theorem dX2_loosen_56 : decode cX2_loosen 56 = .ok (.iastore, 1) := by decide +kernel
theorem dX2_loosen_57 : decode cX2_loosen 57 = .ok (.iload_n 2, 1) := by decide +kernel
theorem dX2_loosen_58 : decode cX2_loosen 58 = .ok (.ireturn, 1) := by decide +kernel
set_option maxRecDepth 20000 in
theorem ggX2_emptyBag_X2_coinsIn : GoodIn wsX2_emptyBag wsX2_coinsIn := goodIn_r _ [7, 1, 8, 9, 10, 11, 12, 13, 14, 15, 16, 17, 18, 19, 20] (by decide +kernel) (by decide +kernel)
set_option maxRecDepth 20000 in
theorem gX2_emptyBag_X2_coinsIn : GoodIn wsX2_emptyBag (wsV RX2 58 RX2 yX2_coinsIn wsX2_coinsIn) := goodIn_app (goodIn_of _ (by decide +kernel)) ggX2_emptyBag_X2_coinsIn
theorem dX2_emptyBag_0 : decode cX2_emptyBag 0 = .ok (.aload_n 0, 1) := by decide +kernel
theorem dX2_emptyBag_1 : decode cX2_emptyBag 1 = .ok (.iload_n 1, 1) := by decide +kernel
theorem dX2_emptyBag_2 : decode cX2_emptyBag 2 = .ok (.invokevirtual 58, 3) := by decide +kernel
theorem dX2_emptyBag_5 : decode cX2_emptyBag 5 = .ok (.istore_n 2, 1) := by decide +kernel
theorem dX2_emptyBag_6 : decode cX2_emptyBag 6 = .ok (.iconst 0, 1) := by decide +kernel
theorem dX2_emptyBag_7 : decode cX2_emptyBag 7 = .ok (.istore_n 3, 1) := by decide +kernel
theorem dX2_emptyBag_8 : decode cX2_emptyBag 8 = .ok (.iload_n 3, 1) := by decide +kernel
theorem dX2_emptyBag_9 : decode cX2_emptyBag 9 = .ok (.bipush 6, 2) := by decide +kernel
theorem dX2_emptyBag_11 : decode cX2_emptyBag 11 = .ok (.if_icmp .ge 21, 3) := by decide +kernel
theorem dX2_emptyBag_14 : decode cX2_emptyBag 14 = .ok (.aload_n 0, 1) := by decide +kernel
theorem dX2_emptyBag_15 : decode cX2_emptyBag 15 = .ok (.getfield 42, 3) := by decide +kernel
theorem dX2_emptyBag_18 : decode cX2_emptyBag 18 = .ok (.iload_n 1, 1) := by decide +kernel
theorem dX2_emptyBag_19 : decode cX2_emptyBag 19 = .ok (.bipush 6, 2) := by decide +kernel
theorem dX2_emptyBag_21 : decode cX2_emptyBag 21 = .ok (.imul, 1) := by decide +kernel
theorem dX2_emptyBag_22 : decode cX2_emptyBag 22 = .ok (.iload_n 3, 1) := by decide +kernel
theorem dX2_emptyBag_23 : decode cX2_emptyBag 23 = .ok (.iadd, 1) := by decide +kernel
theorem dX2_emptyBag_24 : decode cX2_emptyBag 24 = .ok (.iconst 0, 1) := by decide +kernel
theorem dX2_emptyBag_25 : decode cX2_emptyBag 25 = .ok (.iastore, 1) := by decide +kernel
theorem dX2_emptyBag_26 : decode cX2_emptyBag 26 = .ok (.iinc 3 1, 3) := by decide +kernel
theorem dX2_emptyBag_29 : decode cX2_emptyBag 29 = .ok (.goto (-21), 3) := by decide +kernel
theorem dX2_emptyBag_32 : decode cX2_emptyBag 32 = .ok (.aload_n 0, 1) := by decide +kernel
theorem dX2_emptyBag_33 : decode cX2_emptyBag 33 = .ok (.dup, 1) := by decide +kernel
theorem dX2_emptyBag_34 : decode cX2_emptyBag 34 = .ok (.getfield 55, 3) := by decide +kernel
theorem dX2_emptyBag_37 : decode cX2_emptyBag 37 = .ok (.iload_n 2, 1) := by decide +kernel
theorem dX2_emptyBag_38 : decode cX2_emptyBag 38 = .ok (.iadd, 1) := by decide +kernel
theorem dX2_emptyBag_39 : decode cX2_emptyBag 39 = .ok (.putfield 55, 3) := by decide +kernel
theorem dX2_emptyBag_42 : decode cX2_emptyBag 42 = .ok (.iload_n 2, 1) := by decide +kernel
theorem dX2_emptyBag_43 : decode cX2_emptyBag 43 = .ok (.ireturn, 1) := by decide +kernel
set_option maxRecDepth 20000 in
theorem ggX2_removeRejects_X2_sum : GoodIn wsX2_removeRejects wsX2_sum := goodIn_r _ [6] (by decide +kernel) (by decide +kernel)
set_option maxRecDepth 20000 in
theorem gX2_removeRejects_X2_sum : GoodIn wsX2_removeRejects (va_wsS RX2 109 yX2_sum wsX2_sum) := goodIn_app (goodIn_of _ (by decide +kernel)) ggX2_removeRejects_X2_sum
theorem dX2_removeRejects_0 : decode cX2_removeRejects 0 = .ok (.aload_n 0, 1) := by decide +kernel
end
section
theorem dX2_removeRejects_1 : decode cX2_removeRejects 1 = .ok (.getfield 24, 3) := by decide +kernel
theorem dX2_removeRejects_4 : decode cX2_removeRejects 4 = .ok (.invokestatic 109, 3) := by decide +kernel
theorem dX2_removeRejects_7 : decode cX2_removeRejects 7 = .ok (.istore_n 1, 1) := by decide +kernel
theorem dX2_removeRejects_8 : decode cX2_removeRejects 8 = .ok (.iconst 0, 1) := by decide +kernel
theorem dX2_removeRejects_9 : decode cX2_removeRejects 9 = .ok (.istore_n 2, 1) := by decide +kernel
theorem dX2_removeRejects_10 : decode cX2_removeRejects 10 = .ok (.iload_n 2, 1) := by decide +kernel
theorem dX2_removeRejects_11 : decode cX2_removeRejects 11 = .ok (.bipush 6, 2) := by decide +kernel
theorem dX2_removeRejects_13 : decode cX2_removeRejects 13 = .ok (.if_icmp .ge 16, 3) := by decide +kernel
theorem dX2_removeRejects_16 : decode cX2_removeRejects 16 = .ok (.aload_n 0, 1) := by decide +kernel
theorem dX2_removeRejects_17 : decode cX2_removeRejects 17 = .ok (.getfield 24, 3) := by decide +kernel
theorem dX2_removeRejects_20 : decode cX2_removeRejects 20 = .ok (.iload_n 2, 1) := by decide +kernel
theorem dX2_removeRejects_21 : decode cX2_removeRejects 21 = .ok (.iconst 0, 1) := by decide +kernel
theorem dX2_removeRejects_22 : decode cX2_removeRejects 22 = .ok (.iastore, 1) := by decide +kernel
theorem dX2_removeRejects_23 : decode cX2_removeRejects 23 = .ok (.iinc 2 1, 3) := by decide +kernel
theorem dX2_removeRejects_26 : decode cX2_removeRejects 26 = .ok (.goto (-16), 3) := by decide +kernel
theorem dX2_removeRejects_29 : decode cX2_removeRejects 29 = .ok (.aload_n 0, 1) := by decide +kernel
theorem dX2_removeRejects_30 : decode cX2_removeRejects 30 = .ok (.dup, 1) := by decide +kernel
theorem dX2_removeRejects_31 : decode cX2_removeRejects 31 = .ok (.getfield 55, 3) := by decide +kernel
theorem dX2_removeRejects_34 : decode cX2_removeRejects 34 = .ok (.iload_n 1, 1) := by decide +kernel
theorem dX2_removeRejects_35 : decode cX2_removeRejects 35 = .ok (.iadd, 1) := by decide +kernel
theorem dX2_removeRejects_36 : decode cX2_removeRejects 36 = .ok (.putfield 55, 3) := by decide +kernel
theorem dX2_removeRejects_39 : decode cX2_removeRejects 39 = .ok (.iload_n 1, 1) := by decide +kernel
theorem dX2_removeRejects_40 : decode cX2_removeRejects 40 = .ok (.ireturn, 1) := by decide +kernel
set_option maxRecDepth 20000 in
theorem ggX2_aboutKind_X2_coinsOfKindInBags : GoodIn wsX2_aboutKind wsX2_coinsOfKindInBags := goodIn_r _ [10, 11, 12, 13, 9, 14, 15, 21, 22, 23, 24, 25, 26, 27, 28, 29, 30, 31, 32, 33] (by decide +kernel) (by decide +kernel)
set_option maxRecDepth 20000 in
theorem gX2_aboutKind_X2_coinsOfKindInBags : GoodIn wsX2_aboutKind (wsV RX2 113 RX2 yX2_coinsOfKindInBags wsX2_coinsOfKindInBags) := goodIn_app (goodIn_of _ (by decide +kernel)) ggX2_aboutKind_X2_coinsOfKindInBags
set_option maxRecDepth 20000 in
theorem ggX2_aboutKind_X2_stuckOfKind : GoodIn wsX2_aboutKind wsX2_stuckOfKind := goodIn_r _ [19, 20, 21, 22, 23, 24, 25, 26, 27, 28, 29, 30, 31, 32, 33] (by decide +kernel) (by decide +kernel)
set_option maxRecDepth 20000 in
theorem gX2_aboutKind_X2_stuckOfKind : GoodIn wsX2_aboutKind (wsV RX2 116 RX2 yX2_stuckOfKind wsX2_stuckOfKind) := goodIn_app (goodIn_of _ (by decide +kernel)) ggX2_aboutKind_X2_stuckOfKind
theorem dX2_aboutKind_0 : decode cX2_aboutKind 0 = .ok (.iload_n 2, 1) := by decide +kernel
theorem dX2_aboutKind_1 : decode cX2_aboutKind 1 = .ok (.tableswitch 79 0 5 #[39, 46, 53, 60, 66, 72], 39) := by decide +kernel
theorem dX2_aboutKind_40 : decode cX2_aboutKind 40 = .ok (.aload_n 0, 1) := by decide +kernel
theorem dX2_aboutKind_41 : decode cX2_aboutKind 41 = .ok (.getfield 9, 3) := by decide +kernel
theorem dX2_aboutKind_44 : decode cX2_aboutKind 44 = .ok (.iload_n 1, 1) := by decide +kernel
theorem dX2_aboutKind_45 : decode cX2_aboutKind 45 = .ok (.iaload, 1) := by decide +kernel
theorem dX2_aboutKind_46 : decode cX2_aboutKind 46 = .ok (.ireturn, 1) := by decide +kernel
theorem dX2_aboutKind_47 : decode cX2_aboutKind 47 = .ok (.aload_n 0, 1) := by decide +kernel
theorem dX2_aboutKind_48 : decode cX2_aboutKind 48 = .ok (.getfield 15, 3) := by decide +kernel
theorem dX2_aboutKind_51 : decode cX2_aboutKind 51 = .ok (.iload_n 1, 1) := by decide +kernel
theorem dX2_aboutKind_52 : decode cX2_aboutKind 52 = .ok (.iaload, 1) := by decide +kernel
theorem dX2_aboutKind_53 : decode cX2_aboutKind 53 = .ok (.ireturn, 1) := by decide +kernel
theorem dX2_aboutKind_54 : decode cX2_aboutKind 54 = .ok (.aload_n 0, 1) := by decide +kernel
theorem dX2_aboutKind_55 : decode cX2_aboutKind 55 = .ok (.getfield 18, 3) := by decide +kernel
theorem dX2_aboutKind_58 : decode cX2_aboutKind 58 = .ok (.iload_n 1, 1) := by decide +kernel
theorem dX2_aboutKind_59 : decode cX2_aboutKind 59 = .ok (.iaload, 1) := by decide +kernel
theorem dX2_aboutKind_60 : decode cX2_aboutKind 60 = .ok (.ireturn, 1) := by decide +kernel
theorem dX2_aboutKind_61 : decode cX2_aboutKind 61 = .ok (.aload_n 0, 1) := by decide +kernel
theorem dX2_aboutKind_62 : decode cX2_aboutKind 62 = .ok (.iload_n 1, 1) := by decide +kernel
theorem dX2_aboutKind_63 : decode cX2_aboutKind 63 = .ok (.invokevirtual 113, 3) := by decide +kernel
theorem dX2_aboutKind_66 : decode cX2_aboutKind 66 = .ok (.ireturn, 1) := by decide +kernel
theorem dX2_aboutKind_67 : decode cX2_aboutKind 67 = .ok (.aload_n 0, 1) := by decide +kernel
theorem dX2_aboutKind_68 : decode cX2_aboutKind 68 = .ok (.iload_n 1, 1) := by decide +kernel
theorem dX2_aboutKind_69 : decode cX2_aboutKind 69 = .ok (.invokevirtual 116, 3) := by decide +kernel
theorem dX2_aboutKind_72 : decode cX2_aboutKind 72 = .ok (.ireturn, 1) := by decide +kernel
theorem dX2_aboutKind_73 : decode cX2_aboutKind 73 = .ok (.aload_n 0, 1) := by decide +kernel
theorem dX2_aboutKind_74 : decode cX2_aboutKind 74 = .ok (.getfield 24, 3) := by decide +kernel
theorem dX2_aboutKind_77 : decode cX2_aboutKind 77 = .ok (.iload_n 1, 1) := by decide +kernel
theorem dX2_aboutKind_78 : decode cX2_aboutKind 78 = .ok (.iaload, 1) := by decide +kernel
theorem dX2_aboutKind_79 : decode cX2_aboutKind 79 = .ok (.ireturn, 1) := by decide +kernel
theorem dX2_aboutKind_80 : decode cX2_aboutKind 80 = .ok (.aload_n 0, 1) := by decide +kernel
theorem dX2_aboutKind_81 : decode cX2_aboutKind 81 = .ok (.getfield 21, 3) := by decide +kernel
theorem dX2_aboutKind_84 : decode cX2_aboutKind 84 = .ok (.iload_n 1, 1) := by decide +kernel
theorem dX2_aboutKind_85 : decode cX2_aboutKind 85 = .ok (.iaload, 1) := by decide +kernel
theorem dX2_aboutKind_86 : decode cX2_aboutKind 86 = .ok (.ireturn, 1) := by decide +kernel
set_option maxRecDepth 20000 in
theorem ggX2_aboutRail_X2_coinsIn : GoodIn wsX2_aboutRail wsX2_coinsIn := goodIn_r _ [10, 11, 35, 36, 37, 38, 39, 40, 41, 42, 43, 44, 45, 46, 47] (by decide +kernel) (by decide +kernel)
set_option maxRecDepth 20000 in
theorem gX2_aboutRail_X2_coinsIn : GoodIn wsX2_aboutRail (wsV RX2 58 RX2 yX2_coinsIn wsX2_coinsIn) := goodIn_app (goodIn_of _ (by decide +kernel)) ggX2_aboutRail_X2_coinsIn
set_option maxRecDepth 20000 in
theorem ggX2_aboutRail_X2_supposedWorth : GoodIn wsX2_aboutRail wsX2_supposedWorth := goodIn_r _ [15, 16, 17, 18, 19, 9, 20, 21, 22, 6, 7, 8, 10, 11, 35, 36, 37, 38, 39, 40, 41, 42, 43, 44, 45, 46, 47] (by decide +kernel) (by decide +kernel)
set_option maxRecDepth 20000 in
theorem gX2_aboutRail_X2_supposedWorth : GoodIn wsX2_aboutRail (wsV RX2 119 RX2 yX2_supposedWorth wsX2_supposedWorth) := goodIn_app (goodIn_of _ (by decide +kernel)) ggX2_aboutRail_X2_supposedWorth
set_option maxRecDepth 20000 in
theorem ggX2_aboutRail_X2_trueWorth : GoodIn wsX2_aboutRail wsX2_trueWorth := goodIn_r _ [26, 21, 16, 27, 28, 29, 9, 30, 11, 35, 36, 37, 38, 39, 40, 41, 42, 43, 44, 45, 46, 47] (by decide +kernel) (by decide +kernel)
set_option maxRecDepth 20000 in
theorem gX2_aboutRail_X2_trueWorth : GoodIn wsX2_aboutRail (wsV RX2 122 RX2 yX2_trueWorth wsX2_trueWorth) := goodIn_app (goodIn_of _ (by decide +kernel)) ggX2_aboutRail_X2_trueWorth
set_option maxRecDepth 20000 in
theorem ggX2_aboutRail_X2_misfitsIn : GoodIn wsX2_aboutRail wsX2_misfitsIn := goodIn_r _ [34, 21, 22, 27, 28, 29, 9, 30, 11, 35, 36, 37, 38, 39, 40, 41, 42, 43, 44, 45, 46, 47] (by decide +kernel) (by decide +kernel)
set_option maxRecDepth 20000 in
theorem gX2_aboutRail_X2_misfitsIn : GoodIn wsX2_aboutRail (wsV RX2 125 RX2 yX2_misfitsIn wsX2_misfitsIn) := goodIn_app (goodIn_of _ (by decide +kernel)) ggX2_aboutRail_X2_misfitsIn
set_option maxRecDepth 20000 in
theorem ggX2_aboutRail_X2_kindOfRail : GoodIn wsX2_aboutRail wsX2_kindOfRail := goodIn_r _ [20, 21, 22, 35, 36, 37, 38, 39, 40, 41, 42, 43, 44, 45, 46, 47] (by decide +kernel) (by decide +kernel)
set_option maxRecDepth 20000 in
theorem gX2_aboutRail_X2_kindOfRail : GoodIn wsX2_aboutRail (wsV RX2 128 RX2 yX2_kindOfRail wsX2_kindOfRail) := goodIn_app (goodIn_of _ (by decide +kernel)) ggX2_aboutRail_X2_kindOfRail
theorem dX2_aboutRail_0 : decode cX2_aboutRail 0 = .ok (.iload_n 2, 1) := by decide +kernel
theorem dX2_aboutRail_1 : decode cX2_aboutRail 1 = .ok (.tableswitch 109 0 8 #[51, 58, 65, 71, 78, 85, 91, 97, 103], 51) := by decide +kernel
theorem dX2_aboutRail_52 : decode cX2_aboutRail 52 = .ok (.aload_n 0, 1) := by decide +kernel
theorem dX2_aboutRail_53 : decode cX2_aboutRail 53 = .ok (.getfield 27, 3) := by decide +kernel
theorem dX2_aboutRail_56 : decode cX2_aboutRail 56 = .ok (.iload_n 1, 1) := by decide +kernel
theorem dX2_aboutRail_57 : decode cX2_aboutRail 57 = .ok (.iaload, 1) := by decide +kernel
theorem dX2_aboutRail_58 : decode cX2_aboutRail 58 = .ok (.ireturn, 1) := by decide +kernel
theorem dX2_aboutRail_59 : decode cX2_aboutRail 59 = .ok (.aload_n 0, 1) := by decide +kernel
theorem dX2_aboutRail_60 : decode cX2_aboutRail 60 = .ok (.getfield 30, 3) := by decide +kernel
theorem dX2_aboutRail_63 : decode cX2_aboutRail 63 = .ok (.iload_n 1, 1) := by decide +kernel
theorem dX2_aboutRail_64 : decode cX2_aboutRail 64 = .ok (.iaload, 1) := by decide +kernel
theorem dX2_aboutRail_65 : decode cX2_aboutRail 65 = .ok (.ireturn, 1) := by decide +kernel
theorem dX2_aboutRail_66 : decode cX2_aboutRail 66 = .ok (.aload_n 0, 1) := by decide +kernel
theorem dX2_aboutRail_67 : decode cX2_aboutRail 67 = .ok (.iload_n 1, 1) := by decide +kernel
theorem dX2_aboutRail_68 : decode cX2_aboutRail 68 = .ok (.invokevirtual 58, 3) := by decide +kernel
theorem dX2_aboutRail_71 : decode cX2_aboutRail 71 = .ok (.ireturn, 1) := by decide +kernel
theorem dX2_aboutRail_72 : decode cX2_aboutRail 72 = .ok (.aload_n 0, 1) := by decide +kernel
theorem dX2_aboutRail_73 : decode cX2_aboutRail 73 = .ok (.getfield 33, 3) := by decide +kernel
theorem dX2_aboutRail_76 : decode cX2_aboutRail 76 = .ok (.iload_n 1, 1) := by decide +kernel
theorem dX2_aboutRail_77 : decode cX2_aboutRail 77 = .ok (.iaload, 1) := by decide +kernel
theorem dX2_aboutRail_78 : decode cX2_aboutRail 78 = .ok (.ireturn, 1) := by decide +kernel
theorem dX2_aboutRail_79 : decode cX2_aboutRail 79 = .ok (.aload_n 0, 1) := by decide +kernel
theorem dX2_aboutRail_80 : decode cX2_aboutRail 80 = .ok (.getfield 36, 3) := by decide +kernel
theorem dX2_aboutRail_83 : decode cX2_aboutRail 83 = .ok (.iload_n 1, 1) := by decide +kernel
theorem dX2_aboutRail_84 : decode cX2_aboutRail 84 = .ok (.iaload, 1) := by decide +kernel
theorem dX2_aboutRail_85 : decode cX2_aboutRail 85 = .ok (.ireturn, 1) := by decide +kernel
theorem dX2_aboutRail_86 : decode cX2_aboutRail 86 = .ok (.aload_n 0, 1) := by decide +kernel
theorem dX2_aboutRail_87 : decode cX2_aboutRail 87 = .ok (.iload_n 1, 1) := by decide +kernel
theorem dX2_aboutRail_88 : decode cX2_aboutRail 88 = .ok (.invokevirtual 119, 3) := by decide +kernel
theorem dX2_aboutRail_91 : decode cX2_aboutRail 91 = .ok (.ireturn, 1) := by decide +kernel
theorem dX2_aboutRail_92 : decode cX2_aboutRail 92 = .ok (.aload_n 0, 1) := by decide +kernel
theorem dX2_aboutRail_93 : decode cX2_aboutRail 93 = .ok (.iload_n 1, 1) := by decide +kernel
theorem dX2_aboutRail_94 : decode cX2_aboutRail 94 = .ok (.invokevirtual 122, 3) := by decide +kernel
theorem dX2_aboutRail_97 : decode cX2_aboutRail 97 = .ok (.ireturn, 1) := by decide +kernel
theorem dX2_aboutRail_98 : decode cX2_aboutRail 98 = .ok (.aload_n 0, 1) := by decide +kernel
theorem dX2_aboutRail_99 : decode cX2_aboutRail 99 = .ok (.iload_n 1, 1) := by decide +kernel
theorem dX2_aboutRail_100 : decode cX2_aboutRail 100 = .ok (.invokevirtual 125, 3) := by decide +kernel
theorem dX2_aboutRail_103 : decode cX2_aboutRail 103 = .ok (.ireturn, 1) := by decide +kernel
theorem dX2_aboutRail_104 : decode cX2_aboutRail 104 = .ok (.aload_n 0, 1) := by decide +kernel
theorem dX2_aboutRail_105 : decode cX2_aboutRail 105 = .ok (.iload_n 1, 1) := by decide +kernel
theorem dX2_aboutRail_106 : decode cX2_aboutRail 106 = .ok (.invokevirtual 128, 3) := by decide +kernel
theorem dX2_aboutRail_109 : decode cX2_aboutRail 109 = .ok (.ireturn, 1) := by decide +kernel
theorem dX2_aboutRail_110 : decode cX2_aboutRail 110 = .ok (.aload_n 0, 1) := by decide +kernel
theorem dX2_aboutRail_111 : decode cX2_aboutRail 111 = .ok (.getfield 39, 3) := by decide +kernel
theorem dX2_aboutRail_114 : decode cX2_aboutRail 114 = .ok (.iload_n 1, 1) := by decide +kernel
theorem dX2_aboutRail_115 : decode cX2_aboutRail 115 = .ok (.iaload, 1) := by decide +kernel
theorem dX2_aboutRail_116 : decode cX2_aboutRail 116 = .ok (.ireturn, 1) := by decide +kernel
set_option maxRecDepth 20000 in
theorem ggX2_aboutAll_X2_sum : GoodIn wsX2_aboutAll wsX2_sum := goodIn_r _ [8] (by decide +kernel) (by decide +kernel)
set_option maxRecDepth 20000 in
theorem gX2_aboutAll_X2_sum : GoodIn wsX2_aboutAll (va_wsS RX2 109 yX2_sum wsX2_sum) := goodIn_app (goodIn_of _ (by decide +kernel)) ggX2_aboutAll_X2_sum
set_option maxRecDepth 20000 in
theorem ggX2_aboutAll_X2_coinsInBags : GoodIn wsX2_aboutAll wsX2_coinsInBags := goodIn_r _ [12, 13, 5, 6, 7, 8, 69, 70, 71, 72, 73, 74, 75, 76, 77, 78, 79, 80, 81] (by decide +kernel) (by decide +kernel)
set_option maxRecDepth 20000 in
theorem gX2_aboutAll_X2_coinsInBags : GoodIn wsX2_aboutAll (wsV RX2 131 RX2 yX2_coinsInBags wsX2_coinsInBags) := goodIn_app (goodIn_of _ (by decide +kernel)) ggX2_aboutAll_X2_coinsInBags
set_option maxRecDepth 20000 in
theorem ggX2_aboutAll_X2_stuckRails : GoodIn wsX2_aboutAll wsX2_stuckRails := goodIn_r _ [17, 18, 19, 20, 7, 21, 22, 69, 70, 71, 72, 73, 74, 75, 76, 77, 78, 79, 80, 81] (by decide +kernel) (by decide +kernel)
set_option maxRecDepth 20000 in
theorem gX2_aboutAll_X2_stuckRails : GoodIn wsX2_aboutAll (wsV RX2 135 RX2 yX2_stuckRails wsX2_stuckRails) := goodIn_app (goodIn_of _ (by decide +kernel)) ggX2_aboutAll_X2_stuckRails
set_option maxRecDepth 20000 in
theorem ggX2_aboutAll_X2_misfits : GoodIn wsX2_aboutAll wsX2_misfits := goodIn_r _ [26, 27, 28, 29, 7, 30, 1, 31, 32, 33, 34, 35, 13, 69, 70, 71, 72, 73, 74, 75, 76, 77, 78, 79, 80, 81] (by decide +kernel) (by decide +kernel)
set_option maxRecDepth 20000 in
theorem gX2_aboutAll_X2_misfits : GoodIn wsX2_aboutAll (wsV RX2 138 RX2 yX2_misfits wsX2_misfits) := goodIn_app (goodIn_of _ (by decide +kernel)) ggX2_aboutAll_X2_misfits
set_option maxRecDepth 20000 in
theorem ggX2_aboutAll_X2_supposedWorthOfAll : GoodIn wsX2_aboutAll wsX2_supposedWorthOfAll := goodIn_r _ [39, 40, 41, 42, 7, 43, 44, 45, 46, 47, 48, 1, 31, 49, 50, 51, 52, 13, 69, 70, 71, 72, 73, 74, 75, 76, 77, 78, 79, 80, 81] (by decide +kernel) (by decide +kernel)
set_option maxRecDepth 20000 in
theorem gX2_aboutAll_X2_supposedWorthOfAll : GoodIn wsX2_aboutAll (wsV RX2 141 RX2 yX2_supposedWorthOfAll wsX2_supposedWorthOfAll) := goodIn_app (goodIn_of _ (by decide +kernel)) ggX2_aboutAll_X2_supposedWorthOfAll
set_option maxRecDepth 20000 in
theorem ggX2_aboutAll_X2_trueWorthOfAll : GoodIn wsX2_aboutAll wsX2_trueWorthOfAll := goodIn_r _ [56, 57, 58, 59, 7, 60, 1, 44, 32, 33, 34, 35, 13, 69, 70, 71, 72, 73, 74, 75, 76, 77, 78, 79, 80, 81] (by decide +kernel) (by decide +kernel)
set_option maxRecDepth 20000 in
theorem gX2_aboutAll_X2_trueWorthOfAll : GoodIn wsX2_aboutAll (wsV RX2 144 RX2 yX2_trueWorthOfAll wsX2_trueWorthOfAll) := goodIn_app (goodIn_of _ (by decide +kernel)) ggX2_aboutAll_X2_trueWorthOfAll
set_option maxRecDepth 20000 in
theorem ggX2_aboutAll_X2_fullBags : GoodIn wsX2_aboutAll wsX2_fullBags := goodIn_r _ [64, 65, 66, 67, 7, 68, 49, 50, 51, 52, 13, 69, 70, 71, 72, 73, 74, 75, 76, 77, 78, 79, 80, 81] (by decide +kernel) (by decide +kernel)
set_option maxRecDepth 20000 in
theorem gX2_aboutAll_X2_fullBags : GoodIn wsX2_aboutAll (wsV RX2 147 RX2 yX2_fullBags wsX2_fullBags) := goodIn_app (goodIn_of _ (by decide +kernel)) ggX2_aboutAll_X2_fullBags
theorem dX2_aboutAll_0 : decode cX2_aboutAll 0 = .ok (.iload_n 1, 1) := by decide +kernel
theorem dX2_aboutAll_1 : decode cX2_aboutAll 1 = .ok (.tableswitch 102 0 8 #[51, 56, 64, 69, 74, 82, 87, 92, 97], 51) := by decide +kernel
theorem dX2_aboutAll_52 : decode cX2_aboutAll 52 = .ok (.aload_n 0, 1) := by decide +kernel
theorem dX2_aboutAll_53 : decode cX2_aboutAll 53 = .ok (.getfield 45, 3) := by decide +kernel
theorem dX2_aboutAll_56 : decode cX2_aboutAll 56 = .ok (.ireturn, 1) := by decide +kernel
theorem dX2_aboutAll_57 : decode cX2_aboutAll 57 = .ok (.aload_n 0, 1) := by decide +kernel
theorem dX2_aboutAll_58 : decode cX2_aboutAll 58 = .ok (.getfield 21, 3) := by decide +kernel
theorem dX2_aboutAll_61 : decode cX2_aboutAll 61 = .ok (.invokestatic 109, 3) := by decide +kernel
theorem dX2_aboutAll_64 : decode cX2_aboutAll 64 = .ok (.ireturn, 1) := by decide +kernel
theorem dX2_aboutAll_65 : decode cX2_aboutAll 65 = .ok (.aload_n 0, 1) := by decide +kernel
theorem dX2_aboutAll_66 : decode cX2_aboutAll 66 = .ok (.invokevirtual 131, 3) := by decide +kernel
theorem dX2_aboutAll_69 : decode cX2_aboutAll 69 = .ok (.ireturn, 1) := by decide +kernel
theorem dX2_aboutAll_70 : decode cX2_aboutAll 70 = .ok (.aload_n 0, 1) := by decide +kernel
theorem dX2_aboutAll_71 : decode cX2_aboutAll 71 = .ok (.invokevirtual 135, 3) := by decide +kernel
theorem dX2_aboutAll_74 : decode cX2_aboutAll 74 = .ok (.ireturn, 1) := by decide +kernel
theorem dX2_aboutAll_75 : decode cX2_aboutAll 75 = .ok (.aload_n 0, 1) := by decide +kernel
theorem dX2_aboutAll_76 : decode cX2_aboutAll 76 = .ok (.getfield 24, 3) := by decide +kernel
theorem dX2_aboutAll_79 : decode cX2_aboutAll 79 = .ok (.invokestatic 109, 3) := by decide +kernel
theorem dX2_aboutAll_82 : decode cX2_aboutAll 82 = .ok (.ireturn, 1) := by decide +kernel
theorem dX2_aboutAll_83 : decode cX2_aboutAll 83 = .ok (.aload_n 0, 1) := by decide +kernel
theorem dX2_aboutAll_84 : decode cX2_aboutAll 84 = .ok (.getfield 55, 3) := by decide +kernel
theorem dX2_aboutAll_87 : decode cX2_aboutAll 87 = .ok (.ireturn, 1) := by decide +kernel
theorem dX2_aboutAll_88 : decode cX2_aboutAll 88 = .ok (.aload_n 0, 1) := by decide +kernel
theorem dX2_aboutAll_89 : decode cX2_aboutAll 89 = .ok (.invokevirtual 138, 3) := by decide +kernel
theorem dX2_aboutAll_92 : decode cX2_aboutAll 92 = .ok (.ireturn, 1) := by decide +kernel
theorem dX2_aboutAll_93 : decode cX2_aboutAll 93 = .ok (.aload_n 0, 1) := by decide +kernel
theorem dX2_aboutAll_94 : decode cX2_aboutAll 94 = .ok (.invokevirtual 141, 3) := by decide +kernel
theorem dX2_aboutAll_97 : decode cX2_aboutAll 97 = .ok (.ireturn, 1) := by decide +kernel
theorem dX2_aboutAll_98 : decode cX2_aboutAll 98 = .ok (.aload_n 0, 1) := by decide +kernel
theorem dX2_aboutAll_99 : decode cX2_aboutAll 99 = .ok (.invokevirtual 144, 3) := by decide +kernel
theorem dX2_aboutAll_102 : decode cX2_aboutAll 102 = .ok (.ireturn, 1) := by decide +kernel
theorem dX2_aboutAll_103 : decode cX2_aboutAll 103 = .ok (.aload_n 0, 1) := by decide +kernel
theorem dX2_aboutAll_104 : decode cX2_aboutAll 104 = .ok (.invokevirtual 147, 3) := by decide +kernel
theorem dX2_aboutAll_107 : decode cX2_aboutAll 107 = .ok (.ireturn, 1) := by decide +kernel
theorem dX2_sum_0 : decode cX2_sum 0 = .ok (.iconst 0, 1) := by decide +kernel
theorem dX2_sum_1 : decode cX2_sum 1 = .ok (.istore_n 1, 1) := by decide +kernel
theorem dX2_sum_2 : decode cX2_sum 2 = .ok (.aload_n 0, 1) := by decide +kernel
theorem dX2_sum_3 : decode cX2_sum 3 = .ok (.astore_n 2, 1) := by decide +kernel
theorem dX2_sum_4 : decode cX2_sum 4 = .ok (.aload_n 2, 1) := by decide +kernel
theorem dX2_sum_5 : decode cX2_sum 5 = .ok (.arraylength, 1) := by decide +kernel
theorem dX2_sum_6 : decode cX2_sum 6 = .ok (.istore_n 3, 1) := by decide +kernel
theorem dX2_sum_7 : decode cX2_sum 7 = .ok (.iconst 0, 1) := by decide +kernel
theorem dX2_sum_8 : decode cX2_sum 8 = .ok (.istore 4, 2) := by decide +kernel
theorem dX2_sum_10 : decode cX2_sum 10 = .ok (.iload 4, 2) := by decide +kernel
theorem dX2_sum_12 : decode cX2_sum 12 = .ok (.iload_n 3, 1) := by decide +kernel
theorem dX2_sum_13 : decode cX2_sum 13 = .ok (.if_icmp .ge 20, 3) := by decide +kernel
theorem dX2_sum_16 : decode cX2_sum 16 = .ok (.aload_n 2, 1) := by decide +kernel
theorem dX2_sum_17 : decode cX2_sum 17 = .ok (.iload 4, 2) := by decide +kernel
theorem dX2_sum_19 : decode cX2_sum 19 = .ok (.iaload, 1) := by decide +kernel
theorem dX2_sum_20 : decode cX2_sum 20 = .ok (.istore 5, 2) := by decide +kernel
theorem dX2_sum_22 : decode cX2_sum 22 = .ok (.iload_n 1, 1) := by decide +kernel
theorem dX2_sum_23 : decode cX2_sum 23 = .ok (.iload 5, 2) := by decide +kernel
theorem dX2_sum_25 : decode cX2_sum 25 = .ok (.iadd, 1) := by decide +kernel
theorem dX2_sum_26 : decode cX2_sum 26 = .ok (.istore_n 1, 1) := by decide +kernel
theorem dX2_sum_27 : decode cX2_sum 27 = .ok (.iinc 4 1, 3) := by decide +kernel
theorem dX2_sum_30 : decode cX2_sum 30 = .ok (.goto (-20), 3) := by decide +kernel
theorem dX2_sum_33 : decode cX2_sum 33 = .ok (.iload_n 1, 1) := by decide +kernel
theorem dX2_sum_34 : decode cX2_sum 34 = .ok (.ireturn, 1) := by decide +kernel
theorem dX2_coinsOfKind_0 : decode cX2_coinsOfKind 0 = .ok (.aload_n 0, 1) := by decide +kernel
theorem dX2_coinsOfKind_1 : decode cX2_coinsOfKind 1 = .ok (.getfield 42, 3) := by decide +kernel
theorem dX2_coinsOfKind_4 : decode cX2_coinsOfKind 4 = .ok (.iload_n 1, 1) := by decide +kernel
theorem dX2_coinsOfKind_5 : decode cX2_coinsOfKind 5 = .ok (.bipush 6, 2) := by decide +kernel
theorem dX2_coinsOfKind_7 : decode cX2_coinsOfKind 7 = .ok (.imul, 1) := by decide +kernel
theorem dX2_coinsOfKind_8 : decode cX2_coinsOfKind 8 = .ok (.iload_n 2, 1) := by decide +kernel
theorem dX2_coinsOfKind_9 : decode cX2_coinsOfKind 9 = .ok (.iadd, 1) := by decide +kernel
theorem dX2_coinsOfKind_10 : decode cX2_coinsOfKind 10 = .ok (.iaload, 1) := by decide +kernel
theorem dX2_coinsOfKind_11 : decode cX2_coinsOfKind 11 = .ok (.ireturn, 1) := by decide +kernel
theorem dX2_coinsIn_0 : decode cX2_coinsIn 0 = .ok (.iconst 0, 1) := by decide +kernel
theorem dX2_coinsIn_1 : decode cX2_coinsIn 1 = .ok (.istore_n 2, 1) := by decide +kernel
theorem dX2_coinsIn_2 : decode cX2_coinsIn 2 = .ok (.iconst 0, 1) := by decide +kernel
theorem dX2_coinsIn_3 : decode cX2_coinsIn 3 = .ok (.istore_n 3, 1) := by decide +kernel
theorem dX2_coinsIn_4 : decode cX2_coinsIn 4 = .ok (.iload_n 3, 1) := by decide +kernel
theorem dX2_coinsIn_5 : decode cX2_coinsIn 5 = .ok (.bipush 6, 2) := by decide +kernel
theorem dX2_coinsIn_7 : decode cX2_coinsIn 7 = .ok (.if_icmp .ge 23, 3) := by decide +kernel
theorem dX2_coinsIn_10 : decode cX2_coinsIn 10 = .ok (.iload_n 2, 1) := by decide +kernel
theorem dX2_coinsIn_11 : decode cX2_coinsIn 11 = .ok (.aload_n 0, 1) := by decide +kernel
theorem dX2_coinsIn_12 : decode cX2_coinsIn 12 = .ok (.getfield 42, 3) := by decide +kernel
theorem dX2_coinsIn_15 : decode cX2_coinsIn 15 = .ok (.iload_n 1, 1) := by decide +kernel
theorem dX2_coinsIn_16 : decode cX2_coinsIn 16 = .ok (.bipush 6, 2) := by decide +kernel
theorem dX2_coinsIn_18 : decode cX2_coinsIn 18 = .ok (.imul, 1) := by decide +kernel
theorem dX2_coinsIn_19 : decode cX2_coinsIn 19 = .ok (.iload_n 3, 1) := by decide +kernel
theorem dX2_coinsIn_20 : decode cX2_coinsIn 20 = .ok (.iadd, 1) := by decide +kernel
theorem dX2_coinsIn_21 : decode cX2_coinsIn 21 = .ok (.iaload, 1) := by decide +kernel
theorem dX2_coinsIn_22 : decode cX2_coinsIn 22 = .ok (.iadd, 1) := by decide +kernel
theorem dX2_coinsIn_23 : decode cX2_coinsIn 23 = .ok (.istore_n 2, 1) := by decide +kernel
theorem dX2_coinsIn_24 : decode cX2_coinsIn 24 = .ok (.iinc 3 1, 3) := by decide +kernel
theorem dX2_coinsIn_27 : decode cX2_coinsIn 27 = .ok (.goto (-23), 3) := by decide +kernel
theorem dX2_coinsIn_30 : decode cX2_coinsIn 30 = .ok (.iload_n 2, 1) := by decide +kernel
theorem dX2_coinsIn_31 : decode cX2_coinsIn 31 = .ok (.ireturn, 1) := by decide +kernel
set_option maxRecDepth 20000 in
theorem ggX2_coinsInBags_X2_sum : GoodIn wsX2_coinsInBags wsX2_sum := goodIn_r _ [5] (by decide +kernel) (by decide +kernel)
set_option maxRecDepth 20000 in
theorem gX2_coinsInBags_X2_sum : GoodIn wsX2_coinsInBags (va_wsS RX2 109 yX2_sum wsX2_sum) := goodIn_app (goodIn_of _ (by decide +kernel)) ggX2_coinsInBags_X2_sum
theorem dX2_coinsInBags_0 : decode cX2_coinsInBags 0 = .ok (.aload_n 0, 1) := by decide +kernel
theorem dX2_coinsInBags_1 : decode cX2_coinsInBags 1 = .ok (.getfield 42, 3) := by decide +kernel
theorem dX2_coinsInBags_4 : decode cX2_coinsInBags 4 = .ok (.invokestatic 109, 3) := by decide +kernel
theorem dX2_coinsInBags_7 : decode cX2_coinsInBags 7 = .ok (.ireturn, 1) := by decide +kernel
set_option maxRecDepth 20000 in
theorem ggX2_coinsOfKindInBags_X2_coinsOfKind : GoodIn wsX2_coinsOfKindInBags wsX2_coinsOfKind := goodIn_r _ [5, 6, 7, 8, 9, 10, 11, 12, 13, 14, 15, 16, 17, 18, 19] (by decide +kernel) (by decide +kernel)
set_option maxRecDepth 20000 in
theorem gX2_coinsOfKindInBags_X2_coinsOfKind : GoodIn wsX2_coinsOfKindInBags (wsV RX2 150 RX2 yX2_coinsOfKind wsX2_coinsOfKind) := goodIn_app (goodIn_of _ (by decide +kernel)) ggX2_coinsOfKindInBags_X2_coinsOfKind
theorem dX2_coinsOfKindInBags_0 : decode cX2_coinsOfKindInBags 0 = .ok (.iconst 0, 1) := by decide +kernel
theorem dX2_coinsOfKindInBags_1 : decode cX2_coinsOfKindInBags 1 = .ok (.istore_n 2, 1) := by decide +kernel
theorem dX2_coinsOfKindInBags_2 : decode cX2_coinsOfKindInBags 2 = .ok (.iconst 0, 1) := by decide +kernel
theorem dX2_coinsOfKindInBags_3 : decode cX2_coinsOfKindInBags 3 = .ok (.istore_n 3, 1) := by decide +kernel
theorem dX2_coinsOfKindInBags_4 : decode cX2_coinsOfKindInBags 4 = .ok (.iload_n 3, 1) := by decide +kernel
theorem dX2_coinsOfKindInBags_5 : decode cX2_coinsOfKindInBags 5 = .ok (.bipush 6, 2) := by decide +kernel
theorem dX2_coinsOfKindInBags_7 : decode cX2_coinsOfKindInBags 7 = .ok (.if_icmp .ge 18, 3) := by decide +kernel
theorem dX2_coinsOfKindInBags_10 : decode cX2_coinsOfKindInBags 10 = .ok (.iload_n 2, 1) := by decide +kernel
theorem dX2_coinsOfKindInBags_11 : decode cX2_coinsOfKindInBags 11 = .ok (.aload_n 0, 1) := by decide +kernel
theorem dX2_coinsOfKindInBags_12 : decode cX2_coinsOfKindInBags 12 = .ok (.iload_n 3, 1) := by decide +kernel
theorem dX2_coinsOfKindInBags_13 : decode cX2_coinsOfKindInBags 13 = .ok (.iload_n 1, 1) := by decide +kernel
theorem dX2_coinsOfKindInBags_14 : decode cX2_coinsOfKindInBags 14 = .ok (.invokevirtual 150, 3) := by decide +kernel
theorem dX2_coinsOfKindInBags_17 : decode cX2_coinsOfKindInBags 17 = .ok (.iadd, 1) := by decide +kernel
theorem dX2_coinsOfKindInBags_18 : decode cX2_coinsOfKindInBags 18 = .ok (.istore_n 2, 1) := by decide +kernel
theorem dX2_coinsOfKindInBags_19 : decode cX2_coinsOfKindInBags 19 = .ok (.iinc 3 1, 3) := by decide +kernel
theorem dX2_coinsOfKindInBags_22 : decode cX2_coinsOfKindInBags 22 = .ok (.goto (-18), 3) := by decide +kernel
theorem dX2_coinsOfKindInBags_25 : decode cX2_coinsOfKindInBags 25 = .ok (.iload_n 2, 1) := by decide +kernel
theorem dX2_coinsOfKindInBags_26 : decode cX2_coinsOfKindInBags 26 = .ok (.ireturn, 1) := by decide +kernel
theorem dX2_stuckOfKind_0 : decode cX2_stuckOfKind 0 = .ok (.iconst 0, 1) := by decide +kernel
theorem dX2_stuckOfKind_1 : decode cX2_stuckOfKind 1 = .ok (.istore_n 2, 1) := by decide +kernel
theorem dX2_stuckOfKind_2 : decode cX2_stuckOfKind 2 = .ok (.iconst 0, 1) := by decide +kernel
theorem dX2_stuckOfKind_3 : decode cX2_stuckOfKind 3 = .ok (.istore_n 3, 1) := by decide +kernel
theorem dX2_stuckOfKind_4 : decode cX2_stuckOfKind 4 = .ok (.iload_n 3, 1) := by decide +kernel
theorem dX2_stuckOfKind_5 : decode cX2_stuckOfKind 5 = .ok (.bipush 6, 2) := by decide +kernel
theorem dX2_stuckOfKind_7 : decode cX2_stuckOfKind 7 = .ok (.if_icmp .ge 22, 3) := by decide +kernel
theorem dX2_stuckOfKind_10 : decode cX2_stuckOfKind 10 = .ok (.aload_n 0, 1) := by decide +kernel
theorem dX2_stuckOfKind_11 : decode cX2_stuckOfKind 11 = .ok (.getfield 33, 3) := by decide +kernel
theorem dX2_stuckOfKind_14 : decode cX2_stuckOfKind 14 = .ok (.iload_n 3, 1) := by decide +kernel
theorem dX2_stuckOfKind_15 : decode cX2_stuckOfKind 15 = .ok (.iaload, 1) := by decide +kernel
theorem dX2_stuckOfKind_16 : decode cX2_stuckOfKind 16 = .ok (.iload_n 1, 1) := by decide +kernel
theorem dX2_stuckOfKind_17 : decode cX2_stuckOfKind 17 = .ok (.if_icmp .ne 6, 3) := by decide +kernel
theorem dX2_stuckOfKind_20 : decode cX2_stuckOfKind 20 = .ok (.iinc 2 1, 3) := by decide +kernel
theorem dX2_stuckOfKind_23 : decode cX2_stuckOfKind 23 = .ok (.iinc 3 1, 3) := by decide +kernel
theorem dX2_stuckOfKind_26 : decode cX2_stuckOfKind 26 = .ok (.goto (-22), 3) := by decide +kernel
theorem dX2_stuckOfKind_29 : decode cX2_stuckOfKind 29 = .ok (.iload_n 2, 1) := by decide +kernel
theorem dX2_stuckOfKind_30 : decode cX2_stuckOfKind 30 = .ok (.ireturn, 1) := by decide +kernel
set_option maxRecDepth 20000 in
theorem ggX2_stuckRails_X2_isStuck : GoodIn wsX2_stuckRails wsX2_isStuck := goodIn_r _ [5, 6, 7, 8, 9, 10, 11, 12, 13, 14, 15, 16, 17, 18, 19] (by decide +kernel) (by decide +kernel)
set_option maxRecDepth 20000 in
theorem gX2_stuckRails_X2_isStuck : GoodIn wsX2_stuckRails (wsV RX2 69 RX2 yX2_isStuck wsX2_isStuck) := goodIn_app (goodIn_of _ (by decide +kernel)) ggX2_stuckRails_X2_isStuck
theorem dX2_stuckRails_0 : decode cX2_stuckRails 0 = .ok (.iconst 0, 1) := by decide +kernel
theorem dX2_stuckRails_1 : decode cX2_stuckRails 1 = .ok (.istore_n 1, 1) := by decide +kernel
theorem dX2_stuckRails_2 : decode cX2_stuckRails 2 = .ok (.iconst 0, 1) := by decide +kernel
theorem dX2_stuckRails_3 : decode cX2_stuckRails 3 = .ok (.istore_n 2, 1) := by decide +kernel
theorem dX2_stuckRails_4 : decode cX2_stuckRails 4 = .ok (.iload_n 2, 1) := by decide +kernel
theorem dX2_stuckRails_5 : decode cX2_stuckRails 5 = .ok (.bipush 6, 2) := by decide +kernel
theorem dX2_stuckRails_7 : decode cX2_stuckRails 7 = .ok (.if_icmp .ge 20, 3) := by decide +kernel
theorem dX2_stuckRails_10 : decode cX2_stuckRails 10 = .ok (.aload_n 0, 1) := by decide +kernel
theorem dX2_stuckRails_11 : decode cX2_stuckRails 11 = .ok (.iload_n 2, 1) := by decide +kernel
theorem dX2_stuckRails_12 : decode cX2_stuckRails 12 = .ok (.invokevirtual 69, 3) := by decide +kernel
theorem dX2_stuckRails_15 : decode cX2_stuckRails 15 = .ok (.ifCond .eq 6, 3) := by decide +kernel
theorem dX2_stuckRails_18 : decode cX2_stuckRails 18 = .ok (.iinc 1 1, 3) := by decide +kernel
theorem dX2_stuckRails_21 : decode cX2_stuckRails 21 = .ok (.iinc 2 1, 3) := by decide +kernel
theorem dX2_stuckRails_24 : decode cX2_stuckRails 24 = .ok (.goto (-20), 3) := by decide +kernel
theorem dX2_stuckRails_27 : decode cX2_stuckRails 27 = .ok (.iload_n 1, 1) := by decide +kernel
theorem dX2_stuckRails_28 : decode cX2_stuckRails 28 = .ok (.ireturn, 1) := by decide +kernel
set_option maxRecDepth 20000 in
theorem ggX2_fullBags_X2_isFull : GoodIn wsX2_fullBags wsX2_isFull := goodIn_r _ [5, 6, 7, 8, 4, 9, 10, 11, 12, 13, 14, 15, 16, 17, 18, 19, 20, 21, 22, 23] (by decide +kernel) (by decide +kernel)
set_option maxRecDepth 20000 in
theorem gX2_fullBags_X2_isFull : GoodIn wsX2_fullBags (wsV RX2 73 RX2 yX2_isFull wsX2_isFull) := goodIn_app (goodIn_of _ (by decide +kernel)) ggX2_fullBags_X2_isFull
theorem dX2_fullBags_0 : decode cX2_fullBags 0 = .ok (.iconst 0, 1) := by decide +kernel
theorem dX2_fullBags_1 : decode cX2_fullBags 1 = .ok (.istore_n 1, 1) := by decide +kernel
theorem dX2_fullBags_2 : decode cX2_fullBags 2 = .ok (.iconst 0, 1) := by decide +kernel
theorem dX2_fullBags_3 : decode cX2_fullBags 3 = .ok (.istore_n 2, 1) := by decide +kernel
theorem dX2_fullBags_4 : decode cX2_fullBags 4 = .ok (.iload_n 2, 1) := by decide +kernel
theorem dX2_fullBags_5 : decode cX2_fullBags 5 = .ok (.bipush 6, 2) := by decide +kernel
theorem dX2_fullBags_7 : decode cX2_fullBags 7 = .ok (.if_icmp .ge 20, 3) := by decide +kernel
theorem dX2_fullBags_10 : decode cX2_fullBags 10 = .ok (.aload_n 0, 1) := by decide +kernel
theorem dX2_fullBags_11 : decode cX2_fullBags 11 = .ok (.iload_n 2, 1) := by decide +kernel
theorem dX2_fullBags_12 : decode cX2_fullBags 12 = .ok (.invokevirtual 73, 3) := by decide +kernel
theorem dX2_fullBags_15 : decode cX2_fullBags 15 = .ok (.ifCond .eq 6, 3) := by decide +kernel
theorem dX2_fullBags_18 : decode cX2_fullBags 18 = .ok (.iinc 1 1, 3) := by decide +kernel
theorem dX2_fullBags_21 : decode cX2_fullBags 21 = .ok (.iinc 2 1, 3) := by decide +kernel
theorem dX2_fullBags_24 : decode cX2_fullBags 24 = .ok (.goto (-20), 3) := by decide +kernel
theorem dX2_fullBags_27 : decode cX2_fullBags 27 = .ok (.iload_n 1, 1) := by decide +kernel
theorem dX2_fullBags_28 : decode cX2_fullBags 28 = .ok (.ireturn, 1) := by decide +kernel
theorem dX2_kindOfRail_0 : decode cX2_kindOfRail 0 = .ok (.iconst 0, 1) := by decide +kernel
theorem dX2_kindOfRail_1 : decode cX2_kindOfRail 1 = .ok (.istore_n 2, 1) := by decide +kernel
theorem dX2_kindOfRail_2 : decode cX2_kindOfRail 2 = .ok (.iload_n 2, 1) := by decide +kernel
theorem dX2_kindOfRail_3 : decode cX2_kindOfRail 3 = .ok (.aload_n 0, 1) := by decide +kernel
theorem dX2_kindOfRail_4 : decode cX2_kindOfRail 4 = .ok (.getfield 45, 3) := by decide +kernel
theorem dX2_kindOfRail_7 : decode cX2_kindOfRail 7 = .ok (.if_icmp .ge 21, 3) := by decide +kernel
theorem dX2_kindOfRail_10 : decode cX2_kindOfRail 10 = .ok (.aload_n 0, 1) := by decide +kernel
theorem dX2_kindOfRail_11 : decode cX2_kindOfRail 11 = .ok (.getfield 18, 3) := by decide +kernel
theorem dX2_kindOfRail_14 : decode cX2_kindOfRail 14 = .ok (.iload_n 2, 1) := by decide +kernel
theorem dX2_kindOfRail_15 : decode cX2_kindOfRail 15 = .ok (.iaload, 1) := by decide +kernel
theorem dX2_kindOfRail_16 : decode cX2_kindOfRail 16 = .ok (.iload_n 1, 1) := by decide +kernel
theorem dX2_kindOfRail_17 : decode cX2_kindOfRail 17 = .ok (.if_icmp .ne 5, 3) := by decide +kernel
theorem dX2_kindOfRail_20 : decode cX2_kindOfRail 20 = .ok (.iload_n 2, 1) := by decide +kernel
theorem dX2_kindOfRail_21 : decode cX2_kindOfRail 21 = .ok (.ireturn, 1) := by decide +kernel
theorem dX2_kindOfRail_22 : decode cX2_kindOfRail 22 = .ok (.iinc 2 1, 3) := by decide +kernel
theorem dX2_kindOfRail_25 : decode cX2_kindOfRail 25 = .ok (.goto (-23), 3) := by decide +kernel
theorem dX2_kindOfRail_28 : decode cX2_kindOfRail 28 = .ok (.iconst (-1), 1) := by decide +kernel
theorem dX2_kindOfRail_29 : decode cX2_kindOfRail 29 = .ok (.ireturn, 1) := by decide +kernel
set_option maxRecDepth 20000 in
theorem ggX2_supposedWorth_X2_kindOfRail : GoodIn wsX2_supposedWorth wsX2_kindOfRail := goodIn_r _ [6, 7, 8, 14, 15, 16, 17, 18, 19, 20, 21, 22, 23, 24, 25, 26] (by decide +kernel) (by decide +kernel)
set_option maxRecDepth 20000 in
theorem gX2_supposedWorth_X2_kindOfRail : GoodIn wsX2_supposedWorth (wsV RX2 128 RX2 yX2_kindOfRail wsX2_kindOfRail) := goodIn_app (goodIn_of _ (by decide +kernel)) ggX2_supposedWorth_X2_kindOfRail
set_option maxRecDepth 20000 in
theorem ggX2_supposedWorth_X2_coinsIn : GoodIn wsX2_supposedWorth wsX2_coinsIn := goodIn_r _ [12, 13, 14, 15, 16, 17, 18, 19, 20, 21, 22, 23, 24, 25, 26] (by decide +kernel) (by decide +kernel)
set_option maxRecDepth 20000 in
theorem gX2_supposedWorth_X2_coinsIn : GoodIn wsX2_supposedWorth (wsV RX2 58 RX2 yX2_coinsIn wsX2_coinsIn) := goodIn_app (goodIn_of _ (by decide +kernel)) ggX2_supposedWorth_X2_coinsIn
theorem dX2_supposedWorth_0 : decode cX2_supposedWorth 0 = .ok (.aload_n 0, 1) := by decide +kernel
theorem dX2_supposedWorth_1 : decode cX2_supposedWorth 1 = .ok (.iload_n 1, 1) := by decide +kernel
theorem dX2_supposedWorth_2 : decode cX2_supposedWorth 2 = .ok (.invokevirtual 128, 3) := by decide +kernel
theorem dX2_supposedWorth_5 : decode cX2_supposedWorth 5 = .ok (.istore_n 2, 1) := by decide +kernel
theorem dX2_supposedWorth_6 : decode cX2_supposedWorth 6 = .ok (.iload_n 2, 1) := by decide +kernel
theorem dX2_supposedWorth_7 : decode cX2_supposedWorth 7 = .ok (.iconst (-1), 1) := by decide +kernel
theorem dX2_supposedWorth_8 : decode cX2_supposedWorth 8 = .ok (.if_icmp .ne 7, 3) := by decide +kernel
theorem dX2_supposedWorth_11 : decode cX2_supposedWorth 11 = .ok (.iconst 0, 1) := by decide +kernel
theorem dX2_supposedWorth_12 : decode cX2_supposedWorth 12 = .ok (.goto 15, 3) := by decide +kernel
theorem dX2_supposedWorth_15 : decode cX2_supposedWorth 15 = .ok (.aload_n 0, 1) := by decide +kernel
theorem dX2_supposedWorth_16 : decode cX2_supposedWorth 16 = .ok (.iload_n 1, 1) := by decide +kernel
theorem dX2_supposedWorth_17 : decode cX2_supposedWorth 17 = .ok (.invokevirtual 58, 3) := by decide +kernel
theorem dX2_supposedWorth_20 : decode cX2_supposedWorth 20 = .ok (.aload_n 0, 1) := by decide +kernel
theorem dX2_supposedWorth_21 : decode cX2_supposedWorth 21 = .ok (.getfield 15, 3) := by decide +kernel
theorem dX2_supposedWorth_24 : decode cX2_supposedWorth 24 = .ok (.iload_n 2, 1) := by decide +kernel
theorem dX2_supposedWorth_25 : decode cX2_supposedWorth 25 = .ok (.iaload, 1) := by decide +kernel
theorem dX2_supposedWorth_26 : decode cX2_supposedWorth 26 = .ok (.imul, 1) := by decide +kernel
theorem dX2_supposedWorth_27 : decode cX2_supposedWorth 27 = .ok (.ireturn, 1) := by decide +kernel
set_option maxRecDepth 20000 in
theorem ggX2_supposedWorthOfAll_X2_supposedWorth : GoodIn wsX2_supposedWorthOfAll wsX2_supposedWorth := goodIn_r _ [5, 6, 7, 8, 9, 4, 10, 11, 12, 13, 14, 15, 16, 17, 18, 19, 20, 21, 22, 23, 24, 25, 26, 27, 28, 29, 30] (by decide +kernel) (by decide +kernel)
set_option maxRecDepth 20000 in
theorem gX2_supposedWorthOfAll_X2_supposedWorth : GoodIn wsX2_supposedWorthOfAll (wsV RX2 119 RX2 yX2_supposedWorth wsX2_supposedWorth) := goodIn_app (goodIn_of _ (by decide +kernel)) ggX2_supposedWorthOfAll_X2_supposedWorth
theorem dX2_supposedWorthOfAll_0 : decode cX2_supposedWorthOfAll 0 = .ok (.iconst 0, 1) := by decide +kernel
theorem dX2_supposedWorthOfAll_1 : decode cX2_supposedWorthOfAll 1 = .ok (.istore_n 1, 1) := by decide +kernel
theorem dX2_supposedWorthOfAll_2 : decode cX2_supposedWorthOfAll 2 = .ok (.iconst 0, 1) := by decide +kernel
theorem dX2_supposedWorthOfAll_3 : decode cX2_supposedWorthOfAll 3 = .ok (.istore_n 2, 1) := by decide +kernel
theorem dX2_supposedWorthOfAll_4 : decode cX2_supposedWorthOfAll 4 = .ok (.iload_n 2, 1) := by decide +kernel
theorem dX2_supposedWorthOfAll_5 : decode cX2_supposedWorthOfAll 5 = .ok (.bipush 6, 2) := by decide +kernel
theorem dX2_supposedWorthOfAll_7 : decode cX2_supposedWorthOfAll 7 = .ok (.if_icmp .ge 17, 3) := by decide +kernel
theorem dX2_supposedWorthOfAll_10 : decode cX2_supposedWorthOfAll 10 = .ok (.iload_n 1, 1) := by decide +kernel
theorem dX2_supposedWorthOfAll_11 : decode cX2_supposedWorthOfAll 11 = .ok (.aload_n 0, 1) := by decide +kernel
theorem dX2_supposedWorthOfAll_12 : decode cX2_supposedWorthOfAll 12 = .ok (.iload_n 2, 1) := by decide +kernel
theorem dX2_supposedWorthOfAll_13 : decode cX2_supposedWorthOfAll 13 = .ok (.invokevirtual 119, 3) := by decide +kernel
theorem dX2_supposedWorthOfAll_16 : decode cX2_supposedWorthOfAll 16 = .ok (.iadd, 1) := by decide +kernel
theorem dX2_supposedWorthOfAll_17 : decode cX2_supposedWorthOfAll 17 = .ok (.istore_n 1, 1) := by decide +kernel
theorem dX2_supposedWorthOfAll_18 : decode cX2_supposedWorthOfAll 18 = .ok (.iinc 2 1, 3) := by decide +kernel
theorem dX2_supposedWorthOfAll_21 : decode cX2_supposedWorthOfAll 21 = .ok (.goto (-17), 3) := by decide +kernel
theorem dX2_supposedWorthOfAll_24 : decode cX2_supposedWorthOfAll 24 = .ok (.iload_n 1, 1) := by decide +kernel
theorem dX2_supposedWorthOfAll_25 : decode cX2_supposedWorthOfAll 25 = .ok (.ireturn, 1) := by decide +kernel
set_option maxRecDepth 20000 in
theorem ggX2_trueWorth_X2_coinsOfKind : GoodIn wsX2_trueWorth wsX2_coinsOfKind := goodIn_r _ [7, 8, 9, 10, 11, 12, 13, 14, 15, 16, 17, 18, 19, 20, 21] (by decide +kernel) (by decide +kernel)
set_option maxRecDepth 20000 in
theorem gX2_trueWorth_X2_coinsOfKind : GoodIn wsX2_trueWorth (wsV RX2 150 RX2 yX2_coinsOfKind wsX2_coinsOfKind) := goodIn_app (goodIn_of _ (by decide +kernel)) ggX2_trueWorth_X2_coinsOfKind
theorem dX2_trueWorth_0 : decode cX2_trueWorth 0 = .ok (.iconst 0, 1) := by decide +kernel
theorem dX2_trueWorth_1 : decode cX2_trueWorth 1 = .ok (.istore_n 2, 1) := by decide +kernel
theorem dX2_trueWorth_2 : decode cX2_trueWorth 2 = .ok (.iconst 0, 1) := by decide +kernel
theorem dX2_trueWorth_3 : decode cX2_trueWorth 3 = .ok (.istore_n 3, 1) := by decide +kernel
theorem dX2_trueWorth_4 : decode cX2_trueWorth 4 = .ok (.iload_n 3, 1) := by decide +kernel
theorem dX2_trueWorth_5 : decode cX2_trueWorth 5 = .ok (.aload_n 0, 1) := by decide +kernel
theorem dX2_trueWorth_6 : decode cX2_trueWorth 6 = .ok (.getfield 45, 3) := by decide +kernel
theorem dX2_trueWorth_9 : decode cX2_trueWorth 9 = .ok (.if_icmp .ge 25, 3) := by decide +kernel
theorem dX2_trueWorth_12 : decode cX2_trueWorth 12 = .ok (.iload_n 2, 1) := by decide +kernel
theorem dX2_trueWorth_13 : decode cX2_trueWorth 13 = .ok (.aload_n 0, 1) := by decide +kernel
theorem dX2_trueWorth_14 : decode cX2_trueWorth 14 = .ok (.iload_n 1, 1) := by decide +kernel
theorem dX2_trueWorth_15 : decode cX2_trueWorth 15 = .ok (.iload_n 3, 1) := by decide +kernel
theorem dX2_trueWorth_16 : decode cX2_trueWorth 16 = .ok (.invokevirtual 150, 3) := by decide +kernel
theorem dX2_trueWorth_19 : decode cX2_trueWorth 19 = .ok (.aload_n 0, 1) := by decide +kernel
theorem dX2_trueWorth_20 : decode cX2_trueWorth 20 = .ok (.getfield 15, 3) := by decide +kernel
theorem dX2_trueWorth_23 : decode cX2_trueWorth 23 = .ok (.iload_n 3, 1) := by decide +kernel
theorem dX2_trueWorth_24 : decode cX2_trueWorth 24 = .ok (.iaload, 1) := by decide +kernel
theorem dX2_trueWorth_25 : decode cX2_trueWorth 25 = .ok (.imul, 1) := by decide +kernel
theorem dX2_trueWorth_26 : decode cX2_trueWorth 26 = .ok (.iadd, 1) := by decide +kernel
theorem dX2_trueWorth_27 : decode cX2_trueWorth 27 = .ok (.istore_n 2, 1) := by decide +kernel
theorem dX2_trueWorth_28 : decode cX2_trueWorth 28 = .ok (.iinc 3 1, 3) := by decide +kernel
theorem dX2_trueWorth_31 : decode cX2_trueWorth 31 = .ok (.goto (-27), 3) := by decide +kernel
theorem dX2_trueWorth_34 : decode cX2_trueWorth 34 = .ok (.iload_n 2, 1) := by decide +kernel
theorem dX2_trueWorth_35 : decode cX2_trueWorth 35 = .ok (.ireturn, 1) := by decide +kernel
set_option maxRecDepth 20000 in
theorem ggX2_trueWorthOfAll_X2_trueWorth : GoodIn wsX2_trueWorthOfAll wsX2_trueWorth := goodIn_r _ [5, 6, 7, 8, 9, 10, 4, 11, 12, 13, 14, 15, 16, 17, 18, 19, 20, 21, 22, 23, 24, 25] (by decide +kernel) (by decide +kernel)
set_option maxRecDepth 20000 in
theorem gX2_trueWorthOfAll_X2_trueWorth : GoodIn wsX2_trueWorthOfAll (wsV RX2 122 RX2 yX2_trueWorth wsX2_trueWorth) := goodIn_app (goodIn_of _ (by decide +kernel)) ggX2_trueWorthOfAll_X2_trueWorth
theorem dX2_trueWorthOfAll_0 : decode cX2_trueWorthOfAll 0 = .ok (.iconst 0, 1) := by decide +kernel
theorem dX2_trueWorthOfAll_1 : decode cX2_trueWorthOfAll 1 = .ok (.istore_n 1, 1) := by decide +kernel
theorem dX2_trueWorthOfAll_2 : decode cX2_trueWorthOfAll 2 = .ok (.iconst 0, 1) := by decide +kernel
theorem dX2_trueWorthOfAll_3 : decode cX2_trueWorthOfAll 3 = .ok (.istore_n 2, 1) := by decide +kernel
theorem dX2_trueWorthOfAll_4 : decode cX2_trueWorthOfAll 4 = .ok (.iload_n 2, 1) := by decide +kernel
theorem dX2_trueWorthOfAll_5 : decode cX2_trueWorthOfAll 5 = .ok (.bipush 6, 2) := by decide +kernel
theorem dX2_trueWorthOfAll_7 : decode cX2_trueWorthOfAll 7 = .ok (.if_icmp .ge 17, 3) := by decide +kernel
theorem dX2_trueWorthOfAll_10 : decode cX2_trueWorthOfAll 10 = .ok (.iload_n 1, 1) := by decide +kernel
theorem dX2_trueWorthOfAll_11 : decode cX2_trueWorthOfAll 11 = .ok (.aload_n 0, 1) := by decide +kernel
theorem dX2_trueWorthOfAll_12 : decode cX2_trueWorthOfAll 12 = .ok (.iload_n 2, 1) := by decide +kernel
theorem dX2_trueWorthOfAll_13 : decode cX2_trueWorthOfAll 13 = .ok (.invokevirtual 122, 3) := by decide +kernel
theorem dX2_trueWorthOfAll_16 : decode cX2_trueWorthOfAll 16 = .ok (.iadd, 1) := by decide +kernel
theorem dX2_trueWorthOfAll_17 : decode cX2_trueWorthOfAll 17 = .ok (.istore_n 1, 1) := by decide +kernel
theorem dX2_trueWorthOfAll_18 : decode cX2_trueWorthOfAll 18 = .ok (.iinc 2 1, 3) := by decide +kernel
theorem dX2_trueWorthOfAll_21 : decode cX2_trueWorthOfAll 21 = .ok (.goto (-17), 3) := by decide +kernel
theorem dX2_trueWorthOfAll_24 : decode cX2_trueWorthOfAll 24 = .ok (.iload_n 1, 1) := by decide +kernel
theorem dX2_trueWorthOfAll_25 : decode cX2_trueWorthOfAll 25 = .ok (.ireturn, 1) := by decide +kernel
set_option maxRecDepth 20000 in
theorem ggX2_misfitsIn_X2_coinsOfKind : GoodIn wsX2_misfitsIn wsX2_coinsOfKind := goodIn_r _ [7, 8, 9, 10, 11, 12, 13, 14, 15, 16, 17, 18, 19, 20, 21] (by decide +kernel) (by decide +kernel)
set_option maxRecDepth 20000 in
theorem gX2_misfitsIn_X2_coinsOfKind : GoodIn wsX2_misfitsIn (wsV RX2 150 RX2 yX2_coinsOfKind wsX2_coinsOfKind) := goodIn_app (goodIn_of _ (by decide +kernel)) ggX2_misfitsIn_X2_coinsOfKind
theorem dX2_misfitsIn_0 : decode cX2_misfitsIn 0 = .ok (.iconst 0, 1) := by decide +kernel
theorem dX2_misfitsIn_1 : decode cX2_misfitsIn 1 = .ok (.istore_n 2, 1) := by decide +kernel
theorem dX2_misfitsIn_2 : decode cX2_misfitsIn 2 = .ok (.iconst 0, 1) := by decide +kernel
theorem dX2_misfitsIn_3 : decode cX2_misfitsIn 3 = .ok (.istore_n 3, 1) := by decide +kernel
theorem dX2_misfitsIn_4 : decode cX2_misfitsIn 4 = .ok (.iload_n 3, 1) := by decide +kernel
theorem dX2_misfitsIn_5 : decode cX2_misfitsIn 5 = .ok (.aload_n 0, 1) := by decide +kernel
theorem dX2_misfitsIn_6 : decode cX2_misfitsIn 6 = .ok (.getfield 45, 3) := by decide +kernel
theorem dX2_misfitsIn_9 : decode cX2_misfitsIn 9 = .ok (.if_icmp .ge 28, 3) := by decide +kernel
theorem dX2_misfitsIn_12 : decode cX2_misfitsIn 12 = .ok (.aload_n 0, 1) := by decide +kernel
theorem dX2_misfitsIn_13 : decode cX2_misfitsIn 13 = .ok (.getfield 18, 3) := by decide +kernel
theorem dX2_misfitsIn_16 : decode cX2_misfitsIn 16 = .ok (.iload_n 3, 1) := by decide +kernel
theorem dX2_misfitsIn_17 : decode cX2_misfitsIn 17 = .ok (.iaload, 1) := by decide +kernel
theorem dX2_misfitsIn_18 : decode cX2_misfitsIn 18 = .ok (.iload_n 1, 1) := by decide +kernel
theorem dX2_misfitsIn_19 : decode cX2_misfitsIn 19 = .ok (.if_icmp .eq 12, 3) := by decide +kernel
theorem dX2_misfitsIn_22 : decode cX2_misfitsIn 22 = .ok (.iload_n 2, 1) := by decide +kernel
theorem dX2_misfitsIn_23 : decode cX2_misfitsIn 23 = .ok (.aload_n 0, 1) := by decide +kernel
theorem dX2_misfitsIn_24 : decode cX2_misfitsIn 24 = .ok (.iload_n 1, 1) := by decide +kernel
theorem dX2_misfitsIn_25 : decode cX2_misfitsIn 25 = .ok (.iload_n 3, 1) := by decide +kernel
theorem dX2_misfitsIn_26 : decode cX2_misfitsIn 26 = .ok (.invokevirtual 150, 3) := by decide +kernel
theorem dX2_misfitsIn_29 : decode cX2_misfitsIn 29 = .ok (.iadd, 1) := by decide +kernel
theorem dX2_misfitsIn_30 : decode cX2_misfitsIn 30 = .ok (.istore_n 2, 1) := by decide +kernel
theorem dX2_misfitsIn_31 : decode cX2_misfitsIn 31 = .ok (.iinc 3 1, 3) := by decide +kernel
theorem dX2_misfitsIn_34 : decode cX2_misfitsIn 34 = .ok (.goto (-30), 3) := by decide +kernel
theorem dX2_misfitsIn_37 : decode cX2_misfitsIn 37 = .ok (.iload_n 2, 1) := by decide +kernel
theorem dX2_misfitsIn_38 : decode cX2_misfitsIn 38 = .ok (.ireturn, 1) := by decide +kernel
set_option maxRecDepth 20000 in
theorem ggX2_misfits_X2_misfitsIn : GoodIn wsX2_misfits wsX2_misfitsIn := goodIn_r _ [5, 6, 7, 8, 9, 10, 4, 11, 12, 13, 14, 15, 16, 17, 18, 19, 20, 21, 22, 23, 24, 25] (by decide +kernel) (by decide +kernel)
set_option maxRecDepth 20000 in
theorem gX2_misfits_X2_misfitsIn : GoodIn wsX2_misfits (wsV RX2 125 RX2 yX2_misfitsIn wsX2_misfitsIn) := goodIn_app (goodIn_of _ (by decide +kernel)) ggX2_misfits_X2_misfitsIn
theorem dX2_misfits_0 : decode cX2_misfits 0 = .ok (.iconst 0, 1) := by decide +kernel
theorem dX2_misfits_1 : decode cX2_misfits 1 = .ok (.istore_n 1, 1) := by decide +kernel
theorem dX2_misfits_2 : decode cX2_misfits 2 = .ok (.iconst 0, 1) := by decide +kernel
theorem dX2_misfits_3 : decode cX2_misfits 3 = .ok (.istore_n 2, 1) := by decide +kernel
theorem dX2_misfits_4 : decode cX2_misfits 4 = .ok (.iload_n 2, 1) := by decide +kernel
theorem dX2_misfits_5 : decode cX2_misfits 5 = .ok (.bipush 6, 2) := by decide +kernel
theorem dX2_misfits_7 : decode cX2_misfits 7 = .ok (.if_icmp .ge 17, 3) := by decide +kernel
theorem dX2_misfits_10 : decode cX2_misfits 10 = .ok (.iload_n 1, 1) := by decide +kernel
theorem dX2_misfits_11 : decode cX2_misfits 11 = .ok (.aload_n 0, 1) := by decide +kernel
theorem dX2_misfits_12 : decode cX2_misfits 12 = .ok (.iload_n 2, 1) := by decide +kernel
theorem dX2_misfits_13 : decode cX2_misfits 13 = .ok (.invokevirtual 125, 3) := by decide +kernel
theorem dX2_misfits_16 : decode cX2_misfits 16 = .ok (.iadd, 1) := by decide +kernel
theorem dX2_misfits_17 : decode cX2_misfits 17 = .ok (.istore_n 1, 1) := by decide +kernel
theorem dX2_misfits_18 : decode cX2_misfits 18 = .ok (.iinc 2 1, 3) := by decide +kernel
theorem dX2_misfits_21 : decode cX2_misfits 21 = .ok (.goto (-17), 3) := by decide +kernel
theorem dX2_misfits_24 : decode cX2_misfits 24 = .ok (.iload_n 1, 1) := by decide +kernel
theorem dX2_misfits_25 : decode cX2_misfits 25 = .ok (.ireturn, 1) := by decide +kernel
set_option maxRecDepth 20000 in
theorem ggX2_fallsHome_X2_placeFor : GoodIn wsX2_fallsHome wsX2_placeFor := goodIn_r _ [6, 7, 8, 9, 10, 5, 11, 12, 13, 14, 15, 16, 17, 18, 19, 20, 21, 22, 23, 24, 25, 26, 27, 28, 29, 30, 31, 32, 33, 34, 35, 36, 37, 38, 39, 40, 41, 42, 43, 44, 45, 46, 47, 48, 49, 50] (by decide +kernel) (by decide +kernel)
set_option maxRecDepth 20000 in
theorem gX2_fallsHome_X2_placeFor : GoodIn wsX2_fallsHome (wsV RX2 84 RX2 yX2_placeFor wsX2_placeFor) := goodIn_app (goodIn_of _ (by decide +kernel)) ggX2_fallsHome_X2_placeFor
theorem dX2_fallsHome_0 : decode cX2_fallsHome 0 = .ok (.aload_n 0, 1) := by decide +kernel
theorem dX2_fallsHome_1 : decode cX2_fallsHome 1 = .ok (.iload_n 1, 1) := by decide +kernel
theorem dX2_fallsHome_2 : decode cX2_fallsHome 2 = .ok (.iload_n 2, 1) := by decide +kernel
theorem dX2_fallsHome_3 : decode cX2_fallsHome 3 = .ok (.invokevirtual 84, 3) := by decide +kernel
theorem dX2_fallsHome_6 : decode cX2_fallsHome 6 = .ok (.aload_n 0, 1) := by decide +kernel
theorem dX2_fallsHome_7 : decode cX2_fallsHome 7 = .ok (.getfield 18, 3) := by decide +kernel
theorem dX2_fallsHome_10 : decode cX2_fallsHome 10 = .ok (.iload_n 1, 1) := by decide +kernel
theorem dX2_fallsHome_11 : decode cX2_fallsHome 11 = .ok (.iaload, 1) := by decide +kernel
theorem dX2_fallsHome_12 : decode cX2_fallsHome 12 = .ok (.if_icmp .ne 7, 3) := by decide +kernel
theorem dX2_fallsHome_15 : decode cX2_fallsHome 15 = .ok (.iconst 1, 1) := by decide +kernel
theorem dX2_fallsHome_16 : decode cX2_fallsHome 16 = .ok (.goto 4, 3) := by decide +kernel
theorem dX2_fallsHome_19 : decode cX2_fallsHome 19 = .ok (.iconst 0, 1) := by decide +kernel
theorem dX2_fallsHome_20 : decode cX2_fallsHome 20 = .ok (.ireturn, 1) := by decide +kernel
set_option maxRecDepth 20000 in
theorem ggX2_mostFittingWear_X2_fallsHome : GoodIn wsX2_mostFittingWear wsX2_fallsHome := goodIn_r _ [5, 6, 7, 8, 9, 4, 10, 11, 12, 13, 14, 15, 16, 17, 18, 19, 20, 21, 22, 23, 24, 25, 26, 27, 28, 29, 30, 31, 32, 33, 34, 35, 36, 37, 38, 39, 40, 41, 42, 43, 44, 45, 46, 47, 48, 49, 50, 51, 52, 53, 54] (by decide +kernel) (by decide +kernel)
set_option maxRecDepth 20000 in
theorem gX2_mostFittingWear_X2_fallsHome : GoodIn wsX2_mostFittingWear (wsV RX2 156 RX2 yX2_fallsHome wsX2_fallsHome) := goodIn_app (goodIn_of _ (by decide +kernel)) ggX2_mostFittingWear_X2_fallsHome
theorem dX2_mostFittingWear_0 : decode cX2_mostFittingWear 0 = .ok (.aload_n 0, 1) := by decide +kernel
theorem dX2_mostFittingWear_1 : decode cX2_mostFittingWear 1 = .ok (.iload_n 1, 1) := by decide +kernel
theorem dX2_mostFittingWear_2 : decode cX2_mostFittingWear 2 = .ok (.iconst 0, 1) := by decide +kernel
theorem dX2_mostFittingWear_3 : decode cX2_mostFittingWear 3 = .ok (.invokevirtual 156, 3) := by decide +kernel
theorem dX2_mostFittingWear_6 : decode cX2_mostFittingWear 6 = .ok (.ifCond .ne 5, 3) := by decide +kernel
theorem dX2_mostFittingWear_9 : decode cX2_mostFittingWear 9 = .ok (.iconst (-1), 1) := by decide +kernel
theorem dX2_mostFittingWear_10 : decode cX2_mostFittingWear 10 = .ok (.ireturn, 1) := by decide +kernel
theorem dX2_mostFittingWear_11 : decode cX2_mostFittingWear 11 = .ok (.iconst 0, 1) := by decide +kernel
theorem dX2_mostFittingWear_12 : decode cX2_mostFittingWear 12 = .ok (.istore_n 2, 1) := by decide +kernel
theorem dX2_mostFittingWear_13 : decode cX2_mostFittingWear 13 = .ok (.sipush 512, 3) := by decide +kernel
theorem dX2_mostFittingWear_16 : decode cX2_mostFittingWear 16 = .ok (.istore_n 3, 1) := by decide +kernel
theorem dX2_mostFittingWear_17 : decode cX2_mostFittingWear 17 = .ok (.iload_n 3, 1) := by decide +kernel
theorem dX2_mostFittingWear_18 : decode cX2_mostFittingWear 18 = .ok (.ifCond .le 34, 3) := by decide +kernel
theorem dX2_mostFittingWear_21 : decode cX2_mostFittingWear 21 = .ok (.iload_n 2, 1) := by decide +kernel
theorem dX2_mostFittingWear_22 : decode cX2_mostFittingWear 22 = .ok (.iload_n 3, 1) := by decide +kernel
theorem dX2_mostFittingWear_23 : decode cX2_mostFittingWear 23 = .ok (.iadd, 1) := by decide +kernel
theorem dX2_mostFittingWear_24 : decode cX2_mostFittingWear 24 = .ok (.sipush 999, 3) := by decide +kernel
theorem dX2_mostFittingWear_27 : decode cX2_mostFittingWear 27 = .ok (.if_icmp .gt 18, 3) := by decide +kernel
theorem dX2_mostFittingWear_30 : decode cX2_mostFittingWear 30 = .ok (.aload_n 0, 1) := by decide +kernel
theorem dX2_mostFittingWear_31 : decode cX2_mostFittingWear 31 = .ok (.iload_n 1, 1) := by decide +kernel
theorem dX2_mostFittingWear_32 : decode cX2_mostFittingWear 32 = .ok (.iload_n 2, 1) := by decide +kernel
theorem dX2_mostFittingWear_33 : decode cX2_mostFittingWear 33 = .ok (.iload_n 3, 1) := by decide +kernel
theorem dX2_mostFittingWear_34 : decode cX2_mostFittingWear 34 = .ok (.iadd, 1) := by decide +kernel
theorem dX2_mostFittingWear_35 : decode cX2_mostFittingWear 35 = .ok (.invokevirtual 156, 3) := by decide +kernel
theorem dX2_mostFittingWear_38 : decode cX2_mostFittingWear 38 = .ok (.ifCond .eq 7, 3) := by decide +kernel
theorem dX2_mostFittingWear_41 : decode cX2_mostFittingWear 41 = .ok (.iload_n 2, 1) := by decide +kernel
theorem dX2_mostFittingWear_42 : decode cX2_mostFittingWear 42 = .ok (.iload_n 3, 1) := by decide +kernel
theorem dX2_mostFittingWear_43 : decode cX2_mostFittingWear 43 = .ok (.iadd, 1) := by decide +kernel
theorem dX2_mostFittingWear_44 : decode cX2_mostFittingWear 44 = .ok (.istore_n 2, 1) := by decide +kernel
theorem dX2_mostFittingWear_45 : decode cX2_mostFittingWear 45 = .ok (.iload_n 3, 1) := by decide +kernel
theorem dX2_mostFittingWear_46 : decode cX2_mostFittingWear 46 = .ok (.iconst 2, 1) := by decide +kernel
theorem dX2_mostFittingWear_47 : decode cX2_mostFittingWear 47 = .ok (.idiv, 1) := by decide +kernel
theorem dX2_mostFittingWear_48 : decode cX2_mostFittingWear 48 = .ok (.istore_n 3, 1) := by decide +kernel
theorem dX2_mostFittingWear_49 : decode cX2_mostFittingWear 49 = .ok (.goto (-32), 3) := by decide +kernel
theorem dX2_mostFittingWear_52 : decode cX2_mostFittingWear 52 = .ok (.iload_n 2, 1) := by decide +kernel
theorem dX2_mostFittingWear_53 : decode cX2_mostFittingWear 53 = .ok (.ireturn, 1) := by decide +kernel
theorem dX2_leastSortingGap_0 : decode cX2_leastSortingGap 0 = .ok (.iconst (-1), 1) := by decide +kernel
theorem dX2_leastSortingGap_1 : decode cX2_leastSortingGap 1 = .ok (.istore_n 2, 1) := by decide +kernel
theorem dX2_leastSortingGap_2 : decode cX2_leastSortingGap 2 = .ok (.sipush 4100, 3) := by decide +kernel
theorem dX2_leastSortingGap_5 : decode cX2_leastSortingGap 5 = .ok (.istore_n 3, 1) := by decide +kernel
theorem dX2_leastSortingGap_6 : decode cX2_leastSortingGap 6 = .ok (.iconst 0, 1) := by decide +kernel
theorem dX2_leastSortingGap_7 : decode cX2_leastSortingGap 7 = .ok (.istore 4, 2) := by decide +kernel
theorem dX2_leastSortingGap_9 : decode cX2_leastSortingGap 9 = .ok (.iload 4, 2) := by decide +kernel
theorem dX2_leastSortingGap_11 : decode cX2_leastSortingGap 11 = .ok (.aload_n 0, 1) := by decide +kernel
theorem dX2_leastSortingGap_12 : decode cX2_leastSortingGap 12 = .ok (.getfield 45, 3) := by decide +kernel
theorem dX2_leastSortingGap_15 : decode cX2_leastSortingGap 15 = .ok (.if_icmp .ge 60, 3) := by decide +kernel
theorem dX2_leastSortingGap_18 : decode cX2_leastSortingGap 18 = .ok (.aload_n 0, 1) := by decide +kernel
theorem dX2_leastSortingGap_19 : decode cX2_leastSortingGap 19 = .ok (.getfield 18, 3) := by decide +kernel
theorem dX2_leastSortingGap_22 : decode cX2_leastSortingGap 22 = .ok (.iload 4, 2) := by decide +kernel
theorem dX2_leastSortingGap_24 : decode cX2_leastSortingGap 24 = .ok (.iaload, 1) := by decide +kernel
theorem dX2_leastSortingGap_25 : decode cX2_leastSortingGap 25 = .ok (.iload_n 1, 1) := by decide +kernel
theorem dX2_leastSortingGap_26 : decode cX2_leastSortingGap 26 = .ok (.if_icmp .ne 20, 3) := by decide +kernel
theorem dX2_leastSortingGap_29 : decode cX2_leastSortingGap 29 = .ok (.iload_n 2, 1) := by decide +kernel
theorem dX2_leastSortingGap_30 : decode cX2_leastSortingGap 30 = .ok (.aload_n 0, 1) := by decide +kernel
theorem dX2_leastSortingGap_31 : decode cX2_leastSortingGap 31 = .ok (.getfield 9, 3) := by decide +kernel
theorem dX2_leastSortingGap_34 : decode cX2_leastSortingGap 34 = .ok (.iload 4, 2) := by decide +kernel
theorem dX2_leastSortingGap_36 : decode cX2_leastSortingGap 36 = .ok (.iaload, 1) := by decide +kernel
theorem dX2_leastSortingGap_37 : decode cX2_leastSortingGap 37 = .ok (.iconst 5, 1) := by decide +kernel
theorem dX2_leastSortingGap_38 : decode cX2_leastSortingGap 38 = .ok (.iadd, 1) := by decide +kernel
theorem dX2_leastSortingGap_39 : decode cX2_leastSortingGap 39 = .ok (.invokestatic 76, 3) := by decide +kernel
theorem dX2_leastSortingGap_42 : decode cX2_leastSortingGap 42 = .ok (.istore_n 2, 1) := by decide +kernel
theorem dX2_leastSortingGap_43 : decode cX2_leastSortingGap 43 = .ok (.goto 26, 3) := by decide +kernel
theorem dX2_leastSortingGap_46 : decode cX2_leastSortingGap 46 = .ok (.aload_n 0, 1) := by decide +kernel
theorem dX2_leastSortingGap_47 : decode cX2_leastSortingGap 47 = .ok (.getfield 18, 3) := by decide +kernel
theorem dX2_leastSortingGap_50 : decode cX2_leastSortingGap 50 = .ok (.iload 4, 2) := by decide +kernel
theorem dX2_leastSortingGap_52 : decode cX2_leastSortingGap 52 = .ok (.iaload, 1) := by decide +kernel
theorem dX2_leastSortingGap_53 : decode cX2_leastSortingGap 53 = .ok (.iload_n 1, 1) := by decide +kernel
theorem dX2_leastSortingGap_54 : decode cX2_leastSortingGap 54 = .ok (.if_icmp .le 15, 3) := by decide +kernel
theorem dX2_leastSortingGap_57 : decode cX2_leastSortingGap 57 = .ok (.iload_n 3, 1) := by decide +kernel
theorem dX2_leastSortingGap_58 : decode cX2_leastSortingGap 58 = .ok (.aload_n 0, 1) := by decide +kernel
theorem dX2_leastSortingGap_59 : decode cX2_leastSortingGap 59 = .ok (.getfield 9, 3) := by decide +kernel
theorem dX2_leastSortingGap_62 : decode cX2_leastSortingGap 62 = .ok (.iload 4, 2) := by decide +kernel
theorem dX2_leastSortingGap_64 : decode cX2_leastSortingGap 64 = .ok (.iaload, 1) := by decide +kernel
theorem dX2_leastSortingGap_65 : decode cX2_leastSortingGap 65 = .ok (.invokestatic 81, 3) := by decide +kernel
theorem dX2_leastSortingGap_68 : decode cX2_leastSortingGap 68 = .ok (.istore_n 3, 1) := by decide +kernel
theorem dX2_leastSortingGap_69 : decode cX2_leastSortingGap 69 = .ok (.iinc 4 1, 3) := by decide +kernel
theorem dX2_leastSortingGap_72 : decode cX2_leastSortingGap 72 = .ok (.goto (-63), 3) := by decide +kernel
theorem dX2_leastSortingGap_75 : decode cX2_leastSortingGap 75 = .ok (.iload_n 2, 1) := by decide +kernel
theorem dX2_leastSortingGap_76 : decode cX2_leastSortingGap 76 = .ok (.iload_n 3, 1) := by decide +kernel
theorem dX2_leastSortingGap_77 : decode cX2_leastSortingGap 77 = .ok (.if_icmp .gt 7, 3) := by decide +kernel
theorem dX2_leastSortingGap_80 : decode cX2_leastSortingGap 80 = .ok (.iload_n 2, 1) := by decide +kernel
theorem dX2_leastSortingGap_81 : decode cX2_leastSortingGap 81 = .ok (.goto 4, 3) := by decide +kernel
theorem dX2_leastSortingGap_84 : decode cX2_leastSortingGap 84 = .ok (.iconst (-1), 1) := by decide +kernel
theorem dX2_leastSortingGap_85 : decode cX2_leastSortingGap 85 = .ok (.ireturn, 1) := by decide +kernel
set_option maxRecDepth 20000 in
theorem ggX2_coinsUntilAstray_X2_fallsHome : GoodIn wsX2_coinsUntilAstray wsX2_fallsHome := goodIn_r _ [6, 1, 7, 8, 9, 5, 10, 11, 12, 13, 14, 15, 16, 17, 18, 19, 20, 21, 22, 23, 24, 25, 26, 27, 28, 29, 30, 31, 32, 33, 34, 35, 36, 37, 38, 39, 40, 41, 42, 43, 44, 45, 46, 47, 48, 49, 50, 51, 52, 53, 54] (by decide +kernel) (by decide +kernel)
set_option maxRecDepth 20000 in
theorem gX2_coinsUntilAstray_X2_fallsHome : GoodIn wsX2_coinsUntilAstray (wsV RX2 156 RX2 yX2_fallsHome wsX2_fallsHome) := goodIn_app (goodIn_of _ (by decide +kernel)) ggX2_coinsUntilAstray_X2_fallsHome
set_option maxRecDepth 20000 in
theorem ggX2_coinsUntilAstray_X2_coinsIn : GoodIn wsX2_coinsUntilAstray wsX2_coinsIn := goodIn_r _ [40, 41, 42, 43, 44, 45, 46, 47, 48, 49, 50, 51, 52, 53, 54] (by decide +kernel) (by decide +kernel)
set_option maxRecDepth 20000 in
theorem gX2_coinsUntilAstray_X2_coinsIn : GoodIn wsX2_coinsUntilAstray (wsV RX2 58 RX2 yX2_coinsIn wsX2_coinsIn) := goodIn_app (goodIn_of _ (by decide +kernel)) ggX2_coinsUntilAstray_X2_coinsIn
theorem dX2_coinsUntilAstray_0 : decode cX2_coinsUntilAstray 0 = .ok (.aload_n 0, 1) := by decide +kernel
theorem dX2_coinsUntilAstray_1 : decode cX2_coinsUntilAstray 1 = .ok (.iload_n 1, 1) := by decide +kernel
theorem dX2_coinsUntilAstray_2 : decode cX2_coinsUntilAstray 2 = .ok (.iconst 0, 1) := by decide +kernel
theorem dX2_coinsUntilAstray_3 : decode cX2_coinsUntilAstray 3 = .ok (.invokevirtual 156, 3) := by decide +kernel
theorem dX2_coinsUntilAstray_6 : decode cX2_coinsUntilAstray 6 = .ok (.ifCond .eq 19, 3) := by decide +kernel
theorem dX2_coinsUntilAstray_9 : decode cX2_coinsUntilAstray 9 = .ok (.bipush 40, 2) := by decide +kernel
theorem dX2_coinsUntilAstray_11 : decode cX2_coinsUntilAstray 11 = .ok (.aload_n 0, 1) := by decide +kernel
theorem dX2_coinsUntilAstray_12 : decode cX2_coinsUntilAstray 12 = .ok (.aload_n 0, 1) := by decide +kernel
theorem dX2_coinsUntilAstray_13 : decode cX2_coinsUntilAstray 13 = .ok (.getfield 18, 3) := by decide +kernel
theorem dX2_coinsUntilAstray_16 : decode cX2_coinsUntilAstray 16 = .ok (.iload_n 1, 1) := by decide +kernel
theorem dX2_coinsUntilAstray_17 : decode cX2_coinsUntilAstray 17 = .ok (.iaload, 1) := by decide +kernel
theorem dX2_coinsUntilAstray_18 : decode cX2_coinsUntilAstray 18 = .ok (.invokevirtual 58, 3) := by decide +kernel
theorem dX2_coinsUntilAstray_21 : decode cX2_coinsUntilAstray 21 = .ok (.isub, 1) := by decide +kernel
theorem dX2_coinsUntilAstray_22 : decode cX2_coinsUntilAstray 22 = .ok (.goto 4, 3) := by decide +kernel
theorem dX2_coinsUntilAstray_25 : decode cX2_coinsUntilAstray 25 = .ok (.iconst 0, 1) := by decide +kernel
theorem dX2_coinsUntilAstray_26 : decode cX2_coinsUntilAstray 26 = .ok (.ireturn, 1) := by decide +kernel
set_option maxRecDepth 20000 in
theorem ggX3_init_X2_init : GoodIn wsX3_init wsX2_init := goodIn_r _ [18, 19, 2, 3, 20, 21, 22, 23, 24, 25, 26, 27, 28, 29, 30, 31, 45, 46, 47, 48, 49, 50, 51, 52, 53, 54, 55, 56, 57] (by decide +kernel) (by decide +kernel)
set_option maxRecDepth 20000 in
theorem gX3_init_X2_init : GoodIn wsX3_init (wsX2_init) := ggX3_init_X2_init
set_option maxRecDepth 20000 in
theorem ggX3_init_X1_init : GoodIn wsX3_init wsX1_init := goodIn_r _ [34, 35, 2, 3, 36, 37, 5, 6, 38, 17, 18, 19, 20, 21, 22, 23, 24, 25, 26, 27, 28, 29, 30, 31, 61, 62, 63, 45, 46, 47, 48, 49, 50, 51, 52, 53, 54, 55, 56, 57] (by decide +kernel) (by decide +kernel)
set_option maxRecDepth 20000 in
theorem gX3_init_X1_init : GoodIn wsX3_init (wsX1_init) := ggX3_init_X1_init
set_option maxRecDepth 20000 in
theorem ggX3_init_X0_init : GoodIn wsX3_init wsX0_init := goodIn_r _ [40, 41, 2, 3, 20, 42, 43, 44, 64, 65, 66, 67, 68] (by decide +kernel) (by decide +kernel)
set_option maxRecDepth 20000 in
theorem gX3_init_X0_init_n25 : GoodIn wsX3_init (wsX0_init) := ggX3_init_X0_init
theorem dX3_init_0 : decode cX3_init 0 = .ok (.aload_n 0, 1) := by decide +kernel
theorem dX3_init_1 : decode cX3_init 1 = .ok (.invokespecial 3, 3) := by decide +kernel
theorem dX3_init_4 : decode cX3_init 4 = .ok (.aload_n 0, 1) := by decide +kernel
theorem dX3_init_5 : decode cX3_init 5 = .ok (.new 9, 3) := by decide +kernel
theorem dX3_init_8 : decode cX3_init 8 = .ok (.dup, 1) := by decide +kernel
theorem dX3_init_9 : decode cX3_init 9 = .ok (.invokespecial 11, 3) := by decide +kernel
theorem dX3_init_12 : decode cX3_init 12 = .ok (.putfield 12, 3) := by decide +kernel
theorem dX3_init_15 : decode cX3_init 15 = .ok (.aload_n 0, 1) := by decide +kernel
theorem dX3_init_16 : decode cX3_init 16 = .ok (.new 16, 3) := by decide +kernel
theorem dX3_init_19 : decode cX3_init 19 = .ok (.dup, 1) := by decide +kernel
theorem dX3_init_20 : decode cX3_init 20 = .ok (.invokespecial 18, 3) := by decide +kernel
theorem dX3_init_23 : decode cX3_init 23 = .ok (.putfield 19, 3) := by decide +kernel
theorem dX3_init_26 : decode cX3_init 26 = .ok (.aload_n 0, 1) := by decide +kernel
theorem dX3_init_27 : decode cX3_init 27 = .ok (.new 23, 3) := by decide +kernel
theorem dX3_init_30 : decode cX3_init 30 = .ok (.dup, 1) := by decide +kernel
theorem dX3_init_31 : decode cX3_init 31 = .ok (.invokespecial 25, 3) := by decide +kernel
theorem dX3_init_34 : decode cX3_init 34 = .ok (.putfield 26, 3) := by decide +kernel
theorem dX3_init_37 : decode cX3_init 37 = .ok (.return_, 1) := by decide +kernel
set_option maxRecDepth 20000 in
theorem ggX3_addKind_X3_checkArgument : GoodIn wsX3_addKind wsX3_checkArgument := goodIn_ca (goodIn_r _ [9, 10, 11] (by decide +kernel) (by decide +kernel)) (goodIn_sub (fun _ h => List.mem_cons_of_mem _ (List.mem_append_right _ h)) (by decide +kernel))
end
section
set_option maxRecDepth 20000 in
theorem gX3_addKind_X3_checkArgument : GoodIn wsX3_addKind (va_wsS RX3 30 yX3_checkArgument wsX3_checkArgument) := goodIn_app (goodIn_of _ (by decide +kernel)) ggX3_addKind_X3_checkArgument
set_option maxRecDepth 20000 in
theorem ggX3_addKind_X1_save : GoodIn wsX3_addKind wsX1_save := goodIn_r _ [16, 17, 18, 19, 20, 21, 22, 23, 24, 25, 26, 27, 28, 29, 30, 31, 32, 33, 34, 35, 36, 37, 38, 39, 40, 41, 42, 43, 44, 45, 66, 67, 68, 53, 54, 55, 56, 57, 58, 59, 60, 61, 62, 63, 64, 65] (by decide +kernel) (by decide +kernel)
set_option maxRecDepth 20000 in
theorem gX3_addKind_X1_save : GoodIn wsX3_addKind (wsV RX3 45 RX1 yX1_save wsX1_save) := goodIn_app (goodIn_of _ (by decide +kernel)) ggX3_addKind_X1_save
set_option maxRecDepth 20000 in
theorem ggX3_addKind_X2_putKind : GoodIn wsX3_addKind wsX2_putKind := goodIn_r _ [49, 29, 30, 35, 36, 53, 54, 55, 56, 57, 58, 59, 60, 61, 62, 63, 64, 65] (by decide +kernel) (by decide +kernel)
set_option maxRecDepth 20000 in
theorem gX3_addKind_X2_putKind : GoodIn wsX3_addKind (wsV RX3 49 RX2 yX2_putKind wsX2_putKind) := goodIn_app (goodIn_of _ (by decide +kernel)) ggX3_addKind_X2_putKind
theorem dX3_addKind_0 : decode cX3_addKind 0 = .ok (.iload_n 1, 1) := by decide +kernel
theorem dX3_addKind_1 : decode cX3_addKind 1 = .ok (.sipush 1000, 3) := by decide +kernel
theorem dX3_addKind_4 : decode cX3_addKind 4 = .ok (.sipush 4000, 3) := by decide +kernel
theorem dX3_addKind_7 : decode cX3_addKind 7 = .ok (.invokestatic 30, 3) := by decide +kernel
theorem dX3_addKind_10 : decode cX3_addKind 10 = .ok (.iload_n 2, 1) := by decide +kernel
theorem dX3_addKind_11 : decode cX3_addKind 11 = .ok (.iconst 1, 1) := by decide +kernel
theorem dX3_addKind_12 : decode cX3_addKind 12 = .ok (.sipush 500, 3) := by decide +kernel
theorem dX3_addKind_15 : decode cX3_addKind 15 = .ok (.invokestatic 30, 3) := by decide +kernel
theorem dX3_addKind_18 : decode cX3_addKind 18 = .ok (.iload_n 3, 1) := by decide +kernel
theorem dX3_addKind_19 : decode cX3_addKind 19 = .ok (.iconst 0, 1) := by decide +kernel
theorem dX3_addKind_20 : decode cX3_addKind 20 = .ok (.iconst 5, 1) := by decide +kernel
theorem dX3_addKind_21 : decode cX3_addKind 21 = .ok (.invokestatic 30, 3) := by decide +kernel
theorem dX3_addKind_24 : decode cX3_addKind 24 = .ok (.aload_n 0, 1) := by decide +kernel
theorem dX3_addKind_25 : decode cX3_addKind 25 = .ok (.getfield 12, 3) := by decide +kernel
theorem dX3_addKind_28 : decode cX3_addKind 28 = .ok (.getfield 34, 3) := by decide +kernel
theorem dX3_addKind_31 : decode cX3_addKind 31 = .ok (.bipush 6, 2) := by decide +kernel
theorem dX3_addKind_33 : decode cX3_addKind 33 = .ok (.if_icmp .lt 13, 3) := by decide +kernel
theorem dX3_addKind_36 : decode cX3_addKind 36 = .ok (.new 38, 3) := by decide +kernel
theorem dX3_addKind_39 : decode cX3_addKind 39 = .ok (.dup, 1) := by decide +kernel
theorem dX3_addKind_40 : decode cX3_addKind 40 = .ok (.ldc 40, 2) := by decide +kernel
theorem dX3_addKind_42 : decode cX3_addKind 42 = .ok (.invokespecial 42, 3) := by decide +kernel
theorem dX3_addKind_45 : decode cX3_addKind 45 = .ok (.athrow, 1) := by decide +kernel
theorem dX3_addKind_46 : decode cX3_addKind 46 = .ok (.aload_n 0, 1) := by decide +kernel
theorem dX3_addKind_47 : decode cX3_addKind 47 = .ok (.getfield 19, 3) := by decide +kernel
theorem dX3_addKind_50 : decode cX3_addKind 50 = .ok (.aload_n 0, 1) := by decide +kernel
theorem dX3_addKind_51 : decode cX3_addKind 51 = .ok (.getfield 12, 3) := by decide +kernel
theorem dX3_addKind_54 : decode cX3_addKind 54 = .ok (.invokevirtual 45, 3) := by decide +kernel
theorem dX3_addKind_57 : decode cX3_addKind 57 = .ok (.aload_n 0, 1) := by decide +kernel
theorem dX3_addKind_58 : decode cX3_addKind 58 = .ok (.getfield 12, 3) := by decide +kernel
theorem dX3_addKind_61 : decode cX3_addKind 61 = .ok (.iload_n 1, 1) := by decide +kernel
theorem dX3_addKind_62 : decode cX3_addKind 62 = .ok (.iload_n 2, 1) := by decide +kernel
theorem dX3_addKind_63 : decode cX3_addKind 63 = .ok (.iload_n 3, 1) := by decide +kernel
theorem dX3_addKind_64 : decode cX3_addKind 64 = .ok (.invokevirtual 49, 3) := by decide +kernel
theorem dX3_addKind_67 : decode cX3_addKind 67 = .ok (.ireturn, 1) := by decide +kernel
set_option maxRecDepth 20000 in
theorem ggX3_setGap_X3_checkRail : GoodIn wsX3_setGap wsX3_checkRail := goodIn_ca (goodIn_r _ [10, 11, 12, 13, 14, 9, 15] (by decide +kernel) (by decide +kernel)) (goodIn_sub (fun _ h => List.mem_cons_of_mem _ (List.mem_append_left _ (List.mem_append_right _ h))) (by decide +kernel))
set_option maxRecDepth 20000 in
theorem gX3_setGap_X3_checkRail : GoodIn wsX3_setGap (va_wsS RX3 61 yX3_checkRail wsX3_checkRail) := goodIn_app (goodIn_of _ (by decide +kernel)) ggX3_setGap_X3_checkRail
set_option maxRecDepth 20000 in
theorem ggX3_setGap_X3_checkArgument : GoodIn wsX3_setGap wsX3_checkArgument := goodIn_ca (goodIn_r _ [18, 19, 20] (by decide +kernel) (by decide +kernel)) (goodIn_sub (fun _ h => List.mem_cons_of_mem _ (List.mem_append_right _ h)) (by decide +kernel))
set_option maxRecDepth 20000 in
theorem gX3_setGap_X3_checkArgument : GoodIn wsX3_setGap (va_wsS RX3 30 yX3_checkArgument wsX3_checkArgument) := goodIn_app (goodIn_of _ (by decide +kernel)) ggX3_setGap_X3_checkArgument
set_option maxRecDepth 20000 in
theorem ggX3_setGap_X2_isStuck : GoodIn wsX3_setGap wsX2_isStuck := goodIn_r _ [25, 26, 62, 63, 64, 65, 66, 67, 68, 69, 70, 71, 72, 73, 74] (by decide +kernel) (by decide +kernel)
set_option maxRecDepth 20000 in
theorem gX3_setGap_X2_isStuck : GoodIn wsX3_setGap (wsV RX3 64 RX2 yX2_isStuck wsX2_isStuck) := goodIn_app (goodIn_of _ (by decide +kernel)) ggX3_setGap_X2_isStuck
set_option maxRecDepth 20000 in
theorem ggX3_setGap_X1_save : GoodIn wsX3_setGap wsX1_save := goodIn_r _ [31, 32, 33, 34, 35, 36, 37, 38, 39, 40, 41, 24, 42, 43, 44, 45, 46, 47, 48, 49, 50, 51, 52, 53, 54, 26, 55, 56, 57, 58, 75, 76, 77, 62, 63, 64, 65, 66, 67, 68, 69, 70, 71, 72, 73, 74] (by decide +kernel) (by decide +kernel)
set_option maxRecDepth 20000 in
theorem gX3_setGap_X1_save : GoodIn wsX3_setGap (wsV RX3 45 RX1 yX1_save wsX1_save) := goodIn_app (goodIn_of _ (by decide +kernel)) ggX3_setGap_X1_save
theorem dX3_setGap_0 : decode cX3_setGap 0 = .ok (.iload_n 1, 1) := by decide +kernel
theorem dX3_setGap_1 : decode cX3_setGap 1 = .ok (.invokestatic 61, 3) := by decide +kernel
theorem dX3_setGap_4 : decode cX3_setGap 4 = .ok (.iload_n 2, 1) := by decide +kernel
theorem dX3_setGap_5 : decode cX3_setGap 5 = .ok (.sipush 900, 3) := by decide +kernel
theorem dX3_setGap_8 : decode cX3_setGap 8 = .ok (.sipush 4100, 3) := by decide +kernel
theorem dX3_setGap_11 : decode cX3_setGap 11 = .ok (.invokestatic 30, 3) := by decide +kernel
theorem dX3_setGap_14 : decode cX3_setGap 14 = .ok (.aload_n 0, 1) := by decide +kernel
theorem dX3_setGap_15 : decode cX3_setGap 15 = .ok (.getfield 12, 3) := by decide +kernel
theorem dX3_setGap_18 : decode cX3_setGap 18 = .ok (.iload_n 1, 1) := by decide +kernel
theorem dX3_setGap_19 : decode cX3_setGap 19 = .ok (.invokevirtual 64, 3) := by decide +kernel
theorem dX3_setGap_22 : decode cX3_setGap 22 = .ok (.ifCond .eq 13, 3) := by decide +kernel
theorem dX3_setGap_25 : decode cX3_setGap 25 = .ok (.new 38, 3) := by decide +kernel
theorem dX3_setGap_28 : decode cX3_setGap 28 = .ok (.dup, 1) := by decide +kernel
theorem dX3_setGap_29 : decode cX3_setGap 29 = .ok (.ldc 68, 2) := by decide +kernel
theorem dX3_setGap_31 : decode cX3_setGap 31 = .ok (.invokespecial 42, 3) := by decide +kernel
theorem dX3_setGap_34 : decode cX3_setGap 34 = .ok (.athrow, 1) := by decide +kernel
theorem dX3_setGap_35 : decode cX3_setGap 35 = .ok (.aload_n 0, 1) := by decide +kernel
theorem dX3_setGap_36 : decode cX3_setGap 36 = .ok (.getfield 19, 3) := by decide +kernel
theorem dX3_setGap_39 : decode cX3_setGap 39 = .ok (.aload_n 0, 1) := by decide +kernel
theorem dX3_setGap_40 : decode cX3_setGap 40 = .ok (.getfield 12, 3) := by decide +kernel
theorem dX3_setGap_43 : decode cX3_setGap 43 = .ok (.invokevirtual 45, 3) := by decide +kernel
theorem dX3_setGap_46 : decode cX3_setGap 46 = .ok (.aload_n 0, 1) := by decide +kernel
theorem dX3_setGap_47 : decode cX3_setGap 47 = .ok (.getfield 12, 3) := by decide +kernel
theorem dX3_setGap_50 : decode cX3_setGap 50 = .ok (.getfield 70, 3) := by decide +kernel
theorem dX3_setGap_53 : decode cX3_setGap 53 = .ok (.iload_n 1, 1) := by decide +kernel
theorem dX3_setGap_54 : decode cX3_setGap 54 = .ok (.iaload, 1) := by decide +kernel
theorem dX3_setGap_55 : decode cX3_setGap 55 = .ok (.istore_n 3, 1) := by decide +kernel
theorem dX3_setGap_56 : decode cX3_setGap 56 = .ok (.aload_n 0, 1) := by decide +kernel
theorem dX3_setGap_57 : decode cX3_setGap 57 = .ok (.getfield 12, 3) := by decide +kernel
theorem dX3_setGap_60 : decode cX3_setGap 60 = .ok (.getfield 70, 3) := by decide +kernel
theorem dX3_setGap_63 : decode cX3_setGap 63 = .ok (.iload_n 1, 1) := by decide +kernel
theorem dX3_setGap_64 : decode cX3_setGap 64 = .ok (.iload_n 2, 1) := by decide +kernel
theorem dX3_setGap_65 : decode cX3_setGap 65 = .ok (.iastore, 1) := by decide +kernel
theorem dX3_setGap_66 : decode cX3_setGap 66 = .ok (.aload_n 0, 1) := by decide +kernel
theorem dX3_setGap_67 : decode cX3_setGap 67 = .ok (.getfield 12, 3) := by decide +kernel
theorem dX3_setGap_70 : decode cX3_setGap 70 = .ok (.getfield 73, 3) := by decide +kernel
theorem dX3_setGap_73 : decode cX3_setGap 73 = .ok (.iload_n 1, 1) := by decide +kernel
theorem dX3_setGap_74 : decode cX3_setGap 74 = .ok (.iconst 0, 1) := by decide +kernel
theorem dX3_setGap_75 : decode cX3_setGap 75 = .ok (.iastore, 1) := by decide +kernel
theorem dX3_setGap_76 : decode cX3_setGap 76 = .ok (.iload_n 3, 1) := by decide +kernel
theorem dX3_setGap_77 : decode cX3_setGap 77 = .ok (.ireturn, 1) := by decide +kernel
set_option maxRecDepth 20000 in
theorem ggX3_feed_X3_checkKind : GoodIn wsX3_feed wsX3_checkKind := goodIn_ca (goodIn_r _ [7, 8, 9, 2, 10, 90, 91, 92, 93, 94, 95, 96, 97, 98, 99, 100, 101, 102, 103, 104, 105] (by decide +kernel) (by decide +kernel)) (goodIn_sub (fun _ h => List.mem_cons_of_mem _ (List.mem_append_left _ (List.mem_append_right _ h))) (by decide +kernel))
set_option maxRecDepth 20000 in
theorem gX3_feed_X3_checkKind : GoodIn wsX3_feed (wsV RX3 53 RX3 yX3_checkKind wsX3_checkKind) := goodIn_app (goodIn_of _ (by decide +kernel)) ggX3_feed_X3_checkKind
set_option maxRecDepth 20000 in
theorem ggX3_feed_X3_checkArgument : GoodIn wsX3_feed wsX3_checkArgument := goodIn_ca (goodIn_r _ [13, 14, 15] (by decide +kernel) (by decide +kernel)) (goodIn_sub (fun _ h => List.mem_cons_of_mem _ (List.mem_append_right _ h)) (by decide +kernel))
set_option maxRecDepth 20000 in
theorem gX3_feed_X3_checkArgument : GoodIn wsX3_feed (va_wsS RX3 30 yX3_checkArgument wsX3_checkArgument) := goodIn_app (goodIn_of _ (by decide +kernel)) ggX3_feed_X3_checkArgument
set_option maxRecDepth 20000 in
theorem ggX3_feed_X1_save : GoodIn wsX3_feed wsX1_save := goodIn_r _ [20, 21, 22, 23, 24, 25, 26, 27, 28, 29, 30, 31, 32, 33, 34, 35, 36, 37, 38, 39, 40, 41, 42, 43, 44, 45, 46, 47, 48, 49, 106, 107, 108, 93, 94, 95, 96, 97, 98, 99, 100, 101, 102, 103, 104, 105] (by decide +kernel) (by decide +kernel)
set_option maxRecDepth 20000 in
theorem gX3_feed_X1_save : GoodIn wsX3_feed (wsV RX3 45 RX1 yX1_save wsX1_save) := goodIn_app (goodIn_of _ (by decide +kernel)) ggX3_feed_X1_save
set_option maxRecDepth 20000 in
theorem ggX3_feed_X2_putCoin : GoodIn wsX3_feed wsX2_putCoin := goodIn_r _ [53, 41, 42, 45, 46, 48, 54, 55, 56, 31, 57, 43, 58, 59, 60, 61, 62, 25, 26, 27, 63, 64, 65, 66, 34, 67, 68, 69, 70, 71, 72, 73, 74, 75, 76, 77, 78, 79, 80, 81, 82, 83, 84, 85, 47, 86, 87, 88, 89, 44, 93, 94, 95, 96, 97, 98, 99, 100, 101, 102, 103, 104, 105] (by decide +kernel) (by decide +kernel)
set_option maxRecDepth 20000 in
theorem gX3_feed_X2_putCoin : GoodIn wsX3_feed (wsV RX3 76 RX2 yX2_putCoin wsX2_putCoin) := goodIn_app (goodIn_of _ (by decide +kernel)) ggX3_feed_X2_putCoin
theorem dX3_feed_0 : decode cX3_feed 0 = .ok (.aload_n 0, 1) := by decide +kernel
theorem dX3_feed_1 : decode cX3_feed 1 = .ok (.iload_n 1, 1) := by decide +kernel
theorem dX3_feed_2 : decode cX3_feed 2 = .ok (.invokevirtual 53, 3) := by decide +kernel
theorem dX3_feed_5 : decode cX3_feed 5 = .ok (.iload_n 2, 1) := by decide +kernel
theorem dX3_feed_6 : decode cX3_feed 6 = .ok (.iconst 0, 1) := by decide +kernel
theorem dX3_feed_7 : decode cX3_feed 7 = .ok (.sipush 999, 3) := by decide +kernel
theorem dX3_feed_10 : decode cX3_feed 10 = .ok (.invokestatic 30, 3) := by decide +kernel
theorem dX3_feed_13 : decode cX3_feed 13 = .ok (.aload_n 0, 1) := by decide +kernel
theorem dX3_feed_14 : decode cX3_feed 14 = .ok (.getfield 19, 3) := by decide +kernel
theorem dX3_feed_17 : decode cX3_feed 17 = .ok (.aload_n 0, 1) := by decide +kernel
theorem dX3_feed_18 : decode cX3_feed 18 = .ok (.getfield 12, 3) := by decide +kernel
theorem dX3_feed_21 : decode cX3_feed 21 = .ok (.invokevirtual 45, 3) := by decide +kernel
theorem dX3_feed_24 : decode cX3_feed 24 = .ok (.aload_n 0, 1) := by decide +kernel
theorem dX3_feed_25 : decode cX3_feed 25 = .ok (.getfield 12, 3) := by decide +kernel
theorem dX3_feed_28 : decode cX3_feed 28 = .ok (.iload_n 1, 1) := by decide +kernel
theorem dX3_feed_29 : decode cX3_feed 29 = .ok (.iload_n 2, 1) := by decide +kernel
theorem dX3_feed_30 : decode cX3_feed 30 = .ok (.invokevirtual 76, 3) := by decide +kernel
theorem dX3_feed_33 : decode cX3_feed 33 = .ok (.ireturn, 1) := by decide +kernel
set_option maxRecDepth 20000 in
theorem ggX3_feedSome_X3_checkArgument : GoodIn wsX3_feedSome wsX3_checkArgument := goodIn_ca (goodIn_r _ [10, 11, 12] (by decide +kernel) (by decide +kernel)) (goodIn_sub (fun _ h => List.mem_cons_of_mem _ (List.mem_append_right _ h)) (by decide +kernel))
set_option maxRecDepth 20000 in
theorem gX3_feedSome_X3_checkArgument : GoodIn wsX3_feedSome (va_wsS RX3 30 yX3_checkArgument wsX3_checkArgument) := goodIn_app (goodIn_of _ (by decide +kernel)) ggX3_feedSome_X3_checkArgument
set_option maxRecDepth 20000 in
theorem ggX3_feedSome_X1_save : GoodIn wsX3_feedSome wsX1_save := goodIn_r _ [17, 18, 19, 20, 21, 22, 23, 24, 25, 26, 27, 28, 29, 30, 31, 32, 33, 34, 35, 36, 37, 38, 39, 40, 41, 42, 43, 44, 45, 46, 113, 114, 115, 100, 101, 102, 103, 104, 105, 106, 107, 108, 109, 110, 111, 112] (by decide +kernel) (by decide +kernel)
set_option maxRecDepth 20000 in
theorem gX3_feedSome_X1_save : GoodIn wsX3_feedSome (wsV RX3 45 RX1 yX1_save wsX1_save) := goodIn_app (goodIn_of _ (by decide +kernel)) ggX3_feedSome_X1_save
set_option maxRecDepth 20000 in
theorem ggX3_feedSome_X2_putCoinsByChance : GoodIn wsX3_feedSome wsX2_putCoinsByChance := goodIn_r _ [50, 51, 52, 53, 54, 30, 55, 56, 57, 58, 59, 28, 60, 38, 39, 42, 43, 45, 61, 62, 63, 64, 40, 65, 66, 67, 68, 69, 22, 23, 24, 70, 71, 72, 73, 31, 74, 75, 76, 77, 78, 79, 80, 81, 82, 83, 84, 85, 86, 87, 88, 89, 90, 91, 92, 44, 93, 94, 95, 96, 41, 100, 101, 102, 103, 104, 105, 106, 107, 108, 109, 110, 111, 112] (by decide +kernel) (by decide +kernel)
set_option maxRecDepth 20000 in
theorem gX3_feedSome_X2_putCoinsByChance : GoodIn wsX3_feedSome (wsV RX3 83 RX2 yX2_putCoinsByChance wsX2_putCoinsByChance) := goodIn_app (goodIn_of _ (by decide +kernel)) ggX3_feedSome_X2_putCoinsByChance
theorem dX3_feedSome_0 : decode cX3_feedSome 0 = .ok (.iload_n 1, 1) := by decide +kernel
theorem dX3_feedSome_1 : decode cX3_feedSome 1 = .ok (.iconst 0, 1) := by decide +kernel
theorem dX3_feedSome_2 : decode cX3_feedSome 2 = .ok (.sipush 200, 3) := by decide +kernel
theorem dX3_feedSome_5 : decode cX3_feedSome 5 = .ok (.invokestatic 30, 3) := by decide +kernel
theorem dX3_feedSome_8 : decode cX3_feedSome 8 = .ok (.iload_n 2, 1) := by decide +kernel
theorem dX3_feedSome_9 : decode cX3_feedSome 9 = .ok (.iconst 0, 1) := by decide +kernel
theorem dX3_feedSome_10 : decode cX3_feedSome 10 = .ok (.ldc 80, 2) := by decide +kernel
theorem dX3_feedSome_12 : decode cX3_feedSome 12 = .ok (.invokestatic 30, 3) := by decide +kernel
theorem dX3_feedSome_15 : decode cX3_feedSome 15 = .ok (.aload_n 0, 1) := by decide +kernel
theorem dX3_feedSome_16 : decode cX3_feedSome 16 = .ok (.getfield 12, 3) := by decide +kernel
theorem dX3_feedSome_19 : decode cX3_feedSome 19 = .ok (.getfield 34, 3) := by decide +kernel
theorem dX3_feedSome_22 : decode cX3_feedSome 22 = .ok (.ifCond .ne 13, 3) := by decide +kernel
theorem dX3_feedSome_25 : decode cX3_feedSome 25 = .ok (.new 38, 3) := by decide +kernel
theorem dX3_feedSome_28 : decode cX3_feedSome 28 = .ok (.dup, 1) := by decide +kernel
theorem dX3_feedSome_29 : decode cX3_feedSome 29 = .ok (.ldc 81, 2) := by decide +kernel
theorem dX3_feedSome_31 : decode cX3_feedSome 31 = .ok (.invokespecial 42, 3) := by decide +kernel
theorem dX3_feedSome_34 : decode cX3_feedSome 34 = .ok (.athrow, 1) := by decide +kernel
theorem dX3_feedSome_35 : decode cX3_feedSome 35 = .ok (.aload_n 0, 1) := by decide +kernel
theorem dX3_feedSome_36 : decode cX3_feedSome 36 = .ok (.getfield 19, 3) := by decide +kernel
theorem dX3_feedSome_39 : decode cX3_feedSome 39 = .ok (.aload_n 0, 1) := by decide +kernel
theorem dX3_feedSome_40 : decode cX3_feedSome 40 = .ok (.getfield 12, 3) := by decide +kernel
theorem dX3_feedSome_43 : decode cX3_feedSome 43 = .ok (.invokevirtual 45, 3) := by decide +kernel
theorem dX3_feedSome_46 : decode cX3_feedSome 46 = .ok (.aload_n 0, 1) := by decide +kernel
theorem dX3_feedSome_47 : decode cX3_feedSome 47 = .ok (.getfield 12, 3) := by decide +kernel
theorem dX3_feedSome_50 : decode cX3_feedSome 50 = .ok (.iload_n 1, 1) := by decide +kernel
theorem dX3_feedSome_51 : decode cX3_feedSome 51 = .ok (.iload_n 2, 1) := by decide +kernel
theorem dX3_feedSome_52 : decode cX3_feedSome 52 = .ok (.invokevirtual 83, 3) := by decide +kernel
theorem dX3_feedSome_55 : decode cX3_feedSome 55 = .ok (.ireturn, 1) := by decide +kernel
set_option maxRecDepth 20000 in
theorem ggX3_free_X3_checkRail : GoodIn wsX3_free wsX3_checkRail := goodIn_ca (goodIn_r _ [8, 9, 10, 11, 12, 7, 13] (by decide +kernel) (by decide +kernel)) (goodIn_sub (fun _ h => List.mem_cons_of_mem _ (List.mem_append_right _ h)) (by decide +kernel))
set_option maxRecDepth 20000 in
theorem gX3_free_X3_checkRail : GoodIn wsX3_free (va_wsS RX3 61 yX3_checkRail wsX3_checkRail) := goodIn_app (goodIn_of _ (by decide +kernel)) ggX3_free_X3_checkRail
set_option maxRecDepth 20000 in
theorem ggX3_free_X2_isStuck : GoodIn wsX3_free wsX2_isStuck := goodIn_r _ [18, 19, 67, 68, 69, 70, 71, 72, 73, 74, 75, 76, 77, 78, 79] (by decide +kernel) (by decide +kernel)
set_option maxRecDepth 20000 in
theorem gX3_free_X2_isStuck : GoodIn wsX3_free (wsV RX3 64 RX2 yX2_isStuck wsX2_isStuck) := goodIn_app (goodIn_of _ (by decide +kernel)) ggX3_free_X2_isStuck
set_option maxRecDepth 20000 in
theorem ggX3_free_X1_save : GoodIn wsX3_free wsX1_save := goodIn_r _ [24, 25, 26, 27, 28, 29, 30, 31, 32, 33, 34, 17, 35, 36, 37, 38, 39, 40, 41, 42, 43, 44, 45, 46, 47, 19, 48, 49, 50, 51, 80, 81, 82, 67, 68, 69, 70, 71, 72, 73, 74, 75, 76, 77, 78, 79] (by decide +kernel) (by decide +kernel)
set_option maxRecDepth 20000 in
theorem gX3_free_X1_save : GoodIn wsX3_free (wsV RX3 45 RX1 yX1_save wsX1_save) := goodIn_app (goodIn_of _ (by decide +kernel)) ggX3_free_X1_save
set_option maxRecDepth 20000 in
theorem ggX3_free_X2_loosen : GoodIn wsX3_free wsX2_loosen := goodIn_r _ [55, 19, 45, 50, 48, 56, 57, 58, 17, 59, 60, 61, 62, 63, 67, 68, 69, 70, 71, 72, 73, 74, 75, 76, 77, 78, 79] (by decide +kernel) (by decide +kernel)
set_option maxRecDepth 20000 in
theorem gX3_free_X2_loosen : GoodIn wsX3_free (wsV RX3 88 RX2 yX2_loosen wsX2_loosen) := goodIn_app (goodIn_of _ (by decide +kernel)) ggX3_free_X2_loosen
theorem dX3_free_0 : decode cX3_free 0 = .ok (.iload_n 1, 1) := by decide +kernel
theorem dX3_free_1 : decode cX3_free 1 = .ok (.invokestatic 61, 3) := by decide +kernel
theorem dX3_free_4 : decode cX3_free 4 = .ok (.aload_n 0, 1) := by decide +kernel
theorem dX3_free_5 : decode cX3_free 5 = .ok (.getfield 12, 3) := by decide +kernel
theorem dX3_free_8 : decode cX3_free 8 = .ok (.iload_n 1, 1) := by decide +kernel
theorem dX3_free_9 : decode cX3_free 9 = .ok (.invokevirtual 64, 3) := by decide +kernel
theorem dX3_free_12 : decode cX3_free 12 = .ok (.ifCond .ne 13, 3) := by decide +kernel
theorem dX3_free_15 : decode cX3_free 15 = .ok (.new 38, 3) := by decide +kernel
theorem dX3_free_18 : decode cX3_free 18 = .ok (.dup, 1) := by decide +kernel
theorem dX3_free_19 : decode cX3_free 19 = .ok (.ldc 86, 2) := by decide +kernel
theorem dX3_free_21 : decode cX3_free 21 = .ok (.invokespecial 42, 3) := by decide +kernel
theorem dX3_free_24 : decode cX3_free 24 = .ok (.athrow, 1) := by decide +kernel
theorem dX3_free_25 : decode cX3_free 25 = .ok (.aload_n 0, 1) := by decide +kernel
theorem dX3_free_26 : decode cX3_free 26 = .ok (.getfield 19, 3) := by decide +kernel
theorem dX3_free_29 : decode cX3_free 29 = .ok (.aload_n 0, 1) := by decide +kernel
theorem dX3_free_30 : decode cX3_free 30 = .ok (.getfield 12, 3) := by decide +kernel
theorem dX3_free_33 : decode cX3_free 33 = .ok (.invokevirtual 45, 3) := by decide +kernel
theorem dX3_free_36 : decode cX3_free 36 = .ok (.aload_n 0, 1) := by decide +kernel
theorem dX3_free_37 : decode cX3_free 37 = .ok (.getfield 12, 3) := by decide +kernel
theorem dX3_free_40 : decode cX3_free 40 = .ok (.iload_n 1, 1) := by decide +kernel
theorem dX3_free_41 : decode cX3_free 41 = .ok (.invokevirtual 88, 3) := by decide +kernel
theorem dX3_free_44 : decode cX3_free 44 = .ok (.ireturn, 1) := by decide +kernel
set_option maxRecDepth 20000 in
theorem ggX3_takeBag_X3_checkRail : GoodIn wsX3_takeBag wsX3_checkRail := goodIn_ca (goodIn_r _ [6, 7, 8, 9, 10, 5, 11] (by decide +kernel) (by decide +kernel)) (goodIn_sub (fun _ h => List.mem_cons_of_mem _ (List.mem_append_right _ h)) (by decide +kernel))
set_option maxRecDepth 20000 in
theorem gX3_takeBag_X3_checkRail : GoodIn wsX3_takeBag (va_wsS RX3 61 yX3_checkRail wsX3_checkRail) := goodIn_app (goodIn_of _ (by decide +kernel)) ggX3_takeBag_X3_checkRail
set_option maxRecDepth 20000 in
theorem ggX3_takeBag_X1_save : GoodIn wsX3_takeBag wsX1_save := goodIn_r _ [16, 17, 18, 19, 20, 21, 22, 23, 24, 25, 26, 27, 28, 29, 30, 31, 32, 33, 34, 35, 36, 37, 38, 39, 40, 41, 42, 43, 44, 45, 57, 58, 59, 60, 61, 62, 63, 64, 65, 66, 67, 68, 69, 70, 71, 72] (by decide +kernel) (by decide +kernel)
set_option maxRecDepth 20000 in
theorem gX3_takeBag_X1_save : GoodIn wsX3_takeBag (wsV RX3 45 RX1 yX1_save wsX1_save) := goodIn_app (goodIn_of _ (by decide +kernel)) ggX3_takeBag_X1_save
set_option maxRecDepth 20000 in
theorem ggX3_takeBag_X2_emptyBag : GoodIn wsX3_takeBag wsX2_emptyBag := goodIn_r _ [49, 44, 45, 50, 51, 52, 27, 53, 60, 61, 62, 63, 64, 65, 66, 67, 68, 69, 70, 71, 72] (by decide +kernel) (by decide +kernel)
set_option maxRecDepth 20000 in
theorem gX3_takeBag_X2_emptyBag : GoodIn wsX3_takeBag (wsV RX3 92 RX2 yX2_emptyBag wsX2_emptyBag) := goodIn_app (goodIn_of _ (by decide +kernel)) ggX3_takeBag_X2_emptyBag
theorem dX3_takeBag_0 : decode cX3_takeBag 0 = .ok (.iload_n 1, 1) := by decide +kernel
theorem dX3_takeBag_1 : decode cX3_takeBag 1 = .ok (.invokestatic 61, 3) := by decide +kernel
theorem dX3_takeBag_4 : decode cX3_takeBag 4 = .ok (.aload_n 0, 1) := by decide +kernel
theorem dX3_takeBag_5 : decode cX3_takeBag 5 = .ok (.getfield 19, 3) := by decide +kernel
theorem dX3_takeBag_8 : decode cX3_takeBag 8 = .ok (.aload_n 0, 1) := by decide +kernel
theorem dX3_takeBag_9 : decode cX3_takeBag 9 = .ok (.getfield 12, 3) := by decide +kernel
theorem dX3_takeBag_12 : decode cX3_takeBag 12 = .ok (.invokevirtual 45, 3) := by decide +kernel
theorem dX3_takeBag_15 : decode cX3_takeBag 15 = .ok (.aload_n 0, 1) := by decide +kernel
theorem dX3_takeBag_16 : decode cX3_takeBag 16 = .ok (.getfield 12, 3) := by decide +kernel
theorem dX3_takeBag_19 : decode cX3_takeBag 19 = .ok (.iload_n 1, 1) := by decide +kernel
theorem dX3_takeBag_20 : decode cX3_takeBag 20 = .ok (.invokevirtual 92, 3) := by decide +kernel
theorem dX3_takeBag_23 : decode cX3_takeBag 23 = .ok (.ireturn, 1) := by decide +kernel
set_option maxRecDepth 20000 in
theorem ggX3_takeRejects_X1_save : GoodIn wsX3_takeRejects wsX1_save := goodIn_r _ [7, 8, 9, 10, 11, 12, 13, 14, 15, 16, 17, 18, 19, 20, 21, 22, 23, 24, 25, 26, 27, 28, 29, 30, 31, 32, 33, 34, 35, 36, 47, 48, 49, 50, 51, 52, 53, 54, 55, 56, 57, 58, 59, 60, 61, 62] (by decide +kernel) (by decide +kernel)
set_option maxRecDepth 20000 in
theorem gX3_takeRejects_X1_save : GoodIn wsX3_takeRejects (wsV RX3 45 RX1 yX1_save wsX1_save) := goodIn_app (goodIn_of _ (by decide +kernel)) ggX3_takeRejects_X1_save
set_option maxRecDepth 20000 in
theorem ggX3_takeRejects_X2_removeRejects : GoodIn wsX3_takeRejects wsX2_removeRejects := goodIn_r _ [40, 29, 36, 41, 42, 18, 43, 50, 51, 52, 53, 54, 55, 56, 57, 58, 59, 60, 61, 62] (by decide +kernel) (by decide +kernel)
set_option maxRecDepth 20000 in
theorem gX3_takeRejects_X2_removeRejects : GoodIn wsX3_takeRejects (wsV RX3 95 RX2 yX2_removeRejects wsX2_removeRejects) := goodIn_app (goodIn_of _ (by decide +kernel)) ggX3_takeRejects_X2_removeRejects
theorem dX3_takeRejects_0 : decode cX3_takeRejects 0 = .ok (.aload_n 0, 1) := by decide +kernel
theorem dX3_takeRejects_1 : decode cX3_takeRejects 1 = .ok (.getfield 19, 3) := by decide +kernel
theorem dX3_takeRejects_4 : decode cX3_takeRejects 4 = .ok (.aload_n 0, 1) := by decide +kernel
theorem dX3_takeRejects_5 : decode cX3_takeRejects 5 = .ok (.getfield 12, 3) := by decide +kernel
theorem dX3_takeRejects_8 : decode cX3_takeRejects 8 = .ok (.invokevirtual 45, 3) := by decide +kernel
theorem dX3_takeRejects_11 : decode cX3_takeRejects 11 = .ok (.aload_n 0, 1) := by decide +kernel
theorem dX3_takeRejects_12 : decode cX3_takeRejects 12 = .ok (.getfield 12, 3) := by decide +kernel
theorem dX3_takeRejects_15 : decode cX3_takeRejects 15 = .ok (.invokevirtual 95, 3) := by decide +kernel
theorem dX3_takeRejects_18 : decode cX3_takeRejects 18 = .ok (.ireturn, 1) := by decide +kernel
set_option maxRecDepth 20000 in
theorem ggX3_kind_X3_checkKind : GoodIn wsX3_kind wsX3_checkKind := goodIn_ca (goodIn_r _ [6, 7, 8, 1, 9, 39, 40, 41, 42, 43, 44, 45, 46, 47, 48, 49, 50, 51, 52, 53, 54] (by decide +kernel) (by decide +kernel)) (goodIn_sub (fun _ h => List.mem_cons_of_mem _ (List.mem_append_left _ (List.mem_append_right _ h))) (by decide +kernel))
set_option maxRecDepth 20000 in
theorem gX3_kind_X3_checkKind : GoodIn wsX3_kind (wsV RX3 53 RX3 yX3_checkKind wsX3_checkKind) := goodIn_app (goodIn_of _ (by decide +kernel)) ggX3_kind_X3_checkKind
set_option maxRecDepth 20000 in
theorem ggX3_kind_X3_checkArgument : GoodIn wsX3_kind wsX3_checkArgument := goodIn_ca (goodIn_r _ [12, 13, 14] (by decide +kernel) (by decide +kernel)) (goodIn_sub (fun _ h => List.mem_cons_of_mem _ (List.mem_append_right _ h)) (by decide +kernel))
set_option maxRecDepth 20000 in
theorem gX3_kind_X3_checkArgument : GoodIn wsX3_kind (va_wsS RX3 30 yX3_checkArgument wsX3_checkArgument) := goodIn_app (goodIn_of _ (by decide +kernel)) ggX3_kind_X3_checkArgument
set_option maxRecDepth 20000 in
theorem ggX3_kind_X2_aboutKind : GoodIn wsX3_kind wsX2_aboutKind := goodIn_r _ [19, 20, 21, 22, 23, 24, 25, 26, 27, 18, 28, 29, 30, 31, 32, 33, 34, 35, 36, 37, 38, 42, 43, 44, 45, 46, 47, 48, 49, 50, 51, 52, 53, 54] (by decide +kernel) (by decide +kernel)
set_option maxRecDepth 20000 in
theorem gX3_kind_X2_aboutKind : GoodIn wsX3_kind (wsV RX3 99 RX2 yX2_aboutKind wsX2_aboutKind) := goodIn_app (goodIn_of _ (by decide +kernel)) ggX3_kind_X2_aboutKind
theorem dX3_kind_0 : decode cX3_kind 0 = .ok (.aload_n 0, 1) := by decide +kernel
theorem dX3_kind_1 : decode cX3_kind 1 = .ok (.iload_n 1, 1) := by decide +kernel
theorem dX3_kind_2 : decode cX3_kind 2 = .ok (.invokevirtual 53, 3) := by decide +kernel
theorem dX3_kind_5 : decode cX3_kind 5 = .ok (.iload_n 2, 1) := by decide +kernel
theorem dX3_kind_6 : decode cX3_kind 6 = .ok (.iconst 0, 1) := by decide +kernel
theorem dX3_kind_7 : decode cX3_kind 7 = .ok (.bipush 6, 2) := by decide +kernel
theorem dX3_kind_9 : decode cX3_kind 9 = .ok (.invokestatic 30, 3) := by decide +kernel
theorem dX3_kind_12 : decode cX3_kind 12 = .ok (.aload_n 0, 1) := by decide +kernel
theorem dX3_kind_13 : decode cX3_kind 13 = .ok (.getfield 12, 3) := by decide +kernel
theorem dX3_kind_16 : decode cX3_kind 16 = .ok (.iload_n 1, 1) := by decide +kernel
theorem dX3_kind_17 : decode cX3_kind 17 = .ok (.iload_n 2, 1) := by decide +kernel
theorem dX3_kind_18 : decode cX3_kind 18 = .ok (.invokevirtual 99, 3) := by decide +kernel
theorem dX3_kind_21 : decode cX3_kind 21 = .ok (.ireturn, 1) := by decide +kernel
set_option maxRecDepth 20000 in
theorem ggX3_rail_X3_checkRail : GoodIn wsX3_rail wsX3_checkRail := goodIn_ca (goodIn_r _ [5, 6, 7, 8, 9, 4, 10] (by decide +kernel) (by decide +kernel)) (goodIn_sub (fun _ h => List.mem_cons_of_mem _ (List.mem_append_left _ (List.mem_append_right _ h))) (by decide +kernel))
set_option maxRecDepth 20000 in
theorem gX3_rail_X3_checkRail : GoodIn wsX3_rail (va_wsS RX3 61 yX3_checkRail wsX3_checkRail) := goodIn_app (goodIn_of _ (by decide +kernel)) ggX3_rail_X3_checkRail
set_option maxRecDepth 20000 in
theorem ggX3_rail_X3_checkArgument : GoodIn wsX3_rail wsX3_checkArgument := goodIn_ca (goodIn_r _ [13, 14, 15] (by decide +kernel) (by decide +kernel)) (goodIn_sub (fun _ h => List.mem_cons_of_mem _ (List.mem_append_right _ h)) (by decide +kernel))
set_option maxRecDepth 20000 in
theorem gX3_rail_X3_checkArgument : GoodIn wsX3_rail (va_wsS RX3 30 yX3_checkArgument wsX3_checkArgument) := goodIn_app (goodIn_of _ (by decide +kernel)) ggX3_rail_X3_checkArgument
set_option maxRecDepth 20000 in
theorem ggX3_rail_X2_aboutRail : GoodIn wsX3_rail wsX2_aboutRail := goodIn_r _ [20, 21, 22, 23, 24, 25, 26, 27, 28, 19, 29, 30, 31, 32, 33, 34, 35, 36, 37, 38, 39, 40, 41, 42, 43, 44, 45, 46, 47, 48, 49, 50, 51, 52, 53, 57, 58, 59, 60, 61, 62, 63, 64, 65, 66, 67, 68, 69] (by decide +kernel) (by decide +kernel)
set_option maxRecDepth 20000 in
theorem gX3_rail_X2_aboutRail : GoodIn wsX3_rail (wsV RX3 102 RX2 yX2_aboutRail wsX2_aboutRail) := goodIn_app (goodIn_of _ (by decide +kernel)) ggX3_rail_X2_aboutRail
theorem dX3_rail_0 : decode cX3_rail 0 = .ok (.iload_n 1, 1) := by decide +kernel
theorem dX3_rail_1 : decode cX3_rail 1 = .ok (.invokestatic 61, 3) := by decide +kernel
theorem dX3_rail_4 : decode cX3_rail 4 = .ok (.iload_n 2, 1) := by decide +kernel
theorem dX3_rail_5 : decode cX3_rail 5 = .ok (.iconst 0, 1) := by decide +kernel
theorem dX3_rail_6 : decode cX3_rail 6 = .ok (.bipush 9, 2) := by decide +kernel
theorem dX3_rail_8 : decode cX3_rail 8 = .ok (.invokestatic 30, 3) := by decide +kernel
theorem dX3_rail_11 : decode cX3_rail 11 = .ok (.aload_n 0, 1) := by decide +kernel
theorem dX3_rail_12 : decode cX3_rail 12 = .ok (.getfield 12, 3) := by decide +kernel
theorem dX3_rail_15 : decode cX3_rail 15 = .ok (.iload_n 1, 1) := by decide +kernel
theorem dX3_rail_16 : decode cX3_rail 16 = .ok (.iload_n 2, 1) := by decide +kernel
theorem dX3_rail_17 : decode cX3_rail 17 = .ok (.invokevirtual 102, 3) := by decide +kernel
theorem dX3_rail_20 : decode cX3_rail 20 = .ok (.ireturn, 1) := by decide +kernel
set_option maxRecDepth 20000 in
theorem ggX3_count_X3_checkRail : GoodIn wsX3_count wsX3_checkRail := goodIn_ca (goodIn_r _ [5, 6, 7, 8, 9, 4, 10] (by decide +kernel) (by decide +kernel)) (goodIn_sub (fun _ h => List.mem_cons_of_mem _ (List.mem_append_right _ h)) (by decide +kernel))
set_option maxRecDepth 20000 in
theorem gX3_count_X3_checkRail : GoodIn wsX3_count (va_wsS RX3 61 yX3_checkRail wsX3_checkRail) := goodIn_app (goodIn_of _ (by decide +kernel)) ggX3_count_X3_checkRail
set_option maxRecDepth 20000 in
theorem ggX3_count_X3_checkKind : GoodIn wsX3_count wsX3_checkKind := goodIn_ca (goodIn_r _ [14, 6, 7, 1, 15, 22, 23, 24, 25, 26, 27, 28, 29, 30, 31, 32, 33, 34, 35, 36, 37] (by decide +kernel) (by decide +kernel)) (goodIn_sub (fun _ h => List.mem_cons_of_mem _ (List.mem_append_right _ h)) (by decide +kernel))
set_option maxRecDepth 20000 in
theorem gX3_count_X3_checkKind : GoodIn wsX3_count (wsV RX3 53 RX3 yX3_checkKind wsX3_checkKind) := goodIn_app (goodIn_of _ (by decide +kernel)) ggX3_count_X3_checkKind
set_option maxRecDepth 20000 in
theorem ggX3_count_X2_coinsOfKind : GoodIn wsX3_count wsX2_coinsOfKind := goodIn_r _ [20, 21, 25, 26, 27, 28, 29, 30, 31, 32, 33, 34, 35, 36, 37] (by decide +kernel) (by decide +kernel)
set_option maxRecDepth 20000 in
theorem gX3_count_X2_coinsOfKind : GoodIn wsX3_count (wsV RX3 105 RX2 yX2_coinsOfKind wsX2_coinsOfKind) := goodIn_app (goodIn_of _ (by decide +kernel)) ggX3_count_X2_coinsOfKind
theorem dX3_count_0 : decode cX3_count 0 = .ok (.iload_n 1, 1) := by decide +kernel
theorem dX3_count_1 : decode cX3_count 1 = .ok (.invokestatic 61, 3) := by decide +kernel
theorem dX3_count_4 : decode cX3_count 4 = .ok (.aload_n 0, 1) := by decide +kernel
theorem dX3_count_5 : decode cX3_count 5 = .ok (.iload_n 2, 1) := by decide +kernel
theorem dX3_count_6 : decode cX3_count 6 = .ok (.invokevirtual 53, 3) := by decide +kernel
theorem dX3_count_9 : decode cX3_count 9 = .ok (.aload_n 0, 1) := by decide +kernel
theorem dX3_count_10 : decode cX3_count 10 = .ok (.getfield 12, 3) := by decide +kernel
theorem dX3_count_13 : decode cX3_count 13 = .ok (.iload_n 1, 1) := by decide +kernel
theorem dX3_count_14 : decode cX3_count 14 = .ok (.iload_n 2, 1) := by decide +kernel
theorem dX3_count_15 : decode cX3_count 15 = .ok (.invokevirtual 105, 3) := by decide +kernel
theorem dX3_count_18 : decode cX3_count 18 = .ok (.ireturn, 1) := by decide +kernel
set_option maxRecDepth 20000 in
theorem ggX3_value_X3_checkArgument : GoodIn wsX3_value wsX3_checkArgument := goodIn_ca (goodIn_r _ [5, 6, 7] (by decide +kernel) (by decide +kernel)) (goodIn_sub (fun _ h => List.mem_cons_of_mem _ (List.mem_append_right _ h)) (by decide +kernel))
set_option maxRecDepth 20000 in
theorem gX3_value_X3_checkArgument : GoodIn wsX3_value (va_wsS RX3 30 yX3_checkArgument wsX3_checkArgument) := goodIn_app (goodIn_of _ (by decide +kernel)) ggX3_value_X3_checkArgument
set_option maxRecDepth 20000 in
theorem ggX3_value_X2_aboutAll : GoodIn wsX3_value wsX2_aboutAll := goodIn_r _ [12, 13, 14, 15, 16, 17, 18, 11, 19, 20, 21, 22, 23, 24, 25, 26, 27, 28, 29, 30, 31, 32, 33, 34, 35, 36, 37, 38, 39, 40, 41, 42, 43, 44, 45, 46, 47, 48, 49, 50, 51, 52, 53, 54, 55, 56, 57, 58, 59, 60, 61, 62, 63, 64, 65, 66, 67, 68, 69, 70, 71, 72, 73, 74, 75, 76, 77, 78, 79, 83, 84, 85, 86, 87, 88, 89, 90, 91, 92, 93, 94, 95] (by decide +kernel) (by decide +kernel)
set_option maxRecDepth 20000 in
theorem gX3_value_X2_aboutAll : GoodIn wsX3_value (wsV RX3 108 RX2 yX2_aboutAll wsX2_aboutAll) := goodIn_app (goodIn_of _ (by decide +kernel)) ggX3_value_X2_aboutAll
theorem dX3_value_0 : decode cX3_value 0 = .ok (.iload_n 1, 1) := by decide +kernel
theorem dX3_value_1 : decode cX3_value 1 = .ok (.iconst 0, 1) := by decide +kernel
theorem dX3_value_2 : decode cX3_value 2 = .ok (.bipush 9, 2) := by decide +kernel
theorem dX3_value_4 : decode cX3_value 4 = .ok (.invokestatic 30, 3) := by decide +kernel
theorem dX3_value_7 : decode cX3_value 7 = .ok (.aload_n 0, 1) := by decide +kernel
theorem dX3_value_8 : decode cX3_value 8 = .ok (.getfield 12, 3) := by decide +kernel
theorem dX3_value_11 : decode cX3_value 11 = .ok (.iload_n 1, 1) := by decide +kernel
theorem dX3_value_12 : decode cX3_value 12 = .ok (.invokevirtual 108, 3) := by decide +kernel
theorem dX3_value_15 : decode cX3_value 15 = .ok (.ireturn, 1) := by decide +kernel
set_option maxRecDepth 20000 in
theorem ggX3_where_X3_checkKind : GoodIn wsX3_where wsX3_checkKind := goodIn_ca (goodIn_r _ [6, 7, 8, 1, 9, 51, 52, 53, 54, 55, 56, 57, 58, 59, 60, 61, 62, 63, 64, 65, 66] (by decide +kernel) (by decide +kernel)) (goodIn_sub (fun _ h => List.mem_cons_of_mem _ (List.mem_append_left _ (List.mem_append_right _ h))) (by decide +kernel))
set_option maxRecDepth 20000 in
theorem gX3_where_X3_checkKind : GoodIn wsX3_where (wsV RX3 53 RX3 yX3_checkKind wsX3_checkKind) := goodIn_app (goodIn_of _ (by decide +kernel)) ggX3_where_X3_checkKind
set_option maxRecDepth 20000 in
theorem ggX3_where_X3_checkArgument : GoodIn wsX3_where wsX3_checkArgument := goodIn_ca (goodIn_r _ [12, 13, 14] (by decide +kernel) (by decide +kernel)) (goodIn_sub (fun _ h => List.mem_cons_of_mem _ (List.mem_append_right _ h)) (by decide +kernel))
set_option maxRecDepth 20000 in
theorem gX3_where_X3_checkArgument : GoodIn wsX3_where (va_wsS RX3 30 yX3_checkArgument wsX3_checkArgument) := goodIn_app (goodIn_of _ (by decide +kernel)) ggX3_where_X3_checkArgument
set_option maxRecDepth 20000 in
theorem ggX3_where_X2_placeFor : GoodIn wsX3_where wsX2_placeFor := goodIn_r _ [19, 20, 21, 22, 23, 18, 24, 25, 26, 27, 28, 29, 30, 31, 32, 33, 34, 35, 36, 37, 38, 39, 40, 41, 42, 43, 44, 45, 46, 47, 48, 49, 50, 54, 55, 56, 57, 58, 59, 60, 61, 62, 63, 64, 65, 66] (by decide +kernel) (by decide +kernel)
set_option maxRecDepth 20000 in
theorem gX3_where_X2_placeFor : GoodIn wsX3_where (wsV RX3 111 RX2 yX2_placeFor wsX2_placeFor) := goodIn_app (goodIn_of _ (by decide +kernel)) ggX3_where_X2_placeFor
theorem dX3_where_0 : decode cX3_where 0 = .ok (.aload_n 0, 1) := by decide +kernel
theorem dX3_where_1 : decode cX3_where 1 = .ok (.iload_n 1, 1) := by decide +kernel
theorem dX3_where_2 : decode cX3_where 2 = .ok (.invokevirtual 53, 3) := by decide +kernel
theorem dX3_where_5 : decode cX3_where 5 = .ok (.iload_n 2, 1) := by decide +kernel
theorem dX3_where_6 : decode cX3_where 6 = .ok (.iconst 0, 1) := by decide +kernel
theorem dX3_where_7 : decode cX3_where 7 = .ok (.sipush 999, 3) := by decide +kernel
theorem dX3_where_10 : decode cX3_where 10 = .ok (.invokestatic 30, 3) := by decide +kernel
theorem dX3_where_13 : decode cX3_where 13 = .ok (.aload_n 0, 1) := by decide +kernel
theorem dX3_where_14 : decode cX3_where 14 = .ok (.getfield 12, 3) := by decide +kernel
theorem dX3_where_17 : decode cX3_where 17 = .ok (.iload_n 1, 1) := by decide +kernel
theorem dX3_where_18 : decode cX3_where 18 = .ok (.iload_n 2, 1) := by decide +kernel
theorem dX3_where_19 : decode cX3_where 19 = .ok (.invokevirtual 111, 3) := by decide +kernel
theorem dX3_where_22 : decode cX3_where 22 = .ok (.ireturn, 1) := by decide +kernel
set_option maxRecDepth 20000 in
theorem ggX3_mostWear_X3_checkKind : GoodIn wsX3_mostWear wsX3_checkKind := goodIn_ca (goodIn_r _ [6, 7, 8, 1, 9, 55, 56, 57, 58, 59, 60, 61, 62, 63, 64, 65, 66, 67, 68, 69, 70] (by decide +kernel) (by decide +kernel)) (goodIn_sub (fun _ h => List.mem_cons_of_mem _ (List.mem_append_right _ h)) (by decide +kernel))
set_option maxRecDepth 20000 in
theorem gX3_mostWear_X3_checkKind : GoodIn wsX3_mostWear (wsV RX3 53 RX3 yX3_checkKind wsX3_checkKind) := goodIn_app (goodIn_of _ (by decide +kernel)) ggX3_mostWear_X3_checkKind
set_option maxRecDepth 20000 in
theorem ggX3_mostWear_X2_mostFittingWear : GoodIn wsX3_mostWear wsX2_mostFittingWear := goodIn_r _ [14, 15, 16, 17, 13, 18, 19, 20, 21, 22, 23, 24, 25, 26, 27, 28, 29, 30, 31, 32, 33, 34, 35, 36, 37, 38, 39, 40, 41, 42, 43, 44, 45, 46, 47, 48, 49, 50, 51, 52, 53, 54, 58, 59, 60, 61, 62, 63, 64, 65, 66, 67, 68, 69, 70] (by decide +kernel) (by decide +kernel)
set_option maxRecDepth 20000 in
theorem gX3_mostWear_X2_mostFittingWear : GoodIn wsX3_mostWear (wsV RX3 114 RX2 yX2_mostFittingWear wsX2_mostFittingWear) := goodIn_app (goodIn_of _ (by decide +kernel)) ggX3_mostWear_X2_mostFittingWear
theorem dX3_mostWear_0 : decode cX3_mostWear 0 = .ok (.aload_n 0, 1) := by decide +kernel
theorem dX3_mostWear_1 : decode cX3_mostWear 1 = .ok (.iload_n 1, 1) := by decide +kernel
theorem dX3_mostWear_2 : decode cX3_mostWear 2 = .ok (.invokevirtual 53, 3) := by decide +kernel
theorem dX3_mostWear_5 : decode cX3_mostWear 5 = .ok (.aload_n 0, 1) := by decide +kernel
theorem dX3_mostWear_6 : decode cX3_mostWear 6 = .ok (.getfield 12, 3) := by decide +kernel
theorem dX3_mostWear_9 : decode cX3_mostWear 9 = .ok (.iload_n 1, 1) := by decide +kernel
theorem dX3_mostWear_10 : decode cX3_mostWear 10 = .ok (.invokevirtual 114, 3) := by decide +kernel
theorem dX3_mostWear_13 : decode cX3_mostWear 13 = .ok (.ireturn, 1) := by decide +kernel
set_option maxRecDepth 20000 in
theorem ggX3_bestGap_X3_checkRail : GoodIn wsX3_bestGap wsX3_checkRail := goodIn_ca (goodIn_r _ [5, 6, 7, 8, 9, 4, 10] (by decide +kernel) (by decide +kernel)) (goodIn_sub (fun _ h => List.mem_cons_of_mem _ (List.mem_append_right _ h)) (by decide +kernel))
set_option maxRecDepth 20000 in
theorem gX3_bestGap_X3_checkRail : GoodIn wsX3_bestGap (va_wsS RX3 61 yX3_checkRail wsX3_checkRail) := goodIn_app (goodIn_of _ (by decide +kernel)) ggX3_bestGap_X3_checkRail
set_option maxRecDepth 20000 in
theorem ggX3_bestGap_X2_leastSortingGap : GoodIn wsX3_bestGap wsX2_leastSortingGap := goodIn_r _ [15, 16, 17, 18, 19, 20, 21, 22, 23, 24, 25, 29, 30, 31, 32, 33, 34, 35, 36, 37, 38, 39, 40, 41] (by decide +kernel) (by decide +kernel)
set_option maxRecDepth 20000 in
theorem gX3_bestGap_X2_leastSortingGap : GoodIn wsX3_bestGap (wsV RX3 117 RX2 yX2_leastSortingGap wsX2_leastSortingGap) := goodIn_app (goodIn_of _ (by decide +kernel)) ggX3_bestGap_X2_leastSortingGap
theorem dX3_bestGap_0 : decode cX3_bestGap 0 = .ok (.iload_n 1, 1) := by decide +kernel
theorem dX3_bestGap_1 : decode cX3_bestGap 1 = .ok (.invokestatic 61, 3) := by decide +kernel
theorem dX3_bestGap_4 : decode cX3_bestGap 4 = .ok (.aload_n 0, 1) := by decide +kernel
theorem dX3_bestGap_5 : decode cX3_bestGap 5 = .ok (.getfield 12, 3) := by decide +kernel
theorem dX3_bestGap_8 : decode cX3_bestGap 8 = .ok (.iload_n 1, 1) := by decide +kernel
theorem dX3_bestGap_9 : decode cX3_bestGap 9 = .ok (.invokevirtual 117, 3) := by decide +kernel
theorem dX3_bestGap_12 : decode cX3_bestGap 12 = .ok (.ireturn, 1) := by decide +kernel
set_option maxRecDepth 20000 in
theorem ggX3_supply_X3_checkKind : GoodIn wsX3_supply wsX3_checkKind := goodIn_ca (goodIn_r _ [6, 7, 8, 1, 9, 55, 56, 57, 58, 59, 60, 61, 62, 63, 64, 65, 66, 67, 68, 69, 70] (by decide +kernel) (by decide +kernel)) (goodIn_sub (fun _ h => List.mem_cons_of_mem _ (List.mem_append_right _ h)) (by decide +kernel))
set_option maxRecDepth 20000 in
theorem gX3_supply_X3_checkKind : GoodIn wsX3_supply (wsV RX3 53 RX3 yX3_checkKind wsX3_checkKind) := goodIn_app (goodIn_of _ (by decide +kernel)) ggX3_supply_X3_checkKind
set_option maxRecDepth 20000 in
theorem ggX3_supply_X2_coinsUntilAstray : GoodIn wsX3_supply wsX2_coinsUntilAstray := goodIn_r _ [14, 15, 16, 17, 18, 13, 19, 20, 21, 22, 23, 24, 25, 26, 27, 28, 29, 30, 31, 32, 33, 34, 35, 36, 37, 38, 39, 40, 41, 42, 43, 44, 45, 46, 47, 48, 49, 50, 51, 52, 53, 54, 58, 59, 60, 61, 62, 63, 64, 65, 66, 67, 68, 69, 70] (by decide +kernel) (by decide +kernel)
set_option maxRecDepth 20000 in
theorem gX3_supply_X2_coinsUntilAstray : GoodIn wsX3_supply (wsV RX3 120 RX2 yX2_coinsUntilAstray wsX2_coinsUntilAstray) := goodIn_app (goodIn_of _ (by decide +kernel)) ggX3_supply_X2_coinsUntilAstray
theorem dX3_supply_0 : decode cX3_supply 0 = .ok (.aload_n 0, 1) := by decide +kernel
theorem dX3_supply_1 : decode cX3_supply 1 = .ok (.iload_n 1, 1) := by decide +kernel
theorem dX3_supply_2 : decode cX3_supply 2 = .ok (.invokevirtual 53, 3) := by decide +kernel
theorem dX3_supply_5 : decode cX3_supply 5 = .ok (.aload_n 0, 1) := by decide +kernel
theorem dX3_supply_6 : decode cX3_supply 6 = .ok (.getfield 12, 3) := by decide +kernel
theorem dX3_supply_9 : decode cX3_supply 9 = .ok (.iload_n 1, 1) := by decide +kernel
theorem dX3_supply_10 : decode cX3_supply 10 = .ok (.invokevirtual 120, 3) := by decide +kernel
theorem dX3_supply_13 : decode cX3_supply 13 = .ok (.ireturn, 1) := by decide +kernel
set_option maxRecDepth 20000 in
theorem ggX3_right_X2_coinsInBags : GoodIn wsX3_right wsX2_coinsInBags := goodIn_r _ [6, 7, 8, 9, 5, 10, 28, 29, 30, 31, 32, 33, 34, 35, 36, 37, 38, 39, 40] (by decide +kernel) (by decide +kernel)
set_option maxRecDepth 20000 in
theorem gX3_right_X2_coinsInBags : GoodIn wsX3_right (wsV RX3 126 RX2 yX2_coinsInBags wsX2_coinsInBags) := goodIn_app (goodIn_of _ (by decide +kernel)) ggX3_right_X2_coinsInBags
set_option maxRecDepth 20000 in
theorem ggX3_right_X2_misfits : GoodIn wsX3_right wsX2_misfits := goodIn_r _ [14, 15, 16, 17, 5, 18, 19, 20, 21, 22, 23, 24, 7, 28, 29, 30, 31, 32, 33, 34, 35, 36, 37, 38, 39, 40] (by decide +kernel) (by decide +kernel)
set_option maxRecDepth 20000 in
theorem gX3_right_X2_misfits : GoodIn wsX3_right (wsV RX3 129 RX2 yX2_misfits wsX2_misfits) := goodIn_app (goodIn_of _ (by decide +kernel)) ggX3_right_X2_misfits
theorem dX3_right_0 : decode cX3_right 0 = .ok (.aload_n 0, 1) := by decide +kernel
theorem dX3_right_1 : decode cX3_right 1 = .ok (.getfield 12, 3) := by decide +kernel
theorem dX3_right_4 : decode cX3_right 4 = .ok (.invokevirtual 126, 3) := by decide +kernel
theorem dX3_right_7 : decode cX3_right 7 = .ok (.istore_n 1, 1) := by decide +kernel
theorem dX3_right_8 : decode cX3_right 8 = .ok (.iload_n 1, 1) := by decide +kernel
theorem dX3_right_9 : decode cX3_right 9 = .ok (.ifCond .ne 5, 3) := by decide +kernel
theorem dX3_right_12 : decode cX3_right 12 = .ok (.dconst 1, 1) := by decide +kernel
theorem dX3_right_13 : decode cX3_right 13 = .ok (.dreturn, 1) := by decide +kernel
theorem dX3_right_14 : decode cX3_right 14 = .ok (.iload_n 1, 1) := by decide +kernel
theorem dX3_right_15 : decode cX3_right 15 = .ok (.aload_n 0, 1) := by decide +kernel
theorem dX3_right_16 : decode cX3_right 16 = .ok (.getfield 12, 3) := by decide +kernel
theorem dX3_right_19 : decode cX3_right 19 = .ok (.invokevirtual 129, 3) := by decide +kernel
theorem dX3_right_22 : decode cX3_right 22 = .ok (.isub, 1) := by decide +kernel
theorem dX3_right_23 : decode cX3_right 23 = .ok (.i2d, 1) := by decide +kernel
theorem dX3_right_24 : decode cX3_right 24 = .ok (.iload_n 1, 1) := by decide +kernel
theorem dX3_right_25 : decode cX3_right 25 = .ok (.i2d, 1) := by decide +kernel
theorem dX3_right_26 : decode cX3_right 26 = .ok (.ddiv, 1) := by decide +kernel
theorem dX3_right_27 : decode cX3_right 27 = .ok (.dreturn, 1) := by decide +kernel
set_option maxRecDepth 20000 in
theorem ggX3_undo_X1_restore : GoodIn wsX3_undo wsX1_restore := goodIn_r _ [10, 11, 12, 13, 14, 15, 16, 17, 18, 19, 20, 21, 22, 23, 24, 25, 26, 27, 28, 29, 30, 31, 32, 33, 34, 35, 39, 40, 41, 42, 43, 44, 45, 46, 47, 48, 49, 50, 51, 52, 53, 54] (by decide +kernel) (by decide +kernel)
set_option maxRecDepth 20000 in
theorem gX3_undo_X1_restore : GoodIn wsX3_undo (wsV RX3 160 RX1 yX1_restore wsX1_restore) := goodIn_app (goodIn_of _ (by decide +kernel)) ggX3_undo_X1_restore
theorem dX3_undo_0 : decode cX3_undo 0 = .ok (.aload_n 0, 1) := by decide +kernel
theorem dX3_undo_1 : decode cX3_undo 1 = .ok (.getfield 19, 3) := by decide +kernel
theorem dX3_undo_4 : decode cX3_undo 4 = .ok (.getfield 155, 3) := by decide +kernel
theorem dX3_undo_7 : decode cX3_undo 7 = .ok (.ifCond .ne 13, 3) := by decide +kernel
theorem dX3_undo_10 : decode cX3_undo 10 = .ok (.new 38, 3) := by decide +kernel
theorem dX3_undo_13 : decode cX3_undo 13 = .ok (.dup, 1) := by decide +kernel
theorem dX3_undo_14 : decode cX3_undo 14 = .ok (.ldc 158, 2) := by decide +kernel
theorem dX3_undo_16 : decode cX3_undo 16 = .ok (.invokespecial 42, 3) := by decide +kernel
theorem dX3_undo_19 : decode cX3_undo 19 = .ok (.athrow, 1) := by decide +kernel
theorem dX3_undo_20 : decode cX3_undo 20 = .ok (.aload_n 0, 1) := by decide +kernel
theorem dX3_undo_21 : decode cX3_undo 21 = .ok (.getfield 19, 3) := by decide +kernel
theorem dX3_undo_24 : decode cX3_undo 24 = .ok (.aload_n 0, 1) := by decide +kernel
theorem dX3_undo_25 : decode cX3_undo 25 = .ok (.getfield 12, 3) := by decide +kernel
theorem dX3_undo_28 : decode cX3_undo 28 = .ok (.invokevirtual 160, 3) := by decide +kernel
theorem dX3_undo_31 : decode cX3_undo 31 = .ok (.ireturn, 1) := by decide +kernel
theorem dX3_checkKind_0 : decode cX3_checkKind 0 = .ok (.iload_n 1, 1) := by decide +kernel
theorem dX3_checkKind_1 : decode cX3_checkKind 1 = .ok (.ifCond .lt 14, 3) := by decide +kernel
theorem dX3_checkKind_4 : decode cX3_checkKind 4 = .ok (.iload_n 1, 1) := by decide +kernel
theorem dX3_checkKind_5 : decode cX3_checkKind 5 = .ok (.aload_n 0, 1) := by decide +kernel
theorem dX3_checkKind_6 : decode cX3_checkKind 6 = .ok (.getfield 12, 3) := by decide +kernel
theorem dX3_checkKind_9 : decode cX3_checkKind 9 = .ok (.getfield 34, 3) := by decide +kernel
theorem dX3_checkKind_12 : decode cX3_checkKind 12 = .ok (.if_icmp .lt 13, 3) := by decide +kernel
theorem dX3_checkKind_15 : decode cX3_checkKind 15 = .ok (.new 175, 3) := by decide +kernel
theorem dX3_checkKind_18 : decode cX3_checkKind 18 = .ok (.dup, 1) := by decide +kernel
theorem dX3_checkKind_19 : decode cX3_checkKind 19 = .ok (.ldc 177, 2) := by decide +kernel
theorem dX3_checkKind_21 : decode cX3_checkKind 21 = .ok (.invokespecial 179, 3) := by decide +kernel
theorem dX3_checkKind_24 : decode cX3_checkKind 24 = .ok (.athrow, 1) := by decide +kernel
theorem dX3_checkKind_25 : decode cX3_checkKind 25 = .ok (.return_, 1) := by decide +kernel
set_option maxRecDepth 20000 in
theorem ggX3_checkRail_X3_isRail : GoodIn wsX3_checkRail wsX3_isRail := goodIn_r _ [6] (by decide +kernel) (by decide +kernel)
set_option maxRecDepth 20000 in
theorem gX3_checkRail_X3_isRail : GoodIn wsX3_checkRail (va_wsS RX3 152 yX3_isRail wsX3_isRail) := goodIn_app (goodIn_of _ (by decide +kernel)) ggX3_checkRail_X3_isRail
theorem dX3_checkRail_0 : decode cX3_checkRail 0 = .ok (.iload_n 0, 1) := by decide +kernel
theorem dX3_checkRail_1 : decode cX3_checkRail 1 = .ok (.invokestatic 152, 3) := by decide +kernel
theorem dX3_checkRail_4 : decode cX3_checkRail 4 = .ok (.ifCond .ne 13, 3) := by decide +kernel
theorem dX3_checkRail_7 : decode cX3_checkRail 7 = .ok (.new 175, 3) := by decide +kernel
theorem dX3_checkRail_10 : decode cX3_checkRail 10 = .ok (.dup, 1) := by decide +kernel
theorem dX3_checkRail_11 : decode cX3_checkRail 11 = .ok (.ldc 180, 2) := by decide +kernel
theorem dX3_checkRail_13 : decode cX3_checkRail 13 = .ok (.invokespecial 179, 3) := by decide +kernel
theorem dX3_checkRail_16 : decode cX3_checkRail 16 = .ok (.athrow, 1) := by decide +kernel
theorem dX3_checkRail_17 : decode cX3_checkRail 17 = .ok (.return_, 1) := by decide +kernel
theorem dX3_checkArgument_0 : decode cX3_checkArgument 0 = .ok (.iload_n 0, 1) := by decide +kernel
theorem dX3_checkArgument_1 : decode cX3_checkArgument 1 = .ok (.iload_n 1, 1) := by decide +kernel
theorem dX3_checkArgument_2 : decode cX3_checkArgument 2 = .ok (.if_icmp .lt 8, 3) := by decide +kernel
theorem dX3_checkArgument_5 : decode cX3_checkArgument 5 = .ok (.iload_n 0, 1) := by decide +kernel
theorem dX3_checkArgument_6 : decode cX3_checkArgument 6 = .ok (.iload_n 2, 1) := by decide +kernel
theorem dX3_checkArgument_7 : decode cX3_checkArgument 7 = .ok (.if_icmp .le 13, 3) := by decide +kernel
theorem dX3_checkArgument_10 : decode cX3_checkArgument 10 = .ok (.new 182, 3) := by decide +kernel
theorem dX3_checkArgument_13 : decode cX3_checkArgument 13 = .ok (.dup, 1) := by decide +kernel
theorem dX3_checkArgument_14 : decode cX3_checkArgument 14 = .ok (.ldc 184, 2) := by decide +kernel
theorem dX3_checkArgument_16 : decode cX3_checkArgument 16 = .ok (.invokespecial 186, 3) := by decide +kernel
theorem dX3_checkArgument_19 : decode cX3_checkArgument 19 = .ok (.athrow, 1) := by decide +kernel
theorem dX3_checkArgument_20 : decode cX3_checkArgument 20 = .ok (.return_, 1) := by decide +kernel
theorem dX3_isRail_0 : decode cX3_isRail 0 = .ok (.iload_n 0, 1) := by decide +kernel
theorem dX3_isRail_1 : decode cX3_isRail 1 = .ok (.ifCond .lt 13, 3) := by decide +kernel
theorem dX3_isRail_4 : decode cX3_isRail 4 = .ok (.iload_n 0, 1) := by decide +kernel
theorem dX3_isRail_5 : decode cX3_isRail 5 = .ok (.bipush 6, 2) := by decide +kernel
theorem dX3_isRail_7 : decode cX3_isRail 7 = .ok (.if_icmp .ge 7, 3) := by decide +kernel
theorem dX3_isRail_10 : decode cX3_isRail 10 = .ok (.iconst 1, 1) := by decide +kernel
theorem dX3_isRail_11 : decode cX3_isRail 11 = .ok (.goto 4, 3) := by decide +kernel
theorem dX3_isRail_14 : decode cX3_isRail 14 = .ok (.iconst 0, 1) := by decide +kernel
theorem dX3_isRail_15 : decode cX3_isRail 15 = .ok (.ireturn, 1) := by decide +kernel
theorem dJ9_max_7cf53_0 : decode cJ9_max_7cf53 0 = .ok (.iload_n 0, 1) := by decide +kernel
theorem dJ9_max_7cf53_1 : decode cJ9_max_7cf53 1 = .ok (.iload_n 1, 1) := by decide +kernel
theorem dJ9_max_7cf53_2 : decode cJ9_max_7cf53 2 = .ok (.if_icmp .lt 7, 3) := by decide +kernel
theorem dJ9_max_7cf53_5 : decode cJ9_max_7cf53 5 = .ok (.iload_n 0, 1) := by decide +kernel
theorem dJ9_max_7cf53_6 : decode cJ9_max_7cf53 6 = .ok (.goto 4, 3) := by decide +kernel
theorem dJ9_max_7cf53_9 : decode cJ9_max_7cf53 9 = .ok (.iload_n 1, 1) := by decide +kernel
theorem dJ9_max_7cf53_10 : decode cJ9_max_7cf53 10 = .ok (.ireturn, 1) := by decide +kernel
theorem dJ9_min_7cf53_0 : decode cJ9_min_7cf53 0 = .ok (.iload_n 0, 1) := by decide +kernel
theorem dJ9_min_7cf53_1 : decode cJ9_min_7cf53 1 = .ok (.iload_n 1, 1) := by decide +kernel
theorem dJ9_min_7cf53_2 : decode cJ9_min_7cf53 2 = .ok (.if_icmp .gt 7, 3) := by decide +kernel
theorem dJ9_min_7cf53_5 : decode cJ9_min_7cf53 5 = .ok (.iload_n 0, 1) := by decide +kernel
theorem dJ9_min_7cf53_6 : decode cJ9_min_7cf53 6 = .ok (.goto 4, 3) := by decide +kernel
theorem dJ9_min_7cf53_9 : decode cJ9_min_7cf53 9 = .ok (.iload_n 1, 1) := by decide +kernel
theorem dJ9_min_7cf53_10 : decode cJ9_min_7cf53 10 = .ok (.ireturn, 1) := by decide +kernel
theorem dL_cell_0 : decode cL_cell 0 = .ok (.iload_n 1, 1) := by decide +kernel
theorem dL_cell_1 : decode cL_cell 1 = .ok (.aload_n 0, 1) := by decide +kernel
theorem dL_cell_2 : decode cL_cell 2 = .ok (.arraylength, 1) := by decide +kernel
theorem dL_cell_3 : decode cL_cell 3 = .ok (.if_icmp .ge 9, 3) := by decide +kernel
theorem dL_cell_6 : decode cL_cell 6 = .ok (.aload_n 0, 1) := by decide +kernel
theorem dL_cell_7 : decode cL_cell 7 = .ok (.iload_n 1, 1) := by decide +kernel
theorem dL_cell_8 : decode cL_cell 8 = .ok (.iaload, 1) := by decide +kernel
theorem dL_cell_9 : decode cL_cell 9 = .ok (.goto 11, 3) := by decide +kernel
theorem dL_cell_12 : decode cL_cell 12 = .ok (.ldc 7, 2) := by decide +kernel
theorem dL_cell_14 : decode cL_cell 14 = .ok (.iload_n 1, 1) := by decide +kernel
theorem dL_cell_15 : decode cL_cell 15 = .ok (.sipush 631, 3) := by decide +kernel
theorem dL_cell_18 : decode cL_cell 18 = .ok (.iadd, 1) := by decide +kernel
theorem dL_cell_19 : decode cL_cell 19 = .ok (.imul, 1) := by decide +kernel
theorem dL_cell_20 : decode cL_cell 20 = .ok (.ireturn, 1) := by decide +kernel
theorem dL_up_0 : decode cL_up 0 = .ok (.iload_n 0, 1) := by decide +kernel
theorem dL_up_1 : decode cL_up 1 = .ok (.ldc 8, 2) := by decide +kernel
theorem dL_up_3 : decode cL_up 3 = .ok (.iand, 1) := by decide +kernel
theorem dL_up_4 : decode cL_up 4 = .ok (.iload_n 1, 1) := by decide +kernel
theorem dL_up_5 : decode cL_up 5 = .ok (.irem, 1) := by decide +kernel
theorem dL_up_6 : decode cL_up 6 = .ok (.ireturn, 1) := by decide +kernel
set_option maxRecDepth 20000 in
theorem ggL_kinds_L_cell : GoodIn wsL_kinds wsL_cell := goodIn_r _ [4, 5] (by decide +kernel) (by decide +kernel)
set_option maxRecDepth 20000 in
theorem gL_kinds_L_cell : GoodIn wsL_kinds (va_wsS RL 9 yL_cell wsL_cell) := goodIn_app (goodIn_of _ (by decide +kernel)) ggL_kinds_L_cell
set_option maxRecDepth 20000 in
theorem ggL_kinds_L_up : GoodIn wsL_kinds wsL_up := goodIn_r _ [8, 9] (by decide +kernel) (by decide +kernel)
set_option maxRecDepth 20000 in
theorem gL_kinds_L_up : GoodIn wsL_kinds (va_wsS RL 15 yL_up wsL_up) := goodIn_app (goodIn_of _ (by decide +kernel)) ggL_kinds_L_up
set_option maxRecDepth 20000 in
theorem ggL_kinds_X3_addKind : GoodIn wsL_kinds wsX3_addKind := goodIn_ca (goodIn_ca (goodIn_r _ [14, 15, 16, 17, 18, 19, 20, 21, 13, 22, 23, 24, 25, 26, 27, 28, 29, 30, 31, 32, 33, 34, 35, 36, 37, 38, 39, 40, 41, 42, 43, 44, 45, 46, 47, 48, 49, 50, 51, 52, 53, 54, 55, 56, 57, 58, 59, 60, 61, 62, 63, 64, 65, 66, 67, 68, 69, 70, 71, 72, 73, 74, 75, 76, 77, 78, 79, 80, 81] (by decide +kernel) (by decide +kernel)) (goodIn_sub (fun _ h => List.mem_cons_of_mem _ (List.mem_append_left _ (List.mem_append_right _ h))) (by decide +kernel))) (goodIn_sub (fun _ h => List.mem_cons_of_mem _ (List.mem_append_right _ h)) (by decide +kernel))
set_option maxRecDepth 20000 in
theorem gL_kinds_X3_addKind : GoodIn wsL_kinds (wsV RL 19 RX3 yX3_addKind wsX3_addKind) := goodIn_app (goodIn_of _ (by decide +kernel)) ggL_kinds_X3_addKind
theorem dL_kinds_0 : decode cL_kinds 0 = .ok (.iconst 1, 1) := by decide +kernel
theorem dL_kinds_1 : decode cL_kinds 1 = .ok (.istore_n 3, 1) := by decide +kernel
theorem dL_kinds_2 : decode cL_kinds 2 = .ok (.iconst 0, 1) := by decide +kernel
theorem dL_kinds_3 : decode cL_kinds 3 = .ok (.istore 4, 2) := by decide +kernel
theorem dL_kinds_5 : decode cL_kinds 5 = .ok (.iload 4, 2) := by decide +kernel
theorem dL_kinds_7 : decode cL_kinds 7 = .ok (.iconst 4, 1) := by decide +kernel
theorem dL_kinds_8 : decode cL_kinds 8 = .ok (.if_icmp .ge 109, 3) := by decide +kernel
theorem dL_kinds_11 : decode cL_kinds 11 = .ok (.aload_n 2, 1) := by decide +kernel
theorem dL_kinds_12 : decode cL_kinds 12 = .ok (.iload 4, 2) := by decide +kernel
theorem dL_kinds_14 : decode cL_kinds 14 = .ok (.invokestatic 9, 3) := by decide +kernel
theorem dL_kinds_17 : decode cL_kinds 17 = .ok (.istore 5, 2) := by decide +kernel
theorem dL_kinds_19 : decode cL_kinds 19 = .ok (.aload_n 2, 1) := by decide +kernel
theorem dL_kinds_20 : decode cL_kinds 20 = .ok (.iconst 3, 1) := by decide +kernel
theorem dL_kinds_21 : decode cL_kinds 21 = .ok (.iload 4, 2) := by decide +kernel
theorem dL_kinds_23 : decode cL_kinds 23 = .ok (.isub, 1) := by decide +kernel
theorem dL_kinds_24 : decode cL_kinds 24 = .ok (.invokestatic 9, 3) := by decide +kernel
theorem dL_kinds_27 : decode cL_kinds 27 = .ok (.istore 6, 2) := by decide +kernel
theorem dL_kinds_29 : decode cL_kinds 29 = .ok (.iload_n 3, 1) := by decide +kernel
theorem dL_kinds_30 : decode cL_kinds 30 = .ok (.ifCond .eq 79, 3) := by decide +kernel
theorem dL_kinds_33 : decode cL_kinds 33 = .ok (.aload_n 0, 1) := by decide +kernel
theorem dL_kinds_34 : decode cL_kinds 34 = .ok (.sipush 1200, 3) := by decide +kernel
theorem dL_kinds_37 : decode cL_kinds 37 = .ok (.iload 5, 2) := by decide +kernel
theorem dL_kinds_39 : decode cL_kinds 39 = .ok (.sipush 2800, 3) := by decide +kernel
theorem dL_kinds_42 : decode cL_kinds 42 = .ok (.invokestatic 15, 3) := by decide +kernel
theorem dL_kinds_45 : decode cL_kinds 45 = .ok (.iadd, 1) := by decide +kernel
theorem dL_kinds_46 : decode cL_kinds 46 = .ok (.iconst 1, 1) := by decide +kernel
theorem dL_kinds_47 : decode cL_kinds 47 = .ok (.iload 5, 2) := by decide +kernel
theorem dL_kinds_49 : decode cL_kinds 49 = .ok (.iconst 4, 1) := by decide +kernel
theorem dL_kinds_50 : decode cL_kinds 50 = .ok (.ishr, 1) := by decide +kernel
theorem dL_kinds_51 : decode cL_kinds 51 = .ok (.sipush 500, 3) := by decide +kernel
theorem dL_kinds_54 : decode cL_kinds 54 = .ok (.invokestatic 15, 3) := by decide +kernel
theorem dL_kinds_57 : decode cL_kinds 57 = .ok (.iadd, 1) := by decide +kernel
theorem dL_kinds_58 : decode cL_kinds 58 = .ok (.iload 4, 2) := by decide +kernel
theorem dL_kinds_60 : decode cL_kinds 60 = .ok (.invokevirtual 19, 3) := by decide +kernel
theorem dL_kinds_63 : decode cL_kinds 63 = .ok (.iload 4, 2) := by decide +kernel
theorem dL_kinds_65 : decode cL_kinds 65 = .ok (.if_icmp .ne 44, 3) := by decide +kernel
theorem dL_kinds_68 : decode cL_kinds 68 = .ok (.aload_n 1, 1) := by decide +kernel
theorem dL_kinds_69 : decode cL_kinds 69 = .ok (.sipush 1200, 3) := by decide +kernel
theorem dL_kinds_72 : decode cL_kinds 72 = .ok (.iload 6, 2) := by decide +kernel
theorem dL_kinds_74 : decode cL_kinds 74 = .ok (.sipush 2800, 3) := by decide +kernel
theorem dL_kinds_77 : decode cL_kinds 77 = .ok (.invokestatic 15, 3) := by decide +kernel
theorem dL_kinds_80 : decode cL_kinds 80 = .ok (.iadd, 1) := by decide +kernel
theorem dL_kinds_81 : decode cL_kinds 81 = .ok (.iconst 1, 1) := by decide +kernel
theorem dL_kinds_82 : decode cL_kinds 82 = .ok (.iload 6, 2) := by decide +kernel
theorem dL_kinds_84 : decode cL_kinds 84 = .ok (.iconst 4, 1) := by decide +kernel
theorem dL_kinds_85 : decode cL_kinds 85 = .ok (.ishr, 1) := by decide +kernel
theorem dL_kinds_86 : decode cL_kinds 86 = .ok (.sipush 500, 3) := by decide +kernel
theorem dL_kinds_89 : decode cL_kinds 89 = .ok (.invokestatic 15, 3) := by decide +kernel
theorem dL_kinds_92 : decode cL_kinds 92 = .ok (.iadd, 1) := by decide +kernel
theorem dL_kinds_93 : decode cL_kinds 93 = .ok (.iconst 3, 1) := by decide +kernel
theorem dL_kinds_94 : decode cL_kinds 94 = .ok (.iload 4, 2) := by decide +kernel
theorem dL_kinds_96 : decode cL_kinds 96 = .ok (.isub, 1) := by decide +kernel
theorem dL_kinds_97 : decode cL_kinds 97 = .ok (.invokevirtual 19, 3) := by decide +kernel
theorem dL_kinds_100 : decode cL_kinds 100 = .ok (.iload 4, 2) := by decide +kernel
theorem dL_kinds_102 : decode cL_kinds 102 = .ok (.if_icmp .ne 7, 3) := by decide +kernel
theorem dL_kinds_105 : decode cL_kinds 105 = .ok (.iconst 1, 1) := by decide +kernel
theorem dL_kinds_106 : decode cL_kinds 106 = .ok (.goto 4, 3) := by decide +kernel
theorem dL_kinds_109 : decode cL_kinds 109 = .ok (.iconst 0, 1) := by decide +kernel
theorem dL_kinds_110 : decode cL_kinds 110 = .ok (.istore_n 3, 1) := by decide +kernel
theorem dL_kinds_111 : decode cL_kinds 111 = .ok (.iinc 4 1, 3) := by decide +kernel
theorem dL_kinds_114 : decode cL_kinds 114 = .ok (.goto (-109), 3) := by decide +kernel
theorem dL_kinds_117 : decode cL_kinds 117 = .ok (.iload_n 3, 1) := by decide +kernel
theorem dL_kinds_118 : decode cL_kinds 118 = .ok (.ireturn, 1) := by decide +kernel
set_option maxRecDepth 20000 in
theorem ggL_isStep_L_up : GoodIn wsL_isStep wsL_up := goodIn_r _ [4, 5] (by decide +kernel) (by decide +kernel)
set_option maxRecDepth 20000 in
theorem gL_isStep_L_up : GoodIn wsL_isStep (va_wsS RL 15 yL_up wsL_up) := goodIn_app (goodIn_of _ (by decide +kernel)) ggL_isStep_L_up
set_option maxRecDepth 20000 in
theorem ggL_isStep_X3_kind : GoodIn wsL_isStep wsX3_kind := goodIn_ca (goodIn_ca (goodIn_r _ [10, 11, 12, 13, 14, 9, 15, 16, 17, 18, 19, 20, 21, 22, 23, 24, 25, 26, 27, 28, 29, 30, 31, 32, 33, 34, 35, 36, 37, 38, 39, 40, 41, 42, 43, 44, 45, 46, 47, 190, 191, 192, 193, 194, 195, 196, 197, 198, 199, 200, 201, 202, 203, 204, 205] (by decide +kernel) (by decide +kernel)) (goodIn_sub (fun _ h => List.mem_cons_of_mem _ (List.mem_append_left _ (List.mem_append_left _ (List.mem_append_right _ h)))) (by decide +kernel))) (goodIn_sub (fun _ h => List.mem_cons_of_mem _ (List.mem_append_left _ (List.mem_append_right _ h))) (by decide +kernel))
set_option maxRecDepth 20000 in
theorem gL_isStep_X3_kind : GoodIn wsL_isStep (wsV RL 25 RX3 yX3_kind wsX3_kind) := goodIn_app (goodIn_of _ (by decide +kernel)) ggL_isStep_X3_kind
set_option maxRecDepth 20000 in
theorem ggL_isStep_X3_rail : GoodIn wsL_isStep wsX3_rail := goodIn_ca (goodIn_ca (goodIn_r _ [51, 11, 52, 53, 9, 54, 16, 17, 55, 56, 57, 19, 20, 21, 22, 23, 58, 59, 60, 27, 61, 62, 63, 47, 64, 65, 66, 67, 68, 69, 42, 70, 71, 72, 73, 30, 74, 75, 76, 77, 78, 31, 79, 80, 81, 82, 38, 39, 40, 41, 83, 84, 85, 86, 190, 191, 192, 193, 194, 195, 196, 197, 198, 199, 200, 201, 202, 203, 204, 205] (by decide +kernel) (by decide +kernel)) (goodIn_sub (fun _ h => List.mem_cons_of_mem _ (List.mem_append_left _ (List.mem_append_left _ (List.mem_append_right _ h)))) (by decide +kernel))) (goodIn_sub (fun _ h => List.mem_cons_of_mem _ (List.mem_append_left _ (List.mem_append_right _ h))) (by decide +kernel))
set_option maxRecDepth 20000 in
theorem gL_isStep_X3_rail : GoodIn wsL_isStep (wsV RL 28 RX3 yX3_rail wsX3_rail) := goodIn_app (goodIn_of _ (by decide +kernel)) ggL_isStep_X3_rail
set_option maxRecDepth 20000 in
theorem ggL_isStep_X3_setGap : GoodIn wsL_isStep wsX3_setGap := goodIn_ca (goodIn_ca (goodIn_ca (goodIn_r _ [90, 91, 92, 11, 93, 94, 95, 52, 53, 9, 54, 16, 17, 55, 56, 57, 19, 20, 21, 22, 23, 96, 97, 98, 27, 99, 47, 100, 101, 102, 103, 104, 105, 106, 107, 108, 109, 110, 111, 112, 113, 114, 115, 78, 29, 116, 117, 118, 119, 30, 31, 33, 32, 62, 63, 64, 65, 42, 120, 190, 191, 192, 193, 194, 195, 196, 197, 198, 199, 200, 201, 202, 203, 204, 205, 206, 207, 208] (by decide +kernel) (by decide +kernel)) (goodIn_sub (fun _ h => List.mem_cons_of_mem _ (List.mem_append_right _ h)) (by decide +kernel))) (goodIn_sub (fun _ h => List.mem_cons_of_mem _ (List.mem_append_left _ (List.mem_append_left _ (List.mem_append_right _ h)))) (by decide +kernel))) (goodIn_sub (fun _ h => List.mem_cons_of_mem _ (List.mem_append_left _ (List.mem_append_right _ h))) (by decide +kernel))
set_option maxRecDepth 20000 in
theorem gL_isStep_X3_setGap : GoodIn wsL_isStep (wsV RL 31 RX3 yX3_setGap wsX3_setGap) := goodIn_app (goodIn_of _ (by decide +kernel)) ggL_isStep_X3_setGap
set_option maxRecDepth 20000 in
theorem ggL_isStep_X3_free : GoodIn wsL_isStep wsX3_free := goodIn_ca (goodIn_ca (goodIn_r _ [124, 91, 92, 11, 93, 52, 53, 9, 54, 16, 17, 55, 56, 57, 96, 97, 98, 27, 99, 47, 100, 101, 102, 103, 104, 105, 106, 107, 108, 109, 110, 111, 112, 113, 114, 115, 78, 29, 116, 117, 118, 119, 30, 31, 33, 32, 62, 63, 64, 65, 42, 120, 125, 126, 127, 128, 129, 130, 131, 132, 66, 67, 68, 69, 190, 191, 192, 193, 194, 195, 196, 197, 198, 199, 200, 201, 202, 203, 204, 205, 206, 207, 208] (by decide +kernel) (by decide +kernel)) (goodIn_sub (fun _ h => List.mem_cons_of_mem _ (List.mem_append_right _ h)) (by decide +kernel))) (goodIn_sub (fun _ h => List.mem_cons_of_mem _ (List.mem_append_left _ (List.mem_append_left _ (List.mem_append_right _ h)))) (by decide +kernel))
set_option maxRecDepth 20000 in
theorem gL_isStep_X3_free : GoodIn wsL_isStep (wsV RL 34 RX3 yX3_free wsX3_free) := goodIn_app (goodIn_of _ (by decide +kernel)) ggL_isStep_X3_free
set_option maxRecDepth 20000 in
theorem ggL_isStep_X3_takeBag : GoodIn wsL_isStep wsX3_takeBag := goodIn_ca (goodIn_r _ [136, 93, 11, 52, 53, 9, 54, 16, 17, 55, 56, 57, 100, 101, 102, 103, 104, 105, 106, 107, 108, 109, 110, 111, 112, 113, 114, 27, 115, 78, 29, 116, 117, 118, 119, 30, 31, 33, 32, 62, 63, 47, 64, 65, 42, 120, 137, 138, 139, 140, 66, 67, 68, 69, 190, 191, 192, 206, 207, 208, 193, 194, 195, 196, 197, 198, 199, 200, 201, 202, 203, 204, 205] (by decide +kernel) (by decide +kernel)) (goodIn_sub (fun _ h => List.mem_cons_of_mem _ (List.mem_append_left _ (List.mem_append_left _ (List.mem_append_right _ h)))) (by decide +kernel))
set_option maxRecDepth 20000 in
theorem gL_isStep_X3_takeBag : GoodIn wsL_isStep (wsV RL 38 RX3 yX3_takeBag wsX3_takeBag) := goodIn_app (goodIn_of _ (by decide +kernel)) ggL_isStep_X3_takeBag
set_option maxRecDepth 20000 in
theorem ggL_isStep_X3_takeRejects : GoodIn wsL_isStep wsX3_takeRejects := goodIn_r _ [144, 93, 11, 100, 101, 102, 103, 104, 105, 106, 107, 108, 109, 110, 111, 112, 113, 114, 27, 115, 78, 29, 116, 117, 118, 119, 30, 31, 33, 32, 62, 63, 47, 64, 65, 42, 120, 145, 146, 147, 148, 149, 150, 151, 190, 191, 192, 206, 207, 208, 193, 194, 195, 196, 197, 198, 199, 200, 201, 202, 203, 204, 205] (by decide +kernel) (by decide +kernel)
set_option maxRecDepth 20000 in
theorem gL_isStep_X3_takeRejects : GoodIn wsL_isStep (wsV RL 41 RX3 yX3_takeRejects wsX3_takeRejects) := goodIn_app (goodIn_of _ (by decide +kernel)) ggL_isStep_X3_takeRejects
set_option maxRecDepth 20000 in
theorem ggL_isStep_X3_where : GoodIn wsL_isStep wsX3_where := goodIn_ca (goodIn_ca (goodIn_r _ [155, 11, 12, 13, 14, 9, 15, 16, 17, 18, 19, 20, 21, 22, 23, 156, 157, 158, 27, 159, 62, 160, 161, 162, 163, 164, 109, 110, 111, 165, 166, 167, 168, 29, 169, 170, 171, 172, 97, 98, 99, 47, 129, 130, 131, 132, 66, 67, 68, 69, 42, 190, 191, 192, 193, 194, 195, 196, 197, 198, 199, 200, 201, 202, 203, 204, 205] (by decide +kernel) (by decide +kernel)) (goodIn_sub (fun _ h => List.mem_cons_of_mem _ (List.mem_append_left _ (List.mem_append_left _ (List.mem_append_right _ h)))) (by decide +kernel))) (goodIn_sub (fun _ h => List.mem_cons_of_mem _ (List.mem_append_left _ (List.mem_append_right _ h))) (by decide +kernel))
set_option maxRecDepth 20000 in
theorem gL_isStep_X3_where : GoodIn wsL_isStep (wsV RL 45 RX3 yX3_where wsX3_where) := goodIn_app (goodIn_of _ (by decide +kernel)) ggL_isStep_X3_where
set_option maxRecDepth 20000 in
theorem ggL_isStep_X3_feed : GoodIn wsL_isStep wsX3_feed := goodIn_ca (goodIn_ca (goodIn_r _ [176, 93, 11, 12, 13, 14, 9, 15, 16, 17, 18, 19, 20, 21, 22, 23, 100, 101, 102, 103, 104, 105, 106, 107, 108, 109, 110, 111, 112, 113, 114, 27, 115, 78, 29, 116, 117, 118, 119, 30, 31, 33, 32, 62, 63, 47, 64, 65, 42, 120, 177, 178, 179, 180, 181, 157, 158, 159, 160, 161, 162, 163, 164, 165, 166, 167, 168, 169, 170, 171, 172, 97, 98, 99, 129, 130, 131, 132, 66, 67, 68, 69, 182, 183, 184, 185, 186, 187, 188, 189, 190, 191, 192, 193, 194, 195, 196, 197, 198, 199, 200, 201, 202, 203, 204, 205, 206, 207, 208] (by decide +kernel) (by decide +kernel)) (goodIn_sub (fun _ h => List.mem_cons_of_mem _ (List.mem_append_left _ (List.mem_append_left _ (List.mem_append_right _ h)))) (by decide +kernel))) (goodIn_sub (fun _ h => List.mem_cons_of_mem _ (List.mem_append_left _ (List.mem_append_right _ h))) (by decide +kernel))
set_option maxRecDepth 20000 in
theorem gL_isStep_X3_feed : GoodIn wsL_isStep (wsV RL 48 RX3 yX3_feed wsX3_feed) := goodIn_app (goodIn_of _ (by decide +kernel)) ggL_isStep_X3_feed
theorem dL_isStep_0 : decode cL_isStep 0 = .ok (.iload_n 2, 1) := by decide +kernel
theorem dL_isStep_1 : decode cL_isStep 1 = .ok (.iconst 4, 1) := by decide +kernel
theorem dL_isStep_2 : decode cL_isStep 2 = .ok (.ishr, 1) := by decide +kernel
theorem dL_isStep_3 : decode cL_isStep 3 = .ok (.istore_n 3, 1) := by decide +kernel
theorem dL_isStep_4 : decode cL_isStep 4 = .ok (.iload_n 3, 1) := by decide +kernel
theorem dL_isStep_5 : decode cL_isStep 5 = .ok (.bipush 6, 2) := by decide +kernel
theorem dL_isStep_7 : decode cL_isStep 7 = .ok (.invokestatic 15, 3) := by decide +kernel
theorem dL_isStep_10 : decode cL_isStep 10 = .ok (.istore 4, 2) := by decide +kernel
theorem dL_isStep_12 : decode cL_isStep 12 = .ok (.iload_n 3, 1) := by decide +kernel
theorem dL_isStep_13 : decode cL_isStep 13 = .ok (.iconst 3, 1) := by decide +kernel
theorem dL_isStep_14 : decode cL_isStep 14 = .ok (.ishr, 1) := by decide +kernel
end
section
theorem dL_isStep_15 : decode cL_isStep 15 = .ok (.iconst 3, 1) := by decide +kernel
theorem dL_isStep_16 : decode cL_isStep 16 = .ok (.iand, 1) := by decide +kernel
theorem dL_isStep_17 : decode cL_isStep 17 = .ok (.istore 5, 2) := by decide +kernel
theorem dL_isStep_19 : decode cL_isStep 19 = .ok (.iload_n 2, 1) := by decide +kernel
theorem dL_isStep_20 : decode cL_isStep 20 = .ok (.bipush 14, 2) := by decide +kernel
theorem dL_isStep_22 : decode cL_isStep 22 = .ok (.invokestatic 15, 3) := by decide +kernel
theorem dL_isStep_25 : decode cL_isStep 25 = .ok (.tableswitch 225 0 4 #[35, 35, 136, 187, 208], 35) := by decide +kernel
theorem dL_isStep_60 : decode cL_isStep 60 = .ok (.iload_n 3, 1) := by decide +kernel
theorem dL_isStep_61 : decode cL_isStep 61 = .ok (.iconst 5, 1) := by decide +kernel
theorem dL_isStep_62 : decode cL_isStep 62 = .ok (.ishr, 1) := by decide +kernel
theorem dL_isStep_63 : decode cL_isStep 63 = .ok (.iconst 2, 1) := by decide +kernel
theorem dL_isStep_64 : decode cL_isStep 64 = .ok (.invokestatic 15, 3) := by decide +kernel
theorem dL_isStep_67 : decode cL_isStep 67 = .ok (.ifCond .ne 25, 3) := by decide +kernel
theorem dL_isStep_70 : decode cL_isStep 70 = .ok (.aload_n 0, 1) := by decide +kernel
theorem dL_isStep_71 : decode cL_isStep 71 = .ok (.iload 5, 2) := by decide +kernel
theorem dL_isStep_73 : decode cL_isStep 73 = .ok (.iconst 0, 1) := by decide +kernel
theorem dL_isStep_74 : decode cL_isStep 74 = .ok (.invokevirtual 25, 3) := by decide +kernel
theorem dL_isStep_77 : decode cL_isStep 77 = .ok (.iload_n 3, 1) := by decide +kernel
theorem dL_isStep_78 : decode cL_isStep 78 = .ok (.bipush 7, 2) := by decide +kernel
theorem dL_isStep_80 : decode cL_isStep 80 = .ok (.ishr, 1) := by decide +kernel
theorem dL_isStep_81 : decode cL_isStep 81 = .ok (.bipush 12, 2) := by decide +kernel
theorem dL_isStep_83 : decode cL_isStep 83 = .ok (.invokestatic 15, 3) := by decide +kernel
theorem dL_isStep_86 : decode cL_isStep 86 = .ok (.iadd, 1) := by decide +kernel
theorem dL_isStep_87 : decode cL_isStep 87 = .ok (.iconst 2, 1) := by decide +kernel
theorem dL_isStep_88 : decode cL_isStep 88 = .ok (.isub, 1) := by decide +kernel
theorem dL_isStep_89 : decode cL_isStep 89 = .ok (.goto 17, 3) := by decide +kernel
theorem dL_isStep_92 : decode cL_isStep 92 = .ok (.sipush 900, 3) := by decide +kernel
theorem dL_isStep_95 : decode cL_isStep 95 = .ok (.iload_n 3, 1) := by decide +kernel
theorem dL_isStep_96 : decode cL_isStep 96 = .ok (.bipush 7, 2) := by decide +kernel
theorem dL_isStep_98 : decode cL_isStep 98 = .ok (.ishr, 1) := by decide +kernel
theorem dL_isStep_99 : decode cL_isStep 99 = .ok (.sipush 3201, 3) := by decide +kernel
theorem dL_isStep_102 : decode cL_isStep 102 = .ok (.invokestatic 15, 3) := by decide +kernel
theorem dL_isStep_105 : decode cL_isStep 105 = .ok (.iadd, 1) := by decide +kernel
theorem dL_isStep_106 : decode cL_isStep 106 = .ok (.istore 6, 2) := by decide +kernel
theorem dL_isStep_108 : decode cL_isStep 108 = .ok (.iload 6, 2) := by decide +kernel
theorem dL_isStep_110 : decode cL_isStep 110 = .ok (.sipush 4100, 3) := by decide +kernel
theorem dL_isStep_113 : decode cL_isStep 113 = .ok (.if_icmp .le 9, 3) := by decide +kernel
theorem dL_isStep_116 : decode cL_isStep 116 = .ok (.sipush 4100, 3) := by decide +kernel
theorem dL_isStep_119 : decode cL_isStep 119 = .ok (.goto 5, 3) := by decide +kernel
theorem dL_isStep_122 : decode cL_isStep 122 = .ok (.iload 6, 2) := by decide +kernel
theorem dL_isStep_124 : decode cL_isStep 124 = .ok (.istore 6, 2) := by decide +kernel
theorem dL_isStep_126 : decode cL_isStep 126 = .ok (.aload_n 0, 1) := by decide +kernel
theorem dL_isStep_127 : decode cL_isStep 127 = .ok (.iload 4, 2) := by decide +kernel
theorem dL_isStep_129 : decode cL_isStep 129 = .ok (.iconst 3, 1) := by decide +kernel
theorem dL_isStep_130 : decode cL_isStep 130 = .ok (.invokevirtual 28, 3) := by decide +kernel
theorem dL_isStep_133 : decode cL_isStep 133 = .ok (.ifCond .ge 22, 3) := by decide +kernel
theorem dL_isStep_136 : decode cL_isStep 136 = .ok (.aload_n 0, 1) := by decide +kernel
theorem dL_isStep_137 : decode cL_isStep 137 = .ok (.iload 4, 2) := by decide +kernel
theorem dL_isStep_139 : decode cL_isStep 139 = .ok (.iload 6, 2) := by decide +kernel
theorem dL_isStep_141 : decode cL_isStep 141 = .ok (.invokevirtual 31, 3) := by decide +kernel
theorem dL_isStep_144 : decode cL_isStep 144 = .ok (.aload_n 1, 1) := by decide +kernel
theorem dL_isStep_145 : decode cL_isStep 145 = .ok (.iload 4, 2) := by decide +kernel
theorem dL_isStep_147 : decode cL_isStep 147 = .ok (.iload 6, 2) := by decide +kernel
theorem dL_isStep_149 : decode cL_isStep 149 = .ok (.invokevirtual 31, 3) := by decide +kernel
theorem dL_isStep_152 : decode cL_isStep 152 = .ok (.if_icmp .ne 7, 3) := by decide +kernel
theorem dL_isStep_155 : decode cL_isStep 155 = .ok (.iconst 1, 1) := by decide +kernel
theorem dL_isStep_156 : decode cL_isStep 156 = .ok (.goto 4, 3) := by decide +kernel
theorem dL_isStep_159 : decode cL_isStep 159 = .ok (.iconst 0, 1) := by decide +kernel
theorem dL_isStep_160 : decode cL_isStep 160 = .ok (.ireturn, 1) := by decide +kernel
theorem dL_isStep_161 : decode cL_isStep 161 = .ok (.aload_n 0, 1) := by decide +kernel
theorem dL_isStep_162 : decode cL_isStep 162 = .ok (.iload 4, 2) := by decide +kernel
theorem dL_isStep_164 : decode cL_isStep 164 = .ok (.iconst 3, 1) := by decide +kernel
theorem dL_isStep_165 : decode cL_isStep 165 = .ok (.invokevirtual 28, 3) := by decide +kernel
theorem dL_isStep_168 : decode cL_isStep 168 = .ok (.ifCond .ge 21, 3) := by decide +kernel
theorem dL_isStep_171 : decode cL_isStep 171 = .ok (.aload_n 1, 1) := by decide +kernel
theorem dL_isStep_172 : decode cL_isStep 172 = .ok (.iload 4, 2) := by decide +kernel
theorem dL_isStep_174 : decode cL_isStep 174 = .ok (.iconst 3, 1) := by decide +kernel
theorem dL_isStep_175 : decode cL_isStep 175 = .ok (.invokevirtual 28, 3) := by decide +kernel
theorem dL_isStep_178 : decode cL_isStep 178 = .ok (.ifCond .ge 7, 3) := by decide +kernel
theorem dL_isStep_181 : decode cL_isStep 181 = .ok (.iconst 1, 1) := by decide +kernel
theorem dL_isStep_182 : decode cL_isStep 182 = .ok (.goto 29, 3) := by decide +kernel
theorem dL_isStep_185 : decode cL_isStep 185 = .ok (.iconst 0, 1) := by decide +kernel
theorem dL_isStep_186 : decode cL_isStep 186 = .ok (.goto 25, 3) := by decide +kernel
theorem dL_isStep_189 : decode cL_isStep 189 = .ok (.aload_n 0, 1) := by decide +kernel
theorem dL_isStep_190 : decode cL_isStep 190 = .ok (.iload 4, 2) := by decide +kernel
theorem dL_isStep_192 : decode cL_isStep 192 = .ok (.invokevirtual 34, 3) := by decide +kernel
theorem dL_isStep_195 : decode cL_isStep 195 = .ok (.iconst 3, 1) := by decide +kernel
theorem dL_isStep_196 : decode cL_isStep 196 = .ok (.aload_n 1, 1) := by decide +kernel
theorem dL_isStep_197 : decode cL_isStep 197 = .ok (.iload 4, 2) := by decide +kernel
theorem dL_isStep_199 : decode cL_isStep 199 = .ok (.invokevirtual 34, 3) := by decide +kernel
theorem dL_isStep_202 : decode cL_isStep 202 = .ok (.isub, 1) := by decide +kernel
theorem dL_isStep_203 : decode cL_isStep 203 = .ok (.if_icmp .ne 7, 3) := by decide +kernel
theorem dL_isStep_206 : decode cL_isStep 206 = .ok (.iconst 1, 1) := by decide +kernel
theorem dL_isStep_207 : decode cL_isStep 207 = .ok (.goto 4, 3) := by decide +kernel
theorem dL_isStep_210 : decode cL_isStep 210 = .ok (.iconst 0, 1) := by decide +kernel
theorem dL_isStep_211 : decode cL_isStep 211 = .ok (.ireturn, 1) := by decide +kernel
theorem dL_isStep_212 : decode cL_isStep 212 = .ok (.aload_n 0, 1) := by decide +kernel
theorem dL_isStep_213 : decode cL_isStep 213 = .ok (.iload 4, 2) := by decide +kernel
theorem dL_isStep_215 : decode cL_isStep 215 = .ok (.invokevirtual 38, 3) := by decide +kernel
theorem dL_isStep_218 : decode cL_isStep 218 = .ok (.aload_n 1, 1) := by decide +kernel
theorem dL_isStep_219 : decode cL_isStep 219 = .ok (.iload 4, 2) := by decide +kernel
theorem dL_isStep_221 : decode cL_isStep 221 = .ok (.invokevirtual 38, 3) := by decide +kernel
theorem dL_isStep_224 : decode cL_isStep 224 = .ok (.if_icmp .ne 7, 3) := by decide +kernel
theorem dL_isStep_227 : decode cL_isStep 227 = .ok (.iconst 1, 1) := by decide +kernel
theorem dL_isStep_228 : decode cL_isStep 228 = .ok (.goto 4, 3) := by decide +kernel
theorem dL_isStep_231 : decode cL_isStep 231 = .ok (.iconst 0, 1) := by decide +kernel
theorem dL_isStep_232 : decode cL_isStep 232 = .ok (.ireturn, 1) := by decide +kernel
theorem dL_isStep_233 : decode cL_isStep 233 = .ok (.aload_n 0, 1) := by decide +kernel
theorem dL_isStep_234 : decode cL_isStep 234 = .ok (.invokevirtual 41, 3) := by decide +kernel
theorem dL_isStep_237 : decode cL_isStep 237 = .ok (.aload_n 1, 1) := by decide +kernel
theorem dL_isStep_238 : decode cL_isStep 238 = .ok (.invokevirtual 41, 3) := by decide +kernel
theorem dL_isStep_241 : decode cL_isStep 241 = .ok (.if_icmp .ne 7, 3) := by decide +kernel
theorem dL_isStep_244 : decode cL_isStep 244 = .ok (.iconst 1, 1) := by decide +kernel
theorem dL_isStep_245 : decode cL_isStep 245 = .ok (.goto 4, 3) := by decide +kernel
theorem dL_isStep_248 : decode cL_isStep 248 = .ok (.iconst 0, 1) := by decide +kernel
theorem dL_isStep_249 : decode cL_isStep 249 = .ok (.ireturn, 1) := by decide +kernel
theorem dL_isStep_250 : decode cL_isStep 250 = .ok (.iload_n 3, 1) := by decide +kernel
theorem dL_isStep_251 : decode cL_isStep 251 = .ok (.bipush 6, 2) := by decide +kernel
theorem dL_isStep_253 : decode cL_isStep 253 = .ok (.ishr, 1) := by decide +kernel
theorem dL_isStep_254 : decode cL_isStep 254 = .ok (.iload_n 3, 1) := by decide +kernel
theorem dL_isStep_255 : decode cL_isStep 255 = .ok (.iconst 3, 1) := by decide +kernel
theorem dL_isStep_256 : decode cL_isStep 256 = .ok (.invokestatic 15, 3) := by decide +kernel
theorem dL_isStep_259 : decode cL_isStep 259 = .ok (.ifCond .ne 9, 3) := by decide +kernel
theorem dL_isStep_262 : decode cL_isStep 262 = .ok (.sipush 1000, 3) := by decide +kernel
theorem dL_isStep_265 : decode cL_isStep 265 = .ok (.goto 5, 3) := by decide +kernel
theorem dL_isStep_268 : decode cL_isStep 268 = .ok (.bipush 40, 2) := by decide +kernel
theorem dL_isStep_270 : decode cL_isStep 270 = .ok (.invokestatic 15, 3) := by decide +kernel
theorem dL_isStep_273 : decode cL_isStep 273 = .ok (.istore 6, 2) := by decide +kernel
theorem dL_isStep_275 : decode cL_isStep 275 = .ok (.iconst 1, 1) := by decide +kernel
theorem dL_isStep_276 : decode cL_isStep 276 = .ok (.iload_n 3, 1) := by decide +kernel
theorem dL_isStep_277 : decode cL_isStep 277 = .ok (.bipush 16, 2) := by decide +kernel
theorem dL_isStep_279 : decode cL_isStep 279 = .ok (.ishr, 1) := by decide +kernel
theorem dL_isStep_280 : decode cL_isStep 280 = .ok (.bipush 6, 2) := by decide +kernel
theorem dL_isStep_282 : decode cL_isStep 282 = .ok (.invokestatic 15, 3) := by decide +kernel
theorem dL_isStep_285 : decode cL_isStep 285 = .ok (.iadd, 1) := by decide +kernel
theorem dL_isStep_286 : decode cL_isStep 286 = .ok (.istore 7, 2) := by decide +kernel
theorem dL_isStep_288 : decode cL_isStep 288 = .ok (.aload_n 0, 1) := by decide +kernel
theorem dL_isStep_289 : decode cL_isStep 289 = .ok (.iload 5, 2) := by decide +kernel
theorem dL_isStep_291 : decode cL_isStep 291 = .ok (.iload 6, 2) := by decide +kernel
theorem dL_isStep_293 : decode cL_isStep 293 = .ok (.invokevirtual 45, 3) := by decide +kernel
theorem dL_isStep_296 : decode cL_isStep 296 = .ok (.aload_n 1, 1) := by decide +kernel
theorem dL_isStep_297 : decode cL_isStep 297 = .ok (.iconst 3, 1) := by decide +kernel
theorem dL_isStep_298 : decode cL_isStep 298 = .ok (.iload 5, 2) := by decide +kernel
theorem dL_isStep_300 : decode cL_isStep 300 = .ok (.isub, 1) := by decide +kernel
theorem dL_isStep_301 : decode cL_isStep 301 = .ok (.iload 6, 2) := by decide +kernel
theorem dL_isStep_303 : decode cL_isStep 303 = .ok (.invokevirtual 45, 3) := by decide +kernel
theorem dL_isStep_306 : decode cL_isStep 306 = .ok (.if_icmp .ne 7, 3) := by decide +kernel
theorem dL_isStep_309 : decode cL_isStep 309 = .ok (.iconst 1, 1) := by decide +kernel
theorem dL_isStep_310 : decode cL_isStep 310 = .ok (.goto 4, 3) := by decide +kernel
theorem dL_isStep_313 : decode cL_isStep 313 = .ok (.iconst 0, 1) := by decide +kernel
theorem dL_isStep_314 : decode cL_isStep 314 = .ok (.istore 8, 2) := by decide +kernel
theorem dL_isStep_316 : decode cL_isStep 316 = .ok (.iconst 0, 1) := by decide +kernel
theorem dL_isStep_317 : decode cL_isStep 317 = .ok (.istore 9, 2) := by decide +kernel
theorem dL_isStep_319 : decode cL_isStep 319 = .ok (.iload 9, 2) := by decide +kernel
theorem dL_isStep_321 : decode cL_isStep 321 = .ok (.iload 7, 2) := by decide +kernel
theorem dL_isStep_323 : decode cL_isStep 323 = .ok (.if_icmp .ge 42, 3) := by decide +kernel
theorem dL_isStep_326 : decode cL_isStep 326 = .ok (.iload 8, 2) := by decide +kernel
theorem dL_isStep_328 : decode cL_isStep 328 = .ok (.ifCond .eq 28, 3) := by decide +kernel
theorem dL_isStep_331 : decode cL_isStep 331 = .ok (.aload_n 0, 1) := by decide +kernel
theorem dL_isStep_332 : decode cL_isStep 332 = .ok (.iload 5, 2) := by decide +kernel
theorem dL_isStep_334 : decode cL_isStep 334 = .ok (.iload 6, 2) := by decide +kernel
theorem dL_isStep_336 : decode cL_isStep 336 = .ok (.invokevirtual 48, 3) := by decide +kernel
theorem dL_isStep_339 : decode cL_isStep 339 = .ok (.aload_n 1, 1) := by decide +kernel
theorem dL_isStep_340 : decode cL_isStep 340 = .ok (.iconst 3, 1) := by decide +kernel
theorem dL_isStep_341 : decode cL_isStep 341 = .ok (.iload 5, 2) := by decide +kernel
theorem dL_isStep_343 : decode cL_isStep 343 = .ok (.isub, 1) := by decide +kernel
theorem dL_isStep_344 : decode cL_isStep 344 = .ok (.iload 6, 2) := by decide +kernel
theorem dL_isStep_346 : decode cL_isStep 346 = .ok (.invokevirtual 48, 3) := by decide +kernel
theorem dL_isStep_349 : decode cL_isStep 349 = .ok (.if_icmp .ne 7, 3) := by decide +kernel
theorem dL_isStep_352 : decode cL_isStep 352 = .ok (.iconst 1, 1) := by decide +kernel
theorem dL_isStep_353 : decode cL_isStep 353 = .ok (.goto 4, 3) := by decide +kernel
theorem dL_isStep_356 : decode cL_isStep 356 = .ok (.iconst 0, 1) := by decide +kernel
theorem dL_isStep_357 : decode cL_isStep 357 = .ok (.istore 8, 2) := by decide +kernel
theorem dL_isStep_359 : decode cL_isStep 359 = .ok (.iinc 9 1, 3) := by decide +kernel
theorem dL_isStep_362 : decode cL_isStep 362 = .ok (.goto (-43), 3) := by decide +kernel
theorem dL_isStep_365 : decode cL_isStep 365 = .ok (.iload 8, 2) := by decide +kernel
theorem dL_isStep_367 : decode cL_isStep 367 = .ok (.ireturn, 1) := by decide +kernel
set_option maxRecDepth 20000 in
theorem ggL_areAlike_X3_right : GoodIn wsL_areAlike wsX3_right := goodIn_r _ [5, 6, 7, 8, 9, 10, 11, 12, 13, 14, 15, 16, 17, 18, 19, 20, 21, 22, 23, 24, 25, 26, 27, 28, 29, 184, 185, 186, 187, 188, 189, 190, 191, 192, 193, 194, 195, 196, 197, 198, 199] (by decide +kernel) (by decide +kernel)
set_option maxRecDepth 20000 in
theorem gL_areAlike_X3_right : GoodIn wsL_areAlike (wsV RL 51 RX3 yX3_right wsX3_right) := goodIn_app (goodIn_of _ (by decide +kernel)) ggL_areAlike_X3_right
set_option maxRecDepth 20000 in
theorem ggL_areAlike_X3_value : GoodIn wsL_areAlike wsX3_value := goodIn_ca (goodIn_r _ [33, 6, 34, 35, 4, 36, 37, 38, 39, 40, 41, 10, 42, 24, 43, 44, 45, 13, 14, 15, 46, 8, 9, 11, 12, 47, 48, 49, 50, 51, 52, 53, 54, 55, 56, 17, 18, 19, 20, 21, 22, 23, 25, 26, 27, 28, 29, 57, 58, 59, 60, 61, 62, 63, 64, 65, 66, 67, 68, 69, 70, 71, 72, 73, 74, 75, 76, 77, 78, 79, 80, 81, 82, 83, 84, 85, 86, 87, 88, 89, 184, 185, 186, 187, 188, 189, 190, 191, 192, 193, 194, 195, 196, 197, 198, 199] (by decide +kernel) (by decide +kernel)) (goodIn_sub (fun _ h => List.mem_cons_of_mem _ (List.mem_append_left _ (List.mem_append_right _ h))) (by decide +kernel))
set_option maxRecDepth 20000 in
theorem gL_areAlike_X3_value : GoodIn wsL_areAlike (wsV RL 55 RX3 yX3_value wsX3_value) := goodIn_app (goodIn_of _ (by decide +kernel)) ggL_areAlike_X3_value
set_option maxRecDepth 20000 in
theorem ggL_areAlike_X3_rail : GoodIn wsL_areAlike wsX3_rail := goodIn_ca (goodIn_ca (goodIn_r _ [93, 6, 94, 95, 4, 96, 97, 98, 99, 100, 101, 34, 35, 36, 37, 38, 102, 103, 104, 10, 105, 106, 107, 55, 108, 109, 70, 71, 72, 73, 12, 61, 62, 63, 64, 65, 66, 67, 68, 69, 24, 25, 78, 79, 80, 81, 26, 27, 28, 29, 20, 21, 22, 23, 184, 185, 186, 187, 188, 189, 190, 191, 192, 193, 194, 195, 196, 197, 198, 199] (by decide +kernel) (by decide +kernel)) (goodIn_sub (fun _ h => List.mem_cons_of_mem _ (List.mem_append_right _ h)) (by decide +kernel))) (goodIn_sub (fun _ h => List.mem_cons_of_mem _ (List.mem_append_left _ (List.mem_append_right _ h))) (by decide +kernel))
set_option maxRecDepth 20000 in
theorem gL_areAlike_X3_rail : GoodIn wsL_areAlike (wsV RL 28 RX3 yX3_rail wsX3_rail) := goodIn_app (goodIn_of _ (by decide +kernel)) ggL_areAlike_X3_rail
set_option maxRecDepth 20000 in
theorem ggL_areAlike_X3_bestGap : GoodIn wsL_areAlike wsX3_bestGap := goodIn_ca (goodIn_r _ [113, 6, 94, 95, 4, 96, 97, 98, 99, 100, 101, 114, 115, 116, 10, 117, 24, 25, 118, 119, 120, 121, 122, 123, 124, 125, 184, 185, 186, 187, 188, 189, 190, 191, 192, 193, 194, 195, 196, 197, 198, 199] (by decide +kernel) (by decide +kernel)) (goodIn_sub (fun _ h => List.mem_cons_of_mem _ (List.mem_append_right _ h)) (by decide +kernel))
set_option maxRecDepth 20000 in
theorem gL_areAlike_X3_bestGap : GoodIn wsL_areAlike (wsV RL 58 RX3 yX3_bestGap wsX3_bestGap) := goodIn_app (goodIn_of _ (by decide +kernel)) ggL_areAlike_X3_bestGap
set_option maxRecDepth 20000 in
theorem ggL_areAlike_X3_kind : GoodIn wsL_areAlike wsX3_kind := goodIn_ca (goodIn_ca (goodIn_r _ [129, 6, 130, 131, 132, 4, 133, 97, 98, 134, 34, 35, 36, 37, 38, 135, 136, 137, 10, 138, 118, 65, 25, 44, 43, 139, 140, 141, 142, 26, 27, 28, 29, 12, 143, 144, 145, 146, 55, 184, 185, 186, 187, 188, 189, 190, 191, 192, 193, 194, 195, 196, 197, 198, 199] (by decide +kernel) (by decide +kernel)) (goodIn_sub (fun _ h => List.mem_cons_of_mem _ (List.mem_append_right _ h)) (by decide +kernel))) (goodIn_sub (fun _ h => List.mem_cons_of_mem _ (List.mem_append_left _ (List.mem_append_right _ h))) (by decide +kernel))
set_option maxRecDepth 20000 in
theorem gL_areAlike_X3_kind : GoodIn wsL_areAlike (wsV RL 25 RX3 yX3_kind wsX3_kind) := goodIn_app (goodIn_of _ (by decide +kernel)) ggL_areAlike_X3_kind
set_option maxRecDepth 20000 in
theorem ggL_areAlike_X3_supply : GoodIn wsL_areAlike wsX3_supply := goodIn_ca (goodIn_r _ [150, 6, 130, 131, 132, 4, 133, 97, 98, 134, 151, 152, 153, 10, 154, 25, 155, 156, 157, 158, 159, 160, 161, 162, 106, 163, 164, 165, 166, 123, 124, 121, 125, 167, 168, 169, 170, 118, 119, 120, 122, 51, 52, 53, 54, 55, 86, 87, 88, 89, 70, 71, 72, 73, 12, 184, 185, 186, 187, 188, 189, 190, 191, 192, 193, 194, 195, 196, 197, 198, 199] (by decide +kernel) (by decide +kernel)) (goodIn_sub (fun _ h => List.mem_cons_of_mem _ (List.mem_append_right _ h)) (by decide +kernel))
set_option maxRecDepth 20000 in
theorem gL_areAlike_X3_supply : GoodIn wsL_areAlike (wsV RL 61 RX3 yX3_supply wsX3_supply) := goodIn_app (goodIn_of _ (by decide +kernel)) ggL_areAlike_X3_supply
set_option maxRecDepth 20000 in
theorem ggL_areAlike_X3_mostWear : GoodIn wsL_areAlike wsX3_mostWear := goodIn_ca (goodIn_r _ [174, 6, 130, 131, 132, 4, 133, 97, 98, 134, 175, 176, 177, 10, 178, 155, 156, 157, 158, 25, 159, 160, 161, 162, 106, 163, 164, 165, 166, 123, 124, 121, 125, 167, 168, 169, 170, 118, 119, 120, 122, 51, 52, 53, 54, 55, 86, 87, 88, 89, 70, 71, 72, 73, 12, 184, 185, 186, 187, 188, 189, 190, 191, 192, 193, 194, 195, 196, 197, 198, 199] (by decide +kernel) (by decide +kernel)) (goodIn_sub (fun _ h => List.mem_cons_of_mem _ (List.mem_append_right _ h)) (by decide +kernel))
set_option maxRecDepth 20000 in
theorem gL_areAlike_X3_mostWear : GoodIn wsL_areAlike (wsV RL 64 RX3 yX3_mostWear wsX3_mostWear) := goodIn_app (goodIn_of _ (by decide +kernel)) ggL_areAlike_X3_mostWear
set_option maxRecDepth 20000 in
theorem ggL_areAlike_X3_count : GoodIn wsL_areAlike wsX3_count := goodIn_ca (goodIn_r _ [182, 6, 94, 95, 4, 96, 97, 98, 99, 100, 101, 130, 131, 132, 133, 134, 183, 27, 28, 10, 29, 12, 184, 185, 186, 187, 188, 189, 190, 191, 192, 193, 194, 195, 196, 197, 198, 199] (by decide +kernel) (by decide +kernel)) (goodIn_sub (fun _ h => List.mem_cons_of_mem _ (List.mem_append_right _ h)) (by decide +kernel))
set_option maxRecDepth 20000 in
theorem gL_areAlike_X3_count : GoodIn wsL_areAlike (wsV RL 67 RX3 yX3_count wsX3_count) := goodIn_app (goodIn_of _ (by decide +kernel)) ggL_areAlike_X3_count
theorem dL_areAlike_0 : decode cL_areAlike 0 = .ok (.aload_n 0, 1) := by decide +kernel
theorem dL_areAlike_1 : decode cL_areAlike 1 = .ok (.invokevirtual 51, 3) := by decide +kernel
theorem dL_areAlike_4 : decode cL_areAlike 4 = .ok (.aload_n 1, 1) := by decide +kernel
theorem dL_areAlike_5 : decode cL_areAlike 5 = .ok (.invokevirtual 51, 3) := by decide +kernel
theorem dL_areAlike_8 : decode cL_areAlike 8 = .ok (.dcmp .l, 1) := by decide +kernel
theorem dL_areAlike_9 : decode cL_areAlike 9 = .ok (.ifCond .ne 7, 3) := by decide +kernel
theorem dL_areAlike_12 : decode cL_areAlike 12 = .ok (.iconst 1, 1) := by decide +kernel
theorem dL_areAlike_13 : decode cL_areAlike 13 = .ok (.goto 4, 3) := by decide +kernel
theorem dL_areAlike_16 : decode cL_areAlike 16 = .ok (.iconst 0, 1) := by decide +kernel
theorem dL_areAlike_17 : decode cL_areAlike 17 = .ok (.istore_n 2, 1) := by decide +kernel
theorem dL_areAlike_18 : decode cL_areAlike 18 = .ok (.iconst 0, 1) := by decide +kernel
theorem dL_areAlike_19 : decode cL_areAlike 19 = .ok (.istore_n 3, 1) := by decide +kernel
theorem dL_areAlike_20 : decode cL_areAlike 20 = .ok (.iload_n 3, 1) := by decide +kernel
theorem dL_areAlike_21 : decode cL_areAlike 21 = .ok (.bipush 10, 2) := by decide +kernel
theorem dL_areAlike_23 : decode cL_areAlike 23 = .ok (.if_icmp .ge 32, 3) := by decide +kernel
theorem dL_areAlike_26 : decode cL_areAlike 26 = .ok (.iload_n 2, 1) := by decide +kernel
theorem dL_areAlike_27 : decode cL_areAlike 27 = .ok (.ifCond .eq 20, 3) := by decide +kernel
theorem dL_areAlike_30 : decode cL_areAlike 30 = .ok (.aload_n 0, 1) := by decide +kernel
theorem dL_areAlike_31 : decode cL_areAlike 31 = .ok (.iload_n 3, 1) := by decide +kernel
theorem dL_areAlike_32 : decode cL_areAlike 32 = .ok (.invokevirtual 55, 3) := by decide +kernel
theorem dL_areAlike_35 : decode cL_areAlike 35 = .ok (.aload_n 1, 1) := by decide +kernel
theorem dL_areAlike_36 : decode cL_areAlike 36 = .ok (.iload_n 3, 1) := by decide +kernel
theorem dL_areAlike_37 : decode cL_areAlike 37 = .ok (.invokevirtual 55, 3) := by decide +kernel
theorem dL_areAlike_40 : decode cL_areAlike 40 = .ok (.if_icmp .ne 7, 3) := by decide +kernel
theorem dL_areAlike_43 : decode cL_areAlike 43 = .ok (.iconst 1, 1) := by decide +kernel
theorem dL_areAlike_44 : decode cL_areAlike 44 = .ok (.goto 4, 3) := by decide +kernel
theorem dL_areAlike_47 : decode cL_areAlike 47 = .ok (.iconst 0, 1) := by decide +kernel
theorem dL_areAlike_48 : decode cL_areAlike 48 = .ok (.istore_n 2, 1) := by decide +kernel
theorem dL_areAlike_49 : decode cL_areAlike 49 = .ok (.iinc 3 1, 3) := by decide +kernel
theorem dL_areAlike_52 : decode cL_areAlike 52 = .ok (.goto (-32), 3) := by decide +kernel
theorem dL_areAlike_55 : decode cL_areAlike 55 = .ok (.iconst 0, 1) := by decide +kernel
theorem dL_areAlike_56 : decode cL_areAlike 56 = .ok (.istore_n 3, 1) := by decide +kernel
theorem dL_areAlike_57 : decode cL_areAlike 57 = .ok (.iload_n 3, 1) := by decide +kernel
theorem dL_areAlike_58 : decode cL_areAlike 58 = .ok (.bipush 6, 2) := by decide +kernel
theorem dL_areAlike_60 : decode cL_areAlike 60 = .ok (.if_icmp .ge 117, 3) := by decide +kernel
theorem dL_areAlike_63 : decode cL_areAlike 63 = .ok (.iload_n 2, 1) := by decide +kernel
theorem dL_areAlike_64 : decode cL_areAlike 64 = .ok (.ifCond .eq 113, 3) := by decide +kernel
theorem dL_areAlike_67 : decode cL_areAlike 67 = .ok (.iconst 0, 1) := by decide +kernel
theorem dL_areAlike_68 : decode cL_areAlike 68 = .ok (.istore 4, 2) := by decide +kernel
theorem dL_areAlike_70 : decode cL_areAlike 70 = .ok (.iload 4, 2) := by decide +kernel
theorem dL_areAlike_72 : decode cL_areAlike 72 = .ok (.bipush 10, 2) := by decide +kernel
theorem dL_areAlike_74 : decode cL_areAlike 74 = .ok (.if_icmp .ge 74, 3) := by decide +kernel
theorem dL_areAlike_77 : decode cL_areAlike 77 = .ok (.aload_n 0, 1) := by decide +kernel
theorem dL_areAlike_78 : decode cL_areAlike 78 = .ok (.iload_n 3, 1) := by decide +kernel
theorem dL_areAlike_79 : decode cL_areAlike 79 = .ok (.iload 4, 2) := by decide +kernel
theorem dL_areAlike_81 : decode cL_areAlike 81 = .ok (.invokevirtual 28, 3) := by decide +kernel
theorem dL_areAlike_84 : decode cL_areAlike 84 = .ok (.istore 5, 2) := by decide +kernel
theorem dL_areAlike_86 : decode cL_areAlike 86 = .ok (.iload 4, 2) := by decide +kernel
theorem dL_areAlike_88 : decode cL_areAlike 88 = .ok (.iconst 3, 1) := by decide +kernel
theorem dL_areAlike_89 : decode cL_areAlike 89 = .ok (.if_icmp .eq 10, 3) := by decide +kernel
theorem dL_areAlike_92 : decode cL_areAlike 92 = .ok (.iload 4, 2) := by decide +kernel
theorem dL_areAlike_94 : decode cL_areAlike 94 = .ok (.bipush 8, 2) := by decide +kernel
theorem dL_areAlike_96 : decode cL_areAlike 96 = .ok (.if_icmp .ne 20, 3) := by decide +kernel
theorem dL_areAlike_99 : decode cL_areAlike 99 = .ok (.iload 5, 2) := by decide +kernel
theorem dL_areAlike_101 : decode cL_areAlike 101 = .ok (.ifCond .ge 8, 3) := by decide +kernel
theorem dL_areAlike_104 : decode cL_areAlike 104 = .ok (.iload 5, 2) := by decide +kernel
theorem dL_areAlike_106 : decode cL_areAlike 106 = .ok (.goto 12, 3) := by decide +kernel
theorem dL_areAlike_109 : decode cL_areAlike 109 = .ok (.iconst 3, 1) := by decide +kernel
theorem dL_areAlike_110 : decode cL_areAlike 110 = .ok (.iload 5, 2) := by decide +kernel
theorem dL_areAlike_112 : decode cL_areAlike 112 = .ok (.isub, 1) := by decide +kernel
theorem dL_areAlike_113 : decode cL_areAlike 113 = .ok (.goto 5, 3) := by decide +kernel
theorem dL_areAlike_116 : decode cL_areAlike 116 = .ok (.iload 5, 2) := by decide +kernel
theorem dL_areAlike_118 : decode cL_areAlike 118 = .ok (.istore 5, 2) := by decide +kernel
theorem dL_areAlike_120 : decode cL_areAlike 120 = .ok (.iload_n 2, 1) := by decide +kernel
theorem dL_areAlike_121 : decode cL_areAlike 121 = .ok (.ifCond .eq 19, 3) := by decide +kernel
theorem dL_areAlike_124 : decode cL_areAlike 124 = .ok (.iload 5, 2) := by decide +kernel
theorem dL_areAlike_126 : decode cL_areAlike 126 = .ok (.aload_n 1, 1) := by decide +kernel
theorem dL_areAlike_127 : decode cL_areAlike 127 = .ok (.iload_n 3, 1) := by decide +kernel
theorem dL_areAlike_128 : decode cL_areAlike 128 = .ok (.iload 4, 2) := by decide +kernel
theorem dL_areAlike_130 : decode cL_areAlike 130 = .ok (.invokevirtual 28, 3) := by decide +kernel
theorem dL_areAlike_133 : decode cL_areAlike 133 = .ok (.if_icmp .ne 7, 3) := by decide +kernel
theorem dL_areAlike_136 : decode cL_areAlike 136 = .ok (.iconst 1, 1) := by decide +kernel
theorem dL_areAlike_137 : decode cL_areAlike 137 = .ok (.goto 4, 3) := by decide +kernel
theorem dL_areAlike_140 : decode cL_areAlike 140 = .ok (.iconst 0, 1) := by decide +kernel
theorem dL_areAlike_141 : decode cL_areAlike 141 = .ok (.istore_n 2, 1) := by decide +kernel
theorem dL_areAlike_142 : decode cL_areAlike 142 = .ok (.iinc 4 1, 3) := by decide +kernel
theorem dL_areAlike_145 : decode cL_areAlike 145 = .ok (.goto (-75), 3) := by decide +kernel
theorem dL_areAlike_148 : decode cL_areAlike 148 = .ok (.iload_n 2, 1) := by decide +kernel
theorem dL_areAlike_149 : decode cL_areAlike 149 = .ok (.ifCond .eq 20, 3) := by decide +kernel
theorem dL_areAlike_152 : decode cL_areAlike 152 = .ok (.aload_n 0, 1) := by decide +kernel
theorem dL_areAlike_153 : decode cL_areAlike 153 = .ok (.iload_n 3, 1) := by decide +kernel
theorem dL_areAlike_154 : decode cL_areAlike 154 = .ok (.invokevirtual 58, 3) := by decide +kernel
theorem dL_areAlike_157 : decode cL_areAlike 157 = .ok (.aload_n 1, 1) := by decide +kernel
theorem dL_areAlike_158 : decode cL_areAlike 158 = .ok (.iload_n 3, 1) := by decide +kernel
theorem dL_areAlike_159 : decode cL_areAlike 159 = .ok (.invokevirtual 58, 3) := by decide +kernel
theorem dL_areAlike_162 : decode cL_areAlike 162 = .ok (.if_icmp .ne 7, 3) := by decide +kernel
theorem dL_areAlike_165 : decode cL_areAlike 165 = .ok (.iconst 1, 1) := by decide +kernel
theorem dL_areAlike_166 : decode cL_areAlike 166 = .ok (.goto 4, 3) := by decide +kernel
theorem dL_areAlike_169 : decode cL_areAlike 169 = .ok (.iconst 0, 1) := by decide +kernel
theorem dL_areAlike_170 : decode cL_areAlike 170 = .ok (.istore_n 2, 1) := by decide +kernel
theorem dL_areAlike_171 : decode cL_areAlike 171 = .ok (.iinc 3 1, 3) := by decide +kernel
theorem dL_areAlike_174 : decode cL_areAlike 174 = .ok (.goto (-117), 3) := by decide +kernel
theorem dL_areAlike_177 : decode cL_areAlike 177 = .ok (.iconst 0, 1) := by decide +kernel
theorem dL_areAlike_178 : decode cL_areAlike 178 = .ok (.istore_n 3, 1) := by decide +kernel
theorem dL_areAlike_179 : decode cL_areAlike 179 = .ok (.iload_n 3, 1) := by decide +kernel
theorem dL_areAlike_180 : decode cL_areAlike 180 = .ok (.iconst 4, 1) := by decide +kernel
theorem dL_areAlike_181 : decode cL_areAlike 181 = .ok (.if_icmp .ge 115, 3) := by decide +kernel
theorem dL_areAlike_184 : decode cL_areAlike 184 = .ok (.iload_n 2, 1) := by decide +kernel
theorem dL_areAlike_185 : decode cL_areAlike 185 = .ok (.ifCond .eq 111, 3) := by decide +kernel
theorem dL_areAlike_188 : decode cL_areAlike 188 = .ok (.iconst 0, 1) := by decide +kernel
theorem dL_areAlike_189 : decode cL_areAlike 189 = .ok (.istore 4, 2) := by decide +kernel
theorem dL_areAlike_191 : decode cL_areAlike 191 = .ok (.iload 4, 2) := by decide +kernel
theorem dL_areAlike_193 : decode cL_areAlike 193 = .ok (.bipush 7, 2) := by decide +kernel
theorem dL_areAlike_195 : decode cL_areAlike 195 = .ok (.if_icmp .ge 38, 3) := by decide +kernel
theorem dL_areAlike_198 : decode cL_areAlike 198 = .ok (.iload_n 2, 1) := by decide +kernel
theorem dL_areAlike_199 : decode cL_areAlike 199 = .ok (.ifCond .eq 26, 3) := by decide +kernel
theorem dL_areAlike_202 : decode cL_areAlike 202 = .ok (.aload_n 0, 1) := by decide +kernel
theorem dL_areAlike_203 : decode cL_areAlike 203 = .ok (.iload_n 3, 1) := by decide +kernel
theorem dL_areAlike_204 : decode cL_areAlike 204 = .ok (.iload 4, 2) := by decide +kernel
theorem dL_areAlike_206 : decode cL_areAlike 206 = .ok (.invokevirtual 25, 3) := by decide +kernel
theorem dL_areAlike_209 : decode cL_areAlike 209 = .ok (.aload_n 1, 1) := by decide +kernel
theorem dL_areAlike_210 : decode cL_areAlike 210 = .ok (.iconst 3, 1) := by decide +kernel
theorem dL_areAlike_211 : decode cL_areAlike 211 = .ok (.iload_n 3, 1) := by decide +kernel
theorem dL_areAlike_212 : decode cL_areAlike 212 = .ok (.isub, 1) := by decide +kernel
theorem dL_areAlike_213 : decode cL_areAlike 213 = .ok (.iload 4, 2) := by decide +kernel
theorem dL_areAlike_215 : decode cL_areAlike 215 = .ok (.invokevirtual 25, 3) := by decide +kernel
theorem dL_areAlike_218 : decode cL_areAlike 218 = .ok (.if_icmp .ne 7, 3) := by decide +kernel
theorem dL_areAlike_221 : decode cL_areAlike 221 = .ok (.iconst 1, 1) := by decide +kernel
theorem dL_areAlike_222 : decode cL_areAlike 222 = .ok (.goto 4, 3) := by decide +kernel
theorem dL_areAlike_225 : decode cL_areAlike 225 = .ok (.iconst 0, 1) := by decide +kernel
theorem dL_areAlike_226 : decode cL_areAlike 226 = .ok (.istore_n 2, 1) := by decide +kernel
theorem dL_areAlike_227 : decode cL_areAlike 227 = .ok (.iinc 4 1, 3) := by decide +kernel
theorem dL_areAlike_230 : decode cL_areAlike 230 = .ok (.goto (-39), 3) := by decide +kernel
theorem dL_areAlike_233 : decode cL_areAlike 233 = .ok (.iload_n 2, 1) := by decide +kernel
theorem dL_areAlike_234 : decode cL_areAlike 234 = .ok (.ifCond .eq 54, 3) := by decide +kernel
theorem dL_areAlike_237 : decode cL_areAlike 237 = .ok (.aload_n 0, 1) := by decide +kernel
theorem dL_areAlike_238 : decode cL_areAlike 238 = .ok (.iload_n 3, 1) := by decide +kernel
theorem dL_areAlike_239 : decode cL_areAlike 239 = .ok (.invokevirtual 61, 3) := by decide +kernel
theorem dL_areAlike_242 : decode cL_areAlike 242 = .ok (.aload_n 1, 1) := by decide +kernel
theorem dL_areAlike_243 : decode cL_areAlike 243 = .ok (.iconst 3, 1) := by decide +kernel
theorem dL_areAlike_244 : decode cL_areAlike 244 = .ok (.iload_n 3, 1) := by decide +kernel
theorem dL_areAlike_245 : decode cL_areAlike 245 = .ok (.isub, 1) := by decide +kernel
theorem dL_areAlike_246 : decode cL_areAlike 246 = .ok (.invokevirtual 61, 3) := by decide +kernel
theorem dL_areAlike_249 : decode cL_areAlike 249 = .ok (.if_icmp .ne 39, 3) := by decide +kernel
theorem dL_areAlike_252 : decode cL_areAlike 252 = .ok (.aload_n 0, 1) := by decide +kernel
theorem dL_areAlike_253 : decode cL_areAlike 253 = .ok (.iload_n 3, 1) := by decide +kernel
theorem dL_areAlike_254 : decode cL_areAlike 254 = .ok (.invokevirtual 64, 3) := by decide +kernel
theorem dL_areAlike_257 : decode cL_areAlike 257 = .ok (.aload_n 1, 1) := by decide +kernel
theorem dL_areAlike_258 : decode cL_areAlike 258 = .ok (.iconst 3, 1) := by decide +kernel
theorem dL_areAlike_259 : decode cL_areAlike 259 = .ok (.iload_n 3, 1) := by decide +kernel
theorem dL_areAlike_260 : decode cL_areAlike 260 = .ok (.isub, 1) := by decide +kernel
theorem dL_areAlike_261 : decode cL_areAlike 261 = .ok (.invokevirtual 64, 3) := by decide +kernel
theorem dL_areAlike_264 : decode cL_areAlike 264 = .ok (.if_icmp .ne 24, 3) := by decide +kernel
theorem dL_areAlike_267 : decode cL_areAlike 267 = .ok (.aload_n 0, 1) := by decide +kernel
theorem dL_areAlike_268 : decode cL_areAlike 268 = .ok (.iload_n 3, 1) := by decide +kernel
theorem dL_areAlike_269 : decode cL_areAlike 269 = .ok (.iload_n 3, 1) := by decide +kernel
theorem dL_areAlike_270 : decode cL_areAlike 270 = .ok (.invokevirtual 67, 3) := by decide +kernel
theorem dL_areAlike_273 : decode cL_areAlike 273 = .ok (.aload_n 1, 1) := by decide +kernel
theorem dL_areAlike_274 : decode cL_areAlike 274 = .ok (.iload_n 3, 1) := by decide +kernel
theorem dL_areAlike_275 : decode cL_areAlike 275 = .ok (.iconst 3, 1) := by decide +kernel
theorem dL_areAlike_276 : decode cL_areAlike 276 = .ok (.iload_n 3, 1) := by decide +kernel
theorem dL_areAlike_277 : decode cL_areAlike 277 = .ok (.isub, 1) := by decide +kernel
theorem dL_areAlike_278 : decode cL_areAlike 278 = .ok (.invokevirtual 67, 3) := by decide +kernel
theorem dL_areAlike_281 : decode cL_areAlike 281 = .ok (.if_icmp .ne 7, 3) := by decide +kernel
theorem dL_areAlike_284 : decode cL_areAlike 284 = .ok (.iconst 1, 1) := by decide +kernel
theorem dL_areAlike_285 : decode cL_areAlike 285 = .ok (.goto 4, 3) := by decide +kernel
theorem dL_areAlike_288 : decode cL_areAlike 288 = .ok (.iconst 0, 1) := by decide +kernel
theorem dL_areAlike_289 : decode cL_areAlike 289 = .ok (.istore_n 2, 1) := by decide +kernel
theorem dL_areAlike_290 : decode cL_areAlike 290 = .ok (.iinc 3 1, 3) := by decide +kernel
theorem dL_areAlike_293 : decode cL_areAlike 293 = .ok (.goto (-114), 3) := by decide +kernel
theorem dL_areAlike_296 : decode cL_areAlike 296 = .ok (.iload_n 2, 1) := by decide +kernel
theorem dL_areAlike_297 : decode cL_areAlike 297 = .ok (.ireturn, 1) := by decide +kernel
set_option maxRecDepth 20000 in
theorem ggL_isSound_X3_value : GoodIn wsL_isSound wsX3_value := goodIn_ca (goodIn_r _ [5, 6, 7, 8, 4, 9, 10, 11, 12, 13, 14, 15, 16, 17, 18, 19, 20, 21, 22, 23, 24, 25, 26, 27, 28, 29, 30, 31, 32, 33, 34, 35, 36, 37, 38, 39, 40, 41, 42, 43, 44, 45, 46, 47, 48, 49, 50, 51, 52, 53, 54, 55, 56, 57, 58, 59, 60, 61, 62, 63, 64, 65, 66, 67, 68, 69, 70, 71, 72, 73, 74, 75, 76, 77, 78, 79, 80, 81, 82, 83, 171, 172, 173, 174, 175, 176, 177, 178, 179, 180, 181, 182, 183, 184, 185, 186] (by decide +kernel) (by decide +kernel)) (goodIn_sub (fun _ h => List.mem_cons_of_mem _ (List.mem_append_left _ (List.mem_append_right _ h))) (by decide +kernel))
set_option maxRecDepth 20000 in
theorem gL_isSound_X3_value : GoodIn wsL_isSound (wsV RL 55 RX3 yX3_value wsX3_value) := goodIn_app (goodIn_of _ (by decide +kernel)) ggL_isSound_X3_value
set_option maxRecDepth 20000 in
theorem ggL_isSound_X3_right : GoodIn wsL_isSound wsX3_right := goodIn_r _ [87, 6, 88, 25, 26, 15, 27, 28, 21, 22, 23, 89, 39, 40, 41, 42, 43, 44, 45, 17, 46, 47, 48, 49, 50, 171, 172, 173, 174, 175, 176, 177, 178, 179, 180, 181, 182, 183, 184, 185, 186] (by decide +kernel) (by decide +kernel)
set_option maxRecDepth 20000 in
theorem gL_isSound_X3_right : GoodIn wsL_isSound (wsV RL 51 RX3 yX3_right wsX3_right) := goodIn_app (goodIn_of _ (by decide +kernel)) ggL_isSound_X3_right
set_option maxRecDepth 20000 in
theorem ggL_isSound_X3_kind : GoodIn wsL_isSound wsX3_kind := goodIn_ca (goodIn_ca (goodIn_r _ [93, 6, 94, 95, 96, 4, 97, 98, 99, 100, 7, 8, 9, 10, 11, 101, 102, 103, 15, 104, 105, 59, 46, 19, 18, 106, 107, 108, 109, 47, 48, 49, 50, 28, 110, 111, 112, 113, 37, 171, 172, 173, 174, 175, 176, 177, 178, 179, 180, 181, 182, 183, 184, 185, 186] (by decide +kernel) (by decide +kernel)) (goodIn_sub (fun _ h => List.mem_cons_of_mem _ (List.mem_append_right _ h)) (by decide +kernel))) (goodIn_sub (fun _ h => List.mem_cons_of_mem _ (List.mem_append_left _ (List.mem_append_right _ h))) (by decide +kernel))
set_option maxRecDepth 20000 in
theorem gL_isSound_X3_kind : GoodIn wsL_isSound (wsV RL 25 RX3 yX3_kind wsX3_kind) := goodIn_app (goodIn_of _ (by decide +kernel)) ggL_isSound_X3_kind
set_option maxRecDepth 20000 in
theorem ggL_isSound_X3_supply : GoodIn wsL_isSound wsX3_supply := goodIn_ca (goodIn_r _ [117, 6, 94, 95, 96, 4, 97, 98, 99, 100, 118, 119, 120, 15, 121, 46, 122, 123, 124, 125, 126, 127, 128, 129, 130, 131, 132, 133, 134, 135, 136, 137, 138, 139, 140, 141, 142, 105, 143, 144, 145, 33, 34, 35, 36, 37, 80, 81, 82, 83, 64, 65, 66, 67, 28, 171, 172, 173, 174, 175, 176, 177, 178, 179, 180, 181, 182, 183, 184, 185, 186] (by decide +kernel) (by decide +kernel)) (goodIn_sub (fun _ h => List.mem_cons_of_mem _ (List.mem_append_right _ h)) (by decide +kernel))
set_option maxRecDepth 20000 in
theorem gL_isSound_X3_supply : GoodIn wsL_isSound (wsV RL 61 RX3 yX3_supply wsX3_supply) := goodIn_app (goodIn_of _ (by decide +kernel)) ggL_isSound_X3_supply
set_option maxRecDepth 20000 in
theorem ggL_isSound_X3_mostWear : GoodIn wsL_isSound wsX3_mostWear := goodIn_ca (goodIn_r _ [149, 6, 94, 95, 96, 4, 97, 98, 99, 100, 150, 151, 152, 15, 153, 122, 123, 124, 125, 46, 126, 127, 128, 129, 130, 131, 132, 133, 134, 135, 136, 137, 138, 139, 140, 141, 142, 105, 143, 144, 145, 33, 34, 35, 36, 37, 80, 81, 82, 83, 64, 65, 66, 67, 28, 171, 172, 173, 174, 175, 176, 177, 178, 179, 180, 181, 182, 183, 184, 185, 186] (by decide +kernel) (by decide +kernel)) (goodIn_sub (fun _ h => List.mem_cons_of_mem _ (List.mem_append_right _ h)) (by decide +kernel))
set_option maxRecDepth 20000 in
theorem gL_isSound_X3_mostWear : GoodIn wsL_isSound (wsV RL 64 RX3 yX3_mostWear wsX3_mostWear) := goodIn_app (goodIn_of _ (by decide +kernel)) ggL_isSound_X3_mostWear
set_option maxRecDepth 20000 in
theorem ggL_isSound_X3_rail : GoodIn wsL_isSound wsX3_rail := goodIn_ca (goodIn_ca (goodIn_r _ [157, 6, 158, 159, 4, 160, 98, 99, 161, 162, 163, 7, 8, 9, 10, 11, 164, 165, 166, 15, 167, 130, 168, 37, 169, 170, 64, 65, 66, 67, 28, 55, 56, 57, 58, 59, 60, 61, 62, 63, 17, 46, 72, 73, 74, 75, 47, 48, 49, 50, 42, 43, 44, 45, 171, 172, 173, 174, 175, 176, 177, 178, 179, 180, 181, 182, 183, 184, 185, 186] (by decide +kernel) (by decide +kernel)) (goodIn_sub (fun _ h => List.mem_cons_of_mem _ (List.mem_append_right _ h)) (by decide +kernel))) (goodIn_sub (fun _ h => List.mem_cons_of_mem _ (List.mem_append_left _ (List.mem_append_right _ h))) (by decide +kernel))
set_option maxRecDepth 20000 in
theorem gL_isSound_X3_rail : GoodIn wsL_isSound (wsV RL 28 RX3 yX3_rail wsX3_rail) := goodIn_app (goodIn_of _ (by decide +kernel)) ggL_isSound_X3_rail
theorem dL_isSound_0 : decode cL_isSound 0 = .ok (.aload_n 0, 1) := by decide +kernel
theorem dL_isSound_1 : decode cL_isSound 1 = .ok (.iconst 1, 1) := by decide +kernel
theorem dL_isSound_2 : decode cL_isSound 2 = .ok (.invokevirtual 55, 3) := by decide +kernel
theorem dL_isSound_5 : decode cL_isSound 5 = .ok (.aload_n 0, 1) := by decide +kernel
theorem dL_isSound_6 : decode cL_isSound 6 = .ok (.iconst 2, 1) := by decide +kernel
theorem dL_isSound_7 : decode cL_isSound 7 = .ok (.invokevirtual 55, 3) := by decide +kernel
theorem dL_isSound_10 : decode cL_isSound 10 = .ok (.aload_n 0, 1) := by decide +kernel
theorem dL_isSound_11 : decode cL_isSound 11 = .ok (.iconst 3, 1) := by decide +kernel
theorem dL_isSound_12 : decode cL_isSound 12 = .ok (.invokevirtual 55, 3) := by decide +kernel
theorem dL_isSound_15 : decode cL_isSound 15 = .ok (.iadd, 1) := by decide +kernel
theorem dL_isSound_16 : decode cL_isSound 16 = .ok (.aload_n 0, 1) := by decide +kernel
theorem dL_isSound_17 : decode cL_isSound 17 = .ok (.iconst 4, 1) := by decide +kernel
theorem dL_isSound_18 : decode cL_isSound 18 = .ok (.invokevirtual 55, 3) := by decide +kernel
theorem dL_isSound_21 : decode cL_isSound 21 = .ok (.iadd, 1) := by decide +kernel
theorem dL_isSound_22 : decode cL_isSound 22 = .ok (.aload_n 0, 1) := by decide +kernel
theorem dL_isSound_23 : decode cL_isSound 23 = .ok (.iconst 5, 1) := by decide +kernel
theorem dL_isSound_24 : decode cL_isSound 24 = .ok (.invokevirtual 55, 3) := by decide +kernel
theorem dL_isSound_27 : decode cL_isSound 27 = .ok (.iadd, 1) := by decide +kernel
theorem dL_isSound_28 : decode cL_isSound 28 = .ok (.if_icmp .ne 39, 3) := by decide +kernel
theorem dL_isSound_31 : decode cL_isSound 31 = .ok (.aload_n 0, 1) := by decide +kernel
theorem dL_isSound_32 : decode cL_isSound 32 = .ok (.bipush 6, 2) := by decide +kernel
theorem dL_isSound_34 : decode cL_isSound 34 = .ok (.invokevirtual 55, 3) := by decide +kernel
theorem dL_isSound_37 : decode cL_isSound 37 = .ok (.aload_n 0, 1) := by decide +kernel
theorem dL_isSound_38 : decode cL_isSound 38 = .ok (.iconst 2, 1) := by decide +kernel
theorem dL_isSound_39 : decode cL_isSound 39 = .ok (.invokevirtual 55, 3) := by decide +kernel
theorem dL_isSound_42 : decode cL_isSound 42 = .ok (.if_icmp .gt 25, 3) := by decide +kernel
theorem dL_isSound_45 : decode cL_isSound 45 = .ok (.aload_n 0, 1) := by decide +kernel
theorem dL_isSound_46 : decode cL_isSound 46 = .ok (.invokevirtual 51, 3) := by decide +kernel
theorem dL_isSound_49 : decode cL_isSound 49 = .ok (.dconst 0, 1) := by decide +kernel
theorem dL_isSound_50 : decode cL_isSound 50 = .ok (.dcmp .l, 1) := by decide +kernel
theorem dL_isSound_51 : decode cL_isSound 51 = .ok (.ifCond .lt 16, 3) := by decide +kernel
theorem dL_isSound_54 : decode cL_isSound 54 = .ok (.aload_n 0, 1) := by decide +kernel
theorem dL_isSound_55 : decode cL_isSound 55 = .ok (.invokevirtual 51, 3) := by decide +kernel
theorem dL_isSound_58 : decode cL_isSound 58 = .ok (.dconst 1, 1) := by decide +kernel
theorem dL_isSound_59 : decode cL_isSound 59 = .ok (.dcmp .g, 1) := by decide +kernel
theorem dL_isSound_60 : decode cL_isSound 60 = .ok (.ifCond .gt 7, 3) := by decide +kernel
theorem dL_isSound_63 : decode cL_isSound 63 = .ok (.iconst 1, 1) := by decide +kernel
theorem dL_isSound_64 : decode cL_isSound 64 = .ok (.goto 4, 3) := by decide +kernel
theorem dL_isSound_67 : decode cL_isSound 67 = .ok (.iconst 0, 1) := by decide +kernel
theorem dL_isSound_68 : decode cL_isSound 68 = .ok (.istore_n 1, 1) := by decide +kernel
theorem dL_isSound_69 : decode cL_isSound 69 = .ok (.iconst 0, 1) := by decide +kernel
theorem dL_isSound_70 : decode cL_isSound 70 = .ok (.istore_n 2, 1) := by decide +kernel
theorem dL_isSound_71 : decode cL_isSound 71 = .ok (.iconst 0, 1) := by decide +kernel
theorem dL_isSound_72 : decode cL_isSound 72 = .ok (.istore_n 3, 1) := by decide +kernel
theorem dL_isSound_73 : decode cL_isSound 73 = .ok (.iconst 0, 1) := by decide +kernel
theorem dL_isSound_74 : decode cL_isSound 74 = .ok (.istore 4, 2) := by decide +kernel
theorem dL_isSound_76 : decode cL_isSound 76 = .ok (.iload 4, 2) := by decide +kernel
theorem dL_isSound_78 : decode cL_isSound 78 = .ok (.iconst 4, 1) := by decide +kernel
theorem dL_isSound_79 : decode cL_isSound 79 = .ok (.if_icmp .ge 71, 3) := by decide +kernel
theorem dL_isSound_82 : decode cL_isSound 82 = .ok (.iload_n 2, 1) := by decide +kernel
theorem dL_isSound_83 : decode cL_isSound 83 = .ok (.aload_n 0, 1) := by decide +kernel
theorem dL_isSound_84 : decode cL_isSound 84 = .ok (.iload 4, 2) := by decide +kernel
theorem dL_isSound_86 : decode cL_isSound 86 = .ok (.bipush 6, 2) := by decide +kernel
theorem dL_isSound_88 : decode cL_isSound 88 = .ok (.invokevirtual 25, 3) := by decide +kernel
theorem dL_isSound_91 : decode cL_isSound 91 = .ok (.iadd, 1) := by decide +kernel
theorem dL_isSound_92 : decode cL_isSound 92 = .ok (.istore_n 2, 1) := by decide +kernel
theorem dL_isSound_93 : decode cL_isSound 93 = .ok (.iload_n 3, 1) := by decide +kernel
theorem dL_isSound_94 : decode cL_isSound 94 = .ok (.aload_n 0, 1) := by decide +kernel
theorem dL_isSound_95 : decode cL_isSound 95 = .ok (.iload 4, 2) := by decide +kernel
theorem dL_isSound_97 : decode cL_isSound 97 = .ok (.iconst 1, 1) := by decide +kernel
theorem dL_isSound_98 : decode cL_isSound 98 = .ok (.invokevirtual 25, 3) := by decide +kernel
theorem dL_isSound_101 : decode cL_isSound 101 = .ok (.aload_n 0, 1) := by decide +kernel
theorem dL_isSound_102 : decode cL_isSound 102 = .ok (.iload 4, 2) := by decide +kernel
theorem dL_isSound_104 : decode cL_isSound 104 = .ok (.iconst 3, 1) := by decide +kernel
theorem dL_isSound_105 : decode cL_isSound 105 = .ok (.invokevirtual 25, 3) := by decide +kernel
theorem dL_isSound_108 : decode cL_isSound 108 = .ok (.imul, 1) := by decide +kernel
theorem dL_isSound_109 : decode cL_isSound 109 = .ok (.iadd, 1) := by decide +kernel
theorem dL_isSound_110 : decode cL_isSound 110 = .ok (.istore_n 3, 1) := by decide +kernel
theorem dL_isSound_111 : decode cL_isSound 111 = .ok (.iload_n 1, 1) := by decide +kernel
theorem dL_isSound_112 : decode cL_isSound 112 = .ok (.ifCond .eq 30, 3) := by decide +kernel
theorem dL_isSound_115 : decode cL_isSound 115 = .ok (.aload_n 0, 1) := by decide +kernel
theorem dL_isSound_116 : decode cL_isSound 116 = .ok (.iload 4, 2) := by decide +kernel
theorem dL_isSound_118 : decode cL_isSound 118 = .ok (.invokevirtual 61, 3) := by decide +kernel
theorem dL_isSound_121 : decode cL_isSound 121 = .ok (.bipush 40, 2) := by decide +kernel
theorem dL_isSound_123 : decode cL_isSound 123 = .ok (.if_icmp .gt 19, 3) := by decide +kernel
theorem dL_isSound_126 : decode cL_isSound 126 = .ok (.aload_n 0, 1) := by decide +kernel
theorem dL_isSound_127 : decode cL_isSound 127 = .ok (.iload 4, 2) := by decide +kernel
theorem dL_isSound_129 : decode cL_isSound 129 = .ok (.invokevirtual 64, 3) := by decide +kernel
theorem dL_isSound_132 : decode cL_isSound 132 = .ok (.sipush 999, 3) := by decide +kernel
theorem dL_isSound_135 : decode cL_isSound 135 = .ok (.if_icmp .gt 7, 3) := by decide +kernel
theorem dL_isSound_138 : decode cL_isSound 138 = .ok (.iconst 1, 1) := by decide +kernel
theorem dL_isSound_139 : decode cL_isSound 139 = .ok (.goto 4, 3) := by decide +kernel
theorem dL_isSound_142 : decode cL_isSound 142 = .ok (.iconst 0, 1) := by decide +kernel
theorem dL_isSound_143 : decode cL_isSound 143 = .ok (.istore_n 1, 1) := by decide +kernel
theorem dL_isSound_144 : decode cL_isSound 144 = .ok (.iinc 4 1, 3) := by decide +kernel
theorem dL_isSound_147 : decode cL_isSound 147 = .ok (.goto (-71), 3) := by decide +kernel
theorem dL_isSound_150 : decode cL_isSound 150 = .ok (.iconst 0, 1) := by decide +kernel
theorem dL_isSound_151 : decode cL_isSound 151 = .ok (.istore 4, 2) := by decide +kernel
theorem dL_isSound_153 : decode cL_isSound 153 = .ok (.iload 4, 2) := by decide +kernel
theorem dL_isSound_155 : decode cL_isSound 155 = .ok (.bipush 6, 2) := by decide +kernel
theorem dL_isSound_157 : decode cL_isSound 157 = .ok (.if_icmp .ge 102, 3) := by decide +kernel
theorem dL_isSound_160 : decode cL_isSound 160 = .ok (.iload_n 1, 1) := by decide +kernel
theorem dL_isSound_161 : decode cL_isSound 161 = .ok (.ifCond .eq 90, 3) := by decide +kernel
theorem dL_isSound_164 : decode cL_isSound 164 = .ok (.aload_n 0, 1) := by decide +kernel
theorem dL_isSound_165 : decode cL_isSound 165 = .ok (.iload 4, 2) := by decide +kernel
theorem dL_isSound_167 : decode cL_isSound 167 = .ok (.iconst 2, 1) := by decide +kernel
theorem dL_isSound_168 : decode cL_isSound 168 = .ok (.invokevirtual 28, 3) := by decide +kernel
theorem dL_isSound_171 : decode cL_isSound 171 = .ok (.bipush 40, 2) := by decide +kernel
theorem dL_isSound_173 : decode cL_isSound 173 = .ok (.if_icmp .gt 78, 3) := by decide +kernel
theorem dL_isSound_176 : decode cL_isSound 176 = .ok (.aload_n 0, 1) := by decide +kernel
theorem dL_isSound_177 : decode cL_isSound 177 = .ok (.iload 4, 2) := by decide +kernel
theorem dL_isSound_179 : decode cL_isSound 179 = .ok (.iconst 1, 1) := by decide +kernel
theorem dL_isSound_180 : decode cL_isSound 180 = .ok (.invokevirtual 28, 3) := by decide +kernel
theorem dL_isSound_183 : decode cL_isSound 183 = .ok (.bipush 20, 2) := by decide +kernel
theorem dL_isSound_185 : decode cL_isSound 185 = .ok (.if_icmp .ge 66, 3) := by decide +kernel
theorem dL_isSound_188 : decode cL_isSound 188 = .ok (.aload_n 0, 1) := by decide +kernel
theorem dL_isSound_189 : decode cL_isSound 189 = .ok (.iload 4, 2) := by decide +kernel
theorem dL_isSound_191 : decode cL_isSound 191 = .ok (.iconst 0, 1) := by decide +kernel
theorem dL_isSound_192 : decode cL_isSound 192 = .ok (.invokevirtual 28, 3) := by decide +kernel
theorem dL_isSound_195 : decode cL_isSound 195 = .ok (.sipush 900, 3) := by decide +kernel
theorem dL_isSound_198 : decode cL_isSound 198 = .ok (.if_icmp .lt 53, 3) := by decide +kernel
theorem dL_isSound_201 : decode cL_isSound 201 = .ok (.aload_n 0, 1) := by decide +kernel
theorem dL_isSound_202 : decode cL_isSound 202 = .ok (.iload 4, 2) := by decide +kernel
theorem dL_isSound_204 : decode cL_isSound 204 = .ok (.iconst 0, 1) := by decide +kernel
theorem dL_isSound_205 : decode cL_isSound 205 = .ok (.invokevirtual 28, 3) := by decide +kernel
theorem dL_isSound_208 : decode cL_isSound 208 = .ok (.sipush 4100, 3) := by decide +kernel
theorem dL_isSound_211 : decode cL_isSound 211 = .ok (.if_icmp .gt 40, 3) := by decide +kernel
theorem dL_isSound_214 : decode cL_isSound 214 = .ok (.aload_n 0, 1) := by decide +kernel
theorem dL_isSound_215 : decode cL_isSound 215 = .ok (.iload 4, 2) := by decide +kernel
theorem dL_isSound_217 : decode cL_isSound 217 = .ok (.iconst 3, 1) := by decide +kernel
theorem dL_isSound_218 : decode cL_isSound 218 = .ok (.invokevirtual 28, 3) := by decide +kernel
theorem dL_isSound_221 : decode cL_isSound 221 = .ok (.ifCond .lt 7, 3) := by decide +kernel
theorem dL_isSound_224 : decode cL_isSound 224 = .ok (.iconst 1, 1) := by decide +kernel
theorem dL_isSound_225 : decode cL_isSound 225 = .ok (.goto 4, 3) := by decide +kernel
theorem dL_isSound_228 : decode cL_isSound 228 = .ok (.iconst 0, 1) := by decide +kernel
theorem dL_isSound_229 : decode cL_isSound 229 = .ok (.aload_n 0, 1) := by decide +kernel
theorem dL_isSound_230 : decode cL_isSound 230 = .ok (.iload 4, 2) := by decide +kernel
theorem dL_isSound_232 : decode cL_isSound 232 = .ok (.iconst 4, 1) := by decide +kernel
theorem dL_isSound_233 : decode cL_isSound 233 = .ok (.invokevirtual 28, 3) := by decide +kernel
theorem dL_isSound_236 : decode cL_isSound 236 = .ok (.ifCond .lt 7, 3) := by decide +kernel
theorem dL_isSound_239 : decode cL_isSound 239 = .ok (.iconst 1, 1) := by decide +kernel
theorem dL_isSound_240 : decode cL_isSound 240 = .ok (.goto 4, 3) := by decide +kernel
theorem dL_isSound_243 : decode cL_isSound 243 = .ok (.iconst 0, 1) := by decide +kernel
theorem dL_isSound_244 : decode cL_isSound 244 = .ok (.if_icmp .ne 7, 3) := by decide +kernel
theorem dL_isSound_247 : decode cL_isSound 247 = .ok (.iconst 1, 1) := by decide +kernel
theorem dL_isSound_248 : decode cL_isSound 248 = .ok (.goto 4, 3) := by decide +kernel
theorem dL_isSound_251 : decode cL_isSound 251 = .ok (.iconst 0, 1) := by decide +kernel
theorem dL_isSound_252 : decode cL_isSound 252 = .ok (.istore_n 1, 1) := by decide +kernel
theorem dL_isSound_253 : decode cL_isSound 253 = .ok (.iinc 4 1, 3) := by decide +kernel
theorem dL_isSound_256 : decode cL_isSound 256 = .ok (.goto (-103), 3) := by decide +kernel
theorem dL_isSound_259 : decode cL_isSound 259 = .ok (.iload_n 1, 1) := by decide +kernel
theorem dL_isSound_260 : decode cL_isSound 260 = .ok (.ifCond .eq 26, 3) := by decide +kernel
theorem dL_isSound_263 : decode cL_isSound 263 = .ok (.iload_n 2, 1) := by decide +kernel
theorem dL_isSound_264 : decode cL_isSound 264 = .ok (.aload_n 0, 1) := by decide +kernel
theorem dL_isSound_265 : decode cL_isSound 265 = .ok (.iconst 1, 1) := by decide +kernel
theorem dL_isSound_266 : decode cL_isSound 266 = .ok (.invokevirtual 55, 3) := by decide +kernel
theorem dL_isSound_269 : decode cL_isSound 269 = .ok (.if_icmp .ne 17, 3) := by decide +kernel
theorem dL_isSound_272 : decode cL_isSound 272 = .ok (.iload_n 3, 1) := by decide +kernel
theorem dL_isSound_273 : decode cL_isSound 273 = .ok (.aload_n 0, 1) := by decide +kernel
theorem dL_isSound_274 : decode cL_isSound 274 = .ok (.bipush 8, 2) := by decide +kernel
theorem dL_isSound_276 : decode cL_isSound 276 = .ok (.invokevirtual 55, 3) := by decide +kernel
theorem dL_isSound_279 : decode cL_isSound 279 = .ok (.if_icmp .ne 7, 3) := by decide +kernel
theorem dL_isSound_282 : decode cL_isSound 282 = .ok (.iconst 1, 1) := by decide +kernel
theorem dL_isSound_283 : decode cL_isSound 283 = .ok (.goto 4, 3) := by decide +kernel
theorem dL_isSound_286 : decode cL_isSound 286 = .ok (.iconst 0, 1) := by decide +kernel
theorem dL_isSound_287 : decode cL_isSound 287 = .ok (.ireturn, 1) := by decide +kernel
set_option maxRecDepth 20000 in
theorem ggL_law_X3_init : GoodIn wsL_law wsX3_init := goodIn_r _ [5, 6, 7, 8, 9, 10, 11, 12, 13, 14, 15, 16, 17, 18, 19, 20, 21, 22, 23, 24, 25, 26, 27, 28, 29, 30, 31, 32, 33, 34, 35, 36, 37, 38, 39, 40, 41, 42, 43, 44, 45, 46, 47, 48, 49, 345, 346, 347, 348, 349, 350, 351, 352, 353, 354, 355, 356, 357, 342, 343, 344, 358, 359, 360, 361, 362, 363, 364, 365] (by decide +kernel) (by decide +kernel)
set_option maxRecDepth 20000 in
theorem gL_law_X3_init : GoodIn wsL_law (wsX3_init) := ggL_law_X3_init
set_option maxRecDepth 20000 in
theorem ggL_law_L_kinds : GoodIn wsL_law wsL_kinds := goodIn_ca (goodIn_ca (goodIn_r _ [53, 54, 55, 52, 56, 57, 58, 59, 60, 61, 62, 63, 64, 2, 65, 66, 67, 12, 68, 16, 69, 70, 71, 72, 73, 74, 75, 76, 15, 77, 42, 78, 79, 80, 81, 82, 83, 84, 85, 86, 11, 87, 88, 26, 89, 90, 91, 92, 27, 28, 29, 30, 31, 32, 33, 34, 35, 36, 93, 94, 95, 96, 97, 342, 343, 344, 345, 346, 347, 348, 349, 350, 351, 352, 353, 354, 355, 356, 357, 358, 359, 360] (by decide +kernel) (by decide +kernel)) (goodIn_sub (fun _ h => List.mem_append_left _ (List.mem_append_left _ (List.mem_append_right _ h))) (by decide +kernel))) (goodIn_sub (fun _ h => List.mem_append_left _ (List.mem_append_right _ h)) (by decide +kernel))
set_option maxRecDepth 20000 in
theorem gL_law_L_kinds : GoodIn wsL_law (va_wsS RL 71 yL_kinds wsL_kinds) := goodIn_app (goodIn_of _ (by decide +kernel)) ggL_law_L_kinds
set_option maxRecDepth 20000 in
theorem ggL_law_L_cell : GoodIn wsL_law wsL_cell := goodIn_r _ [56, 57] (by decide +kernel) (by decide +kernel)
set_option maxRecDepth 20000 in
theorem gL_law_L_cell : GoodIn wsL_law (va_wsS RL 9 yL_cell wsL_cell) := goodIn_app (goodIn_of _ (by decide +kernel)) ggL_law_L_cell
set_option maxRecDepth 20000 in
theorem ggL_law_L_isStep : GoodIn wsL_law wsL_isStep := goodIn_ca (goodIn_ca (goodIn_ca (goodIn_r _ [100, 58, 59, 52, 60, 61, 101, 102, 103, 2, 104, 12, 105, 106, 107, 108, 109, 110, 68, 69, 70, 71, 72, 73, 111, 112, 113, 11, 114, 26, 27, 28, 30, 29, 115, 116, 117, 118, 119, 120, 121, 122, 36, 123, 124, 125, 126, 33, 127, 128, 129, 130, 131, 132, 133, 134, 135, 136, 137, 138, 139, 140, 31, 32, 34, 35, 141, 142, 143, 144, 145, 146, 147, 148, 149, 150, 151, 152, 88, 153, 154, 155, 156, 157, 158, 159, 160, 161, 162, 163, 164, 66, 67, 16, 165, 166, 167, 168, 169, 170, 74, 75, 76, 15, 77, 42, 78, 79, 80, 81, 82, 83, 84, 85, 86, 87, 89, 90, 91, 92, 93, 171, 172, 173, 174, 175, 176, 177, 178, 179, 180, 181, 182, 183, 184, 185, 186, 187, 188, 189, 190, 191, 192, 193, 194, 195, 196, 197, 198, 199, 200, 201, 202, 203, 204, 205, 206, 207, 208, 209, 210, 211, 212, 213, 214, 215, 216, 217, 218, 219, 220, 221, 222, 223, 224, 225, 226, 227, 228, 229, 230, 231, 232, 233, 234, 235, 236, 237, 238, 239, 342, 343, 344, 345, 346, 347, 348, 349, 350, 351, 352, 353, 354, 355, 356, 357, 358, 359, 360] (by decide +kernel) (by decide +kernel)) (goodIn_sub (fun _ h => List.mem_append_right _ h) (by decide +kernel))) (goodIn_sub (fun _ h => List.mem_append_left _ (List.mem_append_right _ h)) (by decide +kernel))) (goodIn_sub (fun _ h => List.mem_append_left _ (List.mem_append_left _ (List.mem_append_right _ h))) (by decide +kernel))
set_option maxRecDepth 20000 in
theorem gL_law_L_isStep : GoodIn wsL_law (va_wsS RL 75 yL_isStep wsL_isStep) := goodIn_app (goodIn_of _ (by decide +kernel)) ggL_law_L_isStep
set_option maxRecDepth 20000 in
theorem ggL_law_L_areAlike : GoodIn wsL_law wsL_areAlike := goodIn_ca (goodIn_ca (goodIn_r _ [242, 243, 244, 245, 2, 246, 12, 247, 248, 249, 11, 250, 36, 199, 200, 201, 251, 252, 253, 254, 157, 158, 159, 160, 88, 28, 119, 120, 121, 122, 255, 256, 257, 258, 69, 70, 71, 72, 73, 259, 260, 261, 262, 29, 30, 93, 263, 264, 265, 266, 267, 222, 168, 169, 170, 33, 268, 269, 270, 271, 272, 145, 146, 147, 148, 27, 149, 150, 151, 152, 141, 142, 143, 144, 273, 274, 275, 276, 153, 154, 155, 156, 277, 278, 279, 280, 179, 180, 181, 182, 127, 128, 129, 130, 131, 132, 133, 109, 110, 134, 135, 136, 137, 138, 139, 140, 31, 32, 34, 35, 281, 282, 283, 284, 285, 286, 287, 288, 26, 219, 220, 82, 221, 214, 81, 83, 101, 102, 103, 104, 105, 106, 107, 108, 68, 111, 112, 113, 114, 115, 116, 117, 118, 123, 124, 125, 126, 289, 290, 291, 292, 293, 294, 295, 296, 297, 298, 299, 300, 231, 207, 208, 209, 210, 211, 212, 213, 215, 216, 217, 218, 301, 302, 303, 304, 305, 306, 307, 308, 309, 310, 311, 312, 313, 342, 343, 344, 345, 346, 347, 348, 349, 350, 351, 352, 353, 354, 355, 356, 357] (by decide +kernel) (by decide +kernel)) (goodIn_sub (fun _ h => List.mem_append_left _ (List.mem_append_right _ h)) (by decide +kernel))) (goodIn_sub (fun _ h => List.mem_append_right _ h) (by decide +kernel))
set_option maxRecDepth 20000 in
theorem gL_law_L_areAlike : GoodIn wsL_law (va_wsS RL 79 yL_areAlike wsL_areAlike) := goodIn_app (goodIn_of _ (by decide +kernel)) ggL_law_L_areAlike
set_option maxRecDepth 20000 in
theorem ggL_law_L_isSound : GoodIn wsL_law wsL_isSound := goodIn_ca (goodIn_ca (goodIn_r _ [316, 255, 256, 257, 2, 258, 12, 69, 70, 71, 72, 73, 259, 260, 261, 11, 262, 88, 29, 30, 93, 199, 200, 201, 263, 248, 249, 250, 36, 264, 265, 266, 267, 222, 168, 169, 170, 33, 268, 252, 253, 254, 157, 158, 159, 160, 28, 119, 120, 121, 122, 269, 270, 271, 272, 145, 146, 147, 148, 27, 149, 150, 151, 152, 141, 142, 143, 144, 273, 274, 275, 276, 153, 154, 155, 156, 277, 278, 279, 280, 179, 180, 181, 182, 243, 244, 245, 246, 247, 251, 101, 102, 103, 104, 105, 106, 107, 108, 109, 110, 68, 111, 112, 113, 114, 26, 115, 116, 117, 118, 123, 124, 125, 126, 289, 290, 291, 292, 293, 294, 295, 296, 297, 298, 299, 300, 231, 207, 208, 209, 31, 210, 211, 212, 213, 214, 81, 82, 83, 215, 216, 217, 218, 219, 220, 221, 301, 302, 303, 304, 305, 306, 307, 308, 127, 128, 129, 130, 131, 132, 133, 134, 135, 136, 137, 138, 139, 140, 32, 34, 35, 342, 343, 344, 345, 346, 347, 348, 349, 350, 351, 352, 353, 354, 355, 356, 357] (by decide +kernel) (by decide +kernel)) (goodIn_sub (fun _ h => List.mem_append_left _ (List.mem_append_right _ h)) (by decide +kernel))) (goodIn_sub (fun _ h => List.mem_append_right _ h) (by decide +kernel))
set_option maxRecDepth 20000 in
theorem gL_law_L_isSound : GoodIn wsL_law (va_wsS RL 83 yL_isSound wsL_isSound) := goodIn_app (goodIn_of _ (by decide +kernel)) ggL_law_L_isSound
set_option maxRecDepth 20000 in
theorem ggL_law_X3_value : GoodIn wsL_law wsX3_value := goodIn_ca (goodIn_r _ [258, 12, 69, 70, 2, 71, 72, 73, 259, 260, 261, 11, 262, 88, 29, 30, 93, 199, 200, 201, 263, 248, 249, 250, 36, 264, 265, 266, 267, 222, 168, 169, 170, 33, 268, 252, 253, 254, 157, 158, 159, 160, 28, 119, 120, 121, 122, 269, 270, 271, 272, 145, 146, 147, 148, 27, 149, 150, 151, 152, 141, 142, 143, 144, 273, 274, 275, 276, 153, 154, 155, 156, 277, 278, 279, 280, 179, 180, 181, 182, 342, 343, 344, 345, 346, 347, 348, 349, 350, 351, 352, 353, 354, 355, 356, 357] (by decide +kernel) (by decide +kernel)) (goodIn_sub (fun _ h => List.mem_append_left _ (List.mem_append_right _ h)) (by decide +kernel))
set_option maxRecDepth 20000 in
theorem gL_law_X3_value : GoodIn wsL_law (wsV RL 55 RX3 yX3_value wsX3_value) := goodIn_app (goodIn_of _ (by decide +kernel)) ggL_law_X3_value
set_option maxRecDepth 20000 in
theorem ggL_law_X3_feedSome : GoodIn wsL_law wsX3_feedSome := goodIn_ca (goodIn_ca (goodIn_r _ [320, 66, 67, 321, 12, 68, 16, 69, 70, 2, 71, 72, 73, 74, 75, 76, 15, 77, 42, 78, 79, 80, 81, 82, 83, 84, 85, 86, 11, 87, 88, 26, 89, 90, 91, 92, 27, 28, 29, 30, 31, 32, 33, 34, 35, 36, 93, 322, 323, 324, 325, 326, 327, 328, 329, 330, 331, 332, 228, 229, 230, 231, 207, 208, 209, 210, 211, 212, 213, 214, 215, 216, 217, 218, 219, 220, 221, 222, 168, 169, 170, 179, 180, 181, 182, 141, 142, 143, 144, 232, 233, 234, 235, 236, 237, 238, 239, 342, 343, 344, 345, 346, 347, 348, 349, 350, 351, 352, 353, 354, 355, 356, 357, 358, 359, 360] (by decide +kernel) (by decide +kernel)) (goodIn_sub (fun _ h => List.mem_append_left _ (List.mem_append_left _ (List.mem_append_right _ h))) (by decide +kernel))) (goodIn_sub (fun _ h => List.mem_append_left _ (List.mem_append_right _ h)) (by decide +kernel))
set_option maxRecDepth 20000 in
theorem gL_law_X3_feedSome : GoodIn wsL_law (wsV RL 87 RX3 yX3_feedSome wsX3_feedSome) := goodIn_app (goodIn_of _ (by decide +kernel)) ggL_law_X3_feedSome
set_option maxRecDepth 20000 in
theorem ggL_law_X3_undo : GoodIn wsL_law wsX3_undo := goodIn_ca (goodIn_r _ [336, 66, 67, 16, 337, 12, 338, 339, 340, 15, 341, 78, 79, 42, 84, 85, 86, 11, 87, 88, 26, 89, 90, 91, 92, 27, 28, 29, 30, 31, 32, 33, 34, 35, 36, 93, 342, 343, 344, 358, 359, 360, 345, 346, 347, 348, 349, 350, 351, 352, 353, 354, 355, 356, 357] (by decide +kernel) (by decide +kernel)) (goodIn_sub (fun _ h => List.mem_append_left _ (List.mem_append_left _ (List.mem_append_right _ h))) (by decide +kernel))
set_option maxRecDepth 20000 in
theorem gL_law_X3_undo : GoodIn wsL_law (wsV RL 90 RX3 yX3_undo wsX3_undo) := goodIn_app (goodIn_of _ (by decide +kernel)) ggL_law_X3_undo
theorem dL_law_0 : decode cL_law 0 = .ok (.new 20, 3) := by decide +kernel
theorem dL_law_3 : decode cL_law 3 = .ok (.dup, 1) := by decide +kernel
theorem dL_law_4 : decode cL_law 4 = .ok (.invokespecial 70, 3) := by decide +kernel
theorem dL_law_7 : decode cL_law 7 = .ok (.astore_n 1, 1) := by decide +kernel
theorem dL_law_8 : decode cL_law 8 = .ok (.new 20, 3) := by decide +kernel
theorem dL_law_11 : decode cL_law 11 = .ok (.dup, 1) := by decide +kernel
theorem dL_law_12 : decode cL_law 12 = .ok (.invokespecial 70, 3) := by decide +kernel
theorem dL_law_15 : decode cL_law 15 = .ok (.astore_n 2, 1) := by decide +kernel
theorem dL_law_16 : decode cL_law 16 = .ok (.aload_n 1, 1) := by decide +kernel
theorem dL_law_17 : decode cL_law 17 = .ok (.aload_n 2, 1) := by decide +kernel
theorem dL_law_18 : decode cL_law 18 = .ok (.aload_n 0, 1) := by decide +kernel
theorem dL_law_19 : decode cL_law 19 = .ok (.invokestatic 71, 3) := by decide +kernel
theorem dL_law_22 : decode cL_law 22 = .ok (.istore_n 3, 1) := by decide +kernel
theorem dL_law_23 : decode cL_law 23 = .ok (.iconst 4, 1) := by decide +kernel
theorem dL_law_24 : decode cL_law 24 = .ok (.istore 4, 2) := by decide +kernel
theorem dL_law_26 : decode cL_law 26 = .ok (.iload 4, 2) := by decide +kernel
theorem dL_law_28 : decode cL_law 28 = .ok (.bipush 44, 2) := by decide +kernel
theorem dL_law_30 : decode cL_law 30 = .ok (.if_icmp .ge 48, 3) := by decide +kernel
theorem dL_law_33 : decode cL_law 33 = .ok (.iload_n 3, 1) := by decide +kernel
theorem dL_law_34 : decode cL_law 34 = .ok (.ifCond .eq 44, 3) := by decide +kernel
theorem dL_law_37 : decode cL_law 37 = .ok (.aload_n 1, 1) := by decide +kernel
theorem dL_law_38 : decode cL_law 38 = .ok (.aload_n 2, 1) := by decide +kernel
theorem dL_law_39 : decode cL_law 39 = .ok (.aload_n 0, 1) := by decide +kernel
theorem dL_law_40 : decode cL_law 40 = .ok (.iload 4, 2) := by decide +kernel
theorem dL_law_42 : decode cL_law 42 = .ok (.invokestatic 9, 3) := by decide +kernel
theorem dL_law_45 : decode cL_law 45 = .ok (.invokestatic 75, 3) := by decide +kernel
theorem dL_law_48 : decode cL_law 48 = .ok (.ifCond .eq 22, 3) := by decide +kernel
theorem dL_law_51 : decode cL_law 51 = .ok (.aload_n 1, 1) := by decide +kernel
theorem dL_law_52 : decode cL_law 52 = .ok (.aload_n 2, 1) := by decide +kernel
theorem dL_law_53 : decode cL_law 53 = .ok (.invokestatic 79, 3) := by decide +kernel
theorem dL_law_56 : decode cL_law 56 = .ok (.ifCond .eq 14, 3) := by decide +kernel
theorem dL_law_59 : decode cL_law 59 = .ok (.aload_n 1, 1) := by decide +kernel
theorem dL_law_60 : decode cL_law 60 = .ok (.invokestatic 83, 3) := by decide +kernel
theorem dL_law_63 : decode cL_law 63 = .ok (.ifCond .eq 7, 3) := by decide +kernel
theorem dL_law_66 : decode cL_law 66 = .ok (.iconst 1, 1) := by decide +kernel
theorem dL_law_67 : decode cL_law 67 = .ok (.goto 4, 3) := by decide +kernel
theorem dL_law_70 : decode cL_law 70 = .ok (.iconst 0, 1) := by decide +kernel
theorem dL_law_71 : decode cL_law 71 = .ok (.istore_n 3, 1) := by decide +kernel
theorem dL_law_72 : decode cL_law 72 = .ok (.iinc 4 1, 3) := by decide +kernel
theorem dL_law_75 : decode cL_law 75 = .ok (.goto (-49), 3) := by decide +kernel
theorem dL_law_78 : decode cL_law 78 = .ok (.aload_n 1, 1) := by decide +kernel
theorem dL_law_79 : decode cL_law 79 = .ok (.iconst 1, 1) := by decide +kernel
theorem dL_law_80 : decode cL_law 80 = .ok (.invokevirtual 55, 3) := by decide +kernel
theorem dL_law_83 : decode cL_law 83 = .ok (.istore 4, 2) := by decide +kernel
theorem dL_law_85 : decode cL_law 85 = .ok (.aload_n 1, 1) := by decide +kernel
theorem dL_law_86 : decode cL_law 86 = .ok (.iconst 2, 1) := by decide +kernel
theorem dL_law_87 : decode cL_law 87 = .ok (.invokevirtual 55, 3) := by decide +kernel
theorem dL_law_90 : decode cL_law 90 = .ok (.istore 5, 2) := by decide +kernel
theorem dL_law_92 : decode cL_law 92 = .ok (.iload_n 3, 1) := by decide +kernel
theorem dL_law_93 : decode cL_law 93 = .ok (.ifCond .eq 66, 3) := by decide +kernel
theorem dL_law_96 : decode cL_law 96 = .ok (.aload_n 1, 1) := by decide +kernel
theorem dL_law_97 : decode cL_law 97 = .ok (.bipush 50, 2) := by decide +kernel
theorem dL_law_99 : decode cL_law 99 = .ok (.sipush 12345, 3) := by decide +kernel
theorem dL_law_102 : decode cL_law 102 = .ok (.invokevirtual 87, 3) := by decide +kernel
theorem dL_law_105 : decode cL_law 105 = .ok (.ifCond .lt 54, 3) := by decide +kernel
theorem dL_law_108 : decode cL_law 108 = .ok (.aload_n 1, 1) := by decide +kernel
theorem dL_law_109 : decode cL_law 109 = .ok (.iconst 1, 1) := by decide +kernel
theorem dL_law_110 : decode cL_law 110 = .ok (.invokevirtual 55, 3) := by decide +kernel
theorem dL_law_113 : decode cL_law 113 = .ok (.iload 4, 2) := by decide +kernel
theorem dL_law_115 : decode cL_law 115 = .ok (.bipush 50, 2) := by decide +kernel
theorem dL_law_117 : decode cL_law 117 = .ok (.iadd, 1) := by decide +kernel
theorem dL_law_118 : decode cL_law 118 = .ok (.if_icmp .ne 41, 3) := by decide +kernel
theorem dL_law_121 : decode cL_law 121 = .ok (.aload_n 1, 1) := by decide +kernel
theorem dL_law_122 : decode cL_law 122 = .ok (.invokestatic 83, 3) := by decide +kernel
theorem dL_law_125 : decode cL_law 125 = .ok (.ifCond .eq 34, 3) := by decide +kernel
theorem dL_law_128 : decode cL_law 128 = .ok (.aload_n 1, 1) := by decide +kernel
theorem dL_law_129 : decode cL_law 129 = .ok (.invokevirtual 90, 3) := by decide +kernel
theorem dL_law_132 : decode cL_law 132 = .ok (.ifCond .lt 27, 3) := by decide +kernel
theorem dL_law_135 : decode cL_law 135 = .ok (.aload_n 1, 1) := by decide +kernel
theorem dL_law_136 : decode cL_law 136 = .ok (.iconst 1, 1) := by decide +kernel
theorem dL_law_137 : decode cL_law 137 = .ok (.invokevirtual 55, 3) := by decide +kernel
theorem dL_law_140 : decode cL_law 140 = .ok (.iload 4, 2) := by decide +kernel
theorem dL_law_142 : decode cL_law 142 = .ok (.if_icmp .ne 17, 3) := by decide +kernel
theorem dL_law_145 : decode cL_law 145 = .ok (.aload_n 1, 1) := by decide +kernel
theorem dL_law_146 : decode cL_law 146 = .ok (.iconst 2, 1) := by decide +kernel
theorem dL_law_147 : decode cL_law 147 = .ok (.invokevirtual 55, 3) := by decide +kernel
theorem dL_law_150 : decode cL_law 150 = .ok (.iload 5, 2) := by decide +kernel
theorem dL_law_152 : decode cL_law 152 = .ok (.if_icmp .ne 7, 3) := by decide +kernel
theorem dL_law_155 : decode cL_law 155 = .ok (.iconst 1, 1) := by decide +kernel
theorem dL_law_156 : decode cL_law 156 = .ok (.goto 4, 3) := by decide +kernel
theorem dL_law_159 : decode cL_law 159 = .ok (.iconst 0, 1) := by decide +kernel
theorem dL_law_160 : decode cL_law 160 = .ok (.istore_n 3, 1) := by decide +kernel
theorem dL_law_161 : decode cL_law 161 = .ok (.iload_n 3, 1) := by decide +kernel
theorem dL_law_162 : decode cL_law 162 = .ok (.ireturn, 1) := by decide +kernel
abbrev vwCl : List vw_C := [(RX0, TX0, 5), (RX1, TX1, 3), (RX2, TX2, 13), (RX3, TX3, 3)]
end
section
set_option maxRecDepth 20000 in
theorem wsL_law0_r1_in : ∀ w ∈ wsL_law0_r1, w ∈ lw_tbl := fun w h => (goodIn_p wsL_law0_r1 [19, 22, 27] (by decide +kernel) (by decide +kernel) w h).1
set_option maxRecDepth 20000 in
theorem wsL_law0_r2_in : ∀ w ∈ wsL_law0_r2, w ∈ lw_tbl := fun w h => (goodIn_p wsL_law0_r2 [77, 97] (by decide +kernel) (by decide +kernel) w h).1
set_option maxRecDepth 20000 in
theorem wsL_law0_r3_in : ∀ w ∈ wsL_law0_r3, w ∈ lw_tbl := fun w h => (goodIn_p wsL_law0_r3 [349, 345, 352, 357, 129] (by decide +kernel) (by decide +kernel) w h).1
set_option maxRecDepth 20000 in
theorem wsL_law0_r4_in : ∀ w ∈ wsL_law0_r4, w ∈ lw_tbl := fun w h => (goodIn_p wsL_law0_r4 [218, 228, 222] (by decide +kernel) (by decide +kernel) w h).1
set_option maxRecDepth 20000 in
theorem wsL_law0_r5_in : ∀ w ∈ wsL_law0_r5, w ∈ lw_tbl := fun w h => (goodIn_p wsL_law0_r5 [362, 365, 369, 373, 393, 397] (by decide +kernel) (by decide +kernel) w h).1
set_option maxRecDepth 20000 in
theorem wsL_law0_r6_in : ∀ w ∈ wsL_law0_r6, w ∈ lw_tbl := fun w h => (goodIn_p wsL_law0_r6 [309, 401, 405, 408, 411, 416] (by decide +kernel) (by decide +kernel) w h).1
set_option maxRecDepth 20000 in
theorem wsL_law0_r7_in : ∀ w ∈ wsL_law0_r7, w ∈ lw_tbl := fun w h => (goodIn_p wsL_law0_r7 [270, 317, 321, 329, 305, 420] (by decide +kernel) (by decide +kernel) w h).1
set_option maxRecDepth 20000 in
theorem wsL_law0_r8_in : ∀ w ∈ wsL_law0_r8, w ∈ lw_tbl := fun w h => (goodIn_p wsL_law0_r8 [262, 426, 431, 266, 435, 439] (by decide +kernel) (by decide +kernel) w h).1
set_option maxRecDepth 20000 in
theorem wsL_law0_r9_in : ∀ w ∈ wsL_law0_r9, w ∈ lw_tbl := fun w h => (goodIn_p wsL_law0_r9 [443, 447, 289, 451, 246, 250] (by decide +kernel) (by decide +kernel) w h).1
set_option maxRecDepth 20000 in
theorem wsL_law0_r10_in : ∀ w ∈ wsL_law0_r10, w ∈ lw_tbl := fun w h => (goodIn_p wsL_law0_r10 [255, 258, 456, 242, 274, 278] (by decide +kernel) (by decide +kernel) w h).1
set_option maxRecDepth 20000 in
theorem wsL_law0_r11_in : ∀ w ∈ wsL_law0_r11, w ∈ lw_tbl := fun w h => (goodIn_p wsL_law0_r11 [460, 464, 293, 301, 282, 286] (by decide +kernel) (by decide +kernel) w h).1
set_option maxRecDepth 20000 in
theorem wsL_law0_r12_in : ∀ w ∈ wsL_law0_r12, w ∈ lw_tbl := fun w h => (goodIn_p wsL_law0_r12 [297, 313, 325, 333, 470] (by decide +kernel) (by decide +kernel) w h).1
set_option maxRecDepth 20000 in
theorem wsL_law0_r13_in : ∀ w ∈ wsL_law0_r13, w ∈ lw_tbl := fun w h => (goodIn_p wsL_law0_r13 [474, 478, 482, 486, 490, 494] (by decide +kernel) (by decide +kernel) w h).1
set_option maxRecDepth 20000 in
theorem wsL_law0_r14_in : ∀ w ∈ wsL_law0_r14, w ∈ lw_tbl := fun w h => (goodIn_p wsL_law0_r14 [498, 502, 126, 232] (by decide +kernel) (by decide +kernel) w h).1
set_option maxRecDepth 20000 in
theorem wsL_law0_r15_in : ∀ w ∈ wsL_law0_r15, w ∈ lw_tbl := fun w h => (goodIn_p wsL_law0_r15 [337, 342] (by decide +kernel) (by decide +kernel) w h).1
set_option maxRecDepth 20000 in
theorem inTX3 : ∀ w ∈ wsX30, w ∈ lw_tbl := by decide +kernel
set_option maxRecDepth 20000 in
theorem inTX2 : ∀ w ∈ wsX20, w ∈ lw_tbl := by decide +kernel
set_option maxRecDepth 20000 in
theorem inTX1 : ∀ w ∈ wsX10, w ∈ lw_tbl := by decide +kernel
set_option maxRecDepth 20000 in
theorem inTX0 : ∀ w ∈ wsX00, w ∈ lw_tbl := by decide +kernel
theorem wsL_law_in0 : ∀ w ∈ wsL_law0, w ∈ lw_tbl := List.forall_mem_append.mpr ⟨List.forall_mem_append.mpr ⟨List.forall_mem_append.mpr ⟨List.forall_mem_append.mpr ⟨List.forall_mem_append.mpr ⟨List.forall_mem_append.mpr ⟨wsL_law0_r1_in, List.forall_mem_append.mpr ⟨wsL_law0_r2_in, List.forall_mem_append.mpr ⟨wsL_law0_r3_in, List.forall_mem_append.mpr ⟨wsL_law0_r4_in, List.forall_mem_append.mpr ⟨wsL_law0_r5_in, List.forall_mem_append.mpr ⟨wsL_law0_r6_in, List.forall_mem_append.mpr ⟨wsL_law0_r7_in, List.forall_mem_append.mpr ⟨wsL_law0_r8_in, List.forall_mem_append.mpr ⟨wsL_law0_r9_in, List.forall_mem_append.mpr ⟨wsL_law0_r10_in, List.forall_mem_append.mpr ⟨wsL_law0_r11_in, List.forall_mem_append.mpr ⟨wsL_law0_r12_in, List.forall_mem_append.mpr ⟨wsL_law0_r13_in, List.forall_mem_append.mpr ⟨wsL_law0_r14_in, wsL_law0_r15_in⟩⟩⟩⟩⟩⟩⟩⟩⟩⟩⟩⟩⟩⟩, inTX3⟩, inTX2⟩, inTX1⟩, inTX0⟩, fun _ h => absurd h List.not_mem_nil⟩
theorem wsL_law_x0 : ∀ w ∈ (vx_atS RX3 42 "java/lang/IllegalStateException" ["java/lang/RuntimeException", "java/lang/Exception"]).filter goodWord, w ∈ lw_tbl := by decide +kernel
theorem wsL_law_x1 : ∀ w ∈ (vx_atS RX3 186 "java/lang/IllegalArgumentException" ["java/lang/RuntimeException", "java/lang/Exception"]).filter goodWord, w ∈ lw_tbl := by decide +kernel
theorem wsL_law_x2 : ∀ w ∈ (vx_atS RX3 179 "java/lang/IndexOutOfBoundsException" ["java/lang/RuntimeException", "java/lang/Exception"]).filter goodWord, w ∈ lw_tbl := by decide +kernel
theorem wsL_law_in : ∀ w ∈ wsL_law, w ∈ lw_tbl := fun w h => (List.mem_append.mp h).elim (fun h => (List.mem_append.mp h).elim (fun h => (List.mem_append.mp h).elim (fun h => wsL_law_in0 w h) (fun h => wsL_law_x0 w h)) (fun h => wsL_law_x1 w h)) (fun h => wsL_law_x2 w h)
theorem inlX0 : ∀ w ∈ wsX00, w ∈ wsL_law := fun _ h => List.mem_append_left _ (List.mem_append_left _ (List.mem_append_left _ (List.mem_append_left _ (List.mem_append_right _ h))))
theorem inX0 : ∀ w ∈ wsX00, w ∈ lw_tbl := fun w h => wsL_law_in w (inlX0 w h)
theorem inlX1 : ∀ w ∈ wsX10, w ∈ wsL_law := fun _ h => List.mem_append_left _ (List.mem_append_left _ (List.mem_append_left _ (List.mem_append_left _ (List.mem_append_left _ (List.mem_append_right _ h)))))
theorem inX1 : ∀ w ∈ wsX10, w ∈ lw_tbl := fun w h => wsL_law_in w (inlX1 w h)
theorem inlX2 : ∀ w ∈ wsX20, w ∈ wsL_law := fun _ h => List.mem_append_left _ (List.mem_append_left _ (List.mem_append_left _ (List.mem_append_left _ (List.mem_append_left _ (List.mem_append_left _ (List.mem_append_right _ h))))))
theorem inX2 : ∀ w ∈ wsX20, w ∈ lw_tbl := fun w h => wsL_law_in w (inlX2 w h)
theorem inlX3 : ∀ w ∈ wsX30, w ∈ wsL_law := fun _ h => List.mem_append_left _ (List.mem_append_left _ (List.mem_append_left _ (List.mem_append_left _ (List.mem_append_left _ (List.mem_append_left _ (List.mem_append_left _ (List.mem_append_right _ h)))))))
theorem inX3 : ∀ w ∈ wsX30, w ∈ lw_tbl := fun w h => wsL_law_in w (inlX3 w h)
theorem inX4 : ∀ w ∈ wsX40, w ∈ lw_tbl := by decide +kernel
theorem inJ9 : ∀ w ∈ wsJ90, w ∈ lw_tbl := by decide +kernel
theorem inJ0 : ∀ w ∈ wsJ00, w ∈ lw_tbl := by decide +kernel
theorem inJ10 : ∀ w ∈ wsJ100, w ∈ lw_tbl := by decide +kernel
end
