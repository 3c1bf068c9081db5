section
-- ===== PART A: goes FIRST, ahead of the names: the tables' words, and 'selects' of the private methods out of them =====
/-- a private method of a class that the tables say can be made, by its rows of tables_1 -/
def lw_okq (q : MethodName × Nat) : Prop := (q.1.cls ≠ "java/lang/invoke/MethodHandle" ∧ q.1.cls ≠ "java/lang/invoke/VarHandle") ∧ Cond.instantiable q.1.cls q.2 ∈ tables_1 ∧ Cond.privateMethod q.1 ∈ tables_1 ∧ Cond.instanceMethod q.1 ∈ tables_1
theorem lw_p0 : lw_okq (⟨"java/lang/Throwable", "fillInStackTrace", "(I)Ljava/lang/Throwable;"⟩, 6) := ⟨⟨by decide +kernel, by decide +kernel⟩, List.mem_of_getElem? (i := 195) (by decide +kernel), List.mem_of_getElem? (i := 193) (by decide +kernel), List.mem_of_getElem? (i := 194) (by decide +kernel)⟩
theorem lw_p1 : lw_okq (⟨"PlannedPages", "save", "()V"⟩, 5) := ⟨⟨by decide +kernel, by decide +kernel⟩, List.mem_of_getElem? (i := 14) (by decide +kernel), List.mem_of_getElem? (i := 249) (by decide +kernel), List.mem_of_getElem? (i := 250) (by decide +kernel)⟩
theorem lw_p2 : lw_okq (⟨"PlannedPages", "dropOldestSaved", "()V"⟩, 5) := ⟨⟨by decide +kernel, by decide +kernel⟩, List.mem_of_getElem? (i := 14) (by decide +kernel), List.mem_of_getElem? (i := 253) (by decide +kernel), List.mem_of_getElem? (i := 254) (by decide +kernel)⟩
theorem lw_p3 : lw_okq (⟨"PlannedPages", "checkToCome", "(I)V"⟩, 5) := ⟨⟨by decide +kernel, by decide +kernel⟩, List.mem_of_getElem? (i := 14) (by decide +kernel), List.mem_of_getElem? (i := 322) (by decide +kernel), List.mem_of_getElem? (i := 323) (by decide +kernel)⟩
theorem lw_p4 : lw_okq (⟨"PlannedPages$State", "readInto", "(II)V"⟩, 14) := ⟨⟨by decide +kernel, by decide +kernel⟩, List.mem_of_getElem? (i := 22) (by decide +kernel), List.mem_of_getElem? (i := 388) (by decide +kernel), List.mem_of_getElem? (i := 389) (by decide +kernel)⟩
theorem lw_p5 : lw_okq (⟨"PlannedPages$State", "markDone", "(III)V"⟩, 14) := ⟨⟨by decide +kernel, by decide +kernel⟩, List.mem_of_getElem? (i := 22) (by decide +kernel), List.mem_of_getElem? (i := 392) (by decide +kernel), List.mem_of_getElem? (i := 393) (by decide +kernel)⟩
theorem lw_p6 : lw_okq (⟨"PlannedPages", "finishTrial", "(I)I"⟩, 5) := ⟨⟨by decide +kernel, by decide +kernel⟩, List.mem_of_getElem? (i := 14) (by decide +kernel), List.mem_of_getElem? (i := 520) (by decide +kernel), List.mem_of_getElem? (i := 521) (by decide +kernel)⟩
def lw_privs_1 : List (MethodName × Nat) := [(⟨"java/lang/Throwable", "fillInStackTrace", "(I)Ljava/lang/Throwable;"⟩, 6), (⟨"PlannedPages", "save", "()V"⟩, 5), (⟨"PlannedPages", "dropOldestSaved", "()V"⟩, 5), (⟨"PlannedPages", "checkToCome", "(I)V"⟩, 5), (⟨"PlannedPages$State", "readInto", "(II)V"⟩, 14), (⟨"PlannedPages$State", "markDone", "(III)V"⟩, 14), (⟨"PlannedPages", "finishTrial", "(I)I"⟩, 5)]
theorem lw_r1 : ∀ q ∈ lw_privs_1, lw_okq q := List.forall_mem_cons.mpr ⟨lw_p0, List.forall_mem_cons.mpr ⟨lw_p1, List.forall_mem_cons.mpr ⟨lw_p2, List.forall_mem_cons.mpr ⟨lw_p3, List.forall_mem_cons.mpr ⟨lw_p4, List.forall_mem_cons.mpr ⟨lw_p5, List.forall_mem_cons.mpr ⟨lw_p6, fun _ h => absurd h List.not_mem_nil⟩⟩⟩⟩⟩⟩⟩
def lw_privs : List (MethodName × Nat) := lw_privs_1
def lw_tbl : List Cond := k2_sels lw_privs ++ tables_1
theorem lw_privs_ok : ∀ q ∈ lw_privs, lw_okq q := lw_r1
/-- the streams that the claim lets the run draw from -/
abbrev lw_cs : List Choice := [Jvm.Choice.named "NaN.bits"]
theorem lw_bits : nanBits ∈ lw_cs := by first | decide | exact List.mem_cons_self | simp [lw_cs, nanBits]
/-! ===== BEGIN words of one list among another's, by their places ===== -/
theorem goodIn_r {big : List Cond} (ws : List Cond) (ps : List Nat) (hp : ws = ps.filterMap (fun i => big[i]?)) (h : ws.all goodWord = true) : GoodIn big ws := by
  intro w hw
  have h1 := List.all_eq_true.mp h w hw
  rw [hp] at hw
  obtain ⟨i, -, hi⟩ := List.mem_filterMap.mp hw
  have hm : w ∈ big := by first | exact List.mem_of_getElem? hi | exact List.getElem?_mem hi
  exact ⟨hm, good_of_word h1⟩
theorem goodIn_app {big a b : List Cond} (ha : GoodIn big a) (hb : GoodIn big b) : GoodIn big (a ++ b) := fun w h => (List.mem_append.mp h).elim (ha w) (hb w)
theorem goodIn_ca {big a b : List Cond} {c : Cond} (ha : GoodIn big (c :: a)) (hb : GoodIn big b) : GoodIn big (c :: (a ++ b)) := fun w h => (List.mem_cons.mp h).elim (fun e => ha w (List.mem_cons.mpr (Or.inl e))) (fun h => (List.mem_append.mp h).elim (fun h => ha w (List.mem_cons.mpr (Or.inr h))) (hb w))
theorem goodIn_sub {big ws : List Cond} (hm : ∀ w ∈ ws, w ∈ big) (h : ws.all goodWord = true) : GoodIn big ws := fun w hw => ⟨hm w hw, good_of_word (List.all_eq_true.mp h w hw)⟩
/-! ===== END ===== -/

/-! ===== BEGIN exceptions that leave a method, and their catching by the caller (launches without stack traces) ===== -/
section VXA
/-! The laws vx_back, vx_callV, vx_callS, vx_callSW, vx_throw0, vx_throwS follow proofs of the library, with one case more: JvmDerived/Free/Laws.lean (Back.of_free), Shelf42/LK1.lean (callV, callS), Shelf/KitTraced.lean (throwNew0V, throwNewS). -/
/-- where a method has thrown q: the class by its name, the cell, what was written, the world -/
def vx_T (XC : String → State → State → Prop) (st : State) (q : Addr) (t : State) (mc ms : Nat) (free : Addr → Prop) : Prop :=
  ∃ (E : String) (ce : Cell) (L : List Loc), XC E st t ∧ t.heap[q]? = some ce ∧ ce.vm = .none ∧ st.vm.findClass E = some ce.cls ∧ st.WarmedH t.vm ∧ st.sameButNew ({ t with vm := st.vm } : State) L mc ms ∧ ∀ z ∈ L, free z.base
def vx_Q (Qc : Array Value → State → Outcome → State → Prop) (XC : String → State → State → Prop) (mc ms : Nat) (free : Addr → Prop) : Array Value → State → Outcome → State → Prop := fun a st o t =>
  (Qc a st o t ∧ ∃ L, FrameEnd st o t L mc ms ∧ ∀ q ∈ L, free q.base) ∨ ∃ q, o = .threw q ∧ vx_T XC st q t mc ms free
/-- a callee that returns or throws -/
def vx_Met (l : Launch) (y : MethodName) (ws : List Cond) (rm : Room) (Pc : Array Value → State → Prop) (Qc : Array Value → State → Outcome → State → Prop) (XC : String → State → State → Prop) (mc ms : Nat) (free : Addr → Prop) : Prop :=
  MetFree l y (headSpec ws rm) Pc (fun _ _ _ _ _ => True) (vx_Q Qc XC mc ms free)
def vx_Post (XC : String → State → State → Prop) (mc ms : Nat) (free : Addr → Prop) : Pt → Array Value → Addr → Pt → Prop := fun A a q B =>
  ∃ (g : JFrame) (mk : MethodId) (t : State) (L : List Loc) (E : String) (ce : Cell), B.U.heap = t.heap ∧ B.U.vm = t.vm ∧ XC E (A.U.calling g mk a) t ∧ t.heap[q]? = some ce ∧ ce.vm = .none ∧ A.U.vm.findClass E = some ce.cls ∧ B.locs = A.locs ++ L ∧ (∀ z ∈ L, free z.base) ∧ B.cells = A.cells + mc ∧ B.slots = A.slots + ms
def vx_Back (l : Launch) (R : Room) (p : Program) (e : Env) (below : List Frame) (s : State) (sargs : Array Value) (y : MethodName) (len W9 : Nat)
    (Pre : Pt → Array Value → Prop) (Post : Pt → Array Value → Option Value → Pt → Prop) (PostX : Pt → Array Value → Addr → Pt → Prop) : Prop :=
  ∀ (m : MethodId) (meth : Method) (c : Code) (A : Pt) (g : JFrame) (ig : Instr) (mk : MethodId) (a : Array Value),
    Stand p l e R s m sargs below meth c A.U A.locs A.cells A.slots → g.method = m → g.locals.size = c.maxLocals → decode c.code g.pc = .ok (ig, len) →
    2 * g.monitorRoom + (g.stack.map fun v => v.category).sum ≤ W9 → A.U.methodNamed? y = some mk → Pre A a →
    (∃ (v : Option Value) (B : Pt), Stand p l e R s m sargs below meth c B.U B.locs B.cells B.slots ∧ Post A a v B ∧
      Steps p.tables e below (doInvoke e (A.U.setTop g) [] mk a).1 (B.U.setTop { g with pc := g.pc + len, stack := v.toList ++ g.stack })) ∨
    (∃ (q : Addr) (B : Pt), Stand p l e R s m sargs below meth c B.U B.locs B.cells B.slots ∧ PostX A a q B ∧
      Steps p.tables e below (doInvoke e (A.U.setTop g) [] mk a).1 ((B.U.setTop g).pushFrame (.throwing q)))
section Payer
variable {l : Launch} {R : Room} {p : Program} {e : Env} {below : List Frame} {s : State} {sargs : Array Value} {y : MethodName} {len W9 : Nat}
theorem vx_back {ws : List Cond} {rm : Room} {Pc : Array Value → State → Prop} {Qc : Array Value → State → Outcome → State → Prop} {XC : String → State → State → Prop} {mc ms : Nat} {free : Addr → Prop} {bytes : ByteArray} {maxL : Nat} {ret : Option FieldType}
    (hM : vx_Met l y ws rm Pc Qc XC mc ms free) (hblind : FrameBlind Pc) (hrc : rm.cells = mc) (hrs : rm.slots = ms)
    (hframes : rm.frames + 1 ≤ R.frames) (hlocals : W9 + (maxL + 11) + rm.locals ≤ R.locals)
    (hws : ∀ w ∈ ws, ∀ a' U, s.WarmedH U.vm → w.before a' U = true) (hcode : Cond.code y bytes maxL ret ∈ ws) (hinit : ∀ a' U, s.WarmedH U.vm → (Cond.initialized y.cls).before a' U = true) :
    vx_Back l R p e below s sargs y len W9 (PreOf R mc ms Pc) (PostOf Qc mc ms free) (vx_Post XC mc ms free) := by
  intro m meth c A g ig mk a X hg hsize hdg hW hn hp
  have h1 : (headSpec ws rm).pre.before a A.U = true := atoms_intro fun w hw => hws w hw _ _ X.warmed
  have h2 : (Cond.code y bytes maxL ret).before a A.U = true := hws _ hcode _ _ X.warmed
  have h3 : (Cond.initialized y.cls).before a A.U = true := hinit _ _ X.warmed
  have h4 : A.cells + (headSpec ws rm).room.cells ≤ R.cells := by rw [show (headSpec ws rm).room.cells = mc from hrc]; exact hp.1
  have h5 : A.slots + (headSpec ws rm).room.slots ≤ R.slots := by rw [show (headSpec ws rm).room.slots = ms from hrs]; exact hp.2.1
  have hPc : Pc a (A.U.calling g mk a) := hblind _ _ _ _ hp.2.2
  obtain ⟨U, Ls, c0, s0⟩ := A
  dsimp only [Pt.U, Pt.locs, Pt.cells, Pt.slots] at h1 h2 h3 h4 h5 X hn hPc ⊢
  obtain ⟨methY, cY, hmY, hcY, -, hlY, -, -, -, -⟩ := Cond.code_spec hn h2
  obtain ⟨kY, hkY, -⟩ := className_of_methodNamed hn
  have hinitY : kY.init = .initialized := Cond.initialized_spec (findClass_of_methodNamed hn) hkY h3
  have h : At U g.method c below := by rw [hg]; exact X.here
  have hlocals9 : W9 + (maxL + 11) + (headSpec ws rm).room.locals ≤ R.locals := hlocals
  have happ : (headSpec ws rm).appliesLoose y e.platform (U.calling g mk a) = true :=
    Spec.appliesLoose_calling (g := g) h hdg hn hkY hinitY
      (X.room_calling (g := g) (R' := (headSpec ws rm).room) hsize hmY hcY hframes (by rw [hlY]; omega) h4 h5) h1
  obtain ⟨mid, hmid⟩ := h.above
  have hfr : (U.setTop g).frames = (.java g :: mid) ++ below := by rw [State.frames_setTop' g h.top, hmid]; rfl
  obtain ⟨o, s₂, hsteps, -, hend, hq⟩ := Steps.callFree hM p X.admits X.cas X.clock (acts := []) hfr happ hPc trivial
  have hq' : vx_Q Qc XC mc ms free a (U.calling g mk a) o s₂ := hq
  rw [State.frames_setTop' g h.top] at hend
  obtain ⟨g₀, hg0⟩ := Option.isSome_iff_exists.mp h.top
  obtain ⟨r, hr⟩ := State.topJava?_eq_some.mp hg0
  have hr' : (({ U with heap := s₂.heap, slotsUsed := s₂.slotsUsed } : State).setVm s₂.vm).frames = .java g₀ :: r := hr
  rcases hq' with ⟨hqc, L, hfe, hL⟩ | ⟨q, rfl, E, ce, L, hx, hce, hcv, hcl, hW₂, hsm, hL⟩
  · obtain ⟨⟨v, rfl⟩, hW₂, e2, q2, q3, q4, q5, q6⟩ := id hfe
    have e3 : s₂ = ({ (U.calling g mk a).setFrames s₂.frames with heap := s₂.heap, slotsUsed := s₂.slotsUsed } : State).setVm s₂.vm := by
      have : s₂ = ({ s₂ with vm := (U.calling g mk a).vm } : State).setVm s₂.vm := rfl
      rw [e2] at this
      exact this
    obtain ⟨c₂, i₂, len₂, hc₂, hd₂, hf₂⟩ := hend
    have hW' : U.WarmedH s₂.vm := hW₂
    have hcc : c₂ = c := by
      have h1 : s₂.code? g.method = U.code? g.method := by
        rw [State.code?_eq, State.code?_eq, hW'.alike.method?]
      exact Option.some.inj (hc₂.symm.trans (h1.trans h.code))
    subst hcc
    have hlen : len₂ = len := by rw [hdg] at hd₂; cases hd₂; rfl
    subst hlen
    have hs₂ : s₂ = (({ U with heap := s₂.heap, slotsUsed := s₂.slotsUsed } : State).setVm s₂.vm).setTop { g with pc := g.pc + len₂, stack := v.toList ++ g.stack } := by
      refine e3.trans ?_
      rw [hf₂, State.calling_eq h.top, State.setFrames_setFrames, State.setTop_of_frames _ hr', hr]
      rfl
    have hsame : U.sameButNew ({ U with heap := s₂.heap, slotsUsed := s₂.slotsUsed } : State) L mc ms := by
      refine ⟨?_, q2, q3, q4, q5, q6⟩
      obtain ⟨t, ht, -⟩ := State.frames_cons hr
      show ({ U with heap := s₂.heap, slotsUsed := s₂.slotsUsed } : State) = { U.setFrames U.frames with heap := s₂.heap, slotsUsed := s₂.slotsUsed }
      rw [State.setFrames_self ht]
    subst hg
    refine Or.inl ⟨v, ⟨(({ U with heap := s₂.heap, slotsUsed := s₂.slotsUsed } : State).setVm s₂.vm), Ls ++ L, c0 + mc, s0 + ms⟩,
      ⟨X.admits, X.cas, X.clock, X.frames, X.room, X.hears, X.method, X.code, (X.here.setHeapUsed s₂.heap s₂.slotsUsed).setVm hW'.alike, X.tail, State.WarmedH.trans X.warmed hW', X.limits, X.bytes, X.same.trans (hsame.setVm s.vm)⟩,
      ⟨g, mk, s₂, L, rfl, rfl, hqc, rfl, hL, rfl, rfl⟩, ?_⟩
    show Steps p.tables e below _ ((({ U with heap := s₂.heap, slotsUsed := s₂.slotsUsed } : State).setVm s₂.vm).setTop { g with pc := g.pc + len₂, stack := v.toList ++ g.stack })
    rw [← hs₂]
    exact hsteps
  · obtain ⟨e2, q2, q3, q4, q5, q6⟩ := id hsm
    have e3 : s₂ = ({ (U.calling g mk a).setFrames s₂.frames with heap := s₂.heap, slotsUsed := s₂.slotsUsed } : State).setVm s₂.vm := by
      have : s₂ = ({ s₂ with vm := (U.calling g mk a).vm } : State).setVm s₂.vm := rfl
      rw [e2] at this
      exact this
    have hf₂ : s₂.frames = .throwing q :: .java g :: U.frames.tail := hend
    have hW' : U.WarmedH s₂.vm := hW₂
    have hs₂ : s₂ = ((({ U with heap := s₂.heap, slotsUsed := s₂.slotsUsed } : State).setVm s₂.vm).setTop g).pushFrame (.throwing q) := by
      refine e3.trans ?_
      rw [hf₂, State.calling_eq h.top, State.setFrames_setFrames, State.pushFrame, State.frames_setTop _ hr', State.setTop_of_frames _ hr', State.setFrames_setFrames, hr]
      rfl
    have hsame : U.sameButNew ({ U with heap := s₂.heap, slotsUsed := s₂.slotsUsed } : State) L mc ms := by
      refine ⟨?_, q2, q3, q4, q5, q6⟩
      obtain ⟨t, ht, -⟩ := State.frames_cons hr
      show ({ U with heap := s₂.heap, slotsUsed := s₂.slotsUsed } : State) = { U.setFrames U.frames with heap := s₂.heap, slotsUsed := s₂.slotsUsed }
      rw [State.setFrames_self ht]
    subst hg
    refine Or.inr ⟨q, ⟨(({ U with heap := s₂.heap, slotsUsed := s₂.slotsUsed } : State).setVm s₂.vm), Ls ++ L, c0 + mc, s0 + ms⟩,
      ⟨X.admits, X.cas, X.clock, X.frames, X.room, X.hears, X.method, X.code, (X.here.setHeapUsed s₂.heap s₂.slotsUsed).setVm hW'.alike, X.tail, State.WarmedH.trans X.warmed hW', X.limits, X.bytes, X.same.trans (hsame.setVm s.vm)⟩,
      ⟨g, mk, s₂, L, E, ce, rfl, rfl, hx, hce, hcv, hcl, rfl, hL, rfl, rfl⟩, ?_⟩
    show Steps p.tables e below _ (((({ U with heap := s₂.heap, slotsUsed := s₂.slotsUsed } : State).setVm s₂.vm).setTop g).pushFrame (.throwing q))
    rw [← hs₂]
    exact hsteps
end Payer
section Calls
variable {p : Program} {l : Launch} {e : Env} {R : Room} {s : State} {m : MethodId} {args : Array Value} {below : List Frame} {meth : Method} {c : Code} {T : State} {locs : List Loc} {cells slots : Nat}
theorem vx_callV (X : Stand p l e R s m args below meth c T locs cells slots) (hexec : p.tables.exec = Jvm.exec) {own C : String} {index : Nat} {y : MethodName} {bytes : ByteArray} {maxL : Nat} {ret : Option FieldType}
    (hown : s.vm.findClass own = some m.cls) (hlink : (Cond.methodLink own index y).before args s = true) (hinst : (Cond.instanceMethod y).before args s = true) (hsel : (Cond.selects C y y).before args s = true)
    (hcode : (Cond.code y bytes maxL ret).before args s = true) (hy : y.cls ≠ "java/lang/invoke/MethodHandle" ∧ y.cls ≠ "java/lang/invoke/VarHandle")
    {W9 : Nat} {Pre : Pt → Array Value → Prop} {Post : Pt → Array Value → Option Value → Pt → Prop} {PostX : Pt → Array Value → Addr → Pt → Prop} (hK : vx_Back l R p e below s args y 3 W9 Pre Post PostX)
    {b : Addr} {cellB : Cell} (hcell : T.heap[b]? = some cellB) (hobj : cellB.vm.isStatics = false) (hcls : s.vm.findClass C = some cellB.cls)
    {g : JFrame} (hg : g.method = m) (hsize : g.locals.size = c.maxLocals) {argsL rest : List Value} (hlen : ∀ sig, parseMethodDescriptor y.desc = some sig → argsL.length = sig.parameters.length)
    (hstack : g.stack = argsL.reverse ++ .ref b :: rest) (hW : 2 * g.monitorRoom + (rest.map fun v => v.category).sum ≤ W9) (hdg : decode c.code g.pc = .ok (.invokevirtual index, 3))
    (hpre : ∀ vm₁, s.WarmedH vm₁ → Pre ⟨T.setVm vm₁, locs, cells, slots⟩ (Value.ref b :: argsL).toArray) :
    (∃ (v : Option Value) (vm₁ : Vm) (B : Pt), s.WarmedH vm₁ ∧ Stand p l e R s m args below meth c B.U B.locs B.cells B.slots ∧ Post ⟨T.setVm vm₁, locs, cells, slots⟩ (Value.ref b :: argsL).toArray v B ∧
      ∀ target, Steps p.tables e below (B.U.setTop { g with pc := g.pc + 3, stack := v.toList ++ rest }) target → Steps p.tables e below (T.setTop g) target) ∨
    (∃ (q : Addr) (vm₁ : Vm) (B : Pt), s.WarmedH vm₁ ∧ Stand p l e R s m args below meth c B.U B.locs B.cells B.slots ∧ PostX ⟨T.setVm vm₁, locs, cells, slots⟩ (Value.ref b :: argsL).toArray q B ∧
      Steps p.tables e below (T.setTop g) ((B.U.setTop { g with stack := rest }).pushFrame (.throwing q))) := by
  obtain ⟨mk, methM, hnamed, hmethM, hstM, habM⟩ := Cond.instanceMethod_spec hinst
  obtain ⟨methM', cM, hmethM', -, -, -, -, -, -, hsigM⟩ := Cond.code_spec hnamed hcode
  cases hmethM.symm.trans hmethM'
  obtain ⟨c2, r2, m2, q1, q2, q3, q4, kP, hkP, hkPi⟩ := Cond.selects_spec hsel
  cases hcls.symm.trans q1
  cases (State.methodFound?_of_named hnamed hy).symm.trans q2
  cases hnamed.symm.trans q3
  have hselP : selectMethod e.platform s.vm cellB.cls mk = .method mk := by rw [Launch.admits_selectMethod X.admits]; exact q4
  obtain ⟨vm₁, X₁, hstep₁⟩ := X.invokevirtual hexec hown hlink hnamed hmethM hstM hkP hkPi hy (a := b) (cell := cellB) hcell
    (fun z h => by rw [h] at hobj; cases hobj) hselP hmethM habM hkP hkPi (g := g) hg (argsL := argsL) (rest := rest) (hlen _ hsigM) hstack hdg
  rcases hK m meth c ⟨T.setVm vm₁, locs, cells, slots⟩ { g with stack := rest } (.invokevirtual index) mk (Value.ref b :: argsL).toArray X₁ hg hsize hdg hW (X₁.named hnamed) (hpre vm₁ X₁.warmed) with ⟨v, B, X', hpost, hsteps⟩ | ⟨q, B, X', hpost, hsteps⟩
  · exact Or.inl ⟨v, vm₁, B, X₁.warmed, X', hpost, fun target h => hstep₁ _ fun acts => by rw [doInvoke_state]; exact hsteps.trans h⟩
  · exact Or.inr ⟨q, vm₁, B, X₁.warmed, X', hpost, hstep₁ _ fun acts => by rw [doInvoke_state]; exact hsteps⟩
theorem vx_callS (X : Stand p l e R s m args below meth c T locs cells slots) (hexec : p.tables.exec = Jvm.exec) {own : String} {index : Nat} {y : MethodName} {bytes : ByteArray} {maxL : Nat} {ret : Option FieldType}
    (hown : s.vm.findClass own = some m.cls) (hlink : (Cond.methodLink own index y).before args s = true) (hstat : (Cond.static y).before args s = true) (hinit : (Cond.initialized y.cls).before args s = true)
    (hcode : (Cond.code y bytes maxL ret).before args s = true) (hy : y.cls ≠ "java/lang/invoke/MethodHandle" ∧ y.cls ≠ "java/lang/invoke/VarHandle")
    {W9 : Nat} {Pre : Pt → Array Value → Prop} {Post : Pt → Array Value → Option Value → Pt → Prop} {PostX : Pt → Array Value → Addr → Pt → Prop} (hK : vx_Back l R p e below s args y 3 W9 Pre Post PostX)
    {g : JFrame} (hg : g.method = m) (hsize : g.locals.size = c.maxLocals) {argsL rest : List Value} (hlen : ∀ sig, parseMethodDescriptor y.desc = some sig → argsL.length = sig.parameters.length)
    (hstack : g.stack = argsL.reverse ++ rest) (hW : 2 * g.monitorRoom + (rest.map fun v => v.category).sum ≤ W9) (hdg : decode c.code g.pc = .ok (.invokestatic index, 3))
    (hpre : ∀ vm₁, s.WarmedH vm₁ → Pre ⟨T.setVm vm₁, locs, cells, slots⟩ argsL.toArray) :
    (∃ (v : Option Value) (vm₁ : Vm) (B : Pt), s.WarmedH vm₁ ∧ Stand p l e R s m args below meth c B.U B.locs B.cells B.slots ∧ Post ⟨T.setVm vm₁, locs, cells, slots⟩ argsL.toArray v B ∧
      ∀ target, Steps p.tables e below (B.U.setTop { g with pc := g.pc + 3, stack := v.toList ++ rest }) target → Steps p.tables e below (T.setTop g) target) ∨
    (∃ (q : Addr) (vm₁ : Vm) (B : Pt), s.WarmedH vm₁ ∧ Stand p l e R s m args below meth c B.U B.locs B.cells B.slots ∧ PostX ⟨T.setVm vm₁, locs, cells, slots⟩ argsL.toArray q B ∧
      Steps p.tables e below (T.setTop g) ((B.U.setTop { g with stack := rest }).pushFrame (.throwing q))) := by
  obtain ⟨mk, hnamed⟩ := Cond.code_named hcode
  obtain ⟨methM, cM, hmethM, -, -, -, -, -, -, hsigM⟩ := Cond.code_spec hnamed hcode
  have hstatic : methM.isStatic = true := Cond.static_spec hnamed hmethM hstat
  obtain ⟨kP, hkP, -⟩ := className_of_methodNamed hnamed
  have hinitP : kP.init = .initialized := Cond.initialized_spec (findClass_of_methodNamed hnamed) hkP hinit
  obtain ⟨vm₁, X₁, hstep₁⟩ := X.invokestatic hexec hown hlink hnamed hmethM hstatic hkP hinitP hy (g := g) hg (argsL := argsL) (rest := rest) (hlen _ hsigM) hstack hdg
  rcases hK m meth c ⟨T.setVm vm₁, locs, cells, slots⟩ { g with stack := rest } (.invokestatic index) mk argsL.toArray X₁ hg hsize hdg hW (X₁.named hnamed) (hpre vm₁ X₁.warmed) with ⟨v, B, X', hpost, hsteps⟩ | ⟨q, B, X', hpost, hsteps⟩
  · exact Or.inl ⟨v, vm₁, B, X₁.warmed, X', hpost, fun target h => hstep₁ _ fun acts => by rw [doInvoke_state]; exact hsteps.trans h⟩
  · exact Or.inr ⟨q, vm₁, B, X₁.warmed, X', hpost, hstep₁ _ fun acts => by rw [doInvoke_state]; exact hsteps⟩
end Calls
theorem vx_cls {s : State} {T : State} {vm₁ : Vm} {E : String} {k : ClassId} (hW : s.WarmedH vm₁) (h : (T.setVm vm₁).vm.findClass E = some k) : s.vm.findClass E = some k := by
  have h1 : vm₁.findClass E = some k := h
  rw [hW.alike.findClass] at h1
  exact h1
/-- the method's frame g, with q thrown over it -/
def vx_W (p : Program) (l : Launch) (e : Env) (R : Room) (s : State) (m : MethodId) (args : Array Value) (below : List Frame) (meth : Method) (c : Code) (H : Heap) (locs : List Loc) (cells slots : Nat) (Q : State → Prop) (g : JFrame) (q : Addr) : Prop :=
  ∀ T : State, T.heap = H → Stand p l e R s m args below meth c T locs cells slots → ∃ t, Steps p.tables e below ((T.setTop g).pushFrame (.throwing q)) t ∧ Q t
def vx_Run (p : Program) (l : Launch) (e : Env) (R : Room) (s : State) (m : MethodId) (args : Array Value) (below : List Frame) (meth : Method) (c : Code) (H : Heap) (locs : List Loc) (cells slots mc ms : Nat) (g : JFrame) (rest : List Value) (Qa : State → Outcome → State → Prop) (XC : String → State → State → Prop) (free : Addr → Prop) : Prop :=
  ∀ T : State, T.heap = H → Stand p l e R s m args below meth c T locs cells slots →
    (∃ (v : Option Value) (st₀ t T' : State) (L : List Loc), st₀.heap = H ∧ Stand p l e R s m args below meth c T' (locs ++ L) (cells + mc) (slots + ms) ∧ (∀ q ∈ L, free q.base) ∧ T'.heap = t.heap ∧ T'.vm = t.vm ∧ Qa st₀ (.returned v) t ∧
      Goes p e below T g T' { g with pc := g.pc + 3, stack := v.toList ++ rest }) ∨
    (∃ (q : Addr) (st₀ t T' : State) (L : List Loc) (E : String) (ce : Cell), st₀.heap = H ∧ Stand p l e R s m args below meth c T' (locs ++ L) (cells + mc) (slots + ms) ∧ (∀ z ∈ L, free z.base) ∧ T'.heap = t.heap ∧ T'.vm = t.vm ∧ XC E st₀ t ∧ t.heap[q]? = some ce ∧ ce.vm = .none ∧ s.vm.findClass E = some ce.cls ∧
      Steps p.tables e below (T.setTop g) ((T'.setTop { g with stack := rest }).pushFrame (.throwing q)))
def vx_X {S : Type} (px : S → Prop) (B : String → S → State → Prop) (A : Nat → Prop) : String → State → State → Prop := fun E st t => ∃ u : S, px u ∧ B E u t ∧ va_F A st t
section Runs
variable {p : Program} {l : Launch} {e : Env} {R : Room} {s : State} {m : MethodId} {args : Array Value} {below : List Frame} {meth : Method} {c : Code} {H : Heap} {locs : List Loc} {cells slots : Nat}
variable {y : MethodName} {bytes cc : ByteArray} {maxL nL mc ms n index : Nat} {ret : Option FieldType} {ws : List Cond} {rm : Room} {Pc : Array Value → State → Prop} {Qc : Array Value → State → Outcome → State → Prop} {XC : String → State → State → Prop} {free : Addr → Prop} {Ts : List Cond} {own C : String} {b : Addr} {As rest : List Value} {g : JFrame}
theorem vx_callBack (cb : CallB R s args own index y bytes maxL ret ws rm mc ms n) (hM : vx_Met l y ws rm Pc Qc XC mc ms free) (hbl : FrameBlind Pc) : vx_Back l R p e below s args y 3 8 (PreOf R mc ms Pc) (PostOf Qc mc ms free) (vx_Post XC mc ms free) := by
  obtain ⟨hrc, hrs, hfr, hlo, hws, hcw, -, hini, -⟩ := cb
  exact vx_back (bytes := bytes) (maxL := maxL) (ret := ret) hM hbl hrc hrs hfr hlo hws hcw (fun a' U hW => word_at hW (Or.inl (by first | rfl | simp [Cond.onTables, Cond.keeps, Cond.steady])) hini)
theorem vx_runV (S : CallFix p m c cc nL s args Ts own) (hM : vx_Met l y ws rm Pc Qc XC mc ms free) (cw : CallW R s args own C index y bytes maxL ret ws rm mc ms n) (hp : PreV s H C b Pc As)
    (hg : g.method = m) (hn : As.length = n) (hsize : g.locals.size = nL) (hstack : g.stack = As.reverse ++ .ref b :: rest) (hW : 2 * g.monitorRoom + (rest.map fun v => v.category).sum ≤ 8) (hdg : decode cc g.pc = .ok (.invokevirtual index, 3)) (hf : cells + mc ≤ R.cells ∧ slots + ms ≤ R.slots) :
    vx_Run p l e R s m args below meth c H locs cells slots mc ms g rest (Qc (Value.ref b :: As).toArray) XC free := by
  have hK : vx_Back l R p e below s args y 3 8 (PreOf R mc ms Pc) (PostOf Qc mc ms free) (vx_Post XC mc ms free) := vx_callBack cw.1 hM hp.1
  obtain ⟨⟨-, -, -, -, -, -, hcode, -, hy, hlen, hl⟩, hin, hse⟩ := cw
  obtain ⟨hx, hb, hml, ho, -⟩ := S
  obtain ⟨-, ⟨cellB, hcB, hoB, hclB⟩, hPc⟩ := hp
  intro T hT X
  rcases vx_callV X hx (C := C) (bytes := bytes) (maxL := maxL) (ret := ret) ho hl hin hse hcode hy hK (by rw [hT]; exact hcB) hoB hclB hg (hsize.trans hml.symm) (argsL := As) (rest := rest) (fun sig h => hn.trans (hlen sig h)) hstack hW (by rw [hb]; exact hdg)
    (fun vm₁ hW₁ => ⟨hf.1, hf.2, hPc (T.setVm vm₁) hT hW₁⟩) with ⟨v, vm₁, ⟨U', l2, c2, s2⟩, hW₁, X', ⟨g', mk, t, L, e1, e2, hq, h1, hL, h2, h3⟩, st⟩ | ⟨q, vm₁, ⟨U', l2, c2, s2⟩, hW₁, X', ⟨g', mk, t, L, E, ce, e1, e2, hq, hce, hcv, hcl, h1, hL, h2, h3⟩, st⟩
  · dsimp only [Pt.U, Pt.locs, Pt.cells, Pt.slots] at X' e1 e2 h1 h2 h3 st
    subst h1; subst h2; subst h3
    exact Or.inl ⟨v, (T.setVm vm₁).calling g' mk (Value.ref b :: As).toArray, t, U', L, hT, X', hL, e1, e2, hq, st⟩
  · dsimp only [Pt.U, Pt.locs, Pt.cells, Pt.slots] at X' e1 e2 h1 h2 h3 st hcl
    subst h1; subst h2; subst h3
    exact Or.inr ⟨q, (T.setVm vm₁).calling g' mk (Value.ref b :: As).toArray, t, U', L, E, ce, hT, X', hL, e1, e2, hq, hce, hcv, vx_cls hW₁ hcl, st⟩
theorem vx_runS (S : CallFix p m c cc nL s args Ts own) (hM : vx_Met l y ws rm Pc Qc XC mc ms free) (cw : CallB R s args own index y bytes maxL ret ws rm mc ms n ∧ (Cond.static y).before args s = true) (hp : PreS s H Pc As)
    (hg : g.method = m) (hn : As.length = n) (hsize : g.locals.size = nL) (hstack : g.stack = As.reverse ++ rest) (hW : 2 * g.monitorRoom + (rest.map fun v => v.category).sum ≤ 8) (hdg : decode cc g.pc = .ok (.invokestatic index, 3)) (hf : cells + mc ≤ R.cells ∧ slots + ms ≤ R.slots) :
    vx_Run p l e R s m args below meth c H locs cells slots mc ms g rest (Qc As.toArray) XC free := by
  have hK : vx_Back l R p e below s args y 3 8 (PreOf R mc ms Pc) (PostOf Qc mc ms free) (vx_Post XC mc ms free) := vx_callBack cw.1 hM hp.1
  obtain ⟨⟨-, -, -, -, -, -, hcode, hini, hy, hlen, hl⟩, hstt⟩ := cw
  obtain ⟨hx, hb, hml, ho, -⟩ := S
  intro T hT X
  rcases vx_callS X hx (bytes := bytes) (maxL := maxL) (ret := ret) ho hl hstt hini hcode hy hK hg (hsize.trans hml.symm) (argsL := As) (rest := rest) (fun sig h => hn.trans (hlen sig h)) hstack hW (by rw [hb]; exact hdg)
    (fun vm₁ hW₁ => ⟨hf.1, hf.2, hp.2 (T.setVm vm₁) hT hW₁⟩) with ⟨v, vm₁, ⟨U', l2, c2, s2⟩, hW₁, X', ⟨g', mk, t, L, e1, e2, hq, h1, hL, h2, h3⟩, st⟩ | ⟨q, vm₁, ⟨U', l2, c2, s2⟩, hW₁, X', ⟨g', mk, t, L, E, ce, e1, e2, hq, hce, hcv, hcl, h1, hL, h2, h3⟩, st⟩
  · dsimp only [Pt.U, Pt.locs, Pt.cells, Pt.slots] at X' e1 e2 h1 h2 h3 st
    subst h1; subst h2; subst h3
    exact Or.inl ⟨v, (T.setVm vm₁).calling g' mk As.toArray, t, U', L, hT, X', hL, e1, e2, hq, st⟩
  · dsimp only [Pt.U, Pt.locs, Pt.cells, Pt.slots] at X' e1 e2 h1 h2 h3 st hcl
    subst h1; subst h2; subst h3
    exact Or.inr ⟨q, (T.setVm vm₁).calling g' mk As.toArray, t, U', L, E, ce, hT, X', hL, e1, e2, hq, hce, hcv, vx_cls hW₁ hcl, st⟩
end Runs
section Rows
variable {p : Program} {l : Launch} {e : Env} {R : Room} {s : State} {m : MethodId} {args : Array Value} {below : List Frame} {meth : Method} {c : Code} {H : Heap} {locs : List Loc} {cells slots : Nat} {Q : State → Prop}
variable {mc ms : Nat} {free : Addr → Prop} {A0 A1 : Nat → Prop} {H0 : Heap} {a : Array Value} {pc : Nat} {ls : Array Slot} {st0 rest : List Value}
theorem vx_keep {st₀ t T' : State} {L : List Loc} (h0 : st₀.heap = H) (e1 : T'.heap = t.heap) (hS : va_S A0 H0 H locs) (hA : ∀ q, q < H.size → A1 q → A0 q) (hf : ∀ q, free q → A0 q) (hL : ∀ q ∈ L, free q.base) (hF : va_F A1 st₀ t) :
    H.size ≤ T'.heap.size ∧ (∀ q : Nat, q < H.size → ¬ A1 q → T'.heap[q]? = H[q]?) ∧ va_S A0 H0 T'.heap (locs ++ L) := by
  obtain ⟨hz, hk⟩ := hF
  rw [h0] at hz hk
  exact ⟨by rw [e1]; exact hz, fun q h1 h2 => by rw [e1]; exact hk q h1 h2,
    ⟨Nat.le_trans hS.1 (by rw [e1]; exact hz), fun q h1 h2 => by rw [e1, hk q (Nat.lt_of_lt_of_le h1 hS.1) (fun z => h2 (hA q (Nat.lt_of_lt_of_le h1 hS.1) z))]; exact hS.2.1 q h1 h2, fun q hq => by
      rcases List.mem_append.mp hq with h | h
      · exact hS.2.2 q h
      · exact hf _ (hL q h)⟩⟩
theorem vx_calli {S SX : Type} {post : Int32 → S → Prop} {px : SX → Prop} {B : S → State → Prop} {BX : String → SX → State → Prop} {AX : Nat → Prop} (hr : vx_Run p l e R s m args below meth c H locs cells slots mc ms (F0 m pc ls st0) rest (va_Qi post B A1 a) (vx_X px BX AX) free) (hS : va_S A0 H0 H locs) (hA : ∀ q, q < H.size → A1 q → A0 q) (hf : ∀ q, free q → A0 q) (hAX : ∀ q, q < H.size → AX q → A0 q)
    (kx : ∀ (E : String) (ce : Cell) (q9 : Addr) (u : SX) (t : State) (H1 : Heap) (locs1 : List Loc), t.heap = H1 → s.vm.Alike t.vm → px u → BX E u t → H.size ≤ H1.size → (∀ q : Nat, q < H.size → ¬ AX q → H1[q]? = H[q]?) → va_S A0 H0 H1 locs1 → H1[q9]? = some ce → ce.vm = .none → s.vm.findClass E = some ce.cls → vx_W p l e R s m args below meth c H1 locs1 (cells + mc) (slots + ms) Q (F0 m pc ls rest) q9)
    (kk : ∀ (r : Int32) (u : S) (t : State) (H1 : Heap) (locs1 : List Loc), t.heap = H1 → s.vm.Alike t.vm → post r u → B u t → H.size ≤ H1.size → (∀ q : Nat, q < H.size → ¬ A1 q → H1[q]? = H[q]?) → va_S A0 H0 H1 locs1 → W p l e R s m args below meth c H1 locs1 (cells + mc) (slots + ms) Q (F0 m (pc + 3) ls (.int r :: rest))) : W p l e R s m args below meth c H locs cells slots Q (F0 m pc ls st0) := by
  intro T hT X
  rcases hr T hT X with ⟨v, st₀, t, T', L, h0, X', hL, e1, e2, ⟨⟨r, u, hv, hp, hb⟩, hF⟩, st⟩ | ⟨q, st₀, t, T', L, E, ce, h0, X', hL, e1, e2, ⟨u, hp, hb, hF⟩, hce, hcv, hcl, st⟩
  · cases hv
    obtain ⟨k1, k2, k3⟩ := vx_keep h0 e1 hS hA hf hL hF
    obtain ⟨t2, a1, b1⟩ := kk r u t T'.heap (locs ++ L) e1.symm (by rw [← e2]; exact X'.warmed.alike) hp hb k1 k2 k3 T' rfl X'
    exact ⟨t2, st t2 a1, b1⟩
  · obtain ⟨k1, k2, k3⟩ := vx_keep h0 e1 hS hAX hf hL hF
    obtain ⟨t2, a1, b1⟩ := kx E ce q u t T'.heap (locs ++ L) e1.symm (by rw [← e2]; exact X'.warmed.alike) hp hb k1 k2 k3 (by rw [e1]; exact hce) hcv hcl T' rfl X'
    exact ⟨t2, st.trans a1, b1⟩
theorem vx_calll {S SX : Type} {post : Int64 → S → Prop} {px : SX → Prop} {B : S → State → Prop} {BX : String → SX → State → Prop} {AX : Nat → Prop} (hr : vx_Run p l e R s m args below meth c H locs cells slots mc ms (F0 m pc ls st0) rest (va_Ql post B A1 a) (vx_X px BX AX) free) (hS : va_S A0 H0 H locs) (hA : ∀ q, q < H.size → A1 q → A0 q) (hf : ∀ q, free q → A0 q) (hAX : ∀ q, q < H.size → AX q → A0 q)
    (kx : ∀ (E : String) (ce : Cell) (q9 : Addr) (u : SX) (t : State) (H1 : Heap) (locs1 : List Loc), t.heap = H1 → s.vm.Alike t.vm → px u → BX E u t → H.size ≤ H1.size → (∀ q : Nat, q < H.size → ¬ AX q → H1[q]? = H[q]?) → va_S A0 H0 H1 locs1 → H1[q9]? = some ce → ce.vm = .none → s.vm.findClass E = some ce.cls → vx_W p l e R s m args below meth c H1 locs1 (cells + mc) (slots + ms) Q (F0 m pc ls rest) q9)
    (kk : ∀ (r : Int64) (u : S) (t : State) (H1 : Heap) (locs1 : List Loc), t.heap = H1 → s.vm.Alike t.vm → post r u → B u t → H.size ≤ H1.size → (∀ q : Nat, q < H.size → ¬ A1 q → H1[q]? = H[q]?) → va_S A0 H0 H1 locs1 → W p l e R s m args below meth c H1 locs1 (cells + mc) (slots + ms) Q (F0 m (pc + 3) ls (.long r :: rest))) : W p l e R s m args below meth c H locs cells slots Q (F0 m pc ls st0) := by
  intro T hT X
  rcases hr T hT X with ⟨v, st₀, t, T', L, h0, X', hL, e1, e2, ⟨⟨r, u, hv, hp, hb⟩, hF⟩, st⟩ | ⟨q, st₀, t, T', L, E, ce, h0, X', hL, e1, e2, ⟨u, hp, hb, hF⟩, hce, hcv, hcl, st⟩
  · cases hv
    obtain ⟨k1, k2, k3⟩ := vx_keep h0 e1 hS hA hf hL hF
    obtain ⟨t2, a1, b1⟩ := kk r u t T'.heap (locs ++ L) e1.symm (by rw [← e2]; exact X'.warmed.alike) hp hb k1 k2 k3 T' rfl X'
    exact ⟨t2, st t2 a1, b1⟩
  · obtain ⟨k1, k2, k3⟩ := vx_keep h0 e1 hS hAX hf hL hF
    obtain ⟨t2, a1, b1⟩ := kx E ce q u t T'.heap (locs ++ L) e1.symm (by rw [← e2]; exact X'.warmed.alike) hp hb k1 k2 k3 (by rw [e1]; exact hce) hcv hcl T' rfl X'
    exact ⟨t2, st.trans a1, b1⟩
theorem vx_callf {S SX : Type} {post : UInt32 → S → Prop} {px : SX → Prop} {B : S → State → Prop} {BX : String → SX → State → Prop} {AX : Nat → Prop} (hr : vx_Run p l e R s m args below meth c H locs cells slots mc ms (F0 m pc ls st0) rest (va_Qf post B A1 a) (vx_X px BX AX) free) (hS : va_S A0 H0 H locs) (hA : ∀ q, q < H.size → A1 q → A0 q) (hf : ∀ q, free q → A0 q) (hAX : ∀ q, q < H.size → AX q → A0 q)
    (kx : ∀ (E : String) (ce : Cell) (q9 : Addr) (u : SX) (t : State) (H1 : Heap) (locs1 : List Loc), t.heap = H1 → s.vm.Alike t.vm → px u → BX E u t → H.size ≤ H1.size → (∀ q : Nat, q < H.size → ¬ AX q → H1[q]? = H[q]?) → va_S A0 H0 H1 locs1 → H1[q9]? = some ce → ce.vm = .none → s.vm.findClass E = some ce.cls → vx_W p l e R s m args below meth c H1 locs1 (cells + mc) (slots + ms) Q (F0 m pc ls rest) q9)
    (kk : ∀ (r : UInt32) (u : S) (t : State) (H1 : Heap) (locs1 : List Loc), t.heap = H1 → s.vm.Alike t.vm → post r u → B u t → H.size ≤ H1.size → (∀ q : Nat, q < H.size → ¬ A1 q → H1[q]? = H[q]?) → va_S A0 H0 H1 locs1 → W p l e R s m args below meth c H1 locs1 (cells + mc) (slots + ms) Q (F0 m (pc + 3) ls (.float r :: rest))) : W p l e R s m args below meth c H locs cells slots Q (F0 m pc ls st0) := by
  intro T hT X
  rcases hr T hT X with ⟨v, st₀, t, T', L, h0, X', hL, e1, e2, ⟨⟨r, u, hv, hp, hb⟩, hF⟩, st⟩ | ⟨q, st₀, t, T', L, E, ce, h0, X', hL, e1, e2, ⟨u, hp, hb, hF⟩, hce, hcv, hcl, st⟩
  · cases hv
    obtain ⟨k1, k2, k3⟩ := vx_keep h0 e1 hS hA hf hL hF
    obtain ⟨t2, a1, b1⟩ := kk r u t T'.heap (locs ++ L) e1.symm (by rw [← e2]; exact X'.warmed.alike) hp hb k1 k2 k3 T' rfl X'
    exact ⟨t2, st t2 a1, b1⟩
  · obtain ⟨k1, k2, k3⟩ := vx_keep h0 e1 hS hAX hf hL hF
    obtain ⟨t2, a1, b1⟩ := kx E ce q u t T'.heap (locs ++ L) e1.symm (by rw [← e2]; exact X'.warmed.alike) hp hb k1 k2 k3 (by rw [e1]; exact hce) hcv hcl T' rfl X'
    exact ⟨t2, st.trans a1, b1⟩
theorem vx_calld {S SX : Type} {post : UInt64 → S → Prop} {px : SX → Prop} {B : S → State → Prop} {BX : String → SX → State → Prop} {AX : Nat → Prop} (hr : vx_Run p l e R s m args below meth c H locs cells slots mc ms (F0 m pc ls st0) rest (va_Qd post B A1 a) (vx_X px BX AX) free) (hS : va_S A0 H0 H locs) (hA : ∀ q, q < H.size → A1 q → A0 q) (hf : ∀ q, free q → A0 q) (hAX : ∀ q, q < H.size → AX q → A0 q)
    (kx : ∀ (E : String) (ce : Cell) (q9 : Addr) (u : SX) (t : State) (H1 : Heap) (locs1 : List Loc), t.heap = H1 → s.vm.Alike t.vm → px u → BX E u t → H.size ≤ H1.size → (∀ q : Nat, q < H.size → ¬ AX q → H1[q]? = H[q]?) → va_S A0 H0 H1 locs1 → H1[q9]? = some ce → ce.vm = .none → s.vm.findClass E = some ce.cls → vx_W p l e R s m args below meth c H1 locs1 (cells + mc) (slots + ms) Q (F0 m pc ls rest) q9)
    (kk : ∀ (r : UInt64) (u : S) (t : State) (H1 : Heap) (locs1 : List Loc), t.heap = H1 → s.vm.Alike t.vm → post r u → B u t → H.size ≤ H1.size → (∀ q : Nat, q < H.size → ¬ A1 q → H1[q]? = H[q]?) → va_S A0 H0 H1 locs1 → W p l e R s m args below meth c H1 locs1 (cells + mc) (slots + ms) Q (F0 m (pc + 3) ls (.double r :: rest))) : W p l e R s m args below meth c H locs cells slots Q (F0 m pc ls st0) := by
  intro T hT X
  rcases hr T hT X with ⟨v, st₀, t, T', L, h0, X', hL, e1, e2, ⟨⟨r, u, hv, hp, hb⟩, hF⟩, st⟩ | ⟨q, st₀, t, T', L, E, ce, h0, X', hL, e1, e2, ⟨u, hp, hb, hF⟩, hce, hcv, hcl, st⟩
  · cases hv
    obtain ⟨k1, k2, k3⟩ := vx_keep h0 e1 hS hA hf hL hF
    obtain ⟨t2, a1, b1⟩ := kk r u t T'.heap (locs ++ L) e1.symm (by rw [← e2]; exact X'.warmed.alike) hp hb k1 k2 k3 T' rfl X'
    exact ⟨t2, st t2 a1, b1⟩
  · obtain ⟨k1, k2, k3⟩ := vx_keep h0 e1 hS hAX hf hL hF
    obtain ⟨t2, a1, b1⟩ := kx E ce q u t T'.heap (locs ++ L) e1.symm (by rw [← e2]; exact X'.warmed.alike) hp hb k1 k2 k3 (by rw [e1]; exact hce) hcv hcl T' rfl X'
    exact ⟨t2, st.trans a1, b1⟩
theorem vx_callv {S SX : Type} {post : S → Prop} {px : SX → Prop} {B : S → State → Prop} {BX : String → SX → State → Prop} {AX : Nat → Prop} (hr : vx_Run p l e R s m args below meth c H locs cells slots mc ms (F0 m pc ls st0) rest (va_Qv post B A1 a) (vx_X px BX AX) free) (hS : va_S A0 H0 H locs) (hA : ∀ q, q < H.size → A1 q → A0 q) (hf : ∀ q, free q → A0 q) (hAX : ∀ q, q < H.size → AX q → A0 q)
    (kx : ∀ (E : String) (ce : Cell) (q9 : Addr) (u : SX) (t : State) (H1 : Heap) (locs1 : List Loc), t.heap = H1 → s.vm.Alike t.vm → px u → BX E u t → H.size ≤ H1.size → (∀ q : Nat, q < H.size → ¬ AX q → H1[q]? = H[q]?) → va_S A0 H0 H1 locs1 → H1[q9]? = some ce → ce.vm = .none → s.vm.findClass E = some ce.cls → vx_W p l e R s m args below meth c H1 locs1 (cells + mc) (slots + ms) Q (F0 m pc ls rest) q9)
    (kk : ∀ (u : S) (t : State) (H1 : Heap) (locs1 : List Loc), t.heap = H1 → s.vm.Alike t.vm → post u → B u t → H.size ≤ H1.size → (∀ q : Nat, q < H.size → ¬ A1 q → H1[q]? = H[q]?) → va_S A0 H0 H1 locs1 → W p l e R s m args below meth c H1 locs1 (cells + mc) (slots + ms) Q (F0 m (pc + 3) ls (rest))) : W p l e R s m args below meth c H locs cells slots Q (F0 m pc ls st0) := by
  intro T hT X
  rcases hr T hT X with ⟨v, st₀, t, T', L, h0, X', hL, e1, e2, ⟨⟨u, hv, hp, hb⟩, hF⟩, st⟩ | ⟨q, st₀, t, T', L, E, ce, h0, X', hL, e1, e2, ⟨u, hp, hb, hF⟩, hce, hcv, hcl, st⟩
  · cases hv
    obtain ⟨k1, k2, k3⟩ := vx_keep h0 e1 hS hA hf hL hF
    obtain ⟨t2, a1, b1⟩ := kk u t T'.heap (locs ++ L) e1.symm (by rw [← e2]; exact X'.warmed.alike) hp hb k1 k2 k3 T' rfl X'
    exact ⟨t2, st t2 a1, b1⟩
  · obtain ⟨k1, k2, k3⟩ := vx_keep h0 e1 hS hAX hf hL hF
    obtain ⟨t2, a1, b1⟩ := kx E ce q u t T'.heap (locs ++ L) e1.symm (by rw [← e2]; exact X'.warmed.alike) hp hb k1 k2 k3 (by rw [e1]; exact hce) hcv hcl T' rfl X'
    exact ⟨t2, st.trans a1, b1⟩
/-- caught by the row x of this method's table; the rows ahead don't take it -/
theorem vx_catch {own name : String} {E : String} {ce : Cell} {q : Addr} (hown : s.vm.findClass own = some m.cls) (pre : List ExceptionTableEntry) (x : ExceptionTableEntry) (suf : List ExceptionTableEntry) (hsplit : c.exceptionTable.toList = pre ++ x :: suf)
    (hpass : ∀ z ∈ pre, covers z pc = false ∨ (z.catchType ≠ 0 ∧ ∃ nm : String, (Cond.classLink own z.catchType nm).before args s = true ∧ va_Nc E nm s)) (hx : covers x pc = true) (h0 : x.catchType ≠ 0)
    (hlink : (Cond.classLink own x.catchType name).before args s = true) (hcast : (Cond.castable E name).before args s = true) (hcell : H[q]? = some ce) (hv : ce.vm = .none) (hcl : s.vm.findClass E = some ce.cls)
    (kk : W p l e R s m args below meth c H locs cells slots Q (F0 m x.handlerPc ls [.ref q])) : vx_W p l e R s m args below meth c H locs cells slots Q (F0 m pc ls rest) q := by
  intro T hT X
  have hpl : e.platform.magicAccessors = ({} : Platform).magicAccessors := by rw [X.admits.platform]
  obtain ⟨c3, c4, hc3, hc4, hasg⟩ := Cond.castable_spec hcast
  cases Option.some.inj (hc3.symm.trans hcl)
  obtain ⟨c5, hc5, hcl5⟩ := Cond.classLink_spec hown hlink e.platform hpl
  cases Option.some.inj (hc4.symm.trans hc5)
  obtain ⟨vm', X', st⟩ := X.thenCaughtThrough q (g := F0 m pc ls rest) rfl (Steps.refl _) (by rw [hT]; exact hcell) (by rw [hv]; rfl) (by obtain ⟨k9, h9, -⟩ := Vm.findClass_spec hcl; exact ⟨k9, h9⟩) pre x suf hsplit
    (fun z hz => by
      rcases hpass z hz with h | ⟨hz0, nm, hl1, hn1⟩
      · exact Or.inl h
      · obtain ⟨c6, hc6, hcl6⟩ := Cond.classLink_spec hown hl1 e.platform hpl
        obtain ⟨a8, b8, h1, h2, h3⟩ := hn1
        cases Option.some.inj (h1.symm.trans hcl)
        cases Option.some.inj (h2.symm.trans hc6)
        exact Or.inr ⟨hz0, _, hcl6, h3⟩) hx (Or.inr ⟨h0, c4, hcl5, hasg⟩)
  obtain ⟨t, a1, b1⟩ := kk (T.setVm vm') hT X'
  exact ⟨t, st.trans a1, b1⟩
end Rows
section Ends
variable {p : Program} {l : Launch} {e : Env} {R : Room} {s : State} {m : MethodId} {args : Array Value} {below : List Frame} {meth : Method} {c : Code} {H : Heap} {locs : List Loc} {cells slots : Nat} {Q : State → Prop}
variable {mc ms : Nat} {free : Addr → Prop} {A0 A1 : Nat → Prop} {H0 : Heap} {a : Array Value} {ls : Array Slot} {st0 rest : List Value}
variable {Qc : Array Value → State → Outcome → State → Prop} {XC : String → State → State → Prop}
/-- what a body that may throw owes at its end -/
def vx_MQ (below : List Frame) (Qc : Array Value → State → Outcome → State → Prop) (XC : String → State → State → Prop) (a : Array Value) (s : State) (mc ms : Nat) (free : Addr → Prop) : State → Prop := fun t =>
  ∃ o, t.status = .running ∧ Ended t below o ∧ vx_Q Qc XC mc ms free a s o t
theorem vx_ret {g : JFrame} {mc ms : Nat} (k : W p l e R s m args below meth c H locs cells slots (MQ below Qc args s mc ms free) g) : W p l e R s m args below meth c H locs cells slots (vx_MQ below Qc XC args s mc ms free) g := by
  intro T hT X
  obtain ⟨t, a1, o, b1, b2, b3, b4⟩ := k T hT X
  exact ⟨t, a1, o, b1, b2, Or.inl ⟨b3, b4⟩⟩
/-- not caught here: it goes on to the caller -/
theorem vx_widen {g : JFrame} {q : Addr} {k n : Nat} (h1 : cells ≤ k) (h2 : slots ≤ n) (kk : vx_W p l e R s m args below meth c H locs k n Q g q) : vx_W p l e R s m args below meth c H locs cells slots Q g q := fun T hT X => kk T hT (stand_widen X h1 h2)
theorem vx_out {pc : Nat} {E : String} {ce : Cell} {q : Addr} {mc ms : Nat} (hout : ∀ x ∈ c.exceptionTable.toList, covers x pc = false) (hlocks : meth.locks = false) (hcell : H[q]? = some ce) (hv : ce.vm = .none) (hcl : s.vm.findClass E = some ce.cls)
    (hx : ∀ t : State, t.heap = H → s.vm.Alike t.vm → XC E s t) (hf : ∀ z ∈ locs, free z.base) (hc : cells ≤ mc) (hs : slots ≤ ms) :
    vx_W p l e R s m args below meth c H locs cells slots (vx_MQ below Qc XC args s mc ms free) (F0 m pc ls rest) q := by
  intro T hT X
  obtain ⟨st1, hrun, hend, hW, hsm⟩ := X.leaveThrown q (g := F0 m pc ls rest) rfl rfl rfl hout hlocks
  have hcell9 : (T.setFrames (.throwing q :: below)).heap[q]? = some ce := by
    show T.heap[q]? = some ce
    rw [hT]; exact hcell
  exact ⟨_, st1, .threw q, hrun, hend, Or.inr ⟨q, rfl, E, ce, locs, hx _ hT hW.alike, hcell9, hv, hcl, hW, hsm.mono hc hs, hf⟩⟩
theorem vx_frame {U : State} {k n : Nat} (h : s.sameButNew ({ U with vm := s.vm } : State) locs k n) : s.heap.size ≤ U.heap.size ∧ ∀ q : Nat, q < s.heap.size → (∀ z ∈ locs, z.base ≠ q) → U.heap[q]? = s.heap[q]? := by
  obtain ⟨-, h2, -, -, -, h6⟩ := h
  refine ⟨h2, fun q hq hz => ?_⟩
  obtain ⟨c9, e1, e2, e3, e4⟩ := h6 q _ (Array.getElem?_eq_getElem hq)
  have hs : c9.slots = (s.heap[q]).slots := Array.ext_getElem? fun i => e4 i fun hm => hz _ hm rfl
  have h9 : c9 = s.heap[q] := by
    rw [hs] at e2
    exact e2
  have e5 : U.heap[q]? = some c9 := e1
  rw [e5, h9, Array.getElem?_eq_getElem hq]
/-- the words of a throw but the four that speak of the heap -/
def vx_no (w : Cond) : Bool := decide (w ≠ .isRef (.static Bundle.tN "UNASSIGNED_STACK" Bundle.steD)) && decide (w ≠ .isRef (.static Bundle.tN "SUPPRESSED_SENTINEL" Bundle.listD)) && decide (w ≠ .laysStatic Bundle.tN "UNASSIGNED_STACK" Bundle.steD) && decide (w ≠ .laysStatic Bundle.tN "SUPPRESSED_SENTINEL" Bundle.listD)
def vx_at0 (own : String) (ic : Nat) (X : String) (names : List String) : List Cond := (Bundle.ownAtoms0 own ic X names).filter vx_no
def vx_atS (own : String) (ic : Nat) (X : String) (names : List String) : List Cond := (Bundle.ownAtoms own ic X names).filter vx_no
/-- a word that the tables alone decide, or a good one -/
def vx_ot (w : Cond) : Bool := w.onTables || goodWord w
theorem vx_ot_at {args a' : Array Value} {s U : State} {w : Cond} (hW : s.WarmedH U.vm) (hvm : s.vm = U.vm) (hg : vx_ot w = true) (h : w.before args s = true) : w.before a' U = true := by
  simp only [vx_ot, Bool.or_eq_true] at hg
  rcases hg with hg | hg
  · exact va_tabs hg hvm h
  · exact word_at hW (good_of_word hg) h
/-- a list's words: the good ones out of the method's own list, the others by premises of their own -/
theorem vx_hat {args : Array Value} {s : State} {L B : List Cond} (h1 : ∀ w ∈ L.filter goodWord, w.before args s = true) (h2 : ∀ w ∈ L.filter (fun w => !goodWord w), w ∈ B) (h3 : ∀ w ∈ B, w.before args s = true) : ∀ w ∈ L, w.before args s = true := by
  intro w hw
  by_cases g : goodWord w = true
  · exact h1 w (List.mem_filter.mpr ⟨hw, g⟩)
  · refine h3 w (h2 w (List.mem_filter.mpr ⟨hw, ?_⟩))
    show (!goodWord w) = true
    cases hgw : goodWord w
    · rfl
    · exact absurd hgw g
theorem vx_c {args : Array Value} {s : State} {w : Cond} {B : List Cond} (h : w.before args s = true) (t : ∀ w ∈ B, w.before args s = true) : ∀ w' ∈ w :: B, w'.before args s = true := fun w' h' => (List.mem_cons.mp h').elim (fun e => by rw [e]; exact h) (t w')
theorem vx_n {args : Array Value} {s : State} : ∀ w ∈ ([] : List Cond), w.before args s = true := fun _ h => nomatch h
theorem vx_own {args : Array Value} {s : State} {L : List Cond} (h1 : ∀ w ∈ L.filter vx_no, w.before args s = true)
    (hU : (Cond.isRef (.static Bundle.tN "UNASSIGNED_STACK" Bundle.steD)).before args s = true) (hN : (Cond.isRef (.static Bundle.tN "SUPPRESSED_SENTINEL" Bundle.listD)).before args s = true)
    (lU : (Cond.laysStatic Bundle.tN "UNASSIGNED_STACK" Bundle.steD).before args s = true) (lN : (Cond.laysStatic Bundle.tN "SUPPRESSED_SENTINEL" Bundle.listD).before args s = true) : ∀ w ∈ L, w.before args s = true := by
  intro w hw
  by_cases e1 : w = .isRef (.static Bundle.tN "UNASSIGNED_STACK" Bundle.steD)
  · rw [e1]; exact hU
  · by_cases e2 : w = .isRef (.static Bundle.tN "SUPPRESSED_SENTINEL" Bundle.listD)
    · rw [e2]; exact hN
    · by_cases e3 : w = .laysStatic Bundle.tN "UNASSIGNED_STACK" Bundle.steD
      · rw [e3]; exact lU
      · by_cases e4 : w = .laysStatic Bundle.tN "SUPPRESSED_SENTINEL" Bundle.listD
        · rw [e4]; exact lN
        · exact h1 w (List.mem_filter.mpr ⟨hw, by unfold vx_no; rw [decide_eq_true e1, decide_eq_true e2, decide_eq_true e3, decide_eq_true e4]; rfl⟩)
/-- where a static field lies, its class's statics cell in H -/
def vx_L (C n d : String) (A : Nat → Prop) (U : State) (H : Heap) : Prop := ∃ (c : ClassId) (k : Class) (i : Nat) (f : Field) (a : Nat) (cell : Cell), U.vm.findClass C = some c ∧ U.fieldFound? C n d = some (c, k, i, f) ∧ f.isStatic = true ∧ k.statics = some a ∧ H[a]? = some cell ∧ cell.vm.isStatics = true ∧ cell.cls = c ∧ f.slot < cell.slots.size ∧ k.staticTypes[f.slot]? = some f.type ∧ ¬ A a
theorem vx_L.moved {C n d : String} {A : Nat → Prop} {u U : State} {H : Heap} (hvm : u.vm.Alike U.vm) (h : vx_L C n d A u H) : vx_L C n d A U H := by
  obtain ⟨c, k, i, f, a, cell, h1, h2, h3, h4, h5, h6, h7, h8, h9, h10⟩ := h
  obtain ⟨k', hi', he⟩ := State.fieldFound?_setVm hvm h2
  exact ⟨c, k', i, f, a, cell, by rw [hvm.findClass]; exact h1, hi', h3, by rw [he]; exact h4, h5, h6, h7, h8, by rw [he]; exact h9, h10⟩
theorem vx_L.kept {C n d : String} {A : Nat → Prop} {U : State} {H H1 : Heap} (h : vx_L C n d A U H) (hq : ∀ a : Nat, a < H.size → ¬ A a → H1[a]? = H[a]?) : vx_L C n d A U H1 := by
  obtain ⟨c, k, i, f, a, cell, h1, h2, h3, h4, h5, h6, h7, h8, h9, h10⟩ := h
  exact ⟨c, k, i, f, a, cell, h1, h2, h3, h4, by rw [hq a (Array.getElem?_eq_some_iff.mp h5).1 h10]; exact h5, h6, h7, h8, h9, h10⟩
theorem vx_L.narrow {C n d : String} {A B : Nat → Prop} {U : State} {H : Heap} (h : vx_L C n d A U H) (hAB : ∀ q, B q → A q) : vx_L C n d B U H := by
  obtain ⟨c, k, i, f, a, cell, h1, h2, h3, h4, h5, h6, h7, h8, h9, h10⟩ := h
  exact ⟨c, k, i, f, a, cell, h1, h2, h3, h4, h5, h6, h7, h8, h9, fun z => h10 (hAB _ z)⟩
theorem vx_L.word {C n d : String} {A : Nat → Prop} {s : State} {args : Array Value} (h : vx_L C n d A s s.heap) : (Cond.laysStatic C n d).before args s = true := by
  obtain ⟨c, k, i, f, a, cell, h1, h2, h3, h4, h5, h6, h7, h8, h9, -⟩ := h
  show (Cond.laysStatic C n d).holds args s none s [] = true
  exact Cond.laysStatic_of h1 h2 h3 h4 h5 h6 h7 h8 h9
/-- .. and what it holds: null or some reference -/
def vx_Zq (C n d : String) (A : Nat → Prop) (U : State) (H : Heap) : Prop := va_Zq C n d A U H ∧ vx_L C n d A U H
theorem vx_Zq.moved {C n d : String} {A : Nat → Prop} {u U : State} {H : Heap} (hvm : u.vm.Alike U.vm) (h : vx_Zq C n d A u H) : vx_Zq C n d A U H := ⟨va_Zq.moved hvm h.1, vx_L.moved hvm h.2⟩
theorem vx_Zq.kept {C n d : String} {A : Nat → Prop} {U : State} {H H1 : Heap} (h : vx_Zq C n d A U H) (hq : ∀ a : Nat, a < H.size → ¬ A a → H1[a]? = H[a]?) : vx_Zq C n d A U H1 := ⟨va_Zq.kept h.1 hq, vx_L.kept h.2 hq⟩
theorem vx_Zq.narrow {C n d : String} {A B : Nat → Prop} {U : State} {H : Heap} (h : vx_Zq C n d A U H) (hAB : ∀ q, B q → A q) : vx_Zq C n d B U H := ⟨va_Zq.narrow h.1 hAB, vx_L.narrow h.2 hAB⟩
theorem vx_Zqof {args : Array Value} {s : State} {C n d : String} {A : Nat → Prop} (hl : (Cond.laysStatic C n d).before args s = true) (hini : (Cond.initialized C).before args s = true) (h : (Cond.isRef (.static C n d)).before args s = true) (hA : ∀ a : Nat, a < s.heap.size → ¬ A a) : vx_Zq C n d A s s.heap := by
  refine ⟨va_Zqof hl hini h hA, ?_⟩
  obtain ⟨c, k, i, f, a, cell, h1, h2, h3, h4, h5, h6, h7, h8, h9⟩ := Cond.laysStatic_spec hl
  exact ⟨c, k, i, f, a, cell, h1, h2, h3, h4, h5, h6, h7, h8, h9, hA a (Array.getElem?_eq_some_iff.mp h5).1⟩
theorem vx_isRef {C n d : String} {v : Value} {A : Nat → Prop} {s : State} {args : Array Value} (h : va_Z C n d v A s s.heap) (hv : v.isRef = true) : (Cond.isRef (.static C n d)).before args s = true := by
  obtain ⟨cf, kf, fi, f, a, cell, h1, h2, h3, h4, h5, h6, h7, -⟩ := h
  have he : (Term.static C n d).eval args s none [] s = some v := by
    simp [Term.eval, State.fieldNamed?, h1, h2, h4, h5, h6, h7]
  simp only [Cond.before, Cond.holds, Cond.value, he]
  cases v <;> simp_all [Value.isRef]
theorem vx_isRefq {C n d : String} {A : Nat → Prop} {s : State} {args : Array Value} (h : va_Zq C n d A s s.heap) : (Cond.isRef (.static C n d)).before args s = true := by
  rcases h with h | ⟨t, h⟩
  · exact vx_isRef h rfl
  · exact vx_isRef h rfl
/-- the same frame, seen from here: as if the method were called anew in this heap -/
theorem vx_rebase {T : State} (X : Stand p l e R s m args below meth c T locs cells slots) {R' : Room} (hf : R'.frames ≤ R.frames) (hl : R'.locals ≤ R.locals) (hc : cells + R'.cells ≤ R.cells) (hs : slots + R'.slots ≤ R.slots) :
    Stand p l e R' ((T.setVm s.vm).setFrames (.invoking m args :: below)) m args below meth c T [] 0 0 := by
  have htop : (T.setVm s.vm).topJava?.isSome := X.here.top
  have hF : ((T.setVm s.vm).setFrames (.invoking m args :: below)).frames = .invoking m args :: below := State.frames_setFrames _ (State.cur_lt_of_top htop)
  obtain ⟨g₀, hg0⟩ := Option.isSome_iff_exists.mp htop
  obtain ⟨r, hr⟩ := State.topJava?_eq_some.mp hg0
  have hl9 : e.platform.stackLimits (T.setVm s.vm).me = e.platform.stackLimits s.me := X.limits
  have hb9 : (T.setVm s.vm).me.stackBytes = s.me.stackBytes := X.bytes
  refine ⟨X.admits, X.cas, X.clock, hF, ?_, X.hears, X.method, X.code, X.here, X.tail, X.warmed, ?_, ?_, ?_⟩
  · have h := X.room
    have hU : ((T.setVm s.vm).setFrames (.invoking m args :: below)).localsInUse = s.localsInUse := by
      rw [State.localsInUse_invoking hF (meth := meth) (c := c) X.method X.code, State.localsInUse_invoking X.frames X.method X.code]
    simp only [State.hasRoom, Bool.and_eq_true, decide_eq_true_eq] at h ⊢
    obtain ⟨⟨⟨⟨h1, h2, h3, h4, h5, h6⟩, h7⟩, h8⟩, h9⟩ := h
    rw [X.frames, List.length_cons] at h2 h3
    have q1 := X.heapSize
    have q2 := X.used
    simp only [hF, hU, List.length_cons, State.stackLimits_setFrames, State.stackBytes_setFrames, hl9, hb9]
    refine ⟨⟨⟨⟨by omega, by omega, by omega, by omega, by omega, h6⟩, ?_⟩, ?_⟩, X.book⟩
    · show T.heap.size + R'.cells ≤ e.platform.maxCells
      omega
    · show T.slotsUsed + R'.slots ≤ e.platform.maxSlots
      omega
  · rw [State.stackLimits_setFrames]; rfl
  · rw [State.stackBytes_setFrames]; rfl
  · refine ⟨?_, Nat.le_refl _, Nat.le_refl _, ?_, ?_, fun a c9 h9 => ⟨c9, h9, rfl, rfl, fun _ _ => rfl⟩⟩
    · obtain ⟨t, ht, -⟩ := State.frames_cons hr
      show T.setVm s.vm = { ((T.setVm s.vm).setFrames (.invoking m args :: below)).setFrames (T.setVm s.vm).frames with heap := T.heap, slotsUsed := T.slotsUsed }
      rw [State.setFrames_setFrames, State.setFrames_self ht]
      rfl
    · show T.slotsUsed = T.slotsUsed + ((T.heap.toList.drop T.heap.size).map (·.slots.size)).sum
      rw [List.drop_eq_nil_of_le (Nat.le_of_eq Array.length_toList)]
      rfl
    · show ((T.heap.toList.drop T.heap.size).map (·.slots.size)).sum ≤ 0
      rw [List.drop_eq_nil_of_le (Nat.le_of_eq Array.length_toList)]
      exact Nat.le_refl _
/-- 'throw new E()': new; dup; invokespecial; athrow -/
theorem vx_throw0 {cc : ByteArray} {pc : Nat} (hexec : p.tables.exec = Jvm.exec) (hb : c.code = cc) (hl : l.stackTraces = false) {own cls : String} {names : List String} {ik ic mc ms : Nat} {A : Nat → Prop}
    (hown : s.vm.findClass own = some m.cls) (hcls : Bundle.fit cls = true) (hnames : ∀ n ∈ names, Bundle.fit n = true)
    (hk : (Cond.classLink own ik cls).before args s = true) (hini : (Cond.initialized cls).before args s = true) (hat : ∀ w ∈ vx_at0 own ic cls names, w.before args s = true)
    (hgood : ∀ w ∈ Cond.classLink own ik cls :: Cond.initialized cls :: vx_at0 own ic cls names, vx_ot w = true)
    (hU : vx_Zq Bundle.tN "UNASSIGNED_STACK" Bundle.steD A s s.heap) (hN : vx_Zq Bundle.tN "SUPPRESSED_SENTINEL" Bundle.listD A s s.heap) (hS : va_S A s.heap H locs) (hsize : ls.size = c.maxLocals)
    (d0 : decode cc pc = .ok (.new ik, 3)) (d3 : decode cc (pc + 3) = .ok (.dup, 1)) (d4 : decode cc (pc + 4) = .ok (.invokespecial ic, 3)) (d7 : decode cc (pc + 7) = .ok (.athrow, 1))
    (hout : ∀ x ∈ c.exceptionTable.toList, covers x (pc + 7) = false)
    (hRframes : names.length + 3 < R.frames) (hRlocals : (rest.map fun v => v.category).sum + (13 * (names.length + 1) + 42) ≤ R.locals) (hRcells : cells + 1 ≤ R.cells) (hRslots : slots + 6 ≤ R.slots) (hlocks : meth.locks = false)
    (hx : ∀ t : State, s.vm.Alike t.vm → H.size ≤ t.heap.size → (∀ q : Nat, q < H.size → t.heap[q]? = H[q]?) → XC cls s t)
    (hf : ∀ z ∈ locs, free z.base) (hc : cells + 1 ≤ mc) (hs : slots + 6 ≤ ms) :
    W p l e R s m args below meth c H locs cells slots (vx_MQ below Qc XC args s mc ms free) (F0 m pc ls rest) := by
  intro T hT X
  have htr : e.platform.stackTraces = false := (show e.platform.stackTraces = l.stackTraces by rw [X.admits.platform]).trans hl
  have Y := vx_rebase X (R' := { frames := R.frames, locals := R.locals, cells := 1, slots := 6 }) (Nat.le_refl _) (Nat.le_refl _) hRcells hRslots
  obtain ⟨s', hA⟩ : ∃ z, z = (T.setVm s.vm).setFrames (.invoking m args :: below) := ⟨_, rfl⟩
  rw [← hA] at Y
  have hvm : s'.vm = s.vm := by rw [hA]; rfl
  have hhp : s'.heap = H := by rw [hA]; exact hT
  have hW0 : s.WarmedH s'.vm := by rw [hvm]; exact State.WarmedH.refl s
  have hat' : ∀ w ∈ vx_at0 own ic cls names, w.before args s' = true := fun w hw => vx_ot_at hW0 hvm.symm (hgood w (List.mem_cons_of_mem _ (List.mem_cons_of_mem _ hw))) (hat w hw)
  have hk' : (Cond.classLink own ik cls).before args s' = true := vx_ot_at hW0 hvm.symm (hgood _ List.mem_cons_self) hk
  have hini' : (Cond.initialized cls).before args s' = true := vx_ot_at hW0 hvm.symm (hgood _ (List.mem_cons_of_mem _ List.mem_cons_self)) hini
  have hU' : vx_Zq Bundle.tN "UNASSIGNED_STACK" Bundle.steD A s' s'.heap := by rw [hhp]; exact vx_Zq.moved hW0.alike (hU.kept hS.2.1)
  have hN' : vx_Zq Bundle.tN "SUPPRESSED_SENTINEL" Bundle.listD A s' s'.heap := by rw [hhp]; exact vx_Zq.moved hW0.alike (hN.kept hS.2.1)
  have h : ∀ w ∈ Bundle.ownAtoms0 own ic cls names, w.before args s' = true := vx_own hat' (vx_isRefq hU'.1) (vx_isRefq hN'.1) hU'.2.word hN'.2.word
  have hown' : s'.vm.findClass own = some m.cls := by rw [hvm]; exact hown
  have hins : (Cond.instantiable cls 6).before args s' = true := h _ (by simp [Bundle.ownAtoms0])
  obtain ⟨vm₁, cX, kX, hfX, hkX, -, -, X₁, st1⟩ := Y.newCold hexec (own := own) (C := cls) (index := ik) (n := 6) hown' hk' hins hini'
    (g := F0 m pc ls rest) rfl (by rw [hb]; exact d0) (Nat.le_refl _) (Nat.le_refl _)
  generalize hT1 : (T.setVm vm₁).pushCell { cls := cX, slots := kX.instanceTypes.map defaultValue, vm := .none } = T1 at X₁ st1
  have hcat : (Value.ref T.heap.size).category = 1 := rfl
  have hcellA : T1.heap[T.heap.size]? = some (freshCell cX kX) := by rw [← hT1]; exact State.heap_pushCell_size _ _
  have d3' : decode c.code (pc + 3) = .ok (.dup, 1) := by rw [hb]; exact d3
  obtain ⟨U, hsteps, hrun, hend, hW, hsame, ce, hce, hO⟩ := X₁.ctorThrow0 hexec htr (own := own) (cls := cls) (names := names) (ic := ic) hown' hcls hnames h (fun x hx => nomatch hx) hfX hkX hcellA (by rw [hhp, hT]; exact Nat.le_refl _)
    (g := { method := m, pc := pc + 4, locals := ls, stack := .ref T.heap.size :: .ref T.heap.size :: rest, locked := none }) rfl hsize rfl rfl (rest := rest) rfl
    (by rw [hb]; exact d4) (by rw [hb]; exact d7) hout hRframes (by simp only [List.map_cons, List.sum_cons, hcat]; omega) hlocks
  obtain ⟨f1, f2⟩ := vx_frame hsame
  rw [hhp] at f1 f2
  have hWs : s.WarmedH U.vm := State.WarmedH.trans hW0 hW
  have hcl : s.vm.findClass cls = some ce.cls := by
    have h9 := hO.cls
    rw [hvm] at h9
    exact h9
  have hall : s.sameButNew ({ U with vm := s.vm } : State) locs mc ms := by
    subst hA
    obtain ⟨e1, e2⟩ := hsame
    rw [State.setFrames_setFrames] at e1
    have h2 : (T.setVm s.vm).sameButNew ({ U with vm := s.vm } : State) [] (0 + 1) (0 + 6) := ⟨e1, e2⟩
    have h3 := X.same.trans h2
    rw [List.append_nil] at h3
    exact h3.mono hc hs
  refine ⟨U, ?_, .threw T.heap.size, hrun, hend, Or.inr ⟨T.heap.size, rfl, cls, ce, locs, hx U hWs.alike f1 (fun q hq => f2 q hq (fun z hz => nomatch hz)), hce, hO.vm, hcl, hWs, hall, hf⟩⟩
  refine st1 _ ?_
  show Steps p.tables e below (T1.setTop { method := m, pc := pc + 3, locals := ls, stack := .ref T.heap.size :: rest, locked := none }) _
  jvm_step X₁.here [X₁.here.top, hexec, d3', Value.category]
  exact hsteps
/-- 'throw new E("text")': new; dup; ldc; invokespecial; athrow -/
theorem vx_throwS {cc : ByteArray} {pc : Nat} (hexec : p.tables.exec = Jvm.exec) (hb : c.code = cc) (hl : l.stackTraces = false) {own cls text : String} {names : List String} {ik is ic mc ms sa : Nat} {A : Nat → Prop}
    (hown : s.vm.findClass own = some m.cls) (hcls : Bundle.fit cls = true) (hnames : ∀ n ∈ names, Bundle.fit n = true)
    (hk : (Cond.classLink own ik cls).before args s = true) (hini : (Cond.initialized cls).before args s = true) (hstr : vk_R own is text sa s) (hat : ∀ w ∈ vx_atS own ic cls names, w.before args s = true)
    (hgood : ∀ w ∈ Cond.classLink own ik cls :: Cond.initialized cls :: vx_atS own ic cls names, vx_ot w = true)
    (hU : vx_Zq Bundle.tN "UNASSIGNED_STACK" Bundle.steD A s s.heap) (hN : vx_Zq Bundle.tN "SUPPRESSED_SENTINEL" Bundle.listD A s s.heap) (hS : va_S A s.heap H locs) (hsize : ls.size = c.maxLocals)
    (d0 : decode cc pc = .ok (.new ik, 3)) (d3 : decode cc (pc + 3) = .ok (.dup, 1)) (d4 : decode cc (pc + 4) = .ok (.ldc is, 2)) (d6 : decode cc (pc + 6) = .ok (.invokespecial ic, 3)) (d9 : decode cc (pc + 9) = .ok (.athrow, 1))
    (hout : ∀ x ∈ c.exceptionTable.toList, covers x (pc + 9) = false)
    (hRframes : names.length + 3 < R.frames) (hRlocals : (rest.map fun v => v.category).sum + (13 * (names.length + 1) + 43) ≤ R.locals) (hRcells : cells + 1 ≤ R.cells) (hRslots : slots + 6 ≤ R.slots) (hlocks : meth.locks = false)
    (hx : ∀ t : State, s.vm.Alike t.vm → H.size ≤ t.heap.size → (∀ q : Nat, q < H.size → t.heap[q]? = H[q]?) → XC cls s t)
    (hf : ∀ z ∈ locs, free z.base) (hc : cells + 1 ≤ mc) (hs : slots + 6 ≤ ms) :
    W p l e R s m args below meth c H locs cells slots (vx_MQ below Qc XC args s mc ms free) (F0 m pc ls rest) := by
  intro T hT X
  have htr : e.platform.stackTraces = false := (show e.platform.stackTraces = l.stackTraces by rw [X.admits.platform]).trans hl
  have Y := vx_rebase X (R' := { frames := R.frames, locals := R.locals, cells := 1, slots := 6 }) (Nat.le_refl _) (Nat.le_refl _) hRcells hRslots
  obtain ⟨s', hA⟩ : ∃ z, z = (T.setVm s.vm).setFrames (.invoking m args :: below) := ⟨_, rfl⟩
  rw [← hA] at Y
  have hvm : s'.vm = s.vm := by rw [hA]; rfl
  have hhp : s'.heap = H := by rw [hA]; exact hT
  have hW0 : s.WarmedH s'.vm := by rw [hvm]; exact State.WarmedH.refl s
  have hat' : ∀ w ∈ vx_atS own ic cls names, w.before args s' = true := fun w hw => vx_ot_at hW0 hvm.symm (hgood w (List.mem_cons_of_mem _ (List.mem_cons_of_mem _ hw))) (hat w hw)
  have hk' : (Cond.classLink own ik cls).before args s' = true := vx_ot_at hW0 hvm.symm (hgood _ List.mem_cons_self) hk
  have hini' : (Cond.initialized cls).before args s' = true := vx_ot_at hW0 hvm.symm (hgood _ (List.mem_cons_of_mem _ List.mem_cons_self)) hini
  have hU' : vx_Zq Bundle.tN "UNASSIGNED_STACK" Bundle.steD A s' s'.heap := by rw [hhp]; exact vx_Zq.moved hW0.alike (hU.kept hS.2.1)
  have hN' : vx_Zq Bundle.tN "SUPPRESSED_SENTINEL" Bundle.listD A s' s'.heap := by rw [hhp]; exact vx_Zq.moved hW0.alike (hN.kept hS.2.1)
  have h : ∀ w ∈ Bundle.ownAtoms own ic cls names, w.before args s' = true := vx_own hat' (vx_isRefq hU'.1) (vx_isRefq hN'.1) hU'.2.word hN'.2.word
  have hown' : s'.vm.findClass own = some m.cls := by rw [hvm]; exact hown
  have hins : (Cond.instantiable cls 6).before args s' = true := h _ (by simp [Bundle.ownAtoms])
  obtain ⟨vm₁, cX, kX, hfX, hkX, -, -, X₁, st1⟩ := Y.newCold hexec (own := own) (C := cls) (index := ik) (n := 6) hown' hk' hins hini'
    (g := F0 m pc ls rest) rfl (by rw [hb]; exact d0) (Nat.le_refl _) (Nat.le_refl _)
  generalize hT1 : (T.setVm vm₁).pushCell { cls := cX, slots := kX.instanceTypes.map defaultValue, vm := .none } = T1 at X₁ st1
  have hcat : (Value.ref T.heap.size).category = 1 := rfl
  have hcellA : T1.heap[T.heap.size]? = some (freshCell cX kX) := by rw [← hT1]; exact State.heap_pushCell_size _ _
  have d3' : decode c.code (pc + 3) = .ok (.dup, 1) := by rw [hb]; exact d3
  have d4' : decode c.code (pc + 4) = .ok (.ldc is, 2) := by rw [hb]; exact d4
  have hstr' : vk_R own is text sa s' := vk_R.warm hW0 hstr
  obtain ⟨U, hsteps, hrun, hend, hW, hsame, ce, hce, hO⟩ := X₁.ctorThrowS hexec htr (own := own) (cls := cls) (names := names) (ic := ic) hown' hcls hnames h (fun x hx => nomatch hx) hfX hkX hcellA (by rw [hhp, hT]; exact Nat.le_refl _) (msg := .ref sa) rfl
    (g := { method := m, pc := pc + 6, locals := ls, stack := .ref sa :: .ref T.heap.size :: .ref T.heap.size :: rest, locked := none }) rfl hsize rfl rfl (rest := rest) rfl
    (by rw [hb]; exact d6) (by rw [hb]; exact d9) hout hRframes (by simp only [List.map_cons, List.sum_cons, hcat]; omega) hlocks
  obtain ⟨f1, f2⟩ := vx_frame hsame
  rw [hhp] at f1 f2
  have hWs : s.WarmedH U.vm := State.WarmedH.trans hW0 hW
  have hcl : s.vm.findClass cls = some ce.cls := by
    have h9 := hO.cls
    rw [hvm] at h9
    exact h9
  have hall : s.sameButNew ({ U with vm := s.vm } : State) locs mc ms := by
    subst hA
    obtain ⟨e1, e2⟩ := hsame
    rw [State.setFrames_setFrames] at e1
    have h2 : (T.setVm s.vm).sameButNew ({ U with vm := s.vm } : State) [] (0 + 1) (0 + 6) := ⟨e1, e2⟩
    have h3 := X.same.trans h2
    rw [List.append_nil] at h3
    exact h3.mono hc hs
  refine ⟨U, ?_, .threw T.heap.size, hrun, hend, Or.inr ⟨T.heap.size, rfl, cls, ce, locs, hx U hWs.alike f1 (fun q hq => f2 q hq (fun z hz => nomatch hz)), hce, hO.vm, hcl, hWs, hall, hf⟩⟩
  refine st1 _ ?_
  show Steps p.tables e below (T1.setTop { method := m, pc := pc + 3, locals := ls, stack := .ref T.heap.size :: rest, locked := none }) _
  jvm_step X₁.here [X₁.here.top, hexec, d3', Value.category]
  exact X₁.ldcString hexec (own := own) (text := text) (index := is) (a := sa) hown' hstr'.1 hstr'.2
    (g := { method := m, pc := pc + 4, locals := ls, stack := .ref T.heap.size :: .ref T.heap.size :: rest, locked := none }) rfl d4' _ hsteps
/-- 'throw new E("text")', the text by a wide index -/
theorem vx_throwSW {cc : ByteArray} {pc : Nat} (hexec : p.tables.exec = Jvm.exec) (hb : c.code = cc) (hl : l.stackTraces = false) {own cls text : String} {names : List String} {ik is ic mc ms sa : Nat} {A : Nat → Prop}
    (hown : s.vm.findClass own = some m.cls) (hcls : Bundle.fit cls = true) (hnames : ∀ n ∈ names, Bundle.fit n = true)
    (hk : (Cond.classLink own ik cls).before args s = true) (hini : (Cond.initialized cls).before args s = true) (hstr : vk_R own is text sa s) (hat : ∀ w ∈ vx_atS own ic cls names, w.before args s = true)
    (hgood : ∀ w ∈ Cond.classLink own ik cls :: Cond.initialized cls :: vx_atS own ic cls names, vx_ot w = true)
    (hU : vx_Zq Bundle.tN "UNASSIGNED_STACK" Bundle.steD A s s.heap) (hN : vx_Zq Bundle.tN "SUPPRESSED_SENTINEL" Bundle.listD A s s.heap) (hS : va_S A s.heap H locs) (hsize : ls.size = c.maxLocals)
    (d0 : decode cc pc = .ok (.new ik, 3)) (d3 : decode cc (pc + 3) = .ok (.dup, 1)) (d4 : decode cc (pc + 4) = .ok (.ldc_w is, 3)) (d7 : decode cc (pc + 7) = .ok (.invokespecial ic, 3)) (d10 : decode cc (pc + 10) = .ok (.athrow, 1))
    (hout : ∀ x ∈ c.exceptionTable.toList, covers x (pc + 10) = false)
    (hRframes : names.length + 3 < R.frames) (hRlocals : (rest.map fun v => v.category).sum + (13 * (names.length + 1) + 43) ≤ R.locals) (hRcells : cells + 1 ≤ R.cells) (hRslots : slots + 6 ≤ R.slots) (hlocks : meth.locks = false)
    (hx : ∀ t : State, s.vm.Alike t.vm → H.size ≤ t.heap.size → (∀ q : Nat, q < H.size → t.heap[q]? = H[q]?) → XC cls s t)
    (hf : ∀ z ∈ locs, free z.base) (hc : cells + 1 ≤ mc) (hs : slots + 6 ≤ ms) :
    W p l e R s m args below meth c H locs cells slots (vx_MQ below Qc XC args s mc ms free) (F0 m pc ls rest) := by
  intro T hT X
  have htr : e.platform.stackTraces = false := (show e.platform.stackTraces = l.stackTraces by rw [X.admits.platform]).trans hl
  have Y := vx_rebase X (R' := { frames := R.frames, locals := R.locals, cells := 1, slots := 6 }) (Nat.le_refl _) (Nat.le_refl _) hRcells hRslots
  obtain ⟨s', hA⟩ : ∃ z, z = (T.setVm s.vm).setFrames (.invoking m args :: below) := ⟨_, rfl⟩
  rw [← hA] at Y
  have hvm : s'.vm = s.vm := by rw [hA]; rfl
  have hhp : s'.heap = H := by rw [hA]; exact hT
  have hW0 : s.WarmedH s'.vm := by rw [hvm]; exact State.WarmedH.refl s
  have hat' : ∀ w ∈ vx_atS own ic cls names, w.before args s' = true := fun w hw => vx_ot_at hW0 hvm.symm (hgood w (List.mem_cons_of_mem _ (List.mem_cons_of_mem _ hw))) (hat w hw)
  have hk' : (Cond.classLink own ik cls).before args s' = true := vx_ot_at hW0 hvm.symm (hgood _ List.mem_cons_self) hk
  have hini' : (Cond.initialized cls).before args s' = true := vx_ot_at hW0 hvm.symm (hgood _ (List.mem_cons_of_mem _ List.mem_cons_self)) hini
  have hU' : vx_Zq Bundle.tN "UNASSIGNED_STACK" Bundle.steD A s' s'.heap := by rw [hhp]; exact vx_Zq.moved hW0.alike (hU.kept hS.2.1)
  have hN' : vx_Zq Bundle.tN "SUPPRESSED_SENTINEL" Bundle.listD A s' s'.heap := by rw [hhp]; exact vx_Zq.moved hW0.alike (hN.kept hS.2.1)
  have h : ∀ w ∈ Bundle.ownAtoms own ic cls names, w.before args s' = true := vx_own hat' (vx_isRefq hU'.1) (vx_isRefq hN'.1) hU'.2.word hN'.2.word
  have hown' : s'.vm.findClass own = some m.cls := by rw [hvm]; exact hown
  have hins : (Cond.instantiable cls 6).before args s' = true := h _ (by simp [Bundle.ownAtoms])
  obtain ⟨vm₁, cX, kX, hfX, hkX, -, -, X₁, st1⟩ := Y.newCold hexec (own := own) (C := cls) (index := ik) (n := 6) hown' hk' hins hini'
    (g := F0 m pc ls rest) rfl (by rw [hb]; exact d0) (Nat.le_refl _) (Nat.le_refl _)
  generalize hT1 : (T.setVm vm₁).pushCell { cls := cX, slots := kX.instanceTypes.map defaultValue, vm := .none } = T1 at X₁ st1
  have hcat : (Value.ref T.heap.size).category = 1 := rfl
  have hcellA : T1.heap[T.heap.size]? = some (freshCell cX kX) := by rw [← hT1]; exact State.heap_pushCell_size _ _
  have d3' : decode c.code (pc + 3) = .ok (.dup, 1) := by rw [hb]; exact d3
  have d4' : decode c.code (pc + 4) = .ok (.ldc_w is, 3) := by rw [hb]; exact d4
  have hstr' : vk_R own is text sa s' := vk_R.warm hW0 hstr
  obtain ⟨U, hsteps, hrun, hend, hW, hsame, ce, hce, hO⟩ := X₁.ctorThrowS hexec htr (own := own) (cls := cls) (names := names) (ic := ic) hown' hcls hnames h (fun x hx => nomatch hx) hfX hkX hcellA (by rw [hhp, hT]; exact Nat.le_refl _) (msg := .ref sa) rfl
    (g := { method := m, pc := pc + 7, locals := ls, stack := .ref sa :: .ref T.heap.size :: .ref T.heap.size :: rest, locked := none }) rfl hsize rfl rfl (rest := rest) rfl
    (by rw [hb]; exact d7) (by rw [hb]; exact d10) hout hRframes (by simp only [List.map_cons, List.sum_cons, hcat]; omega) hlocks
  obtain ⟨f1, f2⟩ := vx_frame hsame
  rw [hhp] at f1 f2
  have hWs : s.WarmedH U.vm := State.WarmedH.trans hW0 hW
  have hcl : s.vm.findClass cls = some ce.cls := by
    have h9 := hO.cls
    rw [hvm] at h9
    exact h9
  have hall : s.sameButNew ({ U with vm := s.vm } : State) locs mc ms := by
    subst hA
    obtain ⟨e1, e2⟩ := hsame
    rw [State.setFrames_setFrames] at e1
    have h2 : (T.setVm s.vm).sameButNew ({ U with vm := s.vm } : State) [] (0 + 1) (0 + 6) := ⟨e1, e2⟩
    have h3 := X.same.trans h2
    rw [List.append_nil] at h3
    exact h3.mono hc hs
  refine ⟨U, ?_, .threw T.heap.size, hrun, hend, Or.inr ⟨T.heap.size, rfl, cls, ce, locs, hx U hWs.alike f1 (fun q hq => f2 q hq (fun z hz => nomatch hz)), hce, hO.vm, hcl, hWs, hall, hf⟩⟩
  refine st1 _ ?_
  show Steps p.tables e below (T1.setTop { method := m, pc := pc + 3, locals := ls, stack := .ref T.heap.size :: rest, locked := none }) _
  jvm_step X₁.here [X₁.here.top, hexec, d3', Value.category]
  exact X₁.ldcStringW hexec (own := own) (text := text) (index := is) (a := sa) hown' hstr'.1 hstr'.2
    (g := { method := m, pc := pc + 4, locals := ls, stack := .ref T.heap.size :: .ref T.heap.size :: rest, locked := none }) rfl d4' _ hsteps
end Ends
section Bodies
variable {l : Launch}
theorem vx_ofW {y : MethodName} {ws ws' : List Cond} {rm : Room} {Pc : Array Value → State → Prop} {Qc : Array Value → State → Outcome → State → Prop} {XC : String → State → State → Prop} {mc ms : Nat} {free : Addr → Prop} {cc : ByteArray} {maxL : Nat} {ret : Option FieldType}
    (hy : plainName y.cls = true) (hw : ws = Cond.code y cc maxL ret :: ws')
    (body : ∀ p e s m args below meth c s₁, BodyLoose p l y (headSpec ws rm) cc maxL ret e s m args below meth c s₁ → c.maxLocals = maxL → (∀ x ∈ c.exceptionTable.toList, False) → Pc args s →
      W p l e (headSpec ws rm).room s m args below meth c s.heap [] 0 0 (vx_MQ below Qc XC args s mc ms free) (entryFrame m args maxL)) : vx_Met l y ws rm Pc Qc XC mc ms free := by
  refine MetFree.of_bodyS (code := cc) (maxLocals := maxL) (ret := ret) hy ?_ ?_
  · intro args s m h hn
    obtain ⟨meth, c, h1, h2, h3, h4, h5, h6, -, -⟩ := Cond.code_spec hn (atoms_spec (ws := ws) h _ (by rw [hw]; exact List.mem_cons_self))
    exact ⟨meth, c, h1, h2, h3, h4, h5, h6⟩
  · intro p e s m args below meth c s₁ B hml hP _
    have hh0 : s₁.heap = s.heap := by rw [B.state]; rfl
    have ht : ∀ x ∈ c.exceptionTable.toList, False := by
      obtain ⟨meth9, c9, h1, h2, -, -, -, -, h7, -⟩ := Cond.code_spec B.named (atoms_spec (ws := ws) B.pre _ (by rw [hw]; exact List.mem_cons_self))
      cases Option.some.inj (h1.symm.trans B.method)
      cases Option.some.inj (h2.symm.trans (Stand.of_body B).code)
      intro x hx
      rw [Array.isEmpty_iff.mp h7] at hx
      cases hx
    obtain ⟨t, a1, o, b1, b2, b3⟩ := body p e s m args below meth c s₁ B hml ht hP s₁ hh0 (Stand.of_body B)
    exact ⟨t, o, a1, b1, b2, b3⟩
/-- the table of a body with handlers -/
theorem vx_table {p : Program} {x y : MethodName} {S : Spec} {cc bytes : ByteArray} {maxL maxL' : Nat} {ret ret' : Option FieldType} {e : Env} {s s₁ : State} {m : MethodId} {args : Array Value} {below : List Frame} {meth : Method} {c : Code} {hh : List (Nat × Nat × Nat × Nat)}
    (B : BodyLoose p l y S cc maxL ret e s m args below meth c s₁) (h : (Cond.codeWith y bytes maxL' ret' hh).before args s = true) : c.exceptionTable.toList = tableOf hh := by
  obtain ⟨m9, meth9, c9, hn9, h1, h2, -, -, h6, -⟩ := Cond.codeWith_spec h
  cases Option.some.inj (hn9.symm.trans B.named)
  cases Option.some.inj (h1.symm.trans B.method)
  cases Option.some.inj (h2.symm.trans (Stand.of_body B).code)
  rw [← h6, table_eq]
end Bodies
end VXA
/-! ===== END ===== -/
/-! ===== BEGIN a static call of a method with an exception table ===== -/
section VXS
variable {p : Program} {l : Launch} {e : Env} {R : Room} {s : State} {m : MethodId} {args : Array Value} {below : List Frame} {meth : Method} {c : Code} {T : State} {H : Heap} {locs : List Loc} {cells slots : Nat}
abbrev vx_CSW (R : Room) (s : State) (args : Array Value) (own : String) (index : Nat) (y : MethodName) (bytes : ByteArray) (maxL : Nat) (ret : Option FieldType) (hh : List (Nat × Nat × Nat × Nat)) (ws : List Cond) (rm : Room) (mc ms n : Nat) : Prop :=
  (rm.cells = mc ∧ rm.slots = ms ∧ rm.frames + 1 ≤ R.frames ∧ 8 + (maxL + 11) + rm.locals ≤ R.locals ∧ (∀ w ∈ ws, ∀ (a' : Array Value) (U : State), s.WarmedH U.vm → w.before a' U = true) ∧ Cond.codeWith y bytes maxL ret hh ∈ ws) ∧
  (Cond.codeWith y bytes maxL ret hh).before args s = true ∧ (Cond.initialized y.cls).before args s = true ∧ (y.cls ≠ "java/lang/invoke/MethodHandle" ∧ y.cls ≠ "java/lang/invoke/VarHandle") ∧
  (∀ sig, parseMethodDescriptor y.desc = some sig → n = sig.parameters.length) ∧ (Cond.methodLink own index y).before args s = true ∧ (Cond.static y).before args s = true
theorem vx_cwSW {own : String} {index maxL mc ms : Nat} {y : MethodName} {bytes : ByteArray} {ret : Option FieldType} {hh : List (Nat × Nat × Nat × Nat)} {Ts ws ws' : List Cond} {rm : Room} (n : Nat) (ht : ∀ w ∈ Ts, w.before args s = true) (hT : GoodIn Ts (va_wsS own index y ws)) (hw : ws = Cond.codeWith y bytes maxL ret hh :: ws') (hrc : rm.cells = mc) (hrs : rm.slots = ms)
    (hd : y.cls ≠ "java/lang/invoke/MethodHandle" ∧ y.cls ≠ "java/lang/invoke/VarHandle" ∧ (parseMethodDescriptor y.desc).map (fun d => d.parameters.length) = some n) (hR : rm.frames + 1 ≤ R.frames ∧ 8 + (maxL + 11) + rm.locals ≤ R.locals) :
    vx_CSW R s args own index y bytes maxL ret hh ws rm mc ms n := by
  have ok : ∀ w ∈ va_wsS own index y ws, w.before args s = true := fun w h => ht w (hT w h).1
  have hG : GoodIn Ts ws := fun w h => hT w (by unfold va_wsS; exact List.mem_append_right _ h)
  have hc : Cond.codeWith y bytes maxL ret hh ∈ ws := by rw [hw]; exact List.mem_cons_self
  refine ⟨⟨hrc, hrs, hR.1, hR.2, pay_in ht hG, hc⟩, ht _ (hG _ hc).1, ok _ (by simp [va_wsS]), ⟨hd.1, hd.2.1⟩, fun sig h => ?_, ok _ (by simp [va_wsS]), ok _ (by simp [va_wsS])⟩
  have h2 := hd.2.2
  rw [h] at h2
  exact (Option.some.inj h2).symm
theorem vx_callSW (X : Stand p l e R s m args below meth c T locs cells slots) (hexec : p.tables.exec = Jvm.exec) {own : String} {index : Nat} {y : MethodName} {bytes : ByteArray} {maxL : Nat} {ret : Option FieldType} {hh : List (Nat × Nat × Nat × Nat)}
    (hown : s.vm.findClass own = some m.cls) (hlink : (Cond.methodLink own index y).before args s = true) (hstat : (Cond.static y).before args s = true) (hinit : (Cond.initialized y.cls).before args s = true)
    (hcode : (Cond.codeWith y bytes maxL ret hh).before args s = true) (hy : y.cls ≠ "java/lang/invoke/MethodHandle" ∧ y.cls ≠ "java/lang/invoke/VarHandle")
    {W9 : Nat} {Pre : Pt → Array Value → Prop} {Post : Pt → Array Value → Option Value → Pt → Prop} (hK : Back l R p e below s args y 3 W9 Pre Post)
    {g : JFrame} (hg : g.method = m) (hsize : g.locals.size = c.maxLocals) {argsL rest : List Value} (hlen : ∀ sig, parseMethodDescriptor y.desc = some sig → argsL.length = sig.parameters.length)
    (hstack : g.stack = argsL.reverse ++ rest) (hW : 2 * g.monitorRoom + (rest.map fun v => v.category).sum ≤ W9) (hdg : decode c.code g.pc = .ok (.invokestatic index, 3))
    (hpre : ∀ vm₁, s.WarmedH vm₁ → Pre ⟨T.setVm vm₁, locs, cells, slots⟩ argsL.toArray) :
    ∃ (v : Option Value) (vm₁ : Vm) (B : Pt), s.WarmedH vm₁ ∧ Stand p l e R s m args below meth c B.U B.locs B.cells B.slots ∧ Post ⟨T.setVm vm₁, locs, cells, slots⟩ argsL.toArray v B ∧
      ∀ target, Steps p.tables e below (B.U.setTop { g with pc := g.pc + 3, stack := v.toList ++ rest }) target → Steps p.tables e below (T.setTop g) target := by
  obtain ⟨mk, methM, cM, hnamed, hmethM, -, -, -, -, -, -, hsigM⟩ := Cond.codeWith_spec hcode
  have hstatic : methM.isStatic = true := Cond.static_spec hnamed hmethM hstat
  obtain ⟨kP, hkP, -⟩ := className_of_methodNamed hnamed
  have hinitP : kP.init = .initialized := Cond.initialized_spec (findClass_of_methodNamed hnamed) hkP hinit
  obtain ⟨vm₁, X₁, hstep₁⟩ := X.invokestatic hexec hown hlink hnamed hmethM hstatic hkP hinitP hy (g := g) hg (argsL := argsL) (rest := rest) (hlen _ hsigM) hstack hdg
  obtain ⟨v, B, X', hpost, hsteps⟩ := hK m meth c ⟨T.setVm vm₁, locs, cells, slots⟩ { g with stack := rest } (.invokestatic index) mk argsL.toArray X₁ hg hsize hdg hW (X₁.named hnamed) (hpre vm₁ X₁.warmed)
  exact ⟨v, vm₁, B, X₁.warmed, X', hpost, fun target h => hstep₁ _ fun acts => by rw [doInvoke_state]; exact hsteps.trans h⟩
theorem vx_runSW {y : MethodName} {bytes cc : ByteArray} {maxL nL mc ms n index : Nat} {ret : Option FieldType} {hh : List (Nat × Nat × Nat × Nat)} {ws : List Cond} {rm : Room} {Pc : Array Value → State → Prop} {Qc : Array Value → State → Outcome → State → Prop} {free : Addr → Prop} {Ts : List Cond} {own : String} {As rest : List Value} {g : JFrame}
    (S : CallFix p m c cc nL s args Ts own) (hM : Met l y ws rm Pc Qc mc ms free) (cw : vx_CSW R s args own index y bytes maxL ret hh ws rm mc ms n) (hp : PreS s H Pc As)
    (hg : g.method = m) (hn : As.length = n) (hsize : g.locals.size = nL) (hstack : g.stack = As.reverse ++ rest) (hW : 2 * g.monitorRoom + (rest.map fun v => v.category).sum ≤ 8) (hdg : decode cc g.pc = .ok (.invokestatic index, 3)) (hf : cells + mc ≤ R.cells ∧ slots + ms ≤ R.slots) :
    va_Run p l e R s m args below meth c H locs cells slots mc ms g rest (Qc As.toArray) (free) := by
  obtain ⟨⟨hrc, hrs, hfr, hlo, hws, hcw⟩, hcode, hini, hy, hlen, hl, hstt⟩ := cw
  have hK : Back l R p e below s args y 3 8 (PreOf R mc ms Pc) (PostOf Qc mc ms free) := va_backW (hh := hh) (bytes := bytes) (maxL := maxL) (ret := ret) hM hp.1 hrc hrs hfr hlo hws hcw (fun a' U hW => word_at hW (Or.inl (by first | rfl | simp [Cond.onTables, Cond.keeps, Cond.steady])) hini)
  obtain ⟨hx, hb, hml, ho, -⟩ := S
  intro T hT X
  obtain ⟨v, vm₁, ⟨U', l2, c2, s2⟩, hW₁, X', ⟨g', mk, t, L, e1, e2, hq, h1, hL, h2, h3⟩, st⟩ := vx_callSW X hx (hh := hh) (bytes := bytes) (maxL := maxL) (ret := ret) ho hl hstt hini hcode hy hK hg (hsize.trans hml.symm) (argsL := As) (rest := rest) (fun sig h => hn.trans (hlen sig h)) hstack hW (by rw [hb]; exact hdg)
    (fun vm₁ hW₁ => ⟨hf.1, hf.2, hp.2 (T.setVm vm₁) hT hW₁⟩)
  dsimp only [Pt.U, Pt.locs, Pt.cells, Pt.slots] at X' e1 e2 h1 h2 h3 st
  subst h1; subst h2; subst h3
  exact ⟨v, (T.setVm vm₁).calling g' mk As.toArray, t, U', L, hT, X', hL, e1, e2, hq, st⟩
/-- not caught here, past rows that name other classes: it goes on to the caller -/
theorem vx_outP {p : Program} {l : Launch} {e : Env} {R : Room} {s : State} {m : MethodId} {args : Array Value} {below : List Frame} {meth : Method} {c : Code} {H : Heap} {locs : List Loc} {cells slots : Nat} {free : Addr → Prop} {ls : Array Slot} {rest : List Value} {Qc : Array Value → State → Outcome → State → Prop} {XC : String → State → State → Prop}
    {pc : Nat} {own E : String} {ce : Cell} {q : Addr} {mc ms : Nat} (hown : s.vm.findClass own = some m.cls) (hlocks : meth.locks = false)
    (hpass : ∀ z ∈ c.exceptionTable.toList, covers z pc = false ∨ (z.catchType ≠ 0 ∧ ∃ nm : String, (Cond.classLink own z.catchType nm).before args s = true ∧ va_Nc E nm s)) (hcell : H[q]? = some ce) (hv : ce.vm = .none) (hcl : s.vm.findClass E = some ce.cls)
    (hx : ∀ t : State, t.heap = H → s.vm.Alike t.vm → XC E s t) (hf : ∀ z ∈ locs, free z.base) (hc : cells ≤ mc) (hs : slots ≤ ms) :
    vx_W p l e R s m args below meth c H locs cells slots (vx_MQ below Qc XC args s mc ms free) (F0 m pc ls rest) q := by
  intro T hT X
  have hpl : e.platform.magicAccessors = ({} : Platform).magicAccessors := by rw [X.admits.platform]
  obtain ⟨vm', hW', X', st⟩ := X.outThrough hlocks q (g := F0 m pc ls rest) rfl rfl rfl (cell := ce) (by rw [hT]; exact hcell) (by rw [hv]; rfl)
    (by obtain ⟨k9, h9, -⟩ := Vm.findClass_spec hcl; exact ⟨k9, h9⟩) (fun z hz => by
      rcases hpass z hz with h | ⟨hz0, nm, hl1, hn1⟩
      · exact Or.inl h
      · obtain ⟨c6, hc6, hcl6⟩ := Cond.classLink_spec hown hl1 e.platform hpl
        obtain ⟨a8, b8, h1, h2, h3⟩ := hn1
        cases Option.some.inj (h1.symm.trans hcl)
        cases Option.some.inj (h2.symm.trans hc6)
        exact Or.inr ⟨hz0, _, hcl6, h3⟩)
  obtain ⟨g₀, hfr⟩ := X'.frames_eq
  have hcell9 : ((T.setVm vm').setFrames (.throwing q :: below)).heap[q]? = some ce := by
    show T.heap[q]? = some ce
    rw [hT]; exact hcell
  have hend : Ended ((T.setVm vm').setFrames (.throwing q :: below)) below (.threw q) := State.frames_setFrames _ (State.cur_lt_of_frames hfr)
  refine ⟨(T.setVm vm').setFrames (.throwing q :: below), ?_, .threw q, X'.here.running, hend, Or.inr ⟨q, rfl, E, ce, locs, hx _ hT (X'.ends _).1.alike, hcell9, hv, hcl, (X'.ends _).1, (X'.ends _).2.mono hc hs, hf⟩⟩
  rw [X.pushThrowing_eq]
  exact st
/-- a thing of a world lies in the heap -/
theorem vx_lt {D : va_G} {cl : List vw_C} {ws : va_W} {H1 : Heap} (h : va_P D cl ws H1) {k : Nat} {q : Nat × va_E} (hk : ws[k]? = some q) : q.1 < H1.size := (h k q hk).lt
end VXS
/-! ===== END ===== -/
/-! ===== BEGIN methods with a table of their own: called by a name, returning or throwing ===== -/
section VXH
/-! vx_backW, vx_callVX, vx_callSX, vx_callVW, vx_runVW, vx_runVX, vx_runSX, vx_ofWH follow the same proofs as their sisters above (Free/Laws.lean, Shelf42/LK1.lean); vx_outP calls Shelf42/NT130.lean (outThrough). -/
section
variable {l : Launch} {R : Room} {p : Program} {e : Env} {below : List Frame} {s : State} {sargs : Array Value} {y : MethodName} {len W9 : Nat}
theorem vx_backW {ws : List Cond} {rm : Room} {Pc : Array Value → State → Prop} {Qc : Array Value → State → Outcome → State → Prop} {XC : String → State → State → Prop} {mc ms : Nat} {free : Addr → Prop} {bytes : ByteArray} {maxL : Nat} {ret : Option FieldType} {hh : List (Nat × Nat × Nat × Nat)}
    (hM : vx_Met l y ws rm Pc Qc XC mc ms free) (hblind : FrameBlind Pc) (hrc : rm.cells = mc) (hrs : rm.slots = ms)
    (hframes : rm.frames + 1 ≤ R.frames) (hlocals : W9 + (maxL + 11) + rm.locals ≤ R.locals)
    (hws : ∀ w ∈ ws, ∀ a' U, s.WarmedH U.vm → w.before a' U = true) (hcode : Cond.codeWith y bytes maxL ret hh ∈ ws) (hinit : ∀ a' U, s.WarmedH U.vm → (Cond.initialized y.cls).before a' U = true) :
    vx_Back l R p e below s sargs y len W9 (PreOf R mc ms Pc) (PostOf Qc mc ms free) (vx_Post XC mc ms free) := by
  intro m meth c A g ig mk a X hg hsize hdg hW hn hp
  have h1 : (headSpec ws rm).pre.before a A.U = true := atoms_intro fun w hw => hws w hw _ _ X.warmed
  have h2 : (Cond.codeWith y bytes maxL ret hh).before a A.U = true := hws _ hcode _ _ X.warmed
  have h3 : (Cond.initialized y.cls).before a A.U = true := hinit _ _ X.warmed
  have h4 : A.cells + (headSpec ws rm).room.cells ≤ R.cells := by rw [show (headSpec ws rm).room.cells = mc from hrc]; exact hp.1
  have h5 : A.slots + (headSpec ws rm).room.slots ≤ R.slots := by rw [show (headSpec ws rm).room.slots = ms from hrs]; exact hp.2.1
  have hPc : Pc a (A.U.calling g mk a) := hblind _ _ _ _ hp.2.2
  obtain ⟨U, Ls, c0, s0⟩ := A
  dsimp only [Pt.U, Pt.locs, Pt.cells, Pt.slots] at h1 h2 h3 h4 h5 X hn hPc ⊢
  obtain ⟨m9, methY, cY, hn9, hmY, hcY, -, hlY, -⟩ := Cond.codeWith_spec h2
  cases Option.some.inj (hn9.symm.trans hn)
  obtain ⟨kY, hkY, -⟩ := className_of_methodNamed hn
  have hinitY : kY.init = .initialized := Cond.initialized_spec (findClass_of_methodNamed hn) hkY h3
  have h : At U g.method c below := by rw [hg]; exact X.here
  have hlocals9 : W9 + (maxL + 11) + (headSpec ws rm).room.locals ≤ R.locals := hlocals
  have happ : (headSpec ws rm).appliesLoose y e.platform (U.calling g mk a) = true :=
    Spec.appliesLoose_calling (g := g) h hdg hn hkY hinitY
      (X.room_calling (g := g) (R' := (headSpec ws rm).room) hsize hmY hcY hframes (by rw [hlY]; omega) h4 h5) h1
  obtain ⟨mid, hmid⟩ := h.above
  have hfr : (U.setTop g).frames = (.java g :: mid) ++ below := by rw [State.frames_setTop' g h.top, hmid]; rfl
  obtain ⟨o, s₂, hsteps, -, hend, hq⟩ := Steps.callFree hM p X.admits X.cas X.clock (acts := []) hfr happ hPc trivial
  have hq' : vx_Q Qc XC mc ms free a (U.calling g mk a) o s₂ := hq
  rw [State.frames_setTop' g h.top] at hend
  obtain ⟨g₀, hg0⟩ := Option.isSome_iff_exists.mp h.top
  obtain ⟨r, hr⟩ := State.topJava?_eq_some.mp hg0
  have hr' : (({ U with heap := s₂.heap, slotsUsed := s₂.slotsUsed } : State).setVm s₂.vm).frames = .java g₀ :: r := hr
  rcases hq' with ⟨hqc, L, hfe, hL⟩ | ⟨q, rfl, E, ce, L, hx, hce, hcv, hcl, hW₂, hsm, hL⟩
  · obtain ⟨⟨v, rfl⟩, hW₂, e2, q2, q3, q4, q5, q6⟩ := id hfe
    have e3 : s₂ = ({ (U.calling g mk a).setFrames s₂.frames with heap := s₂.heap, slotsUsed := s₂.slotsUsed } : State).setVm s₂.vm := by
      have : s₂ = ({ s₂ with vm := (U.calling g mk a).vm } : State).setVm s₂.vm := rfl
      rw [e2] at this
      exact this
    obtain ⟨c₂, i₂, len₂, hc₂, hd₂, hf₂⟩ := hend
    have hW' : U.WarmedH s₂.vm := hW₂
    have hcc : c₂ = c := by
      have h1 : s₂.code? g.method = U.code? g.method := by
        rw [State.code?_eq, State.code?_eq, hW'.alike.method?]
      exact Option.some.inj (hc₂.symm.trans (h1.trans h.code))
    subst hcc
    have hlen : len₂ = len := by rw [hdg] at hd₂; cases hd₂; rfl
    subst hlen
    have hs₂ : s₂ = (({ U with heap := s₂.heap, slotsUsed := s₂.slotsUsed } : State).setVm s₂.vm).setTop { g with pc := g.pc + len₂, stack := v.toList ++ g.stack } := by
      refine e3.trans ?_
      rw [hf₂, State.calling_eq h.top, State.setFrames_setFrames, State.setTop_of_frames _ hr', hr]
      rfl
    have hsame : U.sameButNew ({ U with heap := s₂.heap, slotsUsed := s₂.slotsUsed } : State) L mc ms := by
      refine ⟨?_, q2, q3, q4, q5, q6⟩
      obtain ⟨t, ht, -⟩ := State.frames_cons hr
      show ({ U with heap := s₂.heap, slotsUsed := s₂.slotsUsed } : State) = { U.setFrames U.frames with heap := s₂.heap, slotsUsed := s₂.slotsUsed }
      rw [State.setFrames_self ht]
    subst hg
    refine Or.inl ⟨v, ⟨(({ U with heap := s₂.heap, slotsUsed := s₂.slotsUsed } : State).setVm s₂.vm), Ls ++ L, c0 + mc, s0 + ms⟩,
      ⟨X.admits, X.cas, X.clock, X.frames, X.room, X.hears, X.method, X.code, (X.here.setHeapUsed s₂.heap s₂.slotsUsed).setVm hW'.alike, X.tail, State.WarmedH.trans X.warmed hW', X.limits, X.bytes, X.same.trans (hsame.setVm s.vm)⟩,
      ⟨g, mk, s₂, L, rfl, rfl, hqc, rfl, hL, rfl, rfl⟩, ?_⟩
    show Steps p.tables e below _ ((({ U with heap := s₂.heap, slotsUsed := s₂.slotsUsed } : State).setVm s₂.vm).setTop { g with pc := g.pc + len₂, stack := v.toList ++ g.stack })
    rw [← hs₂]
    exact hsteps
  · obtain ⟨e2, q2, q3, q4, q5, q6⟩ := id hsm
    have e3 : s₂ = ({ (U.calling g mk a).setFrames s₂.frames with heap := s₂.heap, slotsUsed := s₂.slotsUsed } : State).setVm s₂.vm := by
      have : s₂ = ({ s₂ with vm := (U.calling g mk a).vm } : State).setVm s₂.vm := rfl
      rw [e2] at this
      exact this
    have hf₂ : s₂.frames = .throwing q :: .java g :: U.frames.tail := hend
    have hW' : U.WarmedH s₂.vm := hW₂
    have hs₂ : s₂ = ((({ U with heap := s₂.heap, slotsUsed := s₂.slotsUsed } : State).setVm s₂.vm).setTop g).pushFrame (.throwing q) := by
      refine e3.trans ?_
      rw [hf₂, State.calling_eq h.top, State.setFrames_setFrames, State.pushFrame, State.frames_setTop _ hr', State.setTop_of_frames _ hr', State.setFrames_setFrames, hr]
      rfl
    have hsame : U.sameButNew ({ U with heap := s₂.heap, slotsUsed := s₂.slotsUsed } : State) L mc ms := by
      refine ⟨?_, q2, q3, q4, q5, q6⟩
      obtain ⟨t, ht, -⟩ := State.frames_cons hr
      show ({ U with heap := s₂.heap, slotsUsed := s₂.slotsUsed } : State) = { U.setFrames U.frames with heap := s₂.heap, slotsUsed := s₂.slotsUsed }
      rw [State.setFrames_self ht]
    subst hg
    refine Or.inr ⟨q, ⟨(({ U with heap := s₂.heap, slotsUsed := s₂.slotsUsed } : State).setVm s₂.vm), Ls ++ L, c0 + mc, s0 + ms⟩,
      ⟨X.admits, X.cas, X.clock, X.frames, X.room, X.hears, X.method, X.code, (X.here.setHeapUsed s₂.heap s₂.slotsUsed).setVm hW'.alike, X.tail, State.WarmedH.trans X.warmed hW', X.limits, X.bytes, X.same.trans (hsame.setVm s.vm)⟩,
      ⟨g, mk, s₂, L, E, ce, rfl, rfl, hx, hce, hcv, hcl, rfl, hL, rfl, rfl⟩, ?_⟩
    show Steps p.tables e below _ (((({ U with heap := s₂.heap, slotsUsed := s₂.slotsUsed } : State).setVm s₂.vm).setTop g).pushFrame (.throwing q))
    rw [← hs₂]
    exact hsteps
end
variable {p : Program} {l : Launch} {e : Env} {R : Room} {s : State} {m : MethodId} {args : Array Value} {below : List Frame} {meth : Method} {c : Code} {T : State} {H : Heap} {locs : List Loc} {cells slots : Nat}
theorem vx_callVX (X : Stand p l e R s m args below meth c T locs cells slots) (hexec : p.tables.exec = Jvm.exec) {own C : String} {index : Nat} {y : MethodName} {bytes : ByteArray} {maxL : Nat} {ret : Option FieldType} {hh : List (Nat × Nat × Nat × Nat)}
    (hown : s.vm.findClass own = some m.cls) (hlink : (Cond.methodLink own index y).before args s = true) (hinst : (Cond.instanceMethod y).before args s = true) (hsel : (Cond.selects C y y).before args s = true)
    (hcode : (Cond.codeWith y bytes maxL ret hh).before args s = true) (hy : y.cls ≠ "java/lang/invoke/MethodHandle" ∧ y.cls ≠ "java/lang/invoke/VarHandle")
    {W9 : Nat} {Pre : Pt → Array Value → Prop} {Post : Pt → Array Value → Option Value → Pt → Prop} {PostX : Pt → Array Value → Addr → Pt → Prop} (hK : vx_Back l R p e below s args y 3 W9 Pre Post PostX)
    {b : Addr} {cellB : Cell} (hcell : T.heap[b]? = some cellB) (hobj : cellB.vm.isStatics = false) (hcls : s.vm.findClass C = some cellB.cls)
    {g : JFrame} (hg : g.method = m) (hsize : g.locals.size = c.maxLocals) {argsL rest : List Value} (hlen : ∀ sig, parseMethodDescriptor y.desc = some sig → argsL.length = sig.parameters.length)
    (hstack : g.stack = argsL.reverse ++ .ref b :: rest) (hW : 2 * g.monitorRoom + (rest.map fun v => v.category).sum ≤ W9) (hdg : decode c.code g.pc = .ok (.invokevirtual index, 3))
    (hpre : ∀ vm₁, s.WarmedH vm₁ → Pre ⟨T.setVm vm₁, locs, cells, slots⟩ (Value.ref b :: argsL).toArray) :
    (∃ (v : Option Value) (vm₁ : Vm) (B : Pt), s.WarmedH vm₁ ∧ Stand p l e R s m args below meth c B.U B.locs B.cells B.slots ∧ Post ⟨T.setVm vm₁, locs, cells, slots⟩ (Value.ref b :: argsL).toArray v B ∧
      ∀ target, Steps p.tables e below (B.U.setTop { g with pc := g.pc + 3, stack := v.toList ++ rest }) target → Steps p.tables e below (T.setTop g) target) ∨
    (∃ (q : Addr) (vm₁ : Vm) (B : Pt), s.WarmedH vm₁ ∧ Stand p l e R s m args below meth c B.U B.locs B.cells B.slots ∧ PostX ⟨T.setVm vm₁, locs, cells, slots⟩ (Value.ref b :: argsL).toArray q B ∧
      Steps p.tables e below (T.setTop g) ((B.U.setTop { g with stack := rest }).pushFrame (.throwing q))) := by
  obtain ⟨mk, methM, hnamed, hmethM, hstM, habM⟩ := Cond.instanceMethod_spec hinst
  obtain ⟨m8, methM', cM, hn8, hmethM', -, -, -, -, -, -, hsigM⟩ := Cond.codeWith_spec hcode
  cases Option.some.inj (hn8.symm.trans hnamed)
  cases hmethM.symm.trans hmethM'
  obtain ⟨c2, r2, m2, q1, q2, q3, q4, kP, hkP, hkPi⟩ := Cond.selects_spec hsel
  cases hcls.symm.trans q1
  cases (State.methodFound?_of_named hnamed hy).symm.trans q2
  cases hnamed.symm.trans q3
  have hselP : selectMethod e.platform s.vm cellB.cls mk = .method mk := by rw [Launch.admits_selectMethod X.admits]; exact q4
  obtain ⟨vm₁, X₁, hstep₁⟩ := X.invokevirtual hexec hown hlink hnamed hmethM hstM hkP hkPi hy (a := b) (cell := cellB) hcell
    (fun z h => by rw [h] at hobj; cases hobj) hselP hmethM habM hkP hkPi (g := g) hg (argsL := argsL) (rest := rest) (hlen _ hsigM) hstack hdg
  rcases hK m meth c ⟨T.setVm vm₁, locs, cells, slots⟩ { g with stack := rest } (.invokevirtual index) mk (Value.ref b :: argsL).toArray X₁ hg hsize hdg hW (X₁.named hnamed) (hpre vm₁ X₁.warmed) with ⟨v, B, X', hpost, hsteps⟩ | ⟨q, B, X', hpost, hsteps⟩
  · exact Or.inl ⟨v, vm₁, B, X₁.warmed, X', hpost, fun target h => hstep₁ _ fun acts => by rw [doInvoke_state]; exact hsteps.trans h⟩
  · exact Or.inr ⟨q, vm₁, B, X₁.warmed, X', hpost, hstep₁ _ fun acts => by rw [doInvoke_state]; exact hsteps⟩
theorem vx_callSX (X : Stand p l e R s m args below meth c T locs cells slots) (hexec : p.tables.exec = Jvm.exec) {own : String} {index : Nat} {y : MethodName} {bytes : ByteArray} {maxL : Nat} {ret : Option FieldType} {hh : List (Nat × Nat × Nat × Nat)}
    (hown : s.vm.findClass own = some m.cls) (hlink : (Cond.methodLink own index y).before args s = true) (hstat : (Cond.static y).before args s = true) (hinit : (Cond.initialized y.cls).before args s = true)
    (hcode : (Cond.codeWith y bytes maxL ret hh).before args s = true) (hy : y.cls ≠ "java/lang/invoke/MethodHandle" ∧ y.cls ≠ "java/lang/invoke/VarHandle")
    {W9 : Nat} {Pre : Pt → Array Value → Prop} {Post : Pt → Array Value → Option Value → Pt → Prop} {PostX : Pt → Array Value → Addr → Pt → Prop} (hK : vx_Back l R p e below s args y 3 W9 Pre Post PostX)
    {g : JFrame} (hg : g.method = m) (hsize : g.locals.size = c.maxLocals) {argsL rest : List Value} (hlen : ∀ sig, parseMethodDescriptor y.desc = some sig → argsL.length = sig.parameters.length)
    (hstack : g.stack = argsL.reverse ++ rest) (hW : 2 * g.monitorRoom + (rest.map fun v => v.category).sum ≤ W9) (hdg : decode c.code g.pc = .ok (.invokestatic index, 3))
    (hpre : ∀ vm₁, s.WarmedH vm₁ → Pre ⟨T.setVm vm₁, locs, cells, slots⟩ argsL.toArray) :
    (∃ (v : Option Value) (vm₁ : Vm) (B : Pt), s.WarmedH vm₁ ∧ Stand p l e R s m args below meth c B.U B.locs B.cells B.slots ∧ Post ⟨T.setVm vm₁, locs, cells, slots⟩ argsL.toArray v B ∧
      ∀ target, Steps p.tables e below (B.U.setTop { g with pc := g.pc + 3, stack := v.toList ++ rest }) target → Steps p.tables e below (T.setTop g) target) ∨
    (∃ (q : Addr) (vm₁ : Vm) (B : Pt), s.WarmedH vm₁ ∧ Stand p l e R s m args below meth c B.U B.locs B.cells B.slots ∧ PostX ⟨T.setVm vm₁, locs, cells, slots⟩ argsL.toArray q B ∧
      Steps p.tables e below (T.setTop g) ((B.U.setTop { g with stack := rest }).pushFrame (.throwing q))) := by
  obtain ⟨mk, methM, cM, hnamed, hmethM, -, -, -, -, -, -, hsigM⟩ := Cond.codeWith_spec hcode
  have hstatic : methM.isStatic = true := Cond.static_spec hnamed hmethM hstat
  obtain ⟨kP, hkP, -⟩ := className_of_methodNamed hnamed
  have hinitP : kP.init = .initialized := Cond.initialized_spec (findClass_of_methodNamed hnamed) hkP hinit
  obtain ⟨vm₁, X₁, hstep₁⟩ := X.invokestatic hexec hown hlink hnamed hmethM hstatic hkP hinitP hy (g := g) hg (argsL := argsL) (rest := rest) (hlen _ hsigM) hstack hdg
  rcases hK m meth c ⟨T.setVm vm₁, locs, cells, slots⟩ { g with stack := rest } (.invokestatic index) mk argsL.toArray X₁ hg hsize hdg hW (X₁.named hnamed) (hpre vm₁ X₁.warmed) with ⟨v, B, X', hpost, hsteps⟩ | ⟨q, B, X', hpost, hsteps⟩
  · exact Or.inl ⟨v, vm₁, B, X₁.warmed, X', hpost, fun target h => hstep₁ _ fun acts => by rw [doInvoke_state]; exact hsteps.trans h⟩
  · exact Or.inr ⟨q, vm₁, B, X₁.warmed, X', hpost, hstep₁ _ fun acts => by rw [doInvoke_state]; exact hsteps⟩
theorem vx_callVW (X : Stand p l e R s m args below meth c T locs cells slots) (hexec : p.tables.exec = Jvm.exec) {own C : String} {index : Nat} {y : MethodName} {bytes : ByteArray} {maxL : Nat} {ret : Option FieldType} {hh : List (Nat × Nat × Nat × Nat)}
    (hown : s.vm.findClass own = some m.cls) (hlink : (Cond.methodLink own index y).before args s = true) (hinst : (Cond.instanceMethod y).before args s = true) (hsel : (Cond.selects C y y).before args s = true)
    (hcode : (Cond.codeWith y bytes maxL ret hh).before args s = true) (hy : y.cls ≠ "java/lang/invoke/MethodHandle" ∧ y.cls ≠ "java/lang/invoke/VarHandle")
    {W9 : Nat} {Pre : Pt → Array Value → Prop} {Post : Pt → Array Value → Option Value → Pt → Prop} (hK : Back l R p e below s args y 3 W9 Pre Post)
    {b : Addr} {cellB : Cell} (hcell : T.heap[b]? = some cellB) (hobj : cellB.vm.isStatics = false) (hcls : s.vm.findClass C = some cellB.cls)
    {g : JFrame} (hg : g.method = m) (hsize : g.locals.size = c.maxLocals) {argsL rest : List Value} (hlen : ∀ sig, parseMethodDescriptor y.desc = some sig → argsL.length = sig.parameters.length)
    (hstack : g.stack = argsL.reverse ++ .ref b :: rest) (hW : 2 * g.monitorRoom + (rest.map fun v => v.category).sum ≤ W9) (hdg : decode c.code g.pc = .ok (.invokevirtual index, 3))
    (hpre : ∀ vm₁, s.WarmedH vm₁ → Pre ⟨T.setVm vm₁, locs, cells, slots⟩ (Value.ref b :: argsL).toArray) :
    ∃ (v : Option Value) (vm₁ : Vm) (B : Pt), s.WarmedH vm₁ ∧ Stand p l e R s m args below meth c B.U B.locs B.cells B.slots ∧ Post ⟨T.setVm vm₁, locs, cells, slots⟩ (Value.ref b :: argsL).toArray v B ∧
      ∀ target, Steps p.tables e below (B.U.setTop { g with pc := g.pc + 3, stack := v.toList ++ rest }) target → Steps p.tables e below (T.setTop g) target := by
  obtain ⟨mk, methM, hnamed, hmethM, hstM, habM⟩ := Cond.instanceMethod_spec hinst
  obtain ⟨m8, methM', cM, hn8, hmethM', -, -, -, -, -, -, hsigM⟩ := Cond.codeWith_spec hcode
  cases Option.some.inj (hn8.symm.trans hnamed)
  cases hmethM.symm.trans hmethM'
  obtain ⟨c2, r2, m2, q1, q2, q3, q4, kP, hkP, hkPi⟩ := Cond.selects_spec hsel
  cases hcls.symm.trans q1
  cases (State.methodFound?_of_named hnamed hy).symm.trans q2
  cases hnamed.symm.trans q3
  have hselP : selectMethod e.platform s.vm cellB.cls mk = .method mk := by rw [Launch.admits_selectMethod X.admits]; exact q4
  obtain ⟨vm₁, X₁, hstep₁⟩ := X.invokevirtual hexec hown hlink hnamed hmethM hstM hkP hkPi hy (a := b) (cell := cellB) hcell
    (fun z h => by rw [h] at hobj; cases hobj) hselP hmethM habM hkP hkPi (g := g) hg (argsL := argsL) (rest := rest) (hlen _ hsigM) hstack hdg
  obtain ⟨v, B, X', hpost, hsteps⟩ := hK m meth c ⟨T.setVm vm₁, locs, cells, slots⟩ { g with stack := rest } (.invokevirtual index) mk (Value.ref b :: argsL).toArray X₁ hg hsize hdg hW (X₁.named hnamed) (hpre vm₁ X₁.warmed)
  exact ⟨v, vm₁, B, X₁.warmed, X', hpost, fun target h => hstep₁ _ fun acts => by rw [doInvoke_state]; exact hsteps.trans h⟩
abbrev vx_CVW (R : Room) (s : State) (args : Array Value) (own C : String) (index : Nat) (y : MethodName) (bytes : ByteArray) (maxL : Nat) (ret : Option FieldType) (hh : List (Nat × Nat × Nat × Nat)) (ws : List Cond) (rm : Room) (mc ms n : Nat) : Prop :=
  (rm.cells = mc ∧ rm.slots = ms ∧ rm.frames + 1 ≤ R.frames ∧ 8 + (maxL + 11) + rm.locals ≤ R.locals ∧ (∀ w ∈ ws, ∀ (a' : Array Value) (U : State), s.WarmedH U.vm → w.before a' U = true) ∧ Cond.codeWith y bytes maxL ret hh ∈ ws) ∧
  (Cond.codeWith y bytes maxL ret hh).before args s = true ∧ (Cond.initialized y.cls).before args s = true ∧ (y.cls ≠ "java/lang/invoke/MethodHandle" ∧ y.cls ≠ "java/lang/invoke/VarHandle") ∧
  (∀ sig, parseMethodDescriptor y.desc = some sig → n = sig.parameters.length) ∧ (Cond.methodLink own index y).before args s = true ∧ (Cond.instanceMethod y).before args s = true ∧ (Cond.selects C y y).before args s = true
theorem vx_cwVW {own C : String} {index maxL mc ms : Nat} {y : MethodName} {bytes : ByteArray} {ret : Option FieldType} {hh : List (Nat × Nat × Nat × Nat)} {Ts ws ws' : List Cond} {rm : Room} (n : Nat) (ht : ∀ w ∈ Ts, w.before args s = true) (hT : GoodIn Ts (wsV own index C y ws)) (hw : ws = Cond.codeWith y bytes maxL ret hh :: ws') (hrc : rm.cells = mc) (hrs : rm.slots = ms)
    (hd : y.cls = C ∧ y.cls ≠ "java/lang/invoke/MethodHandle" ∧ y.cls ≠ "java/lang/invoke/VarHandle" ∧ (parseMethodDescriptor y.desc).map (fun d => d.parameters.length) = some n) (hR : rm.frames + 1 ≤ R.frames ∧ 8 + (maxL + 11) + rm.locals ≤ R.locals) :
    vx_CVW R s args own C index y bytes maxL ret hh ws rm mc ms n := by
  obtain ⟨hC, hd⟩ := hd
  subst hC
  have ok : ∀ w ∈ wsV own index y.cls y ws, w.before args s = true := fun w h => ht w (hT w h).1
  have hG : GoodIn Ts ws := fun w h => hT w (by unfold wsV; exact List.mem_append_right _ h)
  have hc : Cond.codeWith y bytes maxL ret hh ∈ ws := by rw [hw]; exact List.mem_cons_self
  refine ⟨⟨hrc, hrs, hR.1, hR.2, pay_in ht hG, hc⟩, ht _ (hG _ hc).1, ok _ (by simp [wsV]), ⟨hd.1, hd.2.1⟩, fun sig h => ?_, ok _ (by simp [wsV]), ok _ (by simp [wsV]), ok _ (by simp [wsV])⟩
  have h2 := hd.2.2
  rw [h] at h2
  exact (Option.some.inj h2).symm
theorem vx_runVW {y : MethodName} {bytes cc : ByteArray} {maxL nL mc ms n index : Nat} {ret : Option FieldType} {hh : List (Nat × Nat × Nat × Nat)} {ws : List Cond} {rm : Room} {Pc : Array Value → State → Prop} {Qc : Array Value → State → Outcome → State → Prop} {free : Addr → Prop} {Ts : List Cond} {own C : String} {b : Addr} {As rest : List Value} {g : JFrame}
    (S : CallFix p m c cc nL s args Ts own) (hM : Met l y ws rm Pc Qc mc ms free) (cw : vx_CVW R s args own C index y bytes maxL ret hh ws rm mc ms n) (hp : PreV s H C b Pc As)
    (hg : g.method = m) (hn : As.length = n) (hsize : g.locals.size = nL) (hstack : g.stack = As.reverse ++ .ref b :: rest) (hW : 2 * g.monitorRoom + (rest.map fun v => v.category).sum ≤ 8) (hdg : decode cc g.pc = .ok (.invokevirtual index, 3)) (hf : cells + mc ≤ R.cells ∧ slots + ms ≤ R.slots) :
    va_Run p l e R s m args below meth c H locs cells slots mc ms g rest (Qc (Value.ref b :: As).toArray) free := by
  obtain ⟨⟨hrc, hrs, hfr, hlo, hws, hcw⟩, hcode, hini, hy, hlen, hl, hin, hse⟩ := cw
  have hK : Back l R p e below s args y 3 8 (PreOf R mc ms Pc) (PostOf Qc mc ms free) := va_backW (hh := hh) (bytes := bytes) (maxL := maxL) (ret := ret) hM hp.1 hrc hrs hfr hlo hws hcw (fun a' U hW => word_at hW (Or.inl (by first | rfl | simp [Cond.onTables, Cond.keeps, Cond.steady])) hini)
  obtain ⟨hx, hb, hml, ho, -⟩ := S
  obtain ⟨-, ⟨cellB, hcB, hoB, hclB⟩, hPc⟩ := hp
  intro T hT X
  obtain ⟨v, vm₁, ⟨U', l2, c2, s2⟩, hW₁, X', ⟨g', mk, t, L, e1, e2, hq, h1, hL, h2, h3⟩, st⟩ := vx_callVW X hx (C := C) (hh := hh) (bytes := bytes) (maxL := maxL) (ret := ret) ho hl hin hse hcode hy hK (by rw [hT]; exact hcB) hoB hclB hg (hsize.trans hml.symm) (argsL := As) (rest := rest) (fun sig h => hn.trans (hlen sig h)) hstack hW (by rw [hb]; exact hdg)
    (fun vm₁ hW₁ => ⟨hf.1, hf.2, hPc (T.setVm vm₁) hT hW₁⟩)
  dsimp only [Pt.U, Pt.locs, Pt.cells, Pt.slots] at X' e1 e2 h1 h2 h3 st
  subst h1; subst h2; subst h3
  exact ⟨v, (T.setVm vm₁).calling g' mk (Value.ref b :: As).toArray, t, U', L, hT, X', hL, e1, e2, hq, st⟩
section
variable {y : MethodName} {bytes cc : ByteArray} {maxL nL mc ms n index : Nat} {ret : Option FieldType} {ws : List Cond} {rm : Room} {Pc : Array Value → State → Prop} {Qc : Array Value → State → Outcome → State → Prop} {XC : String → State → State → Prop} {free : Addr → Prop} {Ts : List Cond} {own C : String} {b : Addr} {As rest : List Value} {g : JFrame}
theorem vx_runVX {hh : List (Nat × Nat × Nat × Nat)} (S : CallFix p m c cc nL s args Ts own) (hM : vx_Met l y ws rm Pc Qc XC mc ms free) (cw : vx_CVW R s args own C index y bytes maxL ret hh ws rm mc ms n) (hp : PreV s H C b Pc As)
    (hg : g.method = m) (hn : As.length = n) (hsize : g.locals.size = nL) (hstack : g.stack = As.reverse ++ .ref b :: rest) (hW : 2 * g.monitorRoom + (rest.map fun v => v.category).sum ≤ 8) (hdg : decode cc g.pc = .ok (.invokevirtual index, 3)) (hf : cells + mc ≤ R.cells ∧ slots + ms ≤ R.slots) :
    vx_Run p l e R s m args below meth c H locs cells slots mc ms g rest (Qc (Value.ref b :: As).toArray) XC free := by
  obtain ⟨⟨hrc, hrs, hfr, hlo, hws, hcw⟩, hcode, hini, hy, hlen, hl, hin, hse⟩ := cw
  have hK : vx_Back l R p e below s args y 3 8 (PreOf R mc ms Pc) (PostOf Qc mc ms free) (vx_Post XC mc ms free) := vx_backW (hh := hh) (bytes := bytes) (maxL := maxL) (ret := ret) hM hp.1 hrc hrs hfr hlo hws hcw (fun a' U hW => word_at hW (Or.inl (by first | rfl | simp [Cond.onTables, Cond.keeps, Cond.steady])) hini)
  obtain ⟨hx, hb, hml, ho, -⟩ := S
  obtain ⟨-, ⟨cellB, hcB, hoB, hclB⟩, hPc⟩ := hp
  intro T hT X
  rcases vx_callVX X hx (C := C) (hh := hh) (bytes := bytes) (maxL := maxL) (ret := ret) ho hl hin hse hcode hy hK (by rw [hT]; exact hcB) hoB hclB hg (hsize.trans hml.symm) (argsL := As) (rest := rest) (fun sig h => hn.trans (hlen sig h)) hstack hW (by rw [hb]; exact hdg)
    (fun vm₁ hW₁ => ⟨hf.1, hf.2, hPc (T.setVm vm₁) hT hW₁⟩) with ⟨v, vm₁, ⟨U', l2, c2, s2⟩, hW₁, X', ⟨g', mk, t, L, e1, e2, hq, h1, hL, h2, h3⟩, st⟩ | ⟨q, vm₁, ⟨U', l2, c2, s2⟩, hW₁, X', ⟨g', mk, t, L, E, ce, e1, e2, hq, hce, hcv, hcl, h1, hL, h2, h3⟩, st⟩
  · dsimp only [Pt.U, Pt.locs, Pt.cells, Pt.slots] at X' e1 e2 h1 h2 h3 st
    subst h1; subst h2; subst h3
    exact Or.inl ⟨v, (T.setVm vm₁).calling g' mk (Value.ref b :: As).toArray, t, U', L, hT, X', hL, e1, e2, hq, st⟩
  · dsimp only [Pt.U, Pt.locs, Pt.cells, Pt.slots] at X' e1 e2 h1 h2 h3 st hcl
    subst h1; subst h2; subst h3
    exact Or.inr ⟨q, (T.setVm vm₁).calling g' mk (Value.ref b :: As).toArray, t, U', L, E, ce, hT, X', hL, e1, e2, hq, hce, hcv, vx_cls hW₁ hcl, st⟩
theorem vx_runSX {hh : List (Nat × Nat × Nat × Nat)} (S : CallFix p m c cc nL s args Ts own) (hM : vx_Met l y ws rm Pc Qc XC mc ms free) (cw : vx_CSW R s args own index y bytes maxL ret hh ws rm mc ms n) (hp : PreS s H Pc As)
    (hg : g.method = m) (hn : As.length = n) (hsize : g.locals.size = nL) (hstack : g.stack = As.reverse ++ rest) (hW : 2 * g.monitorRoom + (rest.map fun v => v.category).sum ≤ 8) (hdg : decode cc g.pc = .ok (.invokestatic index, 3)) (hf : cells + mc ≤ R.cells ∧ slots + ms ≤ R.slots) :
    vx_Run p l e R s m args below meth c H locs cells slots mc ms g rest (Qc As.toArray) XC free := by
  obtain ⟨⟨hrc, hrs, hfr, hlo, hws, hcw⟩, hcode, hini, hy, hlen, hl, hstt⟩ := cw
  have hK : vx_Back l R p e below s args y 3 8 (PreOf R mc ms Pc) (PostOf Qc mc ms free) (vx_Post XC mc ms free) := vx_backW (hh := hh) (bytes := bytes) (maxL := maxL) (ret := ret) hM hp.1 hrc hrs hfr hlo hws hcw (fun a' U hW => word_at hW (Or.inl (by first | rfl | simp [Cond.onTables, Cond.keeps, Cond.steady])) hini)
  obtain ⟨hx, hb, hml, ho, -⟩ := S
  intro T hT X
  rcases vx_callSX X hx (hh := hh) (bytes := bytes) (maxL := maxL) (ret := ret) ho hl hstt hini hcode hy hK hg (hsize.trans hml.symm) (argsL := As) (rest := rest) (fun sig h => hn.trans (hlen sig h)) hstack hW (by rw [hb]; exact hdg)
    (fun vm₁ hW₁ => ⟨hf.1, hf.2, hp.2 (T.setVm vm₁) hT hW₁⟩) with ⟨v, vm₁, ⟨U', l2, c2, s2⟩, hW₁, X', ⟨g', mk, t, L, e1, e2, hq, h1, hL, h2, h3⟩, st⟩ | ⟨q, vm₁, ⟨U', l2, c2, s2⟩, hW₁, X', ⟨g', mk, t, L, E, ce, e1, e2, hq, hce, hcv, hcl, h1, hL, h2, h3⟩, st⟩
  · dsimp only [Pt.U, Pt.locs, Pt.cells, Pt.slots] at X' e1 e2 h1 h2 h3 st
    subst h1; subst h2; subst h3
    exact Or.inl ⟨v, (T.setVm vm₁).calling g' mk As.toArray, t, U', L, hT, X', hL, e1, e2, hq, st⟩
  · dsimp only [Pt.U, Pt.locs, Pt.cells, Pt.slots] at X' e1 e2 h1 h2 h3 st hcl
    subst h1; subst h2; subst h3
    exact Or.inr ⟨q, (T.setVm vm₁).calling g' mk As.toArray, t, U', L, E, ce, hT, X', hL, e1, e2, hq, hce, hcv, vx_cls hW₁ hcl, st⟩
end
end VXH
theorem vx_ofWH {l : Launch} {y : MethodName} {ws ws' : List Cond} {rm : Room} {Pc : Array Value → State → Prop} {Qc : Array Value → State → Outcome → State → Prop} {XC : String → State → State → Prop} {mc ms : Nat} {free : Addr → Prop} {cc : ByteArray} {maxL : Nat} {ret : Option FieldType} {hh : List (Nat × Nat × Nat × Nat)}
    (hy : plainName y.cls = true) (hw : ws = Cond.codeWith y cc maxL ret hh :: ws')
    (body : ∀ p e s m args below meth c s₁, BodyLoose p l y (headSpec ws rm) cc maxL ret e s m args below meth c s₁ → c.maxLocals = maxL → Pc args s →
      W p l e (headSpec ws rm).room s m args below meth c s.heap [] 0 0 (vx_MQ below Qc XC args s mc ms free) (entryFrame m args maxL)) : vx_Met l y ws rm Pc Qc XC mc ms free := by
  refine MetFree.of_bodyS (code := cc) (maxLocals := maxL) (ret := ret) hy ?_ ?_
  · intro args s m h hn
    obtain ⟨m9, meth, c, hn9, h1, h2, h3, h4, -, h5, h6, -⟩ := Cond.codeWith_spec (atoms_spec (ws := ws) h _ (by rw [hw]; exact List.mem_cons_self))
    cases hn.symm.trans hn9
    exact ⟨meth, c, h1, h2, h3, h4, h5, h6⟩
  · intro p e s m args below meth c s₁ B hml hP _
    have hh0 : s₁.heap = s.heap := by rw [B.state]; rfl
    obtain ⟨t, a1, o, b1, b2, b3⟩ := body p e s m args below meth c s₁ B hml hP s₁ hh0 (Stand.of_body B)
    exact ⟨t, o, a1, b1, b2, b3⟩
/-! ===== END ===== -/

def RX0 : String := "PlannedPages$Row"
def TX0 : u_T := fun k => match k with
  | _ => ("PlannedPages$Row", "cells", "[I", true)
def tyX0 : Nat → FieldType := fun k => match k with
  | _ => .array .int
abbrev wsX00 : List Cond := u_ws RX0 TX0 1
theorem nmX0 : ∀ a, a < 1 → ∀ b, b < 1 → a ≠ b → (TX0 a).2.1 ≠ (TX0 b).2.1 := by decide +kernel
theorem tyX0_ok : ∀ k, k < 1 → parseFieldDescriptor (TX0 k).2.2.1 = some (tyX0 k) := by decide +kernel
abbrev cX0_init : ByteArray := prog_2_method_1_code
def yX0_init : MethodName := ⟨RX0, "<init>", "(II)V"⟩
abbrev cX0_get : ByteArray := prog_2_method_2_code
def yX0_get : MethodName := ⟨RX0, "get", "(I)I"⟩
abbrev cX0_set : ByteArray := prog_2_method_3_code
def yX0_set : MethodName := ⟨RX0, "set", "(II)V"⟩
abbrev cX0_swap : ByteArray := prog_2_method_4_code
def yX0_swap : MethodName := ⟨RX0, "swap", "(II)V"⟩
abbrev cX0_open : ByteArray := prog_2_method_5_code
def yX0_open : MethodName := ⟨RX0, "open", "(II)V"⟩
abbrev cX0_close : ByteArray := prog_2_method_6_code
def yX0_close : MethodName := ⟨RX0, "close", "(I)V"⟩
abbrev cX0_firstOf : ByteArray := prog_2_method_7_code
def yX0_firstOf : MethodName := ⟨RX0, "firstOf", "(III)I"⟩
abbrev cX0_countOf : ByteArray := prog_2_method_8_code
def yX0_countOf : MethodName := ⟨RX0, "countOf", "(III)I"⟩
abbrev cX0_sum : ByteArray := prog_2_method_9_code
def yX0_sum : MethodName := ⟨RX0, "sum", "()I"⟩
abbrev cX0_copyFrom : ByteArray := prog_2_method_10_code
def yX0_copyFrom : MethodName := ⟨RX0, "copyFrom", "(LPlannedPages$Row;)V"⟩
def RX1 : String := "PlannedPages$State"
def TX1 : u_T := fun k => match k with
  | 0 => ("PlannedPages$State", "asked", "LPlannedPages$Row;", true)
  | 1 => ("PlannedPages$State", "writes", "LPlannedPages$Row;", true)
  | 2 => ("PlannedPages$State", "brought", "LPlannedPages$Row;", true)
  | 3 => ("PlannedPages$State", "victims", "LPlannedPages$Row;", true)
  | 4 => ("PlannedPages$State", "size", "I", false)
  | 5 => ("PlannedPages$State", "done", "I", false)
  | 6 => ("PlannedPages$State", "frameCount", "I", false)
  | 7 => ("PlannedPages$State", "frameOf", "LPlannedPages$Row;", true)
  | 8 => ("PlannedPages$State", "changed", "LPlannedPages$Row;", true)
  | 9 => ("PlannedPages$State", "pinned", "LPlannedPages$Row;", true)
  | 10 => ("PlannedPages$State", "latestAsk", "LPlannedPages$Row;", true)
  | 11 => ("PlannedPages$State", "latestRead", "LPlannedPages$Row;", true)
  | 12 => ("PlannedPages$State", "reads", "LPlannedPages$Row;", true)
  | _ => ("PlannedPages$State", "writeBacks", "LPlannedPages$Row;", true)
def tyX1 : Nat → FieldType := fun k => match k with
  | 0 => .object "PlannedPages$Row"
  | 1 => .object "PlannedPages$Row"
  | 2 => .object "PlannedPages$Row"
  | 3 => .object "PlannedPages$Row"
  | 4 => .int
  | 5 => .int
  | 6 => .int
  | 7 => .object "PlannedPages$Row"
  | 8 => .object "PlannedPages$Row"
  | 9 => .object "PlannedPages$Row"
  | 10 => .object "PlannedPages$Row"
  | 11 => .object "PlannedPages$Row"
  | 12 => .object "PlannedPages$Row"
  | _ => .object "PlannedPages$Row"
abbrev wsX10 : List Cond := u_ws RX1 TX1 14
theorem nmX1 : ∀ a, a < 14 → ∀ b, b < 14 → a ≠ b → (TX1 a).2.1 ≠ (TX1 b).2.1 := by decide +kernel
theorem tyX1_ok : ∀ k, k < 14 → parseFieldDescriptor (TX1 k).2.2.1 = some (tyX1 k) := by decide +kernel
abbrev cX1_init : ByteArray := prog_3_method_1_code
def yX1_init : MethodName := ⟨RX1, "<init>", "()V"⟩
abbrev cX1_copyFrom : ByteArray := prog_3_method_2_code
def yX1_copyFrom : MethodName := ⟨RX1, "copyFrom", "(LPlannedPages$State;)V"⟩
abbrev cX1_asksToCome : ByteArray := prog_3_method_3_code
def yX1_asksToCome : MethodName := ⟨RX1, "asksToCome", "()I"⟩
abbrev cX1_hits : ByteArray := prog_3_method_4_code
def yX1_hits : MethodName := ⟨RX1, "hits", "()I"⟩
abbrev cX1_pagesInFrames : ByteArray := prog_3_method_5_code
def yX1_pagesInFrames : MethodName := ⟨RX1, "pagesInFrames", "()I"⟩
abbrev cX1_pinnedPages : ByteArray := prog_3_method_6_code
def yX1_pinnedPages : MethodName := ⟨RX1, "pinnedPages", "()I"⟩
abbrev cX1_canPinMore : ByteArray := prog_3_method_7_code
def yX1_canPinMore : MethodName := ⟨RX1, "canPinMore", "()Z"⟩
abbrev cX1_pageIn : ByteArray := prog_3_method_8_code
def yX1_pageIn : MethodName := ⟨RX1, "pageIn", "(I)I"⟩
abbrev cX1_lowestEmptyFrame : ByteArray := prog_3_method_9_code
def yX1_lowestEmptyFrame : MethodName := ⟨RX1, "lowestEmptyFrame", "()I"⟩
abbrev cX1_nextUse : ByteArray := prog_3_method_10_code
def yX1_nextUse : MethodName := ⟨RX1, "nextUse", "(II)I"⟩
abbrev cX1_firstRead : ByteArray := prog_3_method_11_code
def yX1_firstRead : MethodName := ⟨RX1, "firstRead", "(I)I"⟩
abbrev cX1_putAsk : ByteArray := prog_3_method_12_code
def yX1_putAsk : MethodName := ⟨RX1, "putAsk", "(III)V"⟩
abbrev cX1_takeAsk : ByteArray := prog_3_method_13_code
def yX1_takeAsk : MethodName := ⟨RX1, "takeAsk", "(I)V"⟩
abbrev cX1_victimBy : ByteArray := prog_3_method_14_code
def yX1_victimBy : MethodName := ⟨RX1, "victimBy", "(II)I"⟩
abbrev cX1_doNext : ByteArray := prog_3_method_15_code
def yX1_doNext : MethodName := ⟨RX1, "doNext", "(I)V"⟩
abbrev cX1_readInto : ByteArray := prog_3_method_16_code
def yX1_readInto : MethodName := ⟨RX1, "readInto", "(II)V"⟩
abbrev cX1_markDone : ByteArray := prog_3_method_17_code
def yX1_markDone : MethodName := ⟨RX1, "markDone", "(III)V"⟩
abbrev cX1_takeOut : ByteArray := prog_3_method_18_code
def yX1_takeOut : MethodName := ⟨RX1, "takeOut", "(I)V"⟩
abbrev cX1_writeBack : ByteArray := prog_3_method_19_code
def yX1_writeBack : MethodName := ⟨RX1, "writeBack", "(I)V"⟩
abbrev cX1_moveDown : ByteArray := prog_3_method_20_code
def yX1_moveDown : MethodName := ⟨RX1, "moveDown", "()V"⟩
def RX2 : String := "PlannedPages$Text"
def TX2 : u_T := fun k => match k with
  | 0 => ("PlannedPages$Text", "codes", "LPlannedPages$Row;", true)
  | _ => ("PlannedPages$Text", "length", "I", false)
def tyX2 : Nat → FieldType := fun k => match k with
  | 0 => .object "PlannedPages$Row"
  | _ => .int
abbrev wsX20 : List Cond := u_ws RX2 TX2 2
theorem nmX2 : ∀ a, a < 2 → ∀ b, b < 2 → a ≠ b → (TX2 a).2.1 ≠ (TX2 b).2.1 := by decide +kernel
theorem tyX2_ok : ∀ k, k < 2 → parseFieldDescriptor (TX2 k).2.2.1 = some (tyX2 k) := by decide +kernel
abbrev cX2_init : ByteArray := prog_4_method_1_code
def yX2_init : MethodName := ⟨RX2, "<init>", "()V"⟩
abbrev cX2_codeAt : ByteArray := prog_4_method_2_code
def yX2_codeAt : MethodName := ⟨RX2, "codeAt", "(I)I"⟩
abbrev cX2_pageAt : ByteArray := prog_4_method_3_code
def yX2_pageAt : MethodName := ⟨RX2, "pageAt", "(I)I"⟩
abbrev cX2_writesAt : ByteArray := prog_4_method_4_code
def yX2_writesAt : MethodName := ⟨RX2, "writesAt", "(I)I"⟩
abbrev cX2_isDigit : ByteArray := prog_4_method_5_code
def yX2_isDigit : MethodName := ⟨RX2, "isDigit", "(I)Z"⟩
abbrev cX2_timesAt : ByteArray := prog_4_method_6_code
def yX2_timesAt : MethodName := ⟨RX2, "timesAt", "(I)I"⟩
abbrev cX2_asksTold : ByteArray := prog_4_method_7_code
def yX2_asksTold : MethodName := ⟨RX2, "asksTold", "()I"⟩
abbrev cX2_tellsAsks : ByteArray := prog_4_method_8_code
def yX2_tellsAsks : MethodName := ⟨RX2, "tellsAsks", "()Z"⟩
abbrev cX2_firstWrong : ByteArray := prog_4_method_9_code
def yX2_firstWrong : MethodName := ⟨RX2, "firstWrong", "()I"⟩
def RX3 : String := "PlannedPages"
def TX3 : u_T := fun k => match k with
  | 0 => ("PlannedPages", "now", "LPlannedPages$State;", true)
  | 1 => ("PlannedPages", "trial", "LPlannedPages$State;", true)
  | 2 => ("PlannedPages", "saved", "[LPlannedPages$State;", true)
  | 3 => ("PlannedPages", "savedCount", "I", false)
  | _ => ("PlannedPages", "buffer", "LPlannedPages$Text;", true)
def tyX3 : Nat → FieldType := fun k => match k with
  | 0 => .object "PlannedPages$State"
  | 1 => .object "PlannedPages$State"
  | 2 => .array (.object "PlannedPages$State")
  | 3 => .int
  | _ => .object "PlannedPages$Text"
abbrev wsX30 : List Cond := u_ws RX3 TX3 5
theorem nmX3 : ∀ a, a < 5 → ∀ b, b < 5 → a ≠ b → (TX3 a).2.1 ≠ (TX3 b).2.1 := by decide +kernel
theorem tyX3_ok : ∀ k, k < 5 → parseFieldDescriptor (TX3 k).2.2.1 = some (tyX3 k) := by decide +kernel
abbrev cX3_init : ByteArray := prog_1_method_1_code
def yX3_init : MethodName := ⟨RX3, "<init>", "()V"⟩
abbrev cX3_extend : ByteArray := prog_1_method_2_code
def yX3_extend : MethodName := ⟨RX3, "extend", "()I"⟩
abbrev cX3_insert : ByteArray := prog_1_method_3_code
def yX3_insert : MethodName := ⟨RX3, "insert", "(IIZ)I"⟩
abbrev cX3_drop : ByteArray := prog_1_method_4_code
def yX3_drop : MethodName := ⟨RX3, "drop", "(I)I"⟩
abbrev cX3_exchange : ByteArray := prog_1_method_5_code
def yX3_exchange : MethodName := ⟨RX3, "exchange", "(II)I"⟩
abbrev cX3_go : ByteArray := prog_1_method_6_code
def yX3_go : MethodName := ⟨RX3, "go", "(I)I"⟩
abbrev cX3_pin : ByteArray := prog_1_method_7_code
def yX3_pin : MethodName := ⟨RX3, "pin", "(I)I"⟩
abbrev cX3_frames : ByteArray := prog_1_method_8_code
def yX3_frames : MethodName := ⟨RX3, "frames", "(I)I"⟩
abbrev cX3_flush : ByteArray := prog_1_method_9_code
def yX3_flush : MethodName := ⟨RX3, "flush", "()I"⟩
abbrev cX3_append : ByteArray := prog_1_method_10_code
def yX3_append : MethodName := ⟨RX3, "append", "(I)I"⟩
abbrev cX3_clearBuffer : ByteArray := prog_1_method_11_code
def yX3_clearBuffer : MethodName := ⟨RX3, "clearBuffer", "()I"⟩
abbrev cX3_ask : ByteArray := prog_1_method_14_code
def yX3_ask : MethodName := ⟨RX3, "ask", "(II)I"⟩
abbrev cX3_page : ByteArray := prog_1_method_15_code
def yX3_page : MethodName := ⟨RX3, "page", "(II)I"⟩
abbrev cX3_frame : ByteArray := prog_1_method_16_code
def yX3_frame : MethodName := ⟨RX3, "frame", "(I)I"⟩
abbrev cX3_count : ByteArray := prog_1_method_17_code
def yX3_count : MethodName := ⟨RX3, "count", "(I)I"⟩
abbrev cX3_victim : ByteArray := prog_1_method_18_code
def yX3_victim : MethodName := ⟨RX3, "victim", "()I"⟩
abbrev cX3_byRule : ByteArray := prog_1_method_19_code
def yX3_byRule : MethodName := ⟨RX3, "byRule", "(II)I"⟩
abbrev cX3_fewestReads : ByteArray := prog_1_method_20_code
def yX3_fewestReads : MethodName := ⟨RX3, "fewestReads", "()I"⟩
abbrev cX3_hitShare : ByteArray := prog_1_method_24_code
def yX3_hitShare : MethodName := ⟨RX3, "hitShare", "()D"⟩
abbrev cX3_checkPage : ByteArray := prog_1_method_26_code
def yX3_checkPage : MethodName := ⟨RX3, "checkPage", "(I)V"⟩
abbrev cX3_checkToCome : ByteArray := prog_1_method_27_code
def yX3_checkToCome : MethodName := ⟨RX3, "checkToCome", "(I)V"⟩
abbrev cX3_save : ByteArray := prog_1_method_28_code
def yX3_save : MethodName := ⟨RX3, "save", "()V"⟩
abbrev cX3_dropOldestSaved : ByteArray := prog_1_method_29_code
def yX3_dropOldestSaved : MethodName := ⟨RX3, "dropOldestSaved", "()V"⟩
abbrev cX3_finishTrial : ByteArray := prog_1_method_31_code
def yX3_finishTrial : MethodName := ⟨RX3, "finishTrial", "(I)I"⟩
def RX4 : String := "PlannedPagesModel"
def TX4 : u_T := fun k => match k with
  | _ => ("", "", "", false)
def tyX4 : Nat → FieldType := fun k => match k with
  | _ => .int
abbrev wsX40 : List Cond := u_ws RX4 TX4 0
theorem nmX4 : ∀ a, a < 0 → ∀ b, b < 0 → a ≠ b → (TX4 a).2.1 ≠ (TX4 b).2.1 := by decide +kernel
theorem tyX4_ok : ∀ k, k < 0 → parseFieldDescriptor (TX4 k).2.2.1 = some (tyX4 k) := by decide +kernel
def RL : String := "PlannedPagesLaw"
abbrev cL_cell : ByteArray := method_2_code
def yL_cell : MethodName := ⟨RL, "cell", "([II)I"⟩
abbrev cL_low : ByteArray := method_3_code
def yL_low : MethodName := ⟨RL, "low", "(II)I"⟩
abbrev cL_type : ByteArray := method_4_code
def yL_type : MethodName := ⟨RL, "type", "(LPlannedPages;III)I"⟩
abbrev cL_frame : ByteArray := method_5_code
def yL_frame : MethodName := ⟨RL, "frame", "([I[II)I"⟩
abbrev cL_use : ByteArray := method_6_code
def yL_use : MethodName := ⟨RL, "use", "(LPlannedPages;II)I"⟩
abbrev cL_victim : ByteArray := method_7_code
def yL_victim : MethodName := ⟨RL, "victim", "(LPlannedPages;[I[I[III)I"⟩
abbrev cL_done : ByteArray := method_8_code
def yL_done : MethodName := ⟨RL, "done", "(LPlannedPages;[I[I[II)I"⟩
abbrev cL_tells : ByteArray := method_9_code
def yL_tells : MethodName := ⟨RL, "tells", "(LPlannedPages;[I[I[I)Z"⟩
abbrev cL_rule : ByteArray := method_10_code
def yL_rule : MethodName := ⟨RL, "rule", "(LPlannedPages;[I[I[II)Z"⟩
abbrev cL_frames : ByteArray := method_11_code
def yL_frames : MethodName := ⟨RL, "frames", "(LPlannedPages;[I[I[II)I"⟩
abbrev cL_law : ByteArray := code
def yL_law : MethodName := ⟨RL, "law", "([I)Z"⟩
abbrev vwCl : List vw_C := [(RX0, TX0, 1), (RX1, TX1, 14), (RX2, TX2, 2), (RX3, TX3, 5), (RX3, TX3, 5)]
end
section
def lw_gd : List Cond := lw_tbl.filter goodWord
def inG (p : Nat) (w : Cond) : Bool := decide (lw_tbl[p]? = some w) && goodWord w
theorem inG_mem {p : Nat} {w : Cond} (h : inG p w = true) : w ∈ lw_gd := by
  simp only [inG, Bool.and_eq_true, decide_eq_true_eq] at h
  exact List.mem_filter.mpr ⟨List.mem_of_getElem? h.1, h.2⟩
def lk {β : Type} : List (Nat × (Nat × β)) → Nat → Nat → Option β
  | [], _, _ => none
  | q :: r, a, b => if (Nat.beq q.1 a && Nat.beq q.2.1 b) = true then some q.2.2 else lk r a b
theorem lk_mem {β : Type} {a b : Nat} {c : β} : ∀ {l : List (Nat × (Nat × β))}, lk l a b = some c → (a, (b, c)) ∈ l
  | [], h => by cases h
  | q :: r, h => by
    unfold lk at h
    split at h
    · rename_i hq
      simp only [Bool.and_eq_true] at hq
      have h1 := Nat.eq_of_beq_eq_true hq.1
      have h2 := Nat.eq_of_beq_eq_true hq.2
      cases h
      obtain ⟨q1, q2, q3⟩ := q
      simp only at h1 h2
      subst h1; subst h2
      exact List.mem_cons_self
    · exact List.mem_cons_of_mem _ (lk_mem h)
-- methods: name, bytes, locals, return type, handlers, class, place of the code word
abbrev MT : Type := MethodName × (ByteArray × (Nat × (Option FieldType × (List (Nat × Nat × Nat × Nat) × (Nat × (Nat × Nat))))))
def mTab : List MT := [
  (yL_law, (cL_law, (15, ((some .boolean : Option FieldType), (([] : List (Nat × Nat × Nat × Nat)), (5, (0, 1))))))),
  (yX0_init, (cX0_init, (4, ((none : Option FieldType), (([] : List (Nat × Nat × Nat × Nat)), (0, (38, 2))))))),
  (yX0_copyFrom, (cX0_copyFrom, (2, ((none : Option FieldType), (([] : List (Nat × Nat × Nat × Nat)), (0, (270, 1))))))),
  (yX0_sum, (cX0_sum, (3, ((some .int : Option FieldType), (([] : List (Nat × Nat × Nat × Nat)), (0, (359, 0))))))),
  (yX0_get, (cX0_get, (2, ((some .int : Option FieldType), (([] : List (Nat × Nat × Nat × Nat)), (0, (158, 1))))))),
  (yX0_set, (cX0_set, (3, ((none : Option FieldType), (([] : List (Nat × Nat × Nat × Nat)), (0, (294, 2))))))),
  (yX0_firstOf, (cX0_firstOf, (5, ((some .int : Option FieldType), (([] : List (Nat × Nat × Nat × Nat)), (0, (376, 3))))))),
  (yX0_countOf, (cX0_countOf, (6, ((some .int : Option FieldType), (([] : List (Nat × Nat × Nat × Nat)), (0, (431, 3))))))),
  (yX0_close, (cX0_close, (3, ((none : Option FieldType), (([] : List (Nat × Nat × Nat × Nat)), (0, (341, 1))))))),
  (yX0_open, (cX0_open, (4, ((none : Option FieldType), (([] : List (Nat × Nat × Nat × Nat)), (0, (290, 2))))))),
  (yX0_swap, (cX0_swap, (4, ((none : Option FieldType), (([] : List (Nat × Nat × Nat × Nat)), (0, (349, 2))))))),
  (yX1_init, (cX1_init, (1, ((none : Option FieldType), (([] : List (Nat × Nat × Nat × Nat)), (1, (32, 0))))))),
  (yX1_copyFrom, (cX1_copyFrom, (2, ((none : Option FieldType), (([] : List (Nat × Nat × Nat × Nat)), (1, (266, 1))))))),
  (yX1_writeBack, (cX1_writeBack, (2, ((none : Option FieldType), (([] : List (Nat × Nat × Nat × Nat)), (1, (392, 1))))))),
  (yX1_asksToCome, (cX1_asksToCome, (1, ((some .int : Option FieldType), (([] : List (Nat × Nat × Nat × Nat)), (1, (323, 0))))))),
  (yX1_lowestEmptyFrame, (cX1_lowestEmptyFrame, (2, ((some .int : Option FieldType), (([] : List (Nat × Nat × Nat × Nat)), (1, (368, 0))))))),
  (yX1_pageIn, (cX1_pageIn, (2, ((some .int : Option FieldType), (([] : List (Nat × Nat × Nat × Nat)), (1, (372, 1))))))),
  (yX1_victimBy, (cX1_victimBy, (7, ((some .int : Option FieldType), (([] : List (Nat × Nat × Nat × Nat)), (1, (380, 2))))))),
  (yX1_nextUse, (cX1_nextUse, (4, ((some .int : Option FieldType), (([] : List (Nat × Nat × Nat × Nat)), (1, (384, 2))))))),
  (yX1_doNext, (cX1_doNext, (6, ((none : Option FieldType), (([] : List (Nat × Nat × Nat × Nat)), (1, (363, 1))))))),
  (yX1_takeOut, (cX1_takeOut, (2, ((none : Option FieldType), (([] : List (Nat × Nat × Nat × Nat)), (1, (388, 1))))))),
  (yX1_readInto, (cX1_readInto, (3, ((none : Option FieldType), (([] : List (Nat × Nat × Nat × Nat)), (1, (397, 2))))))),
  (yX1_markDone, (cX1_markDone, (4, ((none : Option FieldType), (([] : List (Nat × Nat × Nat × Nat)), (1, (401, 3))))))),
  (yX1_canPinMore, (cX1_canPinMore, (1, ((some .boolean : Option FieldType), (([] : List (Nat × Nat × Nat × Nat)), (1, (409, 0))))))),
  (yX1_pinnedPages, (cX1_pinnedPages, (1, ((some .int : Option FieldType), (([] : List (Nat × Nat × Nat × Nat)), (1, (413, 0))))))),
  (yX1_hits, (cX1_hits, (1, ((some .int : Option FieldType), (([] : List (Nat × Nat × Nat × Nat)), (1, (456, 0))))))),
  (yX1_pagesInFrames, (cX1_pagesInFrames, (1, ((some .int : Option FieldType), (([] : List (Nat × Nat × Nat × Nat)), (1, (427, 0))))))),
  (yX1_firstRead, (cX1_firstRead, (3, ((some .int : Option FieldType), (([] : List (Nat × Nat × Nat × Nat)), (1, (533, 1))))))),
  (yX1_takeAsk, (cX1_takeAsk, (2, ((none : Option FieldType), (([] : List (Nat × Nat × Nat × Nat)), (1, (337, 1))))))),
  (yX1_putAsk, (cX1_putAsk, (4, ((none : Option FieldType), (([] : List (Nat × Nat × Nat × Nat)), (1, (286, 3))))))),
  (yX1_moveDown, (cX1_moveDown, (4, ((none : Option FieldType), (([] : List (Nat × Nat × Nat × Nat)), (1, (437, 0))))))),
  (yX2_init, (cX2_init, (1, ((none : Option FieldType), (([] : List (Nat × Nat × Nat × Nat)), (2, (106, 0))))))),
  (yX2_firstWrong, (cX2_firstWrong, (4, ((some .int : Option FieldType), (([] : List (Nat × Nat × Nat × Nat)), (2, (146, 0))))))),
  (yX2_pageAt, (cX2_pageAt, (3, ((some .int : Option FieldType), (([] : List (Nat × Nat × Nat × Nat)), (2, (150, 1))))))),
  (yX2_codeAt, (cX2_codeAt, (2, ((some .int : Option FieldType), (([] : List (Nat × Nat × Nat × Nat)), (2, (154, 1))))))),
  (yX2_isDigit, (cX2_isDigit, (3, ((some .boolean : Option FieldType), (([] : List (Nat × Nat × Nat × Nat)), (2, (162, 1))))))),
  (yX2_tellsAsks, (cX2_tellsAsks, (1, ((some .boolean : Option FieldType), (([] : List (Nat × Nat × Nat × Nat)), (2, (142, 0))))))),
  (yX2_asksTold, (cX2_asksTold, (3, ((some .int : Option FieldType), (([] : List (Nat × Nat × Nat × Nat)), (2, (234, 0))))))),
  (yX2_timesAt, (cX2_timesAt, (2, ((some .int : Option FieldType), (([] : List (Nat × Nat × Nat × Nat)), (2, (238, 1))))))),
  (yX2_writesAt, (cX2_writesAt, (3, ((some .int : Option FieldType), (([] : List (Nat × Nat × Nat × Nat)), (2, (282, 1))))))),
  (yX3_init, (cX3_init, (2, ((none : Option FieldType), (([] : List (Nat × Nat × Nat × Nat)), (3, (24, 0))))))),
  (yX3_flush, (cX3_flush, (3, ((some .int : Option FieldType), (([] : List (Nat × Nat × Nat × Nat)), (3, (441, 0))))))),
  (yX3_save, (cX3_save, (2, ((none : Option FieldType), (([] : List (Nat × Nat × Nat × Nat)), (3, (258, 0))))))),
  (yX3_dropOldestSaved, (cX3_dropOldestSaved, (3, ((none : Option FieldType), (([] : List (Nat × Nat × Nat × Nat)), (3, (262, 0))))))),
  (yX3_clearBuffer, (cX3_clearBuffer, (2, ((some .int : Option FieldType), (([] : List (Nat × Nat × Nat × Nat)), (3, (473, 0))))))),
  (yX0_get, (cX0_get, (2, ((some .int : Option FieldType), (([] : List (Nat × Nat × Nat × Nat)), (0, (158, 1))))))),
  (yX3_victim, (cX3_victim, (1, ((some .int : Option FieldType), (([] : List (Nat × Nat × Nat × Nat)), (3, (515, 0))))))),
  (yX3_fewestReads, (cX3_fewestReads, (1, ((some .int : Option FieldType), (([] : List (Nat × Nat × Nat × Nat)), (3, (537, 0))))))),
  (yX3_finishTrial, (cX3_finishTrial, (3, ((some .int : Option FieldType), (([] : List (Nat × Nat × Nat × Nat)), (3, (529, 1))))))),
  (yX0_get, (cX0_get, (2, ((some .int : Option FieldType), (([] : List (Nat × Nat × Nat × Nat)), (0, (158, 1))))))),
  (yX3_hitShare, (cX3_hitShare, (1, ((some .double : Option FieldType), (([] : List (Nat × Nat × Nat × Nat)), (3, (511, 0))))))),
  (yX0_get, (cX0_get, (2, ((some .int : Option FieldType), (([] : List (Nat × Nat × Nat × Nat)), (0, (158, 1))))))),
  (yX3_count, (cX3_count, (2, ((some .int : Option FieldType), (([] : List (Nat × Nat × Nat × Nat)), (3, (452, 1))))))),
  (yX0_get, (cX0_get, (2, ((some .int : Option FieldType), (([] : List (Nat × Nat × Nat × Nat)), (0, (158, 1))))))),
  (yX3_ask, (cX3_ask, (3, ((some .int : Option FieldType), (([] : List (Nat × Nat × Nat × Nat)), (3, (446, 2))))))),
  (yX3_page, (cX3_page, (3, ((some .int : Option FieldType), (([] : List (Nat × Nat × Nat × Nat)), (3, (504, 2))))))),
  (yX3_checkPage, (cX3_checkPage, (1, ((none : Option FieldType), (([] : List (Nat × Nat × Nat × Nat)), (3, (317, 1))))))),
  (yX3_byRule, (cX3_byRule, (4, ((some .int : Option FieldType), (([] : List (Nat × Nat × Nat × Nat)), (3, (523, 2))))))),
  (yX0_get, (cX0_get, (2, ((some .int : Option FieldType), (([] : List (Nat × Nat × Nat × Nat)), (0, (158, 1))))))),
  (yX0_get, (cX0_get, (2, ((some .int : Option FieldType), (([] : List (Nat × Nat × Nat × Nat)), (0, (158, 1))))))),
  (yX3_checkToCome, (cX3_checkToCome, (2, ((none : Option FieldType), (([] : List (Nat × Nat × Nat × Nat)), (3, (331, 1))))))),
  (yX0_get, (cX0_get, (2, ((some .int : Option FieldType), (([] : List (Nat × Nat × Nat × Nat)), (0, (158, 1))))))),
  (yX3_extend, (cX3_extend, (3, ((some .int : Option FieldType), (([] : List (Nat × Nat × Nat × Nat)), (3, (138, 0))))))),
  (yX3_insert, (cX3_insert, (4, ((some .int : Option FieldType), (([] : List (Nat × Nat × Nat × Nat)), (3, (298, 3))))))),
  (yX3_drop, (cX3_drop, (3, ((some .int : Option FieldType), (([] : List (Nat × Nat × Nat × Nat)), (3, (327, 1))))))),
  (yX3_exchange, (cX3_exchange, (3, ((some .int : Option FieldType), (([] : List (Nat × Nat × Nat × Nat)), (3, (345, 2))))))),
  (yX3_go, (cX3_go, (4, ((some .int : Option FieldType), (([] : List (Nat × Nat × Nat × Nat)), (3, (354, 1))))))),
  (yX3_pin, (cX3_pin, (3, ((some .int : Option FieldType), (([] : List (Nat × Nat × Nat × Nat)), (3, (405, 1))))))),
  (yX3_frames, (cX3_frames, (3, ((some .int : Option FieldType), (([] : List (Nat × Nat × Nat × Nat)), (3, (421, 1))))))),
  (yX3_append, (cX3_append, (2, ((some .int : Option FieldType), (([] : List (Nat × Nat × Nat × Nat)), (3, (477, 1))))))),
  (yX0_get, (cX0_get, (2, ((some .int : Option FieldType), (([] : List (Nat × Nat × Nat × Nat)), (0, (158, 1))))))),
  (yX0_get, (cX0_get, (2, ((some .int : Option FieldType), (([] : List (Nat × Nat × Nat × Nat)), (0, (158, 1))))))),
  (yX3_frame, (cX3_frame, (2, ((some .int : Option FieldType), (([] : List (Nat × Nat × Nat × Nat)), (3, (498, 1))))))),
  (yL_cell, (cL_cell, (2, ((some .int : Option FieldType), (([] : List (Nat × Nat × Nat × Nat)), (5, (460, 2))))))),
  (yL_low, (cL_low, (2, ((some .int : Option FieldType), (([] : List (Nat × Nat × Nat × Nat)), (5, (465, 2))))))),
  (yL_type, (cL_type, (9, ((some .int : Option FieldType), (([] : List (Nat × Nat × Nat × Nat)), (5, (469, 4))))))),
  (yL_frame, (cL_frame, (5, ((some .int : Option FieldType), (([] : List (Nat × Nat × Nat × Nat)), (5, (485, 3))))))),
  (yL_use, (cL_use, (4, ((some .int : Option FieldType), (([] : List (Nat × Nat × Nat × Nat)), (5, (491, 3))))))),
  (yL_victim, (cL_victim, (11, ((some .int : Option FieldType), (([] : List (Nat × Nat × Nat × Nat)), (5, (488, 6))))))),
  (yL_done, (cL_done, (10, ((some .int : Option FieldType), (([] : List (Nat × Nat × Nat × Nat)), (5, (482, 5))))))),
  (yL_tells, (cL_tells, (15, ((some .boolean : Option FieldType), (([] : List (Nat × Nat × Nat × Nat)), (5, (494, 4))))))),
  (yL_rule, (cL_rule, (13, ((some .boolean : Option FieldType), (([] : List (Nat × Nat × Nat × Nat)), (5, (519, 5))))))),
  (yL_frames, (cL_frames, (10, ((some .int : Option FieldType), (([] : List (Nat × Nat × Nat × Nat)), (5, (540, 5)))))))]
def mAt (y : Nat) : MT := mTab.getD y (yL_law, (code, (15, (some .boolean, ([], (5, (0, 1)))))))
def mN (y : Nat) : MethodName := (mAt y).1
def mB (y : Nat) : ByteArray := (mAt y).2.1
def mL (y : Nat) : Nat := (mAt y).2.2.1
def mR (y : Nat) : Option FieldType := (mAt y).2.2.2.1
def mH (y : Nat) : List (Nat × Nat × Nat × Nat) := (mAt y).2.2.2.2.1
def mO (y : Nat) : Nat := (mAt y).2.2.2.2.2.1
def mA (y : Nat) : Nat := (mAt y).2.2.2.2.2.2.2
def mCode (y : Nat) : Cond := if (mH y).isEmpty then .code (mN y) (mB y) (mL y) (mR y) else .codeWith (mN y) (mB y) (mL y) (mR y) (mH y)
def cN (o : Nat) : String := match o with
  | 0 => RX0
  | 1 => RX1
  | 2 => RX2
  | 3 => RX3
  | 4 => RX3
  | _ => RL
def cT (o : Nat) : u_T := match o with
  | 0 => TX0
  | 1 => TX1
  | 2 => TX2
  | _ => TX3
def cY (o : Nat) : Nat → FieldType := match o with
  | 0 => tyX0
  | 1 => tyX1
  | 2 => tyX2
  | _ => tyX3
def cF (o : Nat) : Nat := match o with
  | 0 => 1
  | 1 => 14
  | 2 => 2
  | 3 => 5
  | _ => 5
def mW (y : Nat) : List Cond := mCode y :: lw_gd
def mChk (y : Nat) : Bool := (plainName (mN y).cls && ((mN y).cls == cN (mO y) && (decide ((mN y).cls ≠ "java/lang/invoke/MethodHandle" ∧ (mN y).cls ≠ "java/lang/invoke/VarHandle") && decide ((parseMethodDescriptor (mN y).desc).map (fun d => d.parameters.length) = some (mA y)))))
set_option maxRecDepth 100000 in
theorem mChk_all : (List.range 82).all (fun y => mChk (y + 1)) = true := by decide +kernel
set_option maxRecDepth 100000 in
theorem mC_1 : lw_tbl[38]? = some (.code yX0_init cX0_init 4 (none)) := rfl
set_option maxRecDepth 100000 in
theorem mC_2 : lw_tbl[270]? = some (.code yX0_copyFrom cX0_copyFrom 2 (none)) := rfl
set_option maxRecDepth 100000 in
theorem mC_3 : lw_tbl[359]? = some (.code yX0_sum cX0_sum 3 (some .int)) := rfl
set_option maxRecDepth 100000 in
theorem mC_4 : lw_tbl[158]? = some (.code yX0_get cX0_get 2 (some .int)) := rfl
set_option maxRecDepth 100000 in
theorem mC_5 : lw_tbl[294]? = some (.code yX0_set cX0_set 3 (none)) := rfl
set_option maxRecDepth 100000 in
theorem mC_6 : lw_tbl[376]? = some (.code yX0_firstOf cX0_firstOf 5 (some .int)) := rfl
set_option maxRecDepth 100000 in
theorem mC_7 : lw_tbl[431]? = some (.code yX0_countOf cX0_countOf 6 (some .int)) := rfl
set_option maxRecDepth 100000 in
theorem mC_8 : lw_tbl[341]? = some (.code yX0_close cX0_close 3 (none)) := rfl
set_option maxRecDepth 100000 in
theorem mC_9 : lw_tbl[290]? = some (.code yX0_open cX0_open 4 (none)) := rfl
set_option maxRecDepth 100000 in
theorem mC_10 : lw_tbl[349]? = some (.code yX0_swap cX0_swap 4 (none)) := rfl
set_option maxRecDepth 100000 in
theorem mC_11 : lw_tbl[32]? = some (.code yX1_init cX1_init 1 (none)) := rfl
set_option maxRecDepth 100000 in
theorem mC_12 : lw_tbl[266]? = some (.code yX1_copyFrom cX1_copyFrom 2 (none)) := rfl
set_option maxRecDepth 100000 in
theorem mC_13 : lw_tbl[392]? = some (.code yX1_writeBack cX1_writeBack 2 (none)) := rfl
set_option maxRecDepth 100000 in
theorem mC_14 : lw_tbl[323]? = some (.code yX1_asksToCome cX1_asksToCome 1 (some .int)) := rfl
set_option maxRecDepth 100000 in
theorem mC_15 : lw_tbl[368]? = some (.code yX1_lowestEmptyFrame cX1_lowestEmptyFrame 2 (some .int)) := rfl
set_option maxRecDepth 100000 in
theorem mC_16 : lw_tbl[372]? = some (.code yX1_pageIn cX1_pageIn 2 (some .int)) := rfl
set_option maxRecDepth 100000 in
theorem mC_17 : lw_tbl[380]? = some (.code yX1_victimBy cX1_victimBy 7 (some .int)) := rfl
set_option maxRecDepth 100000 in
theorem mC_18 : lw_tbl[384]? = some (.code yX1_nextUse cX1_nextUse 4 (some .int)) := rfl
set_option maxRecDepth 100000 in
theorem mC_19 : lw_tbl[363]? = some (.code yX1_doNext cX1_doNext 6 (none)) := rfl
set_option maxRecDepth 100000 in
theorem mC_20 : lw_tbl[388]? = some (.code yX1_takeOut cX1_takeOut 2 (none)) := rfl
set_option maxRecDepth 100000 in
theorem mC_21 : lw_tbl[397]? = some (.code yX1_readInto cX1_readInto 3 (none)) := rfl
set_option maxRecDepth 100000 in
theorem mC_22 : lw_tbl[401]? = some (.code yX1_markDone cX1_markDone 4 (none)) := rfl
set_option maxRecDepth 100000 in
theorem mC_23 : lw_tbl[409]? = some (.code yX1_canPinMore cX1_canPinMore 1 (some .boolean)) := rfl
set_option maxRecDepth 100000 in
theorem mC_24 : lw_tbl[413]? = some (.code yX1_pinnedPages cX1_pinnedPages 1 (some .int)) := rfl
set_option maxRecDepth 100000 in
theorem mC_25 : lw_tbl[456]? = some (.code yX1_hits cX1_hits 1 (some .int)) := rfl
set_option maxRecDepth 100000 in
theorem mC_26 : lw_tbl[427]? = some (.code yX1_pagesInFrames cX1_pagesInFrames 1 (some .int)) := rfl
set_option maxRecDepth 100000 in
theorem mC_27 : lw_tbl[533]? = some (.code yX1_firstRead cX1_firstRead 3 (some .int)) := rfl
set_option maxRecDepth 100000 in
theorem mC_28 : lw_tbl[337]? = some (.code yX1_takeAsk cX1_takeAsk 2 (none)) := rfl
set_option maxRecDepth 100000 in
theorem mC_29 : lw_tbl[286]? = some (.code yX1_putAsk cX1_putAsk 4 (none)) := rfl
set_option maxRecDepth 100000 in
theorem mC_30 : lw_tbl[437]? = some (.code yX1_moveDown cX1_moveDown 4 (none)) := rfl
set_option maxRecDepth 100000 in
theorem mC_31 : lw_tbl[106]? = some (.code yX2_init cX2_init 1 (none)) := rfl
set_option maxRecDepth 100000 in
theorem mC_32 : lw_tbl[146]? = some (.code yX2_firstWrong cX2_firstWrong 4 (some .int)) := rfl
set_option maxRecDepth 100000 in
theorem mC_33 : lw_tbl[150]? = some (.code yX2_pageAt cX2_pageAt 3 (some .int)) := rfl
set_option maxRecDepth 100000 in
theorem mC_34 : lw_tbl[154]? = some (.code yX2_codeAt cX2_codeAt 2 (some .int)) := rfl
set_option maxRecDepth 100000 in
theorem mC_35 : lw_tbl[162]? = some (.code yX2_isDigit cX2_isDigit 3 (some .boolean)) := rfl
set_option maxRecDepth 100000 in
theorem mC_36 : lw_tbl[142]? = some (.code yX2_tellsAsks cX2_tellsAsks 1 (some .boolean)) := rfl
set_option maxRecDepth 100000 in
theorem mC_37 : lw_tbl[234]? = some (.code yX2_asksTold cX2_asksTold 3 (some .int)) := rfl
set_option maxRecDepth 100000 in
theorem mC_38 : lw_tbl[238]? = some (.code yX2_timesAt cX2_timesAt 2 (some .int)) := rfl
set_option maxRecDepth 100000 in
theorem mC_39 : lw_tbl[282]? = some (.code yX2_writesAt cX2_writesAt 3 (some .int)) := rfl
set_option maxRecDepth 100000 in
theorem mC_40 : lw_tbl[24]? = some (.code yX3_init cX3_init 2 (none)) := rfl
set_option maxRecDepth 100000 in
theorem mC_41 : lw_tbl[441]? = some (.code yX3_flush cX3_flush 3 (some .int)) := rfl
set_option maxRecDepth 100000 in
theorem mC_42 : lw_tbl[258]? = some (.code yX3_save cX3_save 2 (none)) := rfl
set_option maxRecDepth 100000 in
theorem mC_43 : lw_tbl[262]? = some (.code yX3_dropOldestSaved cX3_dropOldestSaved 3 (none)) := rfl
set_option maxRecDepth 100000 in
theorem mC_44 : lw_tbl[473]? = some (.code yX3_clearBuffer cX3_clearBuffer 2 (some .int)) := rfl
set_option maxRecDepth 100000 in
theorem mC_45 : lw_tbl[158]? = some (.code yX0_get cX0_get 2 (some .int)) := rfl
set_option maxRecDepth 100000 in
theorem mC_46 : lw_tbl[515]? = some (.code yX3_victim cX3_victim 1 (some .int)) := rfl
set_option maxRecDepth 100000 in
theorem mC_47 : lw_tbl[537]? = some (.code yX3_fewestReads cX3_fewestReads 1 (some .int)) := rfl
set_option maxRecDepth 100000 in
theorem mC_48 : lw_tbl[529]? = some (.code yX3_finishTrial cX3_finishTrial 3 (some .int)) := rfl
set_option maxRecDepth 100000 in
theorem mC_49 : lw_tbl[158]? = some (.code yX0_get cX0_get 2 (some .int)) := rfl
set_option maxRecDepth 100000 in
theorem mC_50 : lw_tbl[511]? = some (.code yX3_hitShare cX3_hitShare 1 (some .double)) := rfl
set_option maxRecDepth 100000 in
theorem mC_51 : lw_tbl[158]? = some (.code yX0_get cX0_get 2 (some .int)) := rfl
set_option maxRecDepth 100000 in
theorem mC_52 : lw_tbl[452]? = some (.code yX3_count cX3_count 2 (some .int)) := rfl
set_option maxRecDepth 100000 in
theorem mC_53 : lw_tbl[158]? = some (.code yX0_get cX0_get 2 (some .int)) := rfl
set_option maxRecDepth 100000 in
theorem mC_54 : lw_tbl[446]? = some (.code yX3_ask cX3_ask 3 (some .int)) := rfl
set_option maxRecDepth 100000 in
theorem mC_55 : lw_tbl[504]? = some (.code yX3_page cX3_page 3 (some .int)) := rfl
set_option maxRecDepth 100000 in
theorem mC_56 : lw_tbl[317]? = some (.code yX3_checkPage cX3_checkPage 1 (none)) := rfl
set_option maxRecDepth 100000 in
theorem mC_57 : lw_tbl[523]? = some (.code yX3_byRule cX3_byRule 4 (some .int)) := rfl
set_option maxRecDepth 100000 in
theorem mC_58 : lw_tbl[158]? = some (.code yX0_get cX0_get 2 (some .int)) := rfl
set_option maxRecDepth 100000 in
theorem mC_59 : lw_tbl[158]? = some (.code yX0_get cX0_get 2 (some .int)) := rfl
set_option maxRecDepth 100000 in
theorem mC_60 : lw_tbl[331]? = some (.code yX3_checkToCome cX3_checkToCome 2 (none)) := rfl
set_option maxRecDepth 100000 in
theorem mC_61 : lw_tbl[158]? = some (.code yX0_get cX0_get 2 (some .int)) := rfl
set_option maxRecDepth 100000 in
theorem mC_62 : lw_tbl[138]? = some (.code yX3_extend cX3_extend 3 (some .int)) := rfl
set_option maxRecDepth 100000 in
theorem mC_63 : lw_tbl[298]? = some (.code yX3_insert cX3_insert 4 (some .int)) := rfl
set_option maxRecDepth 100000 in
theorem mC_64 : lw_tbl[327]? = some (.code yX3_drop cX3_drop 3 (some .int)) := rfl
set_option maxRecDepth 100000 in
theorem mC_65 : lw_tbl[345]? = some (.code yX3_exchange cX3_exchange 3 (some .int)) := rfl
set_option maxRecDepth 100000 in
theorem mC_66 : lw_tbl[354]? = some (.code yX3_go cX3_go 4 (some .int)) := rfl
set_option maxRecDepth 100000 in
theorem mC_67 : lw_tbl[405]? = some (.code yX3_pin cX3_pin 3 (some .int)) := rfl
set_option maxRecDepth 100000 in
theorem mC_68 : lw_tbl[421]? = some (.code yX3_frames cX3_frames 3 (some .int)) := rfl
set_option maxRecDepth 100000 in
theorem mC_69 : lw_tbl[477]? = some (.code yX3_append cX3_append 2 (some .int)) := rfl
set_option maxRecDepth 100000 in
theorem mC_70 : lw_tbl[158]? = some (.code yX0_get cX0_get 2 (some .int)) := rfl
set_option maxRecDepth 100000 in
theorem mC_71 : lw_tbl[158]? = some (.code yX0_get cX0_get 2 (some .int)) := rfl
set_option maxRecDepth 100000 in
theorem mC_72 : lw_tbl[498]? = some (.code yX3_frame cX3_frame 2 (some .int)) := rfl
set_option maxRecDepth 100000 in
theorem mC_73 : lw_tbl[460]? = some (.code yL_cell cL_cell 2 (some .int)) := rfl
set_option maxRecDepth 100000 in
theorem mC_74 : lw_tbl[465]? = some (.code yL_low cL_low 2 (some .int)) := rfl
set_option maxRecDepth 100000 in
theorem mC_75 : lw_tbl[469]? = some (.code yL_type cL_type 9 (some .int)) := rfl
set_option maxRecDepth 100000 in
theorem mC_76 : lw_tbl[485]? = some (.code yL_frame cL_frame 5 (some .int)) := rfl
set_option maxRecDepth 100000 in
theorem mC_77 : lw_tbl[491]? = some (.code yL_use cL_use 4 (some .int)) := rfl
set_option maxRecDepth 100000 in
theorem mC_78 : lw_tbl[488]? = some (.code yL_victim cL_victim 11 (some .int)) := rfl
set_option maxRecDepth 100000 in
theorem mC_79 : lw_tbl[482]? = some (.code yL_done cL_done 10 (some .int)) := rfl
set_option maxRecDepth 100000 in
theorem mC_80 : lw_tbl[494]? = some (.code yL_tells cL_tells 15 (some .boolean)) := rfl
set_option maxRecDepth 100000 in
theorem mC_81 : lw_tbl[519]? = some (.code yL_rule cL_rule 13 (some .boolean)) := rfl
set_option maxRecDepth 100000 in
theorem mC_82 : lw_tbl[540]? = some (.code yL_frames cL_frames 10 (some .int)) := rfl
set_option maxRecDepth 100000 in
theorem mC_all : ∀ y, y < 83 → 0 < y → lw_tbl[(mAt y).2.2.2.2.2.2.1]? = some (mCode y) := lt_s (lt_s (lt_s (lt_s (lt_s (lt_s (lt_s (lt_s (lt_s (lt_s (lt_s (lt_s (lt_s (lt_s (lt_s (lt_s (lt_s (lt_s (lt_s (lt_s (lt_s (lt_s (lt_s (lt_s (lt_s (lt_s (lt_s (lt_s (lt_s (lt_s (lt_s (lt_s (lt_s (lt_s (lt_s (lt_s (lt_s (lt_s (lt_s (lt_s (lt_s (lt_s (lt_s (lt_s (lt_s (lt_s (lt_s (lt_s (lt_s (lt_s (lt_s (lt_s (lt_s (lt_s (lt_s (lt_s (lt_s (lt_s (lt_s (lt_s (lt_s (lt_s (lt_s (lt_s (lt_s (lt_s (lt_s (lt_s (lt_s (lt_s (lt_s (lt_s (lt_s (lt_s (lt_s (lt_s (lt_s (lt_s (lt_s (lt_s (lt_s (lt_s (lt_s lt_0 (fun h => absurd h (Nat.lt_irrefl 0))) (fun _ => mC_1)) (fun _ => mC_2)) (fun _ => mC_3)) (fun _ => mC_4)) (fun _ => mC_5)) (fun _ => mC_6)) (fun _ => mC_7)) (fun _ => mC_8)) (fun _ => mC_9)) (fun _ => mC_10)) (fun _ => mC_11)) (fun _ => mC_12)) (fun _ => mC_13)) (fun _ => mC_14)) (fun _ => mC_15)) (fun _ => mC_16)) (fun _ => mC_17)) (fun _ => mC_18)) (fun _ => mC_19)) (fun _ => mC_20)) (fun _ => mC_21)) (fun _ => mC_22)) (fun _ => mC_23)) (fun _ => mC_24)) (fun _ => mC_25)) (fun _ => mC_26)) (fun _ => mC_27)) (fun _ => mC_28)) (fun _ => mC_29)) (fun _ => mC_30)) (fun _ => mC_31)) (fun _ => mC_32)) (fun _ => mC_33)) (fun _ => mC_34)) (fun _ => mC_35)) (fun _ => mC_36)) (fun _ => mC_37)) (fun _ => mC_38)) (fun _ => mC_39)) (fun _ => mC_40)) (fun _ => mC_41)) (fun _ => mC_42)) (fun _ => mC_43)) (fun _ => mC_44)) (fun _ => mC_45)) (fun _ => mC_46)) (fun _ => mC_47)) (fun _ => mC_48)) (fun _ => mC_49)) (fun _ => mC_50)) (fun _ => mC_51)) (fun _ => mC_52)) (fun _ => mC_53)) (fun _ => mC_54)) (fun _ => mC_55)) (fun _ => mC_56)) (fun _ => mC_57)) (fun _ => mC_58)) (fun _ => mC_59)) (fun _ => mC_60)) (fun _ => mC_61)) (fun _ => mC_62)) (fun _ => mC_63)) (fun _ => mC_64)) (fun _ => mC_65)) (fun _ => mC_66)) (fun _ => mC_67)) (fun _ => mC_68)) (fun _ => mC_69)) (fun _ => mC_70)) (fun _ => mC_71)) (fun _ => mC_72)) (fun _ => mC_73)) (fun _ => mC_74)) (fun _ => mC_75)) (fun _ => mC_76)) (fun _ => mC_77)) (fun _ => mC_78)) (fun _ => mC_79)) (fun _ => mC_80)) (fun _ => mC_81)) (fun _ => mC_82)
def iniP : List Nat := [10, 9, 11, 8, 8, 7]
theorem ini_all : (List.range 6).all (fun o => inG (iniP.getD o 0) (.initialized (cN o))) = true := by decide +kernel
def fTab : List (Nat × (Nat × (Nat × (Nat × Nat)))) := [(0, (9, (0, (0, 40)))), (1, (14, (1, (0, 45)))), (1, (20, (1, (1, 47)))), (1, (23, (1, (2, 49)))), (1, (26, (1, (3, 51)))), (1, (29, (1, (4, 53)))), (1, (33, (1, (5, 55)))), (1, (36, (1, (6, 57)))), (1, (39, (1, (7, 59)))), (1, (42, (1, (8, 61)))), (1, (45, (1, (9, 63)))), (1, (48, (1, (10, 65)))), (1, (51, (1, (11, 67)))), (1, (54, (1, (12, 68)))), (1, (57, (1, (13, 70)))), (2, (14, (2, (0, 110)))), (2, (20, (2, (1, 112)))), (3, (10, (3, (0, 119)))), (3, (16, (3, (1, 120)))), (3, (19, (3, (2, 121)))), (3, (23, (3, (3, 122)))), (3, (30, (3, (4, 123)))), (3, (45, (1, (4, 54)))), (3, (60, (2, (1, 113)))), (3, (77, (1, (5, 56)))), (3, (97, (1, (0, 46)))), (3, (113, (1, (1, 48)))), (3, (118, (1, (12, 69)))), (3, (127, (1, (9, 64)))), (3, (155, (1, (6, 58)))), (3, (161, (1, (13, 71)))), (3, (171, (2, (0, 111)))), (3, (184, (1, (2, 50)))), (3, (187, (1, (3, 52)))), (3, (192, (1, (7, 60)))), (3, (195, (1, (8, 62)))), (3, (201, (1, (10, 66))))]
set_option maxRecDepth 100000 in
theorem fTab_ok : (fTab.all fun e => inG e.2.2.2.2 (.fieldLink (cN e.1) e.2.1 (cN e.2.2.1) (cT e.2.2.1 e.2.2.2.1).2.1 (cT e.2.2.1 e.2.2.2.1).2.2.1) && ((cT e.2.2.1 e.2.2.2.1).1 == cN e.2.2.1 && (Nat.blt e.2.2.2.1 (cF e.2.2.1) && Nat.blt e.2.2.1 5))) = true := by decide +kernel
def cTab : List (Nat × (Nat × (Nat × (Nat × Nat)))) := [(1, (9, (0, (34, 35)))), (2, (9, (0, (108, 35)))), (3, (7, (1, (28, 29)))), (3, (27, (2, (102, 103)))), (5, (11, (3, (20, 21))))]
set_option maxRecDepth 100000 in
theorem cTab_ok : (cTab.all fun e => inG e.2.2.2.1 (.classLink (cN e.1) e.2.1 (cN e.2.2.1)) && (inG e.2.2.2.2 (.instantiable (cN e.2.2.1) (cF e.2.2.1)) && Nat.blt e.2.2.1 5)) = true := by decide +kernel
def vTab : List (Nat × (Nat × (Nat × (Nat × (Nat × Nat))))) := [(0, (15, (4, (350, (156, 157))))), (0, (19, (5, (291, (292, 293))))), (1, (60, (2, (267, (268, 269))))), (1, (64, (7, (428, (429, 430))))), (1, (68, (3, (414, (357, 358))))), (1, (72, (24, (410, (411, 412))))), (1, (75, (6, (373, (374, 375))))), (1, (78, (16, (369, (370, 371))))), (1, (82, (4, (364, (156, 157))))), (1, (85, (9, (287, (288, 289))))), (1, (88, (8, (338, (339, 340))))), (1, (92, (18, (381, (382, 383))))), (1, (96, (15, (365, (366, 367))))), (1, (99, (17, (377, (378, 379))))), (1, (102, (20, (385, (386, 387))))), (1, (105, (21, (394, (396, 4))))), (1, (108, (22, (398, (400, 5))))), (1, (112, (5, (393, (292, 293))))), (1, (115, (13, (389, (390, 391))))), (2, (24, (4, (155, (156, 157))))), (2, (28, (34, (151, (152, 153))))), (2, (31, (33, (147, (148, 149))))), (2, (34, (35, (159, (160, 161))))), (2, (38, (38, (235, (236, 237))))), (2, (41, (32, (143, (144, 145))))), (3, (34, (36, (139, (140, 141))))), (3, (48, (37, (231, (232, 233))))), (3, (57, (42, (255, (257, 1))))), (3, (63, (38, (277, (236, 237))))), (3, (67, (33, (278, (148, 149))))), (3, (70, (39, (279, (280, 281))))), (3, (73, (29, (283, (284, 285))))), (3, (91, (14, (320, (321, 322))))), (3, (94, (60, (328, (330, 3))))), (3, (101, (4, (333, (156, 157))))), (3, (106, (28, (334, (335, 336))))), (3, (109, (10, (346, (347, 348))))), (3, (121, (3, (356, (357, 358))))), (3, (124, (19, (360, (361, 362))))), (3, (130, (23, (406, (407, 408))))), (3, (135, (5, (416, (292, 293))))), (3, (138, (24, (417, (411, 412))))), (3, (145, (26, (424, (425, 426))))), (3, (148, (17, (432, (378, 379))))), (3, (152, (20, (433, (386, 387))))), (3, (158, (30, (434, (435, 436))))), (3, (164, (13, (442, (390, 391))))), (3, (198, (18, (505, (382, 383))))), (3, (204, (7, (506, (429, 430))))), (3, (212, (16, (500, (370, 371))))), (3, (215, (25, (453, (454, 455))))), (3, (220, (15, (516, (366, 367))))), (3, (227, (12, (263, (264, 265))))), (3, (231, (48, (526, (528, 6))))), (3, (234, (27, (530, (531, 532))))), (3, (287, (43, (259, (261, 2))))), (5, (10, (44, (470, (471, 472))))), (5, (22, (69, (474, (475, 476))))), (5, (26, (52, (449, (450, 451))))), (5, (29, (54, (443, (444, 445))))), (5, (44, (72, (495, (496, 497))))), (5, (46, (55, (501, (502, 503))))), (5, (49, (50, (508, (509, 510))))), (5, (53, (46, (512, (513, 514))))), (5, (59, (57, (520, (521, 522))))), (5, (62, (47, (534, (535, 536))))), (5, (74, (62, (135, (136, 137))))), (5, (77, (66, (351, (352, 353))))), (5, (80, (67, (402, (403, 404))))), (5, (86, (68, (418, (419, 420))))), (5, (88, (41, (438, (439, 440))))), (5, (91, (63, (295, (296, 297))))), (5, (95, (64, (324, (325, 326))))), (5, (98, (65, (342, (343, 344)))))]
set_option maxRecDepth 100000 in
theorem vTab_ok : (vTab.all fun e => inG e.2.2.2.1 (.methodLink (cN e.1) e.2.1 (mN e.2.2.1)) && (inG e.2.2.2.2.1 (.instanceMethod (mN e.2.2.1)) && (inG e.2.2.2.2.2 (.selects (cN (mO e.2.2.1)) (mN e.2.2.1) (mN e.2.2.1)) && (Nat.blt e.2.2.1 83 && (Nat.blt 0 e.2.2.1 && (mH e.2.2.1).isEmpty))))) = true := by decide +kernel
def sTab : List (Nat × (Nat × (Nat × (Nat × Nat)))) := [(3, (85, (56, (315, 316)))), (5, (16, (74, (463, 464)))), (5, (32, (77, (489, 490)))), (5, (36, (76, (483, 484)))), (5, (40, (78, (486, 487)))), (5, (55, (79, (480, 481)))), (5, (66, (73, (458, 459)))), (5, (70, (75, (467, 468)))), (5, (83, (82, (538, 539)))), (5, (101, (80, (492, 493)))), (5, (105, (81, (517, 518))))]
set_option maxRecDepth 100000 in
theorem sTab_ok : (sTab.all fun e => inG e.2.2.2.1 (.methodLink (cN e.1) e.2.1 (mN e.2.2.1)) && (inG e.2.2.2.2 (.static (mN e.2.2.1)) && (Nat.blt e.2.2.1 83 && (Nat.blt 0 e.2.2.1 && Nat.beq (mO e.2.2.1) e.1)))) = true := by decide +kernel
def pTab : List (Nat × (Nat × (Nat × (Nat × (Nat × Nat))))) := [(1, (11, (1, (0, (36, 37))))), (2, (11, (1, (0, (109, 37))))), (3, (9, (11, (1, (30, 31))))), (3, (29, (31, (1, (104, 105))))), (5, (65, (40, (0, (22, 23)))))]
set_option maxRecDepth 100000 in
theorem pTab_ok : (pTab.all fun e => (if e.2.2.2.1 = 1 then decide (lw_tbl[e.2.2.2.2.1]? = some (.methodLinkNest (cN e.1) e.2.1 (mN e.2.2.1) RX3)) else inG e.2.2.2.2.1 (.methodLink (cN e.1) e.2.1 (mN e.2.2.1))) && (inG e.2.2.2.2.2 (.instanceMethod (mN e.2.2.1)) && ((mN e.2.2.1).name == "<init>" && (Nat.blt e.2.2.1 83 && (Nat.blt 0 e.2.2.1 && ((mH e.2.2.1).isEmpty && decide (mR e.2.2.1 = none))))))) = true := by decide +kernel
def oTab : List (Nat × (Nat × (Nat × Nat))) := [(0, (3, (0, 39))), (0, (23, (1, 271))), (0, (29, (2, 274))), (1, (3, (0, 33))), (2, (3, (0, 107))), (3, (1, (0, 25)))]
def oName (k : Nat) : MethodName := match k with
  | 0 => Lib.objectInit
  | 1 => Lib.Math.min.name
  | _ => arraycopyName
set_option maxRecDepth 100000 in
theorem oTab_ok : (oTab.all fun e => inG e.2.2.2 (.methodLink (cN e.1) e.2.1 (oName e.2.2.1))) = true := by decide +kernel
theorem oWords : (inG 26 (.instanceMethod Lib.objectInit) && (inG 27 (.code Lib.objectInit ⟨#[0xb1]⟩ 1 none) && (inG 272 (.static Lib.Math.min.name) && (inG 17 (.initialized "java/lang/Math") && (inG 273 (.code Lib.Math.min.name Lib.Math.min.code 2 (some .int)) && (inG 276 (.native arraycopyName) && (inG 275 (.static arraycopyName) && (inG 18 (.initialized "java/lang/System") && inG 44 (.arrayClass .int))))))))) = true := by decide +kernel
def kTab : List (Nat × (Nat × ((Int64 ⊕ UInt64) × Nat))) := []
def kCond (o i : Nat) (v : Int64 ⊕ UInt64) : Cond := match v with
  | .inl x => .constantLong (cN o) i x
  | .inr x => .constantDouble (cN o) i x
theorem kTab_ok : (kTab.all fun e => inG e.2.2.2 (kCond e.1 e.2.1 e.2.2.1)) = true := by decide +kernel
def jTab : List (Nat × (Nat × (Int × Nat))) := [(5, (7, (32452867, 461))), (5, (8, (15485863, 462))), (5, (9, (2147483647, 466)))]
theorem jTab_ok : (jTab.all fun e => inG e.2.2.2 (.constant (cN e.1) e.2.1 (Int32.ofInt e.2.2.1)) && (decide (-2147483648 ≤ e.2.2.1) && decide (e.2.2.1 < 2147483648))) = true := by decide +kernel
def fwP : List (List Nat) := [[41], [72, 74, 76, 78, 80, 82, 84, 86, 88, 90, 92, 94, 96, 98], [114, 116], [124, 126, 128, 130, 132], [124, 126, 128, 130, 132]]
set_option maxRecDepth 100000 in
theorem fwP_ok : ((List.range 5).all fun o => (List.range (cF o)).all fun k => inG ((fwP.getD o []).getD k 0) (u_lay (cN o) (cT o) k)) = true := by decide +kernel
def eN (E : Nat) : String := match E with
  | 0 => "java/lang/IllegalArgumentException"
  | 1 => "java/lang/IllegalStateException"
  | _ => "java/lang/IndexOutOfBoundsException"
def txt (k : Nat) : String := (["what is not 0 to 9", "no such ask", "what is not 0 to 3", "what is not 0 to 7", "page is not 0 to 7", "rule is not 0 to 2", "what is not 0 to 2", "no such ask to come", "the buffer does not tell asks", "the plan would have too many asks", "no such place to come", "the plan is full", "asks is not 1 to 80", "no more pages can be pinned", "frames is not 1 to 6", "too many pages are pinned", "code is not 33 to 126", "the buffer is full", "no such frame", "what is not 0 to 9", "what is not 0 to 9"] : List String).getD k ""
def txtI (k : Nat) : Nat := ([218, 182, 190, 208, 283, 223, 225, 285, 40, 54, 82, 89, 116, 133, 141, 143, 167, 169, 210, 218, 218] : List Nat).getD k 0
-- throws: method, pc: exception, class entry, text entry, init entry, text, wide
def xTab : List (Nat × (Nat × (Nat × (Nat × (Nat × (Nat × (Nat × Nat))))))) := [(52, (142, (0, (38, (218, (42, (0, 0))))))), (54, (15, (2, (80, (182, (84, (1, 0))))))), (54, (134, (0, (38, (190, (42, (2, 0))))))), (55, (166, (0, (38, (208, (42, (3, 0))))))), (56, (10, (0, (38, (283, (42, (4, 1))))))), (57, (9, (0, (38, (223, (42, (5, 0))))))), (57, (28, (0, (38, (225, (42, (6, 0))))))), (60, (22, (2, (80, (285, (84, (7, 1))))))), (62, (10, (0, (38, (40, (42, (8, 0))))))), (62, (40, (1, (52, (54, (56, (9, 0))))))), (63, (22, (2, (80, (82, (84, (10, 0))))))), (63, (48, (1, (52, (89, (56, (11, 0))))))), (66, (11, (0, (38, (116, (42, (12, 0))))))), (67, (38, (1, (52, (133, (56, (13, 0))))))), (68, (11, (0, (38, (141, (42, (14, 0))))))), (68, (34, (1, (52, (143, (56, (15, 0))))))), (69, (12, (0, (38, (167, (42, (16, 0))))))), (69, (34, (1, (52, (169, (56, (17, 0))))))), (72, (15, (2, (80, (210, (84, (18, 0)))))))]
def xDec (y pc : Nat) (v : Nat × (Nat × (Nat × (Nat × (Nat × Nat))))) : Prop := if v.2.2.2.2.2 = 1 then
    decode (mB y) pc = .ok (.new v.2.1, 3) ∧ decode (mB y) (pc + 3) = .ok (.dup, 1) ∧ decode (mB y) (pc + 4) = .ok (.ldc_w v.2.2.1, 3) ∧ decode (mB y) (pc + 7) = .ok (.invokespecial v.2.2.2.1, 3) ∧ decode (mB y) (pc + 10) = .ok (.athrow, 1)
  else decode (mB y) pc = .ok (.new v.2.1, 3) ∧ decode (mB y) (pc + 3) = .ok (.dup, 1) ∧ decode (mB y) (pc + 4) = .ok (.ldc v.2.2.1, 2) ∧ decode (mB y) (pc + 6) = .ok (.invokespecial v.2.2.2.1, 3) ∧ decode (mB y) (pc + 9) = .ok (.athrow, 1)
-- handlers: method, exception: row of its table, handler pc, pc behind the store, local, wide
def hTab : List (Nat × (Nat × (Nat × (Nat × (Nat × (Nat × Nat)))))) := []
def rF (y : Nat) : Nat := ([11, 1, 1, 0, 0, 0, 0, 0, 0, 1, 1, 2, 2, 1, 0, 2, 1, 2, 1, 3, 2, 1, 1, 2, 1, 1, 1, 1, 1, 2, 2, 2, 3, 2, 1, 2, 4, 4, 3, 2, 3, 4, 3, 0, 0, 0, 3, 5, 4, 0, 2, 0, 6, 0, 6, 7, 6, 6, 0, 0, 6, 0, 6, 7, 7, 7, 6, 7, 6, 6, 0, 0, 6, 0, 0, 7, 0, 7, 8, 9, 9, 10, 9] : List Nat).getD y 0
def rL (y : Nat) : Nat := ([236, 70, 70, 0, 0, 0, 0, 0, 0, 22, 22, 93, 91, 22, 0, 45, 24, 47, 24, 73, 43, 22, 22, 42, 22, 25, 25, 21, 22, 45, 45, 93, 64, 42, 21, 42, 87, 85, 64, 42, 113, 133, 112, 0, 0, 0, 73, 120, 98, 0, 45, 0, 100, 0, 100, 120, 100, 120, 0, 0, 100, 0, 133, 133, 133, 133, 133, 133, 133, 100, 0, 0, 100, 0, 0, 121, 0, 122, 145, 175, 175, 204, 175] : List Nat).getD y 0
end
section
/-! THE ABSTRACT MACHINE: values, cells, heaps; what one instruction does; a run by fuel. Index 0 is the script's row, never in the heap. -/
abbrev AV : Type := Int ⊕ (Option Nat ⊕ (Int64 ⊕ (UInt64 ⊕ Unit)))
abbrev vi (z : Int) : AV := Sum.inl z
abbrev vp (a : Option Nat) : AV := Sum.inr (Sum.inl a)
abbrev vr (a : Nat) : AV := Sum.inr (Sum.inl (some a))
abbrev vn : AV := Sum.inr (Sum.inl none)
abbrev vl (x : Int64) : AV := Sum.inr (Sum.inr (Sum.inl x))
abbrev vd (x : UInt64) : AV := Sum.inr (Sum.inr (Sum.inr (Sum.inl x)))
abbrev vu : AV := Sum.inr (Sum.inr (Sum.inr (Sum.inr ())))
abbrev AC : Type := (Nat × List AV) ⊕ (List Int ⊕ (List (Option Nat) ⊕ List Int64))
abbrev oC (c : Nat) (fs : List AV) : AC := Sum.inl (c, fs)
abbrev iC (xs : List Int) : AC := Sum.inr (Sum.inl xs)
abbrev rC (rs : List (Option Nat)) : AC := Sum.inr (Sum.inr (Sum.inl rs))
abbrev lC (xs : List Int64) : AC := Sum.inr (Sum.inr (Sum.inr xs))
abbrev AH : Type := Nat → Option AC
abbrev Mu : Type := Nat × (Nat × Nat)
abbrev Out : Type := Option AV ⊕ Nat
abbrev SR : Type := (Nat × (List AV × (List AV × (Mu × AH)))) ⊕ ((Out × (Mu × AH)) ⊕ (Nat × (List AV × (Nat × (List AV × List AV)))))
def wrp (x : Int) : Int := (x + 2147483648) % 4294967296 - 2147483648
def cat2 (v : AV) : Bool := match v with
  | .inr (.inr (.inl _)) => true
  | .inr (.inr (.inr (.inl _))) => true
  | _ => false
def isU (v : AV) : Bool := match v with
  | .inr (.inr (.inr (.inr _))) => true
  | _ => false
def aup (f : AH) (a : Nat) (c : AC) : AH := fun b => if b = a then some c else f b
-- what is in a heap
def gf (f : AH) (a ci k : Nat) : Option AV := match f a with
  | some (.inl (c, fs)) => if c = ci then fs[k]? else none
  | _ => none
def pf (f : AH) (a ci k : Nat) (v : AV) : Option AH := match f a with
  | some (.inl (c, fs)) => if c = ci ∧ k < fs.length then some (aup f a (oC c (fs.set k v))) else none
  | _ => none
def gi (f : AH) (a : Nat) (i : Int) : Option AV := match f a with
  | some (.inr (.inl xs)) => if 0 ≤ i ∧ i < xs.length then some (vi (xs.getD i.toNat 0)) else none
  | _ => none
def pi (f : AH) (a : Nat) (i x : Int) : Option AH := match f a with
  | some (.inr (.inl xs)) => if 0 ≤ i ∧ i < xs.length then some (aup f a (iC (xs.set i.toNat x))) else none
  | _ => none
def gq (f : AH) (a : Nat) (i : Int) : Option AV := match f a with
  | some (.inr (.inr (.inl rs))) => if 0 ≤ i ∧ i < rs.length then some (vp (rs.getD i.toNat none)) else none
  | _ => none
def isO (f : AH) (b c : Nat) : Bool := match f b with
  | some (.inl (k, _)) => Nat.beq k c
  | _ => false
def pq (f : AH) (a : Nat) (i : Int) (b : Nat) : Option AH := match f a with
  | some (.inr (.inr (.inl rs))) => if 0 ≤ i ∧ i < rs.length ∧ isO f b 1 = true then some (aup f a (rC (rs.set i.toNat (some b)))) else none
  | _ => none
def gl (f : AH) (a : Nat) (i : Int) : Option AV := match f a with
  | some (.inr (.inr (.inr xs))) => if 0 ≤ i ∧ i < xs.length then some (vl (xs.getD i.toNat 0)) else none
  | _ => none
def pl (f : AH) (a : Nat) (i : Int) (x : Int64) : Option AH := match f a with
  | some (.inr (.inr (.inr xs))) => if 0 ≤ i ∧ i < xs.length then some (aup f a (lC (xs.set i.toNat x))) else none
  | _ => none
def an (f : AH) (a : Nat) : Option Nat := match f a with
  | some (.inr (.inl xs)) => some xs.length
  | some (.inr (.inr (.inl rs))) => some rs.length
  | _ => none
/-- the first n of one row over the first n of another -/
def cp (f : AH) (a b : Nat) (n : Int) : Option AH := match f a, f b with
  | some (.inr (.inl xs)), some (.inr (.inl ys)) => if 0 ≤ n ∧ n ≤ xs.length ∧ n ≤ ys.length then some (aup f b (iC (xs.take n.toNat ++ ys.drop n.toNat))) else none
  | _, _ => none
/-- what the script's row holds (the law's own reading) -/
def scr (y : Nat) : Bool := Nat.beq y 0 || Nat.beq y 73
def sG (xs : List Int) (y : Nat) (i : Int) : Option AV := if scr y = true ∧ 0 ≤ i ∧ i < xs.length then some (vi (xs.getD i.toNat 0)) else none
/-- a value fits a field's type -/
def fitA (ty : FieldType) (v : AV) : Bool := match ty, v with
  | .int, .inl _ => true
  | .long, .inr (.inr (.inl _)) => true
  | .object _, .inr (.inl _) => true
  | .array _, .inr (.inl _) => true
  | _, _ => false
def dfl (ty : FieldType) : AV := match ty with
  | .int => vi 0
  | .long => vl 0
  | _ => vn
def dfs (c : Nat) : List AV := (List.range (cF c)).map (fun k => dfl (cY c k))
def nx (pc : Nat) (L st : List AV) (μ : Mu) (f : AH) : Option SR := some (.inl (pc, (L, (st, (μ, f)))))
def ov (o : Option AV) (pc : Nat) (L st : List AV) (μ : Mu) (f : AH) : Option SR := match o with
  | some v => nx pc L (v :: st) μ f
  | none => none
def oh (o : Option AH) (pc : Nat) (L st : List AV) (μ : Mu) : Option SR := match o with
  | some f => nx pc L st μ f
  | none => none
def dn (r : Out) (μ : Mu) (f : AH) : Option SR := some (.inr (.inl (r, (μ, f))))
def tg (pc : Nat) (off : Int) (L st : List AV) (μ : Mu) (f : AH) : Option SR := if 0 ≤ (pc : Int) + off then nx ((pc : Int) + off).toNat L st μ f else none
def br (b : Prop) [Decidable b] (pc : Nat) (off : Int) (L st : List AV) (μ : Mu) (f : AH) : Option SR := if 0 ≤ (pc : Int) + off then (if b then nx ((pc : Int) + off).toNat L st μ f else nx (pc + 3) L st μ f) else none
def cmpA (c : Jvm.ClassFile.Cond) (pc : Nat) (off : Int) (x y : Int) (L st : List AV) (μ : Mu) (f : AH) : Option SR := match c with
  | .eq => br (x = y) pc off L st μ f
  | .ne => br (x ≠ y) pc off L st μ f
  | .lt => br (x < y) pc off L st μ f
  | .ge => br (y ≤ x) pc off L st μ f
  | .gt => br (y < x) pc off L st μ f
  | .le => br (x ≤ y) pc off L st μ f
def stI (L : List AV) (i : Nat) (v : AV) : Option (List AV) := if i < L.length ∧ (i = 0 ∨ cat2 (L.getD (i - 1) vu) = false) then some (L.set i v) else none
def stL (L : List AV) (i : Nat) (v : AV) : Option (List AV) := if i + 1 < L.length ∧ (i = 0 ∨ cat2 (L.getD (i - 1) vu) = false) then some ((L.set i v).set (i + 1) vu) else none
def ol (o : Option (List AV)) (pc : Nat) (st : List AV) (μ : Mu) (f : AH) : Option SR := match o with
  | some L => nx pc L st μ f
  | none => none
def i32 (z : Int) : Int32 := Int32.ofInt z
def lay (as : List AV) : List AV := as.flatMap (fun v => if cat2 v then [v, vu] else [v])
def ini (y : Nat) (as : List AV) : List AV := lay as ++ List.replicate (mL y - (lay as).length) vu
def takeArgs (n : Nat) (st : List AV) : Option (List AV × List AV) := if n ≤ st.length then some ((st.take n).reverse, st.drop n) else none
def okArg (y : Nat) (as : List AV) : Bool := Nat.ble (lay as).length (mL y)
def ld1 (o : Option AV) (k : Nat) (pc : Nat) (L st : List AV) (μ : Mu) (f : AH) : Option SR := match o with
  | some v => match v, k with
    | .inl x, 0 => nx pc L (vi x :: st) μ f
    | .inr (.inl (some a)), 1 => nx pc L (vr a :: st) μ f
    | .inr (.inr (.inl x)), 2 => nx pc L (vl x :: st) μ f
    | .inr (.inr (.inr (.inl x))), 3 => nx pc L (vd x :: st) μ f
    | _, _ => none
  | none => none
def st1 (k i : Nat) (pc : Nat) (L st : List AV) (μ : Mu) (f : AH) : Option SR := match st with
  | v :: r => match v, k with
    | .inl x, 0 => ol (stI L i (vi x)) pc r μ f
    | .inr (.inl (some a)), 1 => ol (stI L i (vr a)) pc r μ f
    | .inr (.inr (.inl x)), 2 => ol (stL L i (vl x)) pc r μ f
    | .inr (.inr (.inr (.inl x))), 3 => ol (stL L i (vd x)) pc r μ f
    | _, _ => none
  | _ => none
def nn64 (r : UInt64) : Bool := decide (r &&& 0x7fffffffffffffff ≤ 0x7ff0000000000000)
def ii2 (g : Int → Int → Option Int) (pc : Nat) (L st : List AV) (μ : Mu) (f : AH) : Option SR := match st with
  | .inl y :: .inl x :: r => match g x y with
    | some z => nx pc L (vi z :: r) μ f
    | none => none
  | _ => none
def ll2 (g : Int64 → Int64 → Int64) (pc : Nat) (L st : List AV) (μ : Mu) (f : AH) : Option SR := match st with
  | .inr (.inr (.inl y)) :: .inr (.inr (.inl x)) :: r => nx pc L (vl (g x y) :: r) μ f
  | _ => none
def dd2 (g : UInt64 → UInt64 → UInt64) (pc : Nat) (L st : List AV) (μ : Mu) (f : AH) : Option SR := match st with
  | .inr (.inr (.inr (.inl y))) :: .inr (.inr (.inr (.inl x))) :: r => if nn64 (g x y) = true then nx pc L (vd (g x y) :: r) μ f else none
  | _ => none
def okRank (y y' : Nat) : Bool := Nat.ble (rF y' + 1) (rF y) && Nat.ble (8 + (mL y' + 11) + rL y') (rL y)
def okSys (y : Nat) (r : List AV) : Bool := Nat.ble 1 (rF y) && (Nat.ble 70 (rL y) && Nat.ble r.length 4)
def callA (y y' n pc : Nat) (L st : List AV) : Option SR := match takeArgs n st with
  | some (as, r) => if okArg y' as = true ∧ okRank y y' = true ∧ r.length ≤ 4 then some (.inr (.inr (y', (as, (pc, (L, r)))))) else none
  | none => none
def istep (xs : List Int) (y pc len : Nat) (i : Instr) (L st : List AV) (μ : Mu) (f : AH) : Option SR :=
  match i with
  | .aload_n k => if len = 1 then ld1 (L[k.val]?) 1 (pc + 1) L st μ f else none
  | .aload k => if len = 2 then ld1 (L[k]?) 1 (pc + 2) L st μ f else none
  | .iload_n k => if len = 1 then ld1 (L[k.val]?) 0 (pc + 1) L st μ f else none
  | .iload k => if len = 2 then ld1 (L[k]?) 0 (pc + 2) L st μ f else none
  | .lload_n k => if len = 1 then ld1 (L[k.val]?) 2 (pc + 1) L st μ f else none
  | .lload k => if len = 2 then ld1 (L[k]?) 2 (pc + 2) L st μ f else none
  | .dload_n k => if len = 1 then ld1 (L[k.val]?) 3 (pc + 1) L st μ f else none
  | .dload k => if len = 2 then ld1 (L[k]?) 3 (pc + 2) L st μ f else none
  | .astore_n k => if len = 1 then st1 1 k.val (pc + 1) L st μ f else none
  | .astore k => if len = 2 then st1 1 k (pc + 2) L st μ f else none
  | .istore_n k => if len = 1 then st1 0 k.val (pc + 1) L st μ f else none
  | .istore k => if len = 2 then st1 0 k (pc + 2) L st μ f else none
  | .lstore_n k => if len = 1 then st1 2 k.val (pc + 1) L st μ f else none
  | .lstore k => if len = 2 then st1 2 k (pc + 2) L st μ f else none
  | .dstore_n k => if len = 1 then st1 3 k.val (pc + 1) L st μ f else none
  | .dstore k => if len = 2 then st1 3 k (pc + 2) L st μ f else none
  | .iconst n => if len = 1 then nx (pc + 1) L (vi (wrp n) :: st) μ f else none
  | .bipush n => if len = 2 then nx (pc + 2) L (vi ((Int8.ofInt n).toInt32.toInt) :: st) μ f else none
  | .sipush n => if len = 3 then nx (pc + 3) L (vi ((Int16.ofInt n).toInt32.toInt) :: st) μ f else none
  | .lconst n => if len = 1 then nx (pc + 1) L (vl (Int64.ofNat n.val) :: st) μ f else none
  | .dconst n => if len = 1 then nx (pc + 1) L (vd (if n = 0 then FP.dconst0 else FP.dconst1) :: st) μ f else none
  | .ldc2_w k => if len = 3 then (match lk kTab (mO y) k with
    | some (.inl x, _) => nx (pc + 3) L (vl x :: st) μ f
    | some (.inr x, _) => nx (pc + 3) L (vd x :: st) μ f
    | none => none) else none
  | .ldc k => if len = 2 then (match lk jTab (mO y) k with
    | some (z, _) => nx (pc + 2) L (vi z :: st) μ f
    | none => none) else none
  | .iadd => if len = 1 then ii2 (fun x y => some (wrp (x + y))) (pc + 1) L st μ f else none
  | .isub => if len = 1 then ii2 (fun x y => some (wrp (x - y))) (pc + 1) L st μ f else none
  | .imul => if len = 1 then ii2 (fun x y => some (wrp (x * y))) (pc + 1) L st μ f else none
  | .idiv => if len = 1 then ii2 (fun x y => if y = 0 then none else some ((i32 x / i32 y).toInt)) (pc + 1) L st μ f else none
  | .irem => if len = 1 then ii2 (fun x y => if y = 0 then none else some ((i32 x - i32 x / i32 y * i32 y).toInt)) (pc + 1) L st μ f else none
  | .iand => if len = 1 then ii2 (fun x y => some ((i32 x &&& i32 y).toInt)) (pc + 1) L st μ f else none
  | .ior => if len = 1 then ii2 (fun x y => some ((i32 x ||| i32 y).toInt)) (pc + 1) L st μ f else none
  | .ixor => if len = 1 then ii2 (fun x y => some ((i32 x ^^^ i32 y).toInt)) (pc + 1) L st μ f else none
  | .ishl => if len = 1 then ii2 (fun x y => some ((i32 x <<< (i32 y &&& 31)).toInt)) (pc + 1) L st μ f else none
  | .ishr => if len = 1 then ii2 (fun x y => some ((i32 x >>> (i32 y &&& 31)).toInt)) (pc + 1) L st μ f else none
  | .ineg => if len = 1 then (match st with
    | .inl x :: r => nx (pc + 1) L (vi (wrp (-x)) :: r) μ f
    | _ => none) else none
  | .i2l => if len = 1 then (match st with
    | .inl x :: r => nx (pc + 1) L (vl (i32 x).toInt64 :: r) μ f
    | _ => none) else none
  | .i2d => if len = 1 then (match st with
    | .inl x :: r => nx (pc + 1) L (vd (FP.i2d (i32 x)) :: r) μ f
    | _ => none) else none
  | .d2l => if len = 1 then (match st with
    | .inr (.inr (.inr (.inl x))) :: r => nx (pc + 1) L (vl (FP.d2l x) :: r) μ f
    | _ => none) else none
  | .ladd => if len = 1 then ll2 (fun x y => x + y) (pc + 1) L st μ f else none
  | .lsub => if len = 1 then ll2 (fun x y => x - y) (pc + 1) L st μ f else none
  | .lmul => if len = 1 then ll2 (fun x y => x * y) (pc + 1) L st μ f else none
  | .lshl => if len = 1 then (match st with
    | .inl y :: .inr (.inr (.inl x)) :: r => nx (pc + 1) L (vl (x <<< ((i32 y).toInt64 &&& 63)) :: r) μ f
    | _ => none) else none
  | .dmul => if len = 1 then dd2 FP.dmul (pc + 1) L st μ f else none
  | .ddiv => if len = 1 then dd2 FP.ddiv (pc + 1) L st μ f else none
  | .dsub => if len = 1 then dd2 FP.dsub (pc + 1) L st μ f else none
  | .lcmp => if len = 1 then (match st with
    | .inr (.inr (.inl y)) :: .inr (.inr (.inl x)) :: r => nx (pc + 1) L (vi (lg_cmp x y).toInt :: r) μ f
    | _ => none) else none
  | .dcmp op => if len = 1 then (match st with
    | .inr (.inr (.inr (.inl y))) :: .inr (.inr (.inr (.inl x))) :: r => nx (pc + 1) L (vi (Op.cmpValue (FP.dcmp x y) op).toInt :: r) μ f
    | _ => none) else none
  | .iinc k n => if len = 3 then (match L[k]? with
    | some (.inl x) => nx (pc + 3) (L.set k (vi (wrp (x + n)))) st μ f
    | _ => none) else none
  | .dup => if len = 1 then (match st with
    | v :: r => if cat2 v = false ∧ isU v = false then nx (pc + 1) L (v :: v :: r) μ f else none
    | _ => none) else none
  | .dup2 => if len = 1 then (match st with
    | v :: w :: r => if cat2 v = false ∧ isU v = false ∧ cat2 w = false ∧ isU w = false then nx (pc + 1) L (v :: w :: v :: w :: r) μ f else none
    | _ => none) else none
  | .pop => if len = 1 then (match st with
    | v :: r => if cat2 v = false ∧ isU v = false then nx (pc + 1) L r μ f else none
    | _ => none) else none
  | .goto off => if len = 3 then tg pc off L st μ f else none
  | .ifCond c off => if len = 3 then (match st with
    | .inl x :: r => cmpA c pc off x 0 L r μ f
    | _ => none) else none
  | .if_icmp c off => if len = 3 then (match st with
    | .inl y :: .inl x :: r => cmpA c pc off x y L r μ f
    | _ => none) else none
  | .ifnull off => if len = 3 then (match st with
    | .inr (.inl (some _)) :: r => nx (pc + 3) L r μ f
    | .inr (.inl none) :: r => tg pc off L r μ f
    | _ => none) else none
  | .tableswitch d lo hi offs => (match st with
    | .inl x :: r => if x < lo ∨ hi < x then tg pc d L r μ f else (match offs[(x - lo).toNat]? with
      | some off => tg pc off L r μ f
      | none => none)
    | _ => none)
  | .getfield k => if len = 3 then (match st, lk fTab (mO y) k with
    | .inr (.inl (some a)) :: r, some (ci, (kk, _)) => ov (gf f a ci kk) (pc + 3) L r μ f
    | _, _ => none) else none
  | .putfield k => if len = 3 then (match st, lk fTab (mO y) k with
    | v :: .inr (.inl (some a)) :: r, some (ci, (kk, _)) => if fitA (cY ci kk) v = true ∧ ((cT ci kk).2.2.2 = false ∨ ((mN y).name = "<init>" ∧ mO y = ci)) then oh (pf f a ci kk v) (pc + 3) L r μ else none
    | _, _ => none) else none
  | .iaload => if len = 1 then (match st with
    | .inl i :: .inr (.inl (some a)) :: r => ov (if a = 0 then sG xs y i else gi f a i) (pc + 1) L r μ f
    | _ => none) else none
  | .iastore => if len = 1 then (match st with
    | .inl x :: .inl i :: .inr (.inl (some a)) :: r => oh (pi f a i x) (pc + 1) L r μ
    | _ => none) else none
  | .aaload => if len = 1 then (match st with
    | .inl i :: .inr (.inl (some a)) :: r => ov (gq f a i) (pc + 1) L r μ f
    | _ => none) else none
  | .aastore => if len = 1 then (match st with
    | .inr (.inl (some b)) :: .inl i :: .inr (.inl (some a)) :: r => oh (pq f a i b) (pc + 1) L r μ
    | _ => none) else none
  | .arraylength => if len = 1 then (match st with
    | .inr (.inl (some a)) :: r => if a = 0 then (if scr y = true then nx (pc + 1) L (vi xs.length :: r) μ f else none) else (match an f a with
      | some n => nx (pc + 1) L (vi n :: r) μ f
      | none => none)
    | _ => none) else none
  | .newarray t => if len = 2 then (match st with
    | .inl n :: r => if 0 ≤ n ∧ n ≤ 100000 then (match t with
      | .int => nx (pc + 2) L (vr (μ.1 + 1) :: r) (μ.1 + 1, (μ.2.1 + 1, μ.2.2 + n.toNat)) (aup f (μ.1 + 1) (iC (List.replicate n.toNat 0)))
      | _ => none) else none
    | _ => none) else none
  | .anewarray k => if len = 3 then (match st, lk cTab (mO y) k with
    | .inl n :: r, some (1, _) => if 0 ≤ n ∧ n ≤ 100000 then nx (pc + 3) L (vr (μ.1 + 1) :: r) (μ.1 + 1, (μ.2.1 + 1, μ.2.2 + n.toNat)) (aup f (μ.1 + 1) (rC (List.replicate n.toNat none))) else none
    | _, _ => none) else none
  | .new k => if len = 3 then (match lk xTab y pc with
    | some (E, _) => if st = [] ∧ 6 ≤ rF y ∧ 100 ≤ rL y then dn (.inr E) (μ.1, (μ.2.1 + 1, μ.2.2 + 6)) f else none
    | none => (match lk cTab (mO y) k with
      | some (ci, _) => nx (pc + 3) L (vr (μ.1 + 1) :: st) (μ.1 + 1, (μ.2.1 + 1, μ.2.2 + cF ci)) (aup f (μ.1 + 1) (oC ci (dfs ci)))
      | none => none)) else none
  | .invokevirtual k => if len = 3 then (match lk vTab (mO y) k with
    | some (y', _) => (match callA y y' (mA y' + 1) (pc + 3) L st with
      | some (.inr (.inr (y', (.inr (.inl (some a)) :: as, q)))) => if isO f a (mO y') = true ∧ a ≠ 0 then some (.inr (.inr (y', (vr a :: as, q)))) else none
      | _ => none)
    | none => none) else none
  | .invokestatic k => if len = 3 then (match lk sTab (mO y) k with
    | some (y', _) => callA y y' (mA y') (pc + 3) L st
    | none => (match lk oTab (mO y) k, st with
      | some (1, _), .inl w :: .inl x :: r => if okSys y r = true then nx (pc + 3) L (vi (if x ≤ w then x else w) :: r) μ f else none
      | some (2, _), .inl n :: .inl 0 :: .inr (.inl (some b)) :: .inl 0 :: .inr (.inl (some a)) :: r => if okSys y r = true then oh (cp f a b n) (pc + 3) L r μ else none
      | _, _ => none)) else none
  | .invokespecial k => if len = 3 then (match lk pTab (mO y) k with
    | some (y', _) => (match callA y y' (mA y' + 1) (pc + 3) L st with
      | some (.inr (.inr (y', (.inr (.inl (some a)) :: as, q)))) => if isO f a (mO y') = true ∧ a ≠ 0 then some (.inr (.inr (y', (vr a :: as, q)))) else none
      | _ => none)
    | none => (match lk oTab (mO y) k, st with
      | some (0, _), .inr (.inl (some a)) :: r => if okSys y r = true then nx (pc + 3) L r μ f else none
      | _, _ => none)) else none
  | .ireturn => if len = 1 then (match st with
    | [.inl x] => (match mR y with
      | some .int => dn (.inl (some (vi x))) μ f
      | some .boolean => if x = 0 ∨ x = 1 then dn (.inl (some (vi x))) μ f else none
      | _ => none)
    | _ => none) else none
  | .lreturn => if len = 1 then (match st with
    | [.inr (.inr (.inl x))] => if mR y = some .long then dn (.inl (some (vl x))) μ f else none
    | _ => none) else none
  | .dreturn => if len = 1 then (match st with
    | [.inr (.inr (.inr (.inl x)))] => if mR y = some .double ∧ nn64 x = true then dn (.inl (some (vd x))) μ f else none
    | _ => none) else none
  | .return_ => if len = 1 then (match st with
    | [] => if mR y = none then dn (.inl none) μ f else none
    | _ => none) else none
  | _ => none
/-- the rows of a method's table hold this pc -/
def hcov (y pc : Nat) : Bool := (mH y).all (fun q => Nat.ble q.1 pc && Nat.blt pc q.2.1)
/-- a run of method y from pc, by fuel -/
def exec (xs : List Int) : Nat → Nat → Nat → List AV → List AV → Mu → AH → Option (Out × (Mu × AH))
  | 0, _, _, _, _, _, _ => none
  | k + 1, y, pc, L, st, μ, f => match decode (mB y) pc with
    | .error _ => none
    | .ok (i, len) => match istep xs y pc len i L st μ f with
      | none => none
      | some (.inl (pc', (L', (st', (μ', f'))))) => exec xs k y pc' L' st' μ' f'
      | some (.inr (.inl r)) => some r
      | some (.inr (.inr (y', (as, (pc', (L', st')))))) => match exec xs k y' 0 (ini y' as) [] μ f with
        | none => none
        | some (.inl none, (μ', f')) => exec xs k y pc' L' st' μ' f'
        | some (.inl (some v), (μ', f')) => exec xs k y pc' L' (v :: st') μ' f'
        | some (.inr E, (μ', f')) => match lk hTab y E with
          | none => if (mH y).isEmpty then some (.inr E, (μ', f')) else none
          | some (_, (_, (h, (j, _)))) => if hcov y (pc' - 3) = true then exec xs k y h (List.replicate (mL y) vu) [] μ' f' else none
end
section
/-! WHAT A RUN COMES TO: Wp, its equations; more fuel changes nothing. -/
def Step1 (xs : List Int) (y pc : Nat) (L st : List AV) (μ : Mu) (f : AH) : Option SR := match decode (mB y) pc with
  | .error _ => none
  | .ok (i, len) => istep xs y pc len i L st μ f
theorem exec_one (xs : List Int) (k y pc : Nat) (L st : List AV) (μ : Mu) (f : AH) : exec xs (k + 1) y pc L st μ f = (match Step1 xs y pc L st μ f with
      | none => none
      | some (.inl (pc', (L', (st', (μ', f'))))) => exec xs k y pc' L' st' μ' f'
      | some (.inr (.inl r)) => some r
      | some (.inr (.inr (y', (as, (pc', (L', st')))))) => match exec xs k y' 0 (ini y' as) [] μ f with
        | none => none
        | some (.inl none, (μ', f')) => exec xs k y pc' L' st' μ' f'
        | some (.inl (some v), (μ', f')) => exec xs k y pc' L' (v :: st') μ' f'
        | some (.inr E, (μ', f')) => match lk hTab y E with
          | none => if (mH y).isEmpty then some (.inr E, (μ', f')) else none
          | some (_, (_, (h, (j, _)))) => if hcov y (pc' - 3) = true then exec xs k y h (List.replicate (mL y) vu) [] μ' f' else none) := by
  unfold Step1
  rw [exec]
  cases decode (mB y) pc with
  | error e => rfl
  | ok q => rfl
theorem exec_up (xs : List Int) : ∀ (k y pc : Nat) (L st : List AV) (μ : Mu) (f : AH) (r : Out × (Mu × AH)), exec xs k y pc L st μ f = some r → exec xs (k + 1) y pc L st μ f = some r := by
  intro k
  induction k with
  | zero => intro y pc L st μ f r h; cases h
  | succ k ih =>
    intro y pc L st μ f r h
    rw [exec_one] at h ⊢
    cases hs : Step1 xs y pc L st μ f with
    | none => rw [hs] at h; cases h
    | some s =>
      rw [hs] at h
      rcases s with ⟨pc', L', st', μ', f'⟩ | q | ⟨y', as, pc', L', st'⟩
      · exact ih _ _ _ _ _ _ _ h
      · exact h
      · dsimp only at h ⊢
        cases hc : exec xs k y' 0 (ini y' as) [] μ f with
        | none => rw [hc] at h; cases h
        | some q =>
          rw [hc] at h
          rw [ih _ _ _ _ _ _ _ hc]
          obtain ⟨o, μ', f'⟩ := q
          rcases o with (_ | v) | E
          · exact ih _ _ _ _ _ _ _ h
          · exact ih _ _ _ _ _ _ _ h
          · dsimp only at h ⊢
            cases hE : lk hTab y E with
            | none => rw [hE] at h; exact h
            | some w =>
              rw [hE] at h
              obtain ⟨w1, w2, w3, w4, w5⟩ := w
              dsimp only at h ⊢
              by_cases hv : hcov y (pc' - 3) = true
              · rw [if_pos hv] at h ⊢
                exact ih _ _ _ _ _ _ _ h
              · rw [if_neg hv] at h; cases h
theorem exec_le (xs : List Int) {k k' y pc : Nat} {L st : List AV} {μ : Mu} {f : AH} {r : Out × (Mu × AH)} (hk : k ≤ k') (h : exec xs k y pc L st μ f = some r) : exec xs k' y pc L st μ f = some r := by
  induction hk with
  | refl => exact h
  | step _ ih => exact exec_up xs _ _ _ _ _ _ _ _ ih
theorem exec_det (xs : List Int) {k k' y pc : Nat} {L st : List AV} {μ : Mu} {f : AH} {r r' : Out × (Mu × AH)} (h : exec xs k y pc L st μ f = some r) (h' : exec xs k' y pc L st μ f = some r') : r = r' := by
  have h1 := exec_le xs (Nat.le_max_left k k') h
  have h2 := exec_le xs (Nat.le_max_right k k') h'
  rw [h1] at h2
  exact Option.some.inj h2
def Wp (xs : List Int) (y pc : Nat) (L st : List AV) (μ : Mu) (f : AH) (Q : Out → Mu → AH → Prop) : Prop := ∃ k o μ' f', exec xs k y pc L st μ f = some (o, (μ', f')) ∧ Q o μ' f'
def WpK (xs : List Int) (y pc : Nat) (L st : List AV) (Q : Out → Mu → AH → Prop) (o : Out) (μ : Mu) (f : AH) : Prop := match o with
  | .inl none => Wp xs y pc L st μ f Q
  | .inl (some v) => Wp xs y pc L (v :: st) μ f Q
  | .inr E => match lk hTab y E with
    | none => (mH y).isEmpty = true ∧ Q (.inr E) μ f
    | some (_, (_, (h, (j, _)))) => hcov y (pc - 3) = true ∧ Wp xs y h (List.replicate (mL y) vu) [] μ f Q
def WpC (xs : List Int) (y' : Nat) (as : List AV) (y pc : Nat) (L st : List AV) (μ : Mu) (f : AH) (Q : Out → Mu → AH → Prop) : Prop := Wp xs y' 0 (ini y' as) [] μ f (WpK xs y pc L st Q)
def WpV (xs : List Int) (o : Option AV) (y pc : Nat) (L st : List AV) (μ : Mu) (f : AH) (Q : Out → Mu → AH → Prop) : Prop := match o with
  | some v => Wp xs y pc L (v :: st) μ f Q
  | none => False
def WpH (xs : List Int) (o : Option AH) (y pc : Nat) (L st : List AV) (μ : Mu) (Q : Out → Mu → AH → Prop) : Prop := match o with
  | some f => Wp xs y pc L st μ f Q
  | none => False
def WpS (xs : List Int) (y : Nat) (s : Option SR) (μ : Mu) (f : AH) (Q : Out → Mu → AH → Prop) : Prop := match s with
  | none => False
  | some (.inl (pc', (L', (st', (μ', f'))))) => Wp xs y pc' L' st' μ' f' Q
  | some (.inr (.inl (o, (μ', f')))) => Q o μ' f'
  | some (.inr (.inr (y', (as, (pc', (L', st')))))) => WpC xs y' as y pc' L' st' μ f Q
theorem Wp_one (xs : List Int) (y pc : Nat) (L st : List AV) (μ : Mu) (f : AH) (Q : Out → Mu → AH → Prop) : Wp xs y pc L st μ f Q = WpS xs y (Step1 xs y pc L st μ f) μ f Q := by
  apply propext
  constructor
  · rintro ⟨k, o, μ', f', h, hQ⟩
    cases k with
    | zero => cases h
    | succ k =>
      rw [exec_one] at h
      cases hs : Step1 xs y pc L st μ f with
      | none => rw [hs] at h; cases h
      | some s =>
        rw [hs] at h
        rcases s with ⟨pc', L', st', μ1, f1⟩ | ⟨o1, μ1, f1⟩ | ⟨y', as, pc', L', st'⟩
        · exact ⟨k, o, μ', f', h, hQ⟩
        · cases h; exact hQ
        · dsimp only at h
          cases hc : exec xs k y' 0 (ini y' as) [] μ f with
          | none => rw [hc] at h; cases h
          | some q =>
            rw [hc] at h
            obtain ⟨o1, μ1, f1⟩ := q
            refine ⟨k, o1, μ1, f1, hc, ?_⟩
            rcases o1 with (_ | v) | E
            · exact ⟨k, o, μ', f', h, hQ⟩
            · exact ⟨k, o, μ', f', h, hQ⟩
            · dsimp only at h
              show (match lk hTab y E with
                | none => (mH y).isEmpty = true ∧ Q (.inr E) μ1 f1
                | some (_, (_, (h, (j, _)))) => hcov y (pc' - 3) = true ∧ Wp xs y h (List.replicate (mL y) vu) [] μ1 f1 Q)
              cases hE : lk hTab y E with
              | none =>
                rw [hE] at h
                dsimp only at h ⊢
                by_cases he : (mH y).isEmpty = true
                · rw [if_pos he] at h; cases h; exact ⟨he, hQ⟩
                · rw [if_neg he] at h; cases h
              | some w =>
                rw [hE] at h
                obtain ⟨w1, w2, w3, w4, w5⟩ := w
                dsimp only at h ⊢
                by_cases hv : hcov y (pc' - 3) = true
                · rw [if_pos hv] at h
                  exact ⟨hv, k, o, μ', f', h, hQ⟩
                · rw [if_neg hv] at h; cases h
  · intro h
    cases hs : Step1 xs y pc L st μ f with
    | none => rw [hs] at h; cases h
    | some s =>
      rw [hs] at h
      rcases s with ⟨pc', L', st', μ1, f1⟩ | ⟨o1, μ1, f1⟩ | ⟨y', as, pc', L', st'⟩
      · obtain ⟨k, o, μ', f', h, hQ⟩ := h
        refine ⟨k + 1, o, μ', f', ?_, hQ⟩
        rw [exec_one, hs]
        exact h
      · refine ⟨1, o1, μ1, f1, ?_, h⟩
        rw [exec_one, hs]
      · obtain ⟨k, o1, μ1, f1, hc, hK⟩ := h
        rcases o1 with (_ | v) | E
        · obtain ⟨k2, o, μ', f', h, hQ⟩ := hK
          refine ⟨max k k2 + 1, o, μ', f', ?_, hQ⟩
          rw [exec_one, hs]
          dsimp only
          rw [exec_le xs (Nat.le_max_left k k2) hc]
          exact exec_le xs (Nat.le_max_right k k2) h
        · obtain ⟨k2, o, μ', f', h, hQ⟩ := hK
          refine ⟨max k k2 + 1, o, μ', f', ?_, hQ⟩
          rw [exec_one, hs]
          dsimp only
          rw [exec_le xs (Nat.le_max_left k k2) hc]
          exact exec_le xs (Nat.le_max_right k k2) h
        · have hK : (match lk hTab y E with
                | none => (mH y).isEmpty = true ∧ Q (.inr E) μ1 f1
                | some (_, (_, (h, (j, _)))) => hcov y (pc' - 3) = true ∧ Wp xs y h (List.replicate (mL y) vu) [] μ1 f1 Q) := hK
          cases hE : lk hTab y E with
          | none =>
            rw [hE] at hK
            obtain ⟨he, hQ⟩ := hK
            refine ⟨k + 1, .inr E, μ1, f1, ?_, hQ⟩
            rw [exec_one, hs]
            dsimp only
            rw [hc]
            dsimp only
            rw [hE]
            dsimp only
            rw [if_pos he]
          | some w =>
            rw [hE] at hK
            obtain ⟨w1, w2, w3, w4, w5⟩ := w
            obtain ⟨hv, k2, o, μ', f', h, hQ⟩ := hK
            refine ⟨max k k2 + 1, o, μ', f', ?_, hQ⟩
            rw [exec_one, hs]
            dsimp only
            rw [exec_le xs (Nat.le_max_left k k2) hc]
            dsimp only
            rw [hE]
            dsimp only
            rw [if_pos hv]
            exact exec_le xs (Nat.le_max_right k k2) h
/-- a method's answer, known -/
def Runs (xs : List Int) (y : Nat) (as : List AV) (μ : Mu) (f : AH) (o : Out) (μ' : Mu) (f' : AH) : Prop := ∃ k, exec xs k y 0 (ini y as) [] μ f = some (o, (μ', f'))
theorem Runs.wp {xs : List Int} {y : Nat} {as : List AV} {μ μ' : Mu} {f f' : AH} {o : Out} (h : Runs xs y as μ f o μ' f') (Q : Out → Mu → AH → Prop) : Wp xs y 0 (ini y as) [] μ f Q = Q o μ' f' := by
  apply propext
  obtain ⟨k, hk⟩ := h
  constructor
  · rintro ⟨k2, o2, μ2, f2, h2, hQ⟩
    cases exec_det xs hk h2
    exact hQ
  · intro hQ
    exact ⟨k, o, μ', f', hk, hQ⟩
theorem Runs.of {xs : List Int} {y : Nat} {as : List AV} {μ μ' : Mu} {f f' : AH} {o : Out} (h : Wp xs y 0 (ini y as) [] μ f (fun o2 μ2 f2 => o2 = o ∧ μ2 = μ' ∧ f2 = f')) : Runs xs y as μ f o μ' f' := by
  obtain ⟨k, o2, μ2, f2, h2, rfl, rfl, rfl⟩ := h
  exact ⟨k, h2⟩
theorem Runs.c {xs : List Int} {y' : Nat} {as : List AV} {μ μ' : Mu} {f f' : AH} {o : Out} (h : Runs xs y' as μ f o μ' f') (y pc : Nat) (L st : List AV) (Q : Out → Mu → AH → Prop) : WpC xs y' as y pc L st μ f Q = WpK xs y pc L st Q o μ' f' := h.wp _
/-- any end is this end: the shape in which methods are told -/
theorem Runs.iff {xs : List Int} {y : Nat} {as : List AV} {μ μ' : Mu} {f f' : AH} {o : Out} (h : ∀ Q : Out → Mu → AH → Prop, Q o μ' f' → Wp xs y 0 (ini y as) [] μ f Q) : Runs xs y as μ f o μ' f' := Runs.of (h _ ⟨rfl, rfl, rfl⟩)
end
section
/-! THE MACHINE'S STATE BEHIND THE ABSTRACT ONE -/
theorem wrp_lo (x : Int) : -2147483648 ≤ wrp x := by unfold wrp; omega
theorem wrp_hi (x : Int) : wrp x < 2147483648 := by unfold wrp; omega
theorem wrp_id {x : Int} (h : -2147483648 ≤ x) (h2 : x < 2147483648) : wrp x = x := by unfold wrp; omega
theorem i32_wrp (x : Int) : i32 (wrp x) = i32 x := by
  unfold i32
  rw [← Int32.toInt_inj, Int32.toInt_ofInt, Int32.toInt_ofInt]
  show Int.bmod (wrp x) 4294967296 = Int.bmod x 4294967296
  unfold wrp
  simp only [Int.bmod]
  split <;> split <;> omega
theorem i32_int {z : Int} (h : -2147483648 ≤ z) (h2 : z < 2147483648) : (i32 z).toInt = z := Int32.toInt_ofInt_of_le h h2
theorem i32_of (x : Int32) : i32 x.toInt = x := Int32.ofInt_toInt x
theorem i32_lo (x : Int32) : -2147483648 ≤ x.toInt := Int32.le_toInt x
theorem i32_hi (x : Int32) : x.toInt < 2147483648 := Int32.toInt_lt x
theorem i32_le {x y : Int} (h : -2147483648 ≤ x ∧ x < 2147483648) (h2 : -2147483648 ≤ y ∧ y < 2147483648) : i32 x ≤ i32 y ↔ x ≤ y := by
  rw [Int32.le_iff_toInt_le, i32_int h.1 h.2, i32_int h2.1 h2.2]
theorem i32_lt {x y : Int} (h : -2147483648 ≤ x ∧ x < 2147483648) (h2 : -2147483648 ≤ y ∧ y < 2147483648) : i32 x < i32 y ↔ x < y := by
  rw [Int32.lt_iff_toInt_lt, i32_int h.1 h.2, i32_int h2.1 h2.2]
theorem i32_eq {x y : Int} (h : -2147483648 ≤ x ∧ x < 2147483648) (h2 : -2147483648 ≤ y ∧ y < 2147483648) : i32 x = i32 y ↔ x = y := by
  rw [← Int32.toInt_inj, i32_int h.1 h.2, i32_int h2.1 h2.2]
theorem i32_nat {z : Int} (h : 0 ≤ z) (h2 : z < 2147483648) : (i32 z).toNatClampNeg = z.toNat := by
  show (i32 z).toInt.toNat = z.toNat
  rw [i32_int (by omega) h2]
theorem i32_in {z : Int} {n : Nat} (h : 0 ≤ z) (h2 : z < n) (hn : n < 2147483648) : vp_in (i32 z) n := vp_in_iff.mpr (by rw [i32_int (by omega) (by omega)]; exact ⟨h, h2⟩)
theorem i32_0 : i32 0 = 0 := rfl
theorem i32_N (n : Nat) : i32 (n : Int) = Int32.ofNat n := rfl
/-- an abstract value as the machine has it -/
def cv (φ : Nat → Nat) (v : AV) : Value := match v with
  | .inl z => .int (i32 z)
  | .inr (.inl none) => .null
  | .inr (.inl (some a)) => .ref (φ a)
  | .inr (.inr (.inl x)) => .long x
  | .inr (.inr (.inr (.inl x))) => .double x
  | .inr (.inr (.inr (.inr _))) => .null
abbrev KI : Type := ClassId × (ClassId × ClassId)
def ce (K : KI) (φ : Nat → Nat) (c : AC) : va_E := match c with
  | .inl (k, fs) => .inr (k, fs.map (cv φ))
  | .inr (.inl xs) => .inl (K.1, xs.length, .inl (fun j => i32 (xs.getD j 0)))
  | .inr (.inr (.inl rs)) => .inl (K.2.1, rs.length, .inr (.inr (.inr (.inr (fun j => (rs.getD j none).map φ)))))
  | .inr (.inr (.inr xs)) => .inl (K.2.2, xs.length, .inr (.inl (fun j => xs.getD j 0)))
def wc (K : KI) (φ : Nat → Nat) (f : AH) (a : Nat) : va_E := match f a with
  | some c => ce K φ c
  | none => .inr (0, [])
def wld (K : KI) (φ : Nat → Nat) (f : AH) (n : Nat) : va_W := (List.range n).map (fun i => (φ (i + 1), wc K φ f (i + 1)))
theorem wld_at (K : KI) (φ : Nat → Nat) (f : AH) (n i : Nat) : (wld K φ f n)[i]? = if i < n then some (φ (i + 1), wc K φ f (i + 1)) else none := by
  unfold wld
  by_cases h : i < n
  · rw [if_pos h, List.getElem?_map, List.getElem?_range h]; rfl
  · rw [if_neg h, List.getElem?_eq_none (by simp; omega)]
theorem wld_len (K : KI) (φ : Nat → Nat) (f : AH) (n : Nat) : (wld K φ f n).length = n := by simp [wld]
def okV (n : Nat) (v : AV) : Prop := match v with
  | .inl z => -2147483648 ≤ z ∧ z < 2147483648
  | .inr (.inl (some a)) => a ≤ n
  | _ => True
theorem okV.up {n m : Nat} {v : AV} (h : okV n v) (hn : n ≤ m) : okV m v := by
  rcases v with z | (_ | a) | x | x | x
  · exact h
  · trivial
  · exact Nat.le_trans h hn
  · trivial
  · trivial
  · trivial
def okC (n : Nat) (c : AC) : Prop := match c with
  | .inl (k, fs) => k < 5 ∧ fs.length = cF k ∧ ∀ v ∈ fs, okV n v ∧ isU v = false
  | .inr (.inl xs) => (∀ x ∈ xs, -2147483648 ≤ x ∧ x < 2147483648) ∧ xs.length < 2147483648
  | .inr (.inr (.inl rs)) => (∀ a : Nat, some a ∈ rs → a ≤ n) ∧ rs.length < 2147483648
  | .inr (.inr (.inr xs)) => xs.length < 2147483648
theorem okC.up {n m : Nat} {c : AC} (h : okC n c) (hn : n ≤ m) : okC m c := by
  rcases c with ⟨k, fs⟩ | xs | rs | xs
  · exact ⟨h.1, h.2.1, fun v hv => ⟨(h.2.2 v hv).1.up hn, (h.2.2 v hv).2⟩⟩
  · exact h
  · exact ⟨fun a ha => Nat.le_trans (h.1 a ha) hn, h.2⟩
  · exact h
def okH (n : Nat) (f : AH) : Prop := (∀ (a : Nat) (c : AC), f a = some c → 1 ≤ a ∧ a ≤ n ∧ okC n c) ∧ ∀ a : Nat, 1 ≤ a → a ≤ n → f a ≠ none
def okS (n : Nat) (st : List AV) : Prop := ∀ v ∈ st, okV n v ∧ isU v = false
/-- two maps of addresses that agree so far -/
def ext (n : Nat) (φ ψ : Nat → Nat) : Prop := ∀ a, a ≤ n → ψ a = φ a
theorem ext.rf {n : Nat} {φ : Nat → Nat} : ext n φ φ := fun _ _ => rfl
theorem ext.tr {n m : Nat} {φ ψ χ : Nat → Nat} (h : ext n φ ψ) (h2 : ext m ψ χ) (hn : n ≤ m) : ext n φ χ := fun a ha => (h2 a (Nat.le_trans ha hn)).trans (h a ha)
theorem cv_ext {n : Nat} {φ ψ : Nat → Nat} (h : ext n φ ψ) {v : AV} (hv : okV n v) : cv ψ v = cv φ v := by
  rcases v with z | (_ | a) | x | x | x
  · rfl
  · rfl
  · show Value.ref (ψ a) = Value.ref (φ a); rw [h a hv]
  · rfl
  · rfl
  · rfl
theorem cvs_ext {n : Nat} {φ ψ : Nat → Nat} (h : ext n φ ψ) {st : List AV} (hv : okS n st) : st.map (cv ψ) = st.map (cv φ) := List.map_congr_left fun v hm => cv_ext h (hv v hm).1
theorem ce_ext {K : KI} {n : Nat} {φ ψ : Nat → Nat} (h : ext n φ ψ) {c : AC} (hc : okC n c) : ce K ψ c = ce K φ c := by
  rcases c with ⟨k, fs⟩ | xs | rs | xs
  · show Sum.inr (k, fs.map (cv ψ)) = Sum.inr (k, fs.map (cv φ))
    rw [List.map_congr_left fun v hm => cv_ext h (hc.2.2 v hm).1]
  · rfl
  · show Sum.inl (K.2.1, rs.length, Sum.inr (Sum.inr (Sum.inr (Sum.inr fun j => (rs.getD j none).map ψ)))) = Sum.inl (K.2.1, rs.length, Sum.inr (Sum.inr (Sum.inr (Sum.inr fun j => (rs.getD j none).map φ))))
    have e : (fun j => (rs.getD j none).map ψ) = (fun j => (rs.getD j none).map φ) := by
      funext j
      cases hj : rs.getD j none with
      | none => rfl
      | some a =>
        have hm : some a ∈ rs := by
          rw [List.getD_eq_getElem?_getD] at hj
          cases hq : rs[j]? with
          | none => rw [hq] at hj; cases hj
          | some w => rw [hq] at hj; cases hj; exact List.mem_of_getElem? hq
        show some (ψ a) = some (φ a)
        rw [h a (hc.1 a hm)]
    rw [e]
  · rfl
theorem wc_some {K : KI} {φ : Nat → Nat} {f : AH} {a : Nat} {c : AC} (h : f a = some c) : wc K φ f a = ce K φ c := by unfold wc; rw [h]
theorem wld_get {K : KI} {φ : Nat → Nat} {f : AH} {n a : Nat} {c : AC} (ho : okH n f) (h : f a = some c) : (wld K φ f n)[a - 1]? = some (φ a, ce K φ c) := by
  obtain ⟨h1, h2, -⟩ := ho.1 a c h
  rw [wld_at, if_pos (by omega), Nat.sub_add_cancel h1, wc_some h]
theorem aup_same (f : AH) (a : Nat) (c : AC) : aup f a c a = some c := by simp [aup]
theorem aup_ne (f : AH) {a b : Nat} (c : AC) (h : b ≠ a) : aup f a c b = f b := by simp [aup, h]
theorem wld_set {K : KI} {φ : Nat → Nat} {f : AH} {n a : Nat} {c c' : AC} (ho : okH n f) (h : f a = some c) : (wld K φ f n).set (a - 1) (φ a, ce K φ c') = wld K φ (aup f a c') n := by
  obtain ⟨h1, h2, -⟩ := ho.1 a c h
  apply List.ext_getElem?
  intro i
  rw [List.getElem?_set, wld_len, wld_at, wld_at]
  by_cases hi : a - 1 = i
  · subst hi
    rw [if_pos rfl, if_pos (by omega), if_pos (by omega), Nat.sub_add_cancel h1, wc_some (aup_same f a c')]
  · rw [if_neg hi]
    by_cases hn : i < n
    · rw [if_pos hn, if_pos hn]
      have e : wc K φ (aup f a c') (i + 1) = wc K φ f (i + 1) := by unfold wc; rw [aup_ne f c' (by omega)]
      rw [e]
    · rw [if_neg hn, if_neg hn]
theorem okH_set {n : Nat} {f : AH} {a : Nat} {c c' : AC} (ho : okH n f) (h : f a = some c) (hc : okC n c') : okH n (aup f a c') := by
  obtain ⟨h1, h2, -⟩ := ho.1 a c h
  refine ⟨fun b d hb => ?_, fun b b1 b2 => ?_⟩
  · by_cases e : b = a
    · subst e; rw [aup_same] at hb; cases hb; exact ⟨h1, h2, hc⟩
    · rw [aup_ne f c' e] at hb; exact ho.1 b d hb
  · by_cases e : b = a
    · subst e; rw [aup_same]; simp
    · rw [aup_ne f c' e]; exact ho.2 b b1 b2
theorem okH_new {n : Nat} {f : AH} {c : AC} (ho : okH n f) (hc : okC (n + 1) c) : okH (n + 1) (aup f (n + 1) c) := by
  refine ⟨fun b d hb => ?_, fun b b1 b2 => ?_⟩
  · by_cases e : b = n + 1
    · subst e; rw [aup_same] at hb; cases hb; exact ⟨by omega, Nat.le_refl _, hc⟩
    · rw [aup_ne f c e] at hb; obtain ⟨q1, q2, q3⟩ := ho.1 b d hb; exact ⟨q1, by omega, q3.up (by omega)⟩
  · by_cases e : b = n + 1
    · subst e; rw [aup_same]; simp
    · rw [aup_ne f c e]; exact ho.2 b b1 (by omega)
theorem wld_ext {K : KI} {n : Nat} {φ ψ : Nat → Nat} {f : AH} (h : ext n φ ψ) (ho : okH n f) : wld K ψ f n = wld K φ f n := by
  unfold wld
  apply List.map_congr_left
  intro i hi
  have hi := List.mem_range.mp hi
  rw [h (i + 1) (by omega)]
  cases hf : f (i + 1) with
  | none => exact absurd hf (ho.2 (i + 1) (by omega) (by omega))
  | some c => rw [wc_some hf, wc_some hf, ce_ext h (ho.1 _ _ hf).2.2]
def aupN (φ : Nat → Nat) (k q : Nat) : Nat → Nat := fun a => if a = k then q else φ a
theorem aupN_ext (φ : Nat → Nat) (n q : Nat) : ext n φ (aupN φ (n + 1) q) := fun a ha => by simp [aupN]; omega
theorem wld_new {K : KI} {φ : Nat → Nat} {f : AH} {n q : Nat} {c : AC} (ho : okH n f) : wld K φ f n ++ [(q, ce K (aupN φ (n + 1) q) c)] = wld K (aupN φ (n + 1) q) (aup f (n + 1) c) (n + 1) := by
  have e1 : wld K (aupN φ (n + 1) q) (aup f (n + 1) c) (n + 1) = wld K (aupN φ (n + 1) q) (aup f (n + 1) c) n ++ [(aupN φ (n + 1) q (n + 1), wc K (aupN φ (n + 1) q) (aup f (n + 1) c) (n + 1))] := by
    unfold wld
    rw [List.range_succ, List.map_append]
    rfl
  have e2 : wld K (aupN φ (n + 1) q) (aup f (n + 1) c) n = wld K (aupN φ (n + 1) q) f n := by
    unfold wld
    apply List.map_congr_left
    intro i hi
    have hi := List.mem_range.mp hi
    have e : wc K (aupN φ (n + 1) q) (aup f (n + 1) c) (i + 1) = wc K (aupN φ (n + 1) q) f (i + 1) := by unfold wc; rw [aup_ne f c (by omega)]
    rw [e]
  rw [e1, e2, wld_ext (aupN_ext φ n q) ho, wc_some (aup_same f (n + 1) c)]
  simp [aupN]
/-- the locals -/
def lps (φ : Nat → Nat) (L : List AV) : List (Nat × Value) := (List.range L.length).filterMap (fun i => match L[i]? with
  | some v => if isU v then none else some (i, cv φ v)
  | none => none)
theorem lps_mem {φ : Nat → Nat} {L : List AV} {i : Nat} {w : Value} : (i, w) ∈ lps φ L ↔ ∃ v, L[i]? = some v ∧ isU v = false ∧ w = cv φ v := by
  unfold lps
  rw [List.mem_filterMap]
  constructor
  · rintro ⟨j, hj, h⟩
    have hj := List.mem_range.mp hj
    rw [List.getElem?_eq_getElem hj] at h
    dsimp only at h
    by_cases hu : isU L[j] = true
    · rw [if_pos hu] at h; cases h
    · rw [if_neg hu] at h
      have h := Option.some.inj h
      have h1 := congrArg Prod.fst h
      have h2 := congrArg Prod.snd h
      dsimp only at h1 h2
      subst h1
      exact ⟨L[j], List.getElem?_eq_getElem hj, by simpa using hu, h2.symm⟩
  · rintro ⟨v, h1, h2, rfl⟩
    refine ⟨i, List.mem_range.mpr (List.getElem?_eq_some_iff.mp h1).1, ?_⟩
    rw [h1]
    simp [h2]
def LR (φ : Nat → Nat) (n nL : Nat) (L : List AV) (ls : Array Slot) : Prop := lv_has ls nL (lps φ L) ∧ L.length = nL ∧ ∀ v ∈ L, okV n v
theorem LR.at {φ : Nat → Nat} {n nL : Nat} {L : List AV} {ls : Array Slot} (h : LR φ n nL L ls) {i : Nat} {v : AV} (hi : L[i]? = some v) (hu : isU v = false) : ls[i]? = some (.val (cv φ v)) := h.1.2.2 (i, cv φ v) (lps_mem.mpr ⟨v, hi, hu, rfl⟩)
theorem LR.ok {φ : Nat → Nat} {n nL : Nat} {L : List AV} {ls : Array Slot} (h : LR φ n nL L ls) {i : Nat} {v : AV} (hi : L[i]? = some v) : okV n v := h.2.2 v (List.mem_of_getElem? hi)
theorem LR.ext {φ ψ : Nat → Nat} {n m nL : Nat} {L : List AV} {ls : Array Slot} (h : LR φ n nL L ls) (e : ext n φ ψ) (hn : n ≤ m) : LR ψ m nL L ls := by
  refine ⟨⟨h.1.1, h.1.2.1, fun q hq => ?_⟩, h.2.1, fun v hv => (h.2.2 v hv).up hn⟩
  obtain ⟨i, w⟩ := q
  obtain ⟨v, h1, h2, rfl⟩ := lps_mem.mp hq
  rw [cv_ext e (h.ok h1)]
  exact h.at h1 h2
theorem lv_mono {ls : Array Slot} {nL : Nat} {l l' : List (Nat × Value)} (h : lv_has ls nL l) (hs : ∀ q ∈ l', q ∈ l) : lv_has ls nL l' := ⟨h.1, h.2.1, fun q hq => h.2.2 q (hs q hq)⟩
theorem cat_cv {φ : Nat → Nat} {v : AV} (h : cat2 v = false) : (cv φ v).category = 1 := by
  rcases v with z | (_ | a) | x | x | x
  · rfl
  · rfl
  · rfl
  · cases h
  · cases h
  · rfl
theorem cat_cv2 {φ : Nat → Nat} {v : AV} : (cv φ v).category ≤ 2 := by
  rcases v with z | (_ | a) | x | x | x <;> simp [cv, Value.category]
/-- behind a store of one word -/
theorem LR.st {φ : Nat → Nat} {n nL i : Nat} {L : List AV} {v : AV} {ls' : Array Slot} (hl : L.length = nL) (ho : ∀ w ∈ L, okV n w) (hv : okV n v) (hu : isU v = false) (hi : i < L.length) (hc : i = 0 ∨ cat2 (L.getD (i - 1) vu) = false)
    (h : lv_has ls' nL ((i, cv φ v) :: (lps φ L).filter (fun q => !(q.1 == i) && !(q.1 + 1 == i && q.2.category == 2)))) : LR φ n nL (L.set i v) ls' := by
  refine ⟨lv_mono h fun q hq => ?_, by rw [List.length_set]; exact hl, fun w hw => ?_⟩
  · obtain ⟨j, w⟩ := q
    obtain ⟨v2, h1, h2, rfl⟩ := lps_mem.mp hq
    rw [List.getElem?_set] at h1
    by_cases e : i = j
    · subst e
      rw [if_pos rfl, if_pos hi] at h1
      cases h1
      exact List.mem_cons_self
    · rw [if_neg e] at h1
      refine List.mem_cons_of_mem _ (List.mem_filter.mpr ⟨lps_mem.mpr ⟨v2, h1, h2, rfl⟩, ?_⟩)
      have e1 : (j == i) = false := by simp; omega
      have e2 : (j + 1 == i && (cv φ v2).category == 2) = false := by
        by_cases e3 : j + 1 = i
        · rcases hc with hc | hc
          · omega
          · rw [← e3, Nat.add_sub_cancel, List.getD_eq_getElem?_getD, h1] at hc
            rw [cat_cv (v := v2) hc]; simp
        · simp [e3]
      show (!(j == i) && !(j + 1 == i && (cv φ v2).category == 2)) = true
      rw [e1, e2]; rfl
  · rcases List.mem_or_eq_of_mem_set hw with hw | rfl
    · exact ho w hw
    · exact hv
theorem LR.st2 {φ : Nat → Nat} {n nL i : Nat} {L : List AV} {v : AV} {ls' : Array Slot} (hl : L.length = nL) (ho : ∀ w ∈ L, okV n w) (hv : okV n v) (hu : isU v = false) (hi : i + 1 < L.length) (hc : i = 0 ∨ cat2 (L.getD (i - 1) vu) = false)
    (h : lv_has ls' nL ((i, cv φ v) :: (lps φ L).filter (fun q => !(q.1 == i) && (!(q.1 == i + 1) && !(q.1 + 1 == i && q.2.category == 2))))) : LR φ n nL ((L.set i v).set (i + 1) vu) ls' := by
  refine ⟨lv_mono h fun q hq => ?_, by rw [List.length_set, List.length_set]; exact hl, fun w hw => ?_⟩
  · obtain ⟨j, w⟩ := q
    obtain ⟨v2, h1, h2, rfl⟩ := lps_mem.mp hq
    rw [List.getElem?_set] at h1
    by_cases e0 : i + 1 = j
    · rw [if_pos e0, if_pos (by rw [List.length_set]; exact hi)] at h1
      cases h1
      cases h2
    rw [if_neg e0, List.getElem?_set] at h1
    by_cases e : i = j
    · subst e
      rw [if_pos rfl, if_pos (by omega)] at h1
      cases h1
      exact List.mem_cons_self
    · rw [if_neg e] at h1
      refine List.mem_cons_of_mem _ (List.mem_filter.mpr ⟨lps_mem.mpr ⟨v2, h1, h2, rfl⟩, ?_⟩)
      have e1 : (j == i) = false := by simp; omega
      have e4 : (j == i + 1) = false := by simp; omega
      have e2 : (j + 1 == i && (cv φ v2).category == 2) = false := by
        by_cases e3 : j + 1 = i
        · rcases hc with hc | hc
          · omega
          · rw [← e3, Nat.add_sub_cancel, List.getD_eq_getElem?_getD, h1] at hc
            rw [cat_cv (v := v2) hc]; simp
        · simp [e3]
      show (!(j == i) && (!(j == i + 1) && !(j + 1 == i && (cv φ v2).category == 2))) = true
      rw [e1, e2, e4]; rfl
  · rcases List.mem_or_eq_of_mem_set hw with hw | rfl
    · rcases List.mem_or_eq_of_mem_set hw with hw | rfl
      · exact ho w hw
      · exact hv
    · trivial
/-- fewer known locals -/
theorem LR.forget {φ : Nat → Nat} {n nL j : Nat} {L : List AV} {ls : Array Slot} (h : LR φ n nL L ls) : LR φ n nL (L.set j vu) ls := by
  refine ⟨lv_mono h.1 fun q hq => ?_, by rw [List.length_set]; exact h.2.1, fun w hw => ?_⟩
  · obtain ⟨i, w⟩ := q
    obtain ⟨v2, h1, h2, rfl⟩ := lps_mem.mp hq
    rw [List.getElem?_set] at h1
    by_cases e : j = i
    · rw [if_pos e] at h1
      split at h1
      · cases h1; cases h2
      · cases h1
    · rw [if_neg e] at h1; exact lps_mem.mpr ⟨v2, h1, h2, rfl⟩
  · rcases List.mem_or_eq_of_mem_set hw with hw | rfl
    · exact h.2.2 w hw
    · trivial
end
section
/-! ONE INSTRUCTION: the abstract step is the machine's -/
theorem ifs {α : Type} {c : Prop} [Decidable c] {a : Option α} {r : α} (h : (if c then a else none) = some r) : c ∧ a = some r := by
  by_cases hc : c
  · rw [if_pos hc] at h; exact ⟨hc, h⟩
  · rw [if_neg hc] at h; cases h
theorem nx_inv {pc : Nat} {L st : List AV} {μ : Mu} {f : AH} {pc' : Nat} {L' st' : List AV} {μ' : Mu} {f' : AH} (h : nx pc L st μ f = some (.inl (pc', (L', (st', (μ', f')))))) : pc' = pc ∧ L' = L ∧ st' = st ∧ μ' = μ ∧ f' = f := by
  unfold nx at h
  cases h
  exact ⟨rfl, rfl, rfl, rfl, rfl⟩
theorem tg_inv {pc : Nat} {off : Int} {L st : List AV} {μ : Mu} {f : AH} {r : SR} (h : tg pc off L st μ f = some r) : ∃ t : Nat, (pc : Int) + off = (t : Int) ∧ nx t L st μ f = some r := by
  obtain ⟨h1, h2⟩ := ifs h
  exact ⟨_, (Int.toNat_of_nonneg h1).symm, h2⟩
theorem br_inv {b : Prop} [Decidable b] {pc : Nat} {off : Int} {L st : List AV} {μ : Mu} {f : AH} {r : SR} (h : br b pc off L st μ f = some r) : ∃ t : Nat, (pc : Int) + off = (t : Int) ∧ ((b ∧ nx t L st μ f = some r) ∨ (¬ b ∧ nx (pc + 3) L st μ f = some r)) := by
  unfold br at h
  obtain ⟨h1, h2⟩ := ifs h
  refine ⟨_, (Int.toNat_of_nonneg h1).symm, ?_⟩
  by_cases hb : b
  · rw [if_pos hb] at h2; exact Or.inl ⟨hb, h2⟩
  · rw [if_neg hb] at h2; exact Or.inr ⟨hb, h2⟩
theorem ii2_inv {g : Int → Int → Option Int} {pc : Nat} {L st : List AV} {μ : Mu} {f : AH} {r : SR} (h : ii2 g pc L st μ f = some r) : ∃ x y z t, st = vi y :: vi x :: t ∧ g x y = some z ∧ nx pc L (vi z :: t) μ f = some r := by
  unfold ii2 at h
  split at h
  · rename_i y x t
    cases hz : g x y with
    | none => rw [hz] at h; cases h
    | some z => rw [hz] at h; exact ⟨x, y, z, t, rfl, hz, h⟩
  · cases h
theorem ll2_inv {g : Int64 → Int64 → Int64} {pc : Nat} {L st : List AV} {μ : Mu} {f : AH} {r : SR} (h : ll2 g pc L st μ f = some r) : ∃ x y t, st = vl y :: vl x :: t ∧ nx pc L (vl (g x y) :: t) μ f = some r := by
  unfold ll2 at h
  split at h
  · rename_i y x t
    exact ⟨x, y, t, rfl, h⟩
  · cases h
theorem dd2_inv {g : UInt64 → UInt64 → UInt64} {pc : Nat} {L st : List AV} {μ : Mu} {f : AH} {r : SR} (h : dd2 g pc L st μ f = some r) : ∃ x y t, st = vd y :: vd x :: t ∧ nn64 (g x y) = true ∧ nx pc L (vd (g x y) :: t) μ f = some r := by
  unfold dd2 at h
  split at h
  · rename_i y x t
    obtain ⟨h1, h2⟩ := ifs h
    exact ⟨x, y, t, rfl, h1, h2⟩
  · cases h
theorem ov_inv {o : Option AV} {pc : Nat} {L st : List AV} {μ : Mu} {f : AH} {r : SR} (h : ov o pc L st μ f = some r) : ∃ v, o = some v ∧ nx pc L (v :: st) μ f = some r := by
  cases o with
  | none => cases h
  | some v => exact ⟨v, rfl, h⟩
theorem oh_inv {o : Option AH} {pc : Nat} {L st : List AV} {μ : Mu} {r : SR} (h : oh o pc L st μ = some r) : ∃ f, o = some f ∧ nx pc L st μ f = some r := by
  cases o with
  | none => cases h
  | some v => exact ⟨v, rfl, h⟩
theorem ol_inv {o : Option (List AV)} {pc : Nat} {st : List AV} {μ : Mu} {f : AH} {r : SR} (h : ol o pc st μ f = some r) : ∃ L, o = some L ∧ nx pc L st μ f = some r := by
  cases o with
  | none => cases h
  | some v => exact ⟨v, rfl, h⟩
theorem nn64_of {r : UInt64} (h : nn64 r = true) : vf_n64 r := by
  have h2 : r &&& 0x7fffffffffffffff ≤ 0x7ff0000000000000 := of_decide_eq_true h
  exact h2
def NMd : List String := ["java/lang/RuntimeException", "java/lang/Exception", Bundle.tN]
/-- what holds of the launch's tables and constants at a state -/
def GW (s : State) (A : Nat → Prop) (sa : Nat → Nat) : Prop :=
  (vx_Zq Bundle.tN "UNASSIGNED_STACK" Bundle.steD A s s.heap ∧ vx_Zq Bundle.tN "SUPPRESSED_SENTINEL" Bundle.listD A s s.heap) ∧ (∀ k, k < 21 → vk_R RX3 (txtI k) (txt k) (sa k) s) ∧ ((∀ E, va_Nw (.castable (eN E) (eN E)) s) ∧ ∀ n ∈ NMd, va_Nw (.declares (Bundle.initS n)) s) ∧
  (True ∧ va_AO RX1 s ∧ va_Nw (.methodLinkNest RX3 9 yX1_init RX3) s ∧ va_Nw (.methodLinkNest RX3 29 yX2_init RX3) s)
def CX (p : Program) (s : State) (m : MethodId) (args : Array Value) (meth : Method) (c : Code) (y : Nat) (K : KI) (D : va_G) (A : Nat → Prop) (sa : Nat → Nat) : Prop :=
  p.tables.exec = Jvm.exec ∧ c.code = mB y ∧ c.maxLocals = mL y ∧ s.vm.findClass (cN (mO y)) = some m.cls ∧ (∀ w ∈ lw_gd, w.before args s = true) ∧ va_K D vwCl [(K.1, .int), (K.2.1, .object RX1)] s ∧ (∀ q, s.heap.size ≤ q → A q) ∧ meth.locks = false ∧ GW s A sa ∧ ((mN y).name = "<init>" → meth.name = "<init>") ∧ meth.sig.returnType = mR y
def RH (K : KI) (D : va_G) (A : Nat → Prop) (s : State) (φ : Nat → Nat) (f : AH) (n : Nat) (H : Heap) (locs : List Loc) : Prop := va_P D vwCl (wld K φ f n) H ∧ va_D A (wld K φ f n) ∧ va_S A s.heap H locs ∧ okH n f
/-- the script -/
def SX (xs : List Int) (y : Nat) (s : State) (A : Nat → Prop) (φ : Nat → Nat) : Prop := va_X (φ 0) xs.length (fun j => i32 (xs.getD j 0)) s s.heap ∧ φ 0 < s.heap.size ∧ ¬ A (φ 0) ∧ (∀ x ∈ xs, -2147483648 ≤ x ∧ x < 2147483648) ∧ xs.length < 2147483648
theorem SX.ext {xs : List Int} {y n : Nat} {s : State} {A : Nat → Prop} {φ ψ : Nat → Nat} (h : SX xs y s A φ) (e : ext n φ ψ) : SX xs y s A ψ := by unfold SX; rw [e 0 (Nat.zero_le _)]; exact h
def SNg (p : Program) (l : Launch) (e : Env) (R : Room) (s : State) (m : MethodId) (args : Array Value) (below : List Frame) (meth : Method) (c : Code) (Q : State → Prop) (xs : List Int) (y : Nat) (K : KI) (D : va_G) (A : Nat → Prop) (sa : Nat → Nat) (i : Instr) : Prop :=
  ∀ (pc len : Nat) (L st : List AV) (μ : Mu) (f : AH) (φ : Nat → Nat) (ls : Array Slot) (H : Heap) (locs : List Loc) (cells slots pc' : Nat) (L' st' : List AV) (μ' : Mu) (f' : AH),
    CX p s m args meth c y K D A sa → SX xs y s A φ → LR φ μ.1 (mL y) L ls → okS μ.1 st → RH K D A s φ f μ.1 H locs → decode (mB y) pc = .ok (i, len) → istep xs y pc len i L st μ f = some (.inl (pc', (L', (st', (μ', f'))))) →
    cells + (μ'.2.1 - μ.2.1) ≤ R.cells → slots + (μ'.2.2 - μ.2.2) ≤ R.slots → rF y ≤ R.frames → rL y ≤ R.locals →
    (∀ (φ' : Nat → Nat) (ls' : Array Slot) (H' : Heap) (locs' : List Loc), ext μ.1 φ φ' → LR φ' μ'.1 (mL y) L' ls' → okS μ'.1 st' → RH K D A s φ' f' μ'.1 H' locs' → μ.1 ≤ μ'.1 →
      W p l e R s m args below meth c H' locs' (cells + (μ'.2.1 - μ.2.1)) (slots + (μ'.2.2 - μ.2.2)) Q (F0 m pc' ls' (st'.map (cv φ')))) →
    W p l e R s m args below meth c H locs cells slots Q (F0 m pc ls (st.map (cv φ)))
section SN
variable {p : Program} {l : Launch} {e : Env} {R : Room} {s : State} {m : MethodId} {args : Array Value} {below : List Frame} {meth : Method} {c : Code} {H : Heap} {locs : List Loc} {cells slots : Nat} {Q : State → Prop}
variable {xs : List Int} {y : Nat} {K : KI} {D : va_G} {A : Nat → Prop} {sa : Nat → Nat} {φ : Nat → Nat} {f : AH} {μ : Mu} {L st : List AV} {ls : Array Slot} {pc' : Nat}
/-- nothing made, nothing written -/
theorem kp {L' st' : List AV} (hH : RH K D A s φ f μ.1 H locs)
    (kk : ∀ (φ' : Nat → Nat) (ls' : Array Slot) (H' : Heap) (locs' : List Loc), ext μ.1 φ φ' → LR φ' μ.1 (mL y) L' ls' → okS μ.1 st' → RH K D A s φ' f μ.1 H' locs' → μ.1 ≤ μ.1 →
      W p l e R s m args below meth c H' locs' (cells + (μ.2.1 - μ.2.1)) (slots + (μ.2.2 - μ.2.2)) Q (F0 m pc' ls' (st'.map (cv φ')))) {ls' : Array Slot} (h1 : LR φ μ.1 (mL y) L' ls') (h2 : okS μ.1 st') :
    W p l e R s m args below meth c H locs cells slots Q (F0 m pc' ls' (st'.map (cv φ))) := by
  have h := kk φ ls' H locs ext.rf h1 h2 hH (Nat.le_refl _)
  rw [Nat.sub_self, Nat.add_zero, Nat.sub_self, Nat.add_zero] at h
  exact h
/-- a heap changed, nothing made -/
theorem kh {L' st' : List AV} {f' : AH} {H' : Heap} {locs' : List Loc}
    (kk : ∀ (φ' : Nat → Nat) (ls' : Array Slot) (H' : Heap) (locs' : List Loc), ext μ.1 φ φ' → LR φ' μ.1 (mL y) L' ls' → okS μ.1 st' → RH K D A s φ' f' μ.1 H' locs' → μ.1 ≤ μ.1 →
      W p l e R s m args below meth c H' locs' (cells + (μ.2.1 - μ.2.1)) (slots + (μ.2.2 - μ.2.2)) Q (F0 m pc' ls' (st'.map (cv φ')))) {ls' : Array Slot} (h1 : LR φ μ.1 (mL y) L' ls') (h2 : okS μ.1 st') (hH : RH K D A s φ f' μ.1 H' locs') :
    W p l e R s m args below meth c H' locs' cells slots Q (F0 m pc' ls' (st'.map (cv φ))) := by
  have h := kk φ ls' H' locs' ext.rf h1 h2 hH (Nat.le_refl _)
  rw [Nat.sub_self, Nat.add_zero, Nat.sub_self, Nat.add_zero] at h
  exact h
theorem okS.tl {n : Nat} {v : AV} {st : List AV} (h : okS n (v :: st)) : okS n st := fun w hw => h w (List.mem_cons_of_mem _ hw)
theorem okS.hd {n : Nat} {v : AV} {st : List AV} (h : okS n (v :: st)) : okV n v ∧ isU v = false := h v List.mem_cons_self
theorem okS.cons {n : Nat} {v : AV} {st : List AV} (h : okS n st) (h1 : okV n v) (h2 : isU v = false) : okS n (v :: st) := fun w hw => (List.mem_cons.mp hw).elim (fun e => e ▸ ⟨h1, h2⟩) (h w)
theorem ld1_inv {k : Nat} {o : Option AV} {pc : Nat} {r : SR} (h : ld1 o k pc L st μ f = some r) : ∃ v, o = some v ∧ isU v = false ∧ nx pc L (v :: st) μ f = some r ∧ ((k = 0 ∧ ∃ x, v = vi x) ∨ (k = 1 ∧ ∃ a, v = vr a) ∨ (k = 2 ∧ ∃ x, v = vl x) ∨ (k = 3 ∧ ∃ x, v = vd x)) := by
  cases o with
  | none => cases h
  | some v =>
    unfold ld1 at h
    dsimp only at h
    split at h
    · exact ⟨_, rfl, rfl, h, Or.inl ⟨rfl, _, rfl⟩⟩
    · exact ⟨_, rfl, rfl, h, Or.inr (Or.inl ⟨rfl, _, rfl⟩)⟩
    · exact ⟨_, rfl, rfl, h, Or.inr (Or.inr (Or.inl ⟨rfl, _, rfl⟩))⟩
    · exact ⟨_, rfl, rfl, h, Or.inr (Or.inr (Or.inr ⟨rfl, _, rfl⟩))⟩
    · cases h
theorem sn_aload_n (k : Fin 4) : SNg p l e R s m args below meth c Q xs y K D A sa (.aload_n k) := by
  intro pc len L st μ f φ ls H locs cells slots pc' L' st' μ' f' X hX hL hS hH hd h8 hc hs hF hl kk
  obtain ⟨rfl, h⟩ := ifs h8
  obtain ⟨v, hv, hu, hn, hk⟩ := ld1_inv h
  obtain ⟨rfl, rfl, rfl, rfl, rfl⟩ := nx_inv hn
  rcases hk with ⟨h0, _⟩ | ⟨_, a, rfl⟩ | ⟨h0, _⟩ | ⟨h0, _⟩
  · cases h0
  · exact lv_aload_n X.1 X.2.1 hd rfl (hL.at hv rfl) (kp hH kk hL (hS.cons (hL.ok hv) hu))
  · cases h0
  · cases h0
theorem sn_aload (k : Nat) : SNg p l e R s m args below meth c Q xs y K D A sa (.aload k) := by
  intro pc len L st μ f φ ls H locs cells slots pc' L' st' μ' f' X hX hL hS hH hd h8 hc hs hF hl kk
  obtain ⟨rfl, h⟩ := ifs h8
  obtain ⟨v, hv, hu, hn, hk⟩ := ld1_inv h
  obtain ⟨rfl, rfl, rfl, rfl, rfl⟩ := nx_inv hn
  rcases hk with ⟨h0, _⟩ | ⟨_, a, rfl⟩ | ⟨h0, _⟩ | ⟨h0, _⟩
  · cases h0
  · exact lv_aload X.1 X.2.1 hd (hL.at hv rfl) (kp hH kk hL (hS.cons (hL.ok hv) hu))
  · cases h0
  · cases h0
theorem sn_iload_n (k : Fin 4) : SNg p l e R s m args below meth c Q xs y K D A sa (.iload_n k) := by
  intro pc len L st μ f φ ls H locs cells slots pc' L' st' μ' f' X hX hL hS hH hd h8 hc hs hF hl kk
  obtain ⟨rfl, h⟩ := ifs h8
  obtain ⟨v, hv, hu, hn, hk⟩ := ld1_inv h
  obtain ⟨rfl, rfl, rfl, rfl, rfl⟩ := nx_inv hn
  rcases hk with ⟨_, a, rfl⟩ | ⟨h0, _⟩ | ⟨h0, _⟩ | ⟨h0, _⟩
  · exact lv_iload_n X.1 X.2.1 hd rfl (hL.at hv rfl) (kp hH kk hL (hS.cons (hL.ok hv) hu))
  · cases h0
  · cases h0
  · cases h0
theorem sn_iload (k : Nat) : SNg p l e R s m args below meth c Q xs y K D A sa (.iload k) := by
  intro pc len L st μ f φ ls H locs cells slots pc' L' st' μ' f' X hX hL hS hH hd h8 hc hs hF hl kk
  obtain ⟨rfl, h⟩ := ifs h8
  obtain ⟨v, hv, hu, hn, hk⟩ := ld1_inv h
  obtain ⟨rfl, rfl, rfl, rfl, rfl⟩ := nx_inv hn
  rcases hk with ⟨_, a, rfl⟩ | ⟨h0, _⟩ | ⟨h0, _⟩ | ⟨h0, _⟩
  · exact lv_iload X.1 X.2.1 hd (hL.at hv rfl) (kp hH kk hL (hS.cons (hL.ok hv) hu))
  · cases h0
  · cases h0
  · cases h0
theorem sn_lload_n (k : Fin 4) : SNg p l e R s m args below meth c Q xs y K D A sa (.lload_n k) := by
  intro pc len L st μ f φ ls H locs cells slots pc' L' st' μ' f' X hX hL hS hH hd h8 hc hs hF hl kk
  obtain ⟨rfl, h⟩ := ifs h8
  obtain ⟨v, hv, hu, hn, hk⟩ := ld1_inv h
  obtain ⟨rfl, rfl, rfl, rfl, rfl⟩ := nx_inv hn
  rcases hk with ⟨h0, _⟩ | ⟨h0, _⟩ | ⟨_, a, rfl⟩ | ⟨h0, _⟩
  · cases h0
  · cases h0
  · exact lv_lload_n X.1 X.2.1 hd rfl (hL.at hv rfl) (kp hH kk hL (hS.cons (hL.ok hv) hu))
  · cases h0
theorem sn_lload (k : Nat) : SNg p l e R s m args below meth c Q xs y K D A sa (.lload k) := by
  intro pc len L st μ f φ ls H locs cells slots pc' L' st' μ' f' X hX hL hS hH hd h8 hc hs hF hl kk
  obtain ⟨rfl, h⟩ := ifs h8
  obtain ⟨v, hv, hu, hn, hk⟩ := ld1_inv h
  obtain ⟨rfl, rfl, rfl, rfl, rfl⟩ := nx_inv hn
  rcases hk with ⟨h0, _⟩ | ⟨h0, _⟩ | ⟨_, a, rfl⟩ | ⟨h0, _⟩
  · cases h0
  · cases h0
  · exact lv_lload X.1 X.2.1 hd (hL.at hv rfl) (kp hH kk hL (hS.cons (hL.ok hv) hu))
  · cases h0
theorem sn_dload_n (k : Fin 4) : SNg p l e R s m args below meth c Q xs y K D A sa (.dload_n k) := by
  intro pc len L st μ f φ ls H locs cells slots pc' L' st' μ' f' X hX hL hS hH hd h8 hc hs hF hl kk
  obtain ⟨rfl, h⟩ := ifs h8
  obtain ⟨v, hv, hu, hn, hk⟩ := ld1_inv h
  obtain ⟨rfl, rfl, rfl, rfl, rfl⟩ := nx_inv hn
  rcases hk with ⟨h0, _⟩ | ⟨h0, _⟩ | ⟨h0, _⟩ | ⟨_, a, rfl⟩
  · cases h0
  · cases h0
  · cases h0
  · exact lv_dload_n X.1 X.2.1 hd rfl (hL.at hv rfl) (kp hH kk hL (hS.cons (hL.ok hv) hu))
theorem sn_dload (k : Nat) : SNg p l e R s m args below meth c Q xs y K D A sa (.dload k) := by
  intro pc len L st μ f φ ls H locs cells slots pc' L' st' μ' f' X hX hL hS hH hd h8 hc hs hF hl kk
  obtain ⟨rfl, h⟩ := ifs h8
  obtain ⟨v, hv, hu, hn, hk⟩ := ld1_inv h
  obtain ⟨rfl, rfl, rfl, rfl, rfl⟩ := nx_inv hn
  rcases hk with ⟨h0, _⟩ | ⟨h0, _⟩ | ⟨h0, _⟩ | ⟨_, a, rfl⟩
  · cases h0
  · cases h0
  · cases h0
  · exact lv_dload X.1 X.2.1 hd (hL.at hv rfl) (kp hH kk hL (hS.cons (hL.ok hv) hu))
theorem st1_inv {k i : Nat} {pc : Nat} {r : SR} (h : st1 k i pc L st μ f = some r) : ∃ v t L', st = v :: t ∧ isU v = false ∧ nx pc L' t μ f = some r ∧ (i = 0 ∨ cat2 (L.getD (i - 1) vu) = false) ∧
    ((k = 0 ∧ (∃ x, v = vi x) ∧ i < L.length ∧ L' = L.set i v) ∨ (k = 1 ∧ (∃ a, v = vr a) ∧ i < L.length ∧ L' = L.set i v) ∨ (k = 2 ∧ (∃ x, v = vl x) ∧ i + 1 < L.length ∧ L' = (L.set i v).set (i + 1) vu) ∨ (k = 3 ∧ (∃ x, v = vd x) ∧ i + 1 < L.length ∧ L' = (L.set i v).set (i + 1) vu)) := by
  unfold st1 at h
  split at h
  · split at h
    · obtain ⟨L', h1, h2⟩ := ol_inv h
      obtain ⟨h3, h4⟩ := ifs h1
      cases h4
      exact ⟨_, _, _, rfl, rfl, h2, h3.2, Or.inl ⟨rfl, ⟨_, rfl⟩, h3.1, rfl⟩⟩
    · obtain ⟨L', h1, h2⟩ := ol_inv h
      obtain ⟨h3, h4⟩ := ifs h1
      cases h4
      exact ⟨_, _, _, rfl, rfl, h2, h3.2, Or.inr (Or.inl ⟨rfl, ⟨_, rfl⟩, h3.1, rfl⟩)⟩
    · obtain ⟨L', h1, h2⟩ := ol_inv h
      obtain ⟨h3, h4⟩ := ifs h1
      cases h4
      exact ⟨_, _, _, rfl, rfl, h2, h3.2, Or.inr (Or.inr (Or.inl ⟨rfl, ⟨_, rfl⟩, h3.1, rfl⟩))⟩
    · obtain ⟨L', h1, h2⟩ := ol_inv h
      obtain ⟨h3, h4⟩ := ifs h1
      cases h4
      exact ⟨_, _, _, rfl, rfl, h2, h3.2, Or.inr (Or.inr (Or.inr ⟨rfl, ⟨_, rfl⟩, h3.1, rfl⟩))⟩
    · cases h
  · cases h
theorem sn_istore_n (k : Fin 4) : SNg p l e R s m args below meth c Q xs y K D A sa (.istore_n k) := by
  intro pc len L st μ f φ ls H locs cells slots pc' L' st' μ' f' X hX hL hS hH hd h8 hc hs hF hl kk
  obtain ⟨rfl, h⟩ := ifs h8
  obtain ⟨v, t, L2, rfl, hu, hn, hcat, hk⟩ := st1_inv h
  obtain ⟨rfl, rfl, rfl, rfl, rfl⟩ := nx_inv hn
  rcases hk with ⟨_, ⟨x, rfl⟩, hi, rfl⟩ | ⟨h0, _⟩ | ⟨h0, _⟩ | ⟨h0, _⟩
  · exact lv_istore_n X.1 X.2.1 hd rfl hL.1 (by rw [← hL.2.1]; exact hi) rfl (fun ls' h' => kp hH kk (LR.st hL.2.1 hL.2.2 hS.hd.1 rfl hi hcat h') hS.tl)
  · cases h0
  · cases h0
  · cases h0
theorem sn_istore (k : Nat) : SNg p l e R s m args below meth c Q xs y K D A sa (.istore k) := by
  intro pc len L st μ f φ ls H locs cells slots pc' L' st' μ' f' X hX hL hS hH hd h8 hc hs hF hl kk
  obtain ⟨rfl, h⟩ := ifs h8
  obtain ⟨v, t, L2, rfl, hu, hn, hcat, hk⟩ := st1_inv h
  obtain ⟨rfl, rfl, rfl, rfl, rfl⟩ := nx_inv hn
  rcases hk with ⟨_, ⟨x, rfl⟩, hi, rfl⟩ | ⟨h0, _⟩ | ⟨h0, _⟩ | ⟨h0, _⟩
  · exact lv_istore X.1 X.2.1 hd hL.1 (by rw [← hL.2.1]; exact hi) rfl (fun ls' h' => kp hH kk (LR.st hL.2.1 hL.2.2 hS.hd.1 rfl hi hcat h') hS.tl)
  · cases h0
  · cases h0
  · cases h0
theorem sn_astore_n (k : Fin 4) : SNg p l e R s m args below meth c Q xs y K D A sa (.astore_n k) := by
  intro pc len L st μ f φ ls H locs cells slots pc' L' st' μ' f' X hX hL hS hH hd h8 hc hs hF hl kk
  obtain ⟨rfl, h⟩ := ifs h8
  obtain ⟨v, t, L2, rfl, hu, hn, hcat, hk⟩ := st1_inv h
  obtain ⟨rfl, rfl, rfl, rfl, rfl⟩ := nx_inv hn
  rcases hk with ⟨h0, _⟩ | ⟨_, ⟨x, rfl⟩, hi, rfl⟩ | ⟨h0, _⟩ | ⟨h0, _⟩
  · cases h0
  · exact lv_astore_n X.1 X.2.1 hd rfl hL.1 (by rw [← hL.2.1]; exact hi) rfl (fun ls' h' => kp hH kk (LR.st hL.2.1 hL.2.2 hS.hd.1 rfl hi hcat h') hS.tl)
  · cases h0
  · cases h0
theorem sn_astore (k : Nat) : SNg p l e R s m args below meth c Q xs y K D A sa (.astore k) := by
  intro pc len L st μ f φ ls H locs cells slots pc' L' st' μ' f' X hX hL hS hH hd h8 hc hs hF hl kk
  obtain ⟨rfl, h⟩ := ifs h8
  obtain ⟨v, t, L2, rfl, hu, hn, hcat, hk⟩ := st1_inv h
  obtain ⟨rfl, rfl, rfl, rfl, rfl⟩ := nx_inv hn
  rcases hk with ⟨h0, _⟩ | ⟨_, ⟨x, rfl⟩, hi, rfl⟩ | ⟨h0, _⟩ | ⟨h0, _⟩
  · cases h0
  · exact lv_astore X.1 X.2.1 hd hL.1 (by rw [← hL.2.1]; exact hi) rfl (fun ls' h' => kp hH kk (LR.st hL.2.1 hL.2.2 hS.hd.1 rfl hi hcat h') hS.tl)
  · cases h0
  · cases h0
theorem sn_lstore_n (k : Fin 4) : SNg p l e R s m args below meth c Q xs y K D A sa (.lstore_n k) := by
  intro pc len L st μ f φ ls H locs cells slots pc' L' st' μ' f' X hX hL hS hH hd h8 hc hs hF hl kk
  obtain ⟨rfl, h⟩ := ifs h8
  obtain ⟨v, t, L2, rfl, hu, hn, hcat, hk⟩ := st1_inv h
  obtain ⟨rfl, rfl, rfl, rfl, rfl⟩ := nx_inv hn
  rcases hk with ⟨h0, _⟩ | ⟨h0, _⟩ | ⟨_, ⟨x, rfl⟩, hi, rfl⟩ | ⟨h0, _⟩
  · cases h0
  · cases h0
  · exact lv_lstore_n X.1 X.2.1 hd rfl hL.1 (by rw [← hL.2.1]; exact hi) rfl (fun ls' h' => kp hH kk (LR.st2 hL.2.1 hL.2.2 hS.hd.1 rfl hi hcat h') hS.tl)
  · cases h0
theorem sn_lstore (k : Nat) : SNg p l e R s m args below meth c Q xs y K D A sa (.lstore k) := by
  intro pc len L st μ f φ ls H locs cells slots pc' L' st' μ' f' X hX hL hS hH hd h8 hc hs hF hl kk
  obtain ⟨rfl, h⟩ := ifs h8
  obtain ⟨v, t, L2, rfl, hu, hn, hcat, hk⟩ := st1_inv h
  obtain ⟨rfl, rfl, rfl, rfl, rfl⟩ := nx_inv hn
  rcases hk with ⟨h0, _⟩ | ⟨h0, _⟩ | ⟨_, ⟨x, rfl⟩, hi, rfl⟩ | ⟨h0, _⟩
  · cases h0
  · cases h0
  · exact lv_lstore X.1 X.2.1 hd hL.1 (by rw [← hL.2.1]; exact hi) rfl (fun ls' h' => kp hH kk (LR.st2 hL.2.1 hL.2.2 hS.hd.1 rfl hi hcat h') hS.tl)
  · cases h0
theorem sn_dstore_n (k : Fin 4) : SNg p l e R s m args below meth c Q xs y K D A sa (.dstore_n k) := by
  intro pc len L st μ f φ ls H locs cells slots pc' L' st' μ' f' X hX hL hS hH hd h8 hc hs hF hl kk
  obtain ⟨rfl, h⟩ := ifs h8
  obtain ⟨v, t, L2, rfl, hu, hn, hcat, hk⟩ := st1_inv h
  obtain ⟨rfl, rfl, rfl, rfl, rfl⟩ := nx_inv hn
  rcases hk with ⟨h0, _⟩ | ⟨h0, _⟩ | ⟨h0, _⟩ | ⟨_, ⟨x, rfl⟩, hi, rfl⟩
  · cases h0
  · cases h0
  · cases h0
  · exact lv_dstore_n X.1 X.2.1 hd rfl hL.1 (by rw [← hL.2.1]; exact hi) rfl (fun ls' h' => kp hH kk (LR.st2 hL.2.1 hL.2.2 hS.hd.1 rfl hi hcat h') hS.tl)
theorem sn_dstore (k : Nat) : SNg p l e R s m args below meth c Q xs y K D A sa (.dstore k) := by
  intro pc len L st μ f φ ls H locs cells slots pc' L' st' μ' f' X hX hL hS hH hd h8 hc hs hF hl kk
  obtain ⟨rfl, h⟩ := ifs h8
  obtain ⟨v, t, L2, rfl, hu, hn, hcat, hk⟩ := st1_inv h
  obtain ⟨rfl, rfl, rfl, rfl, rfl⟩ := nx_inv hn
  rcases hk with ⟨h0, _⟩ | ⟨h0, _⟩ | ⟨h0, _⟩ | ⟨_, ⟨x, rfl⟩, hi, rfl⟩
  · cases h0
  · cases h0
  · cases h0
  · exact lv_dstore X.1 X.2.1 hd hL.1 (by rw [← hL.2.1]; exact hi) rfl (fun ls' h' => kp hH kk (LR.st2 hL.2.1 hL.2.2 hS.hd.1 rfl hi hcat h') hS.tl)
theorem sn_iconst (n : Int) : SNg p l e R s m args below meth c Q xs y K D A sa (.iconst n) := by
  intro pc len L st μ f φ ls H locs cells slots pc' L' st' μ' f' X hX hL hS hH hd h8 hc hs hF hl kk
  obtain ⟨rfl, h⟩ := ifs h8
  obtain ⟨rfl, rfl, rfl, rfl, rfl⟩ := nx_inv h
  exact lv_iconst X.1 X.2.1 hd (i32_wrp n).symm (kp hH kk hL (hS.cons ⟨wrp_lo n, wrp_hi n⟩ rfl))
theorem sn_bipush (n : Int) : SNg p l e R s m args below meth c Q xs y K D A sa (.bipush n) := by
  intro pc len L st μ f φ ls H locs cells slots pc' L' st' μ' f' X hX hL hS hH hd h8 hc hs hF hl kk
  obtain ⟨rfl, h⟩ := ifs h8
  obtain ⟨rfl, rfl, rfl, rfl, rfl⟩ := nx_inv h
  exact lv_bipush X.1 X.2.1 hd (i32_of _).symm (kp hH kk hL (hS.cons ⟨i32_lo _, i32_hi _⟩ rfl))
theorem sn_sipush (n : Int) : SNg p l e R s m args below meth c Q xs y K D A sa (.sipush n) := by
  intro pc len L st μ f φ ls H locs cells slots pc' L' st' μ' f' X hX hL hS hH hd h8 hc hs hF hl kk
  obtain ⟨rfl, h⟩ := ifs h8
  obtain ⟨rfl, rfl, rfl, rfl, rfl⟩ := nx_inv h
  exact lv_sipush X.1 X.2.1 hd (i32_of _).symm (kp hH kk hL (hS.cons ⟨i32_lo _, i32_hi _⟩ rfl))
theorem sn_lconst (n : Fin 2) : SNg p l e R s m args below meth c Q xs y K D A sa (.lconst n) := by
  intro pc len L st μ f φ ls H locs cells slots pc' L' st' μ' f' X hX hL hS hH hd h8 hc hs hF hl kk
  obtain ⟨rfl, h⟩ := ifs h8
  obtain ⟨rfl, rfl, rfl, rfl, rfl⟩ := nx_inv h
  exact lv_lconst X.1 X.2.1 hd rfl (kp hH kk hL (hS.cons trivial rfl))
theorem sn_dconst (n : Fin 2) : SNg p l e R s m args below meth c Q xs y K D A sa (.dconst n) := by
  intro pc len L st μ f φ ls H locs cells slots pc' L' st' μ' f' X hX hL hS hH hd h8 hc hs hF hl kk
  obtain ⟨rfl, h⟩ := ifs h8
  obtain ⟨rfl, rfl, rfl, rfl, rfl⟩ := nx_inv h
  match n, hd, kk with
  | 0, hd, kk => exact lv_dconst0 X.1 X.2.1 hd (kp hH kk hL (hS.cons trivial rfl))
  | 1, hd, kk => exact lv_dconst1 X.1 X.2.1 hd (kp hH kk hL (hS.cons trivial rfl))
theorem kTab_in {o k pos : Nat} {v : Int64 ⊕ UInt64} (h : lk kTab o k = some (v, pos)) : kCond o k v ∈ lw_gd := inG_mem (List.all_eq_true.mp kTab_ok _ (lk_mem h))
theorem sn_ldc2_w (k : Nat) : SNg p l e R s m args below meth c Q xs y K D A sa (.ldc2_w k) := by
  intro pc len L st μ f φ ls H locs cells slots pc' L' st' μ' f' X hX hL hS hH hd h8 hc hs hF hl kk
  obtain ⟨rfl, h⟩ := ifs h8
  cases (h : (none : Option SR) = some _)
theorem jTab_in {o k pos : Nat} {z : Int} (h : lk jTab o k = some (z, pos)) : Cond.constant (cN o) k (i32 z) ∈ lw_gd ∧ -2147483648 ≤ z ∧ z < 2147483648 := by
  have h1 := List.all_eq_true.mp jTab_ok _ (lk_mem h)
  simp only [Bool.and_eq_true, decide_eq_true_eq] at h1
  exact ⟨inG_mem h1.1, h1.2⟩
theorem sn_ldc (k : Nat) : SNg p l e R s m args below meth c Q xs y K D A sa (.ldc k) := by
  intro pc len L st μ f φ ls H locs cells slots pc' L' st' μ' f' X hX hL hS hH hd h8 hc hs hF hl kk
  obtain ⟨rfl, h⟩ := ifs h8
  split at h
  · rename_i z pos hk
    obtain ⟨rfl, rfl, rfl, rfl, rfl⟩ := nx_inv h
    obtain ⟨j1, j2, j3⟩ := jTab_in hk
    exact lv_ldc X.1 X.2.1 X.2.2.2.1 (X.2.2.2.2.1 _ j1) hd (kp hH kk hL (hS.cons (v := vi z) ⟨j2, j3⟩ rfl))
  · cases h
theorem okV32 (n : Nat) (x : Int32) : okV n (vi x.toInt) := ⟨i32_lo x, i32_hi x⟩
theorem okVw (n : Nat) (x : Int) : okV n (vi (wrp x)) := ⟨wrp_lo x, wrp_hi x⟩
theorem sn_iadd : SNg p l e R s m args below meth c Q xs y K D A sa .iadd := by
  intro pc len L st μ f φ ls H locs cells slots pc' L' st' μ' f' X hX hL hS hH hd h8 hc hs hF hl kk
  obtain ⟨rfl, h⟩ := ifs h8
  obtain ⟨x, w, z, t, rfl, hz, hn⟩ := ii2_inv h
  obtain ⟨rfl, rfl, rfl, rfl, rfl⟩ := nx_inv hn
  cases hz
  have q := kp hH kk hL (hS.tl.tl.cons (okVw _ _) rfl)
  rw [List.map_cons, show cv φ (vi (wrp (x + w))) = .int (i32 x + i32 w) by show Value.int (i32 (wrp (x + w))) = _; rw [i32_wrp]; exact congrArg Value.int (Int32.ofInt_add _ _)] at q
  exact lv_iadd X.1 X.2.1 hd q
theorem sn_isub : SNg p l e R s m args below meth c Q xs y K D A sa .isub := by
  intro pc len L st μ f φ ls H locs cells slots pc' L' st' μ' f' X hX hL hS hH hd h8 hc hs hF hl kk
  obtain ⟨rfl, h⟩ := ifs h8
  obtain ⟨x, w, z, t, rfl, hz, hn⟩ := ii2_inv h
  obtain ⟨rfl, rfl, rfl, rfl, rfl⟩ := nx_inv hn
  cases hz
  have q := kp hH kk hL (hS.tl.tl.cons (okVw _ _) rfl)
  rw [List.map_cons, show cv φ (vi (wrp (x - w))) = .int (i32 x - i32 w) by show Value.int (i32 (wrp (x - w))) = _; rw [i32_wrp]; exact congrArg Value.int (Int32.ofInt_sub _ _)] at q
  exact lv_isub X.1 X.2.1 hd q
theorem sn_imul : SNg p l e R s m args below meth c Q xs y K D A sa .imul := by
  intro pc len L st μ f φ ls H locs cells slots pc' L' st' μ' f' X hX hL hS hH hd h8 hc hs hF hl kk
  obtain ⟨rfl, h⟩ := ifs h8
  obtain ⟨x, w, z, t, rfl, hz, hn⟩ := ii2_inv h
  obtain ⟨rfl, rfl, rfl, rfl, rfl⟩ := nx_inv hn
  cases hz
  have q := kp hH kk hL (hS.tl.tl.cons (okVw _ _) rfl)
  rw [List.map_cons, show cv φ (vi (wrp (x * w))) = .int (i32 x * i32 w) by show Value.int (i32 (wrp (x * w))) = _; rw [i32_wrp]; exact congrArg Value.int (Int32.ofInt_mul _ _)] at q
  exact lv_imul X.1 X.2.1 hd q
/-- a number that the machine computes by itself -/
theorem cv_of (φ : Nat → Nat) (x : Int32) : cv φ (vi x.toInt) = .int x := congrArg Value.int (i32_of x)
theorem sn_iand : SNg p l e R s m args below meth c Q xs y K D A sa .iand := by
  intro pc len L st μ f φ ls H locs cells slots pc' L' st' μ' f' X hX hL hS hH hd h8 hc hs hF hl kk
  obtain ⟨rfl, h⟩ := ifs h8
  obtain ⟨x, w, z, t, rfl, hz, hn⟩ := ii2_inv h
  obtain ⟨rfl, rfl, rfl, rfl, rfl⟩ := nx_inv hn
  cases hz
  have q := kp hH kk hL (hS.tl.tl.cons (okV32 _ _) rfl)
  rw [List.map_cons, cv_of] at q
  exact lv_iand X.1 X.2.1 hd q
theorem sn_ior : SNg p l e R s m args below meth c Q xs y K D A sa .ior := by
  intro pc len L st μ f φ ls H locs cells slots pc' L' st' μ' f' X hX hL hS hH hd h8 hc hs hF hl kk
  obtain ⟨rfl, h⟩ := ifs h8
  obtain ⟨x, w, z, t, rfl, hz, hn⟩ := ii2_inv h
  obtain ⟨rfl, rfl, rfl, rfl, rfl⟩ := nx_inv hn
  cases hz
  have q := kp hH kk hL (hS.tl.tl.cons (okV32 _ _) rfl)
  rw [List.map_cons, cv_of] at q
  exact lv_ior X.1 X.2.1 hd q
theorem sn_ixor : SNg p l e R s m args below meth c Q xs y K D A sa .ixor := by
  intro pc len L st μ f φ ls H locs cells slots pc' L' st' μ' f' X hX hL hS hH hd h8 hc hs hF hl kk
  obtain ⟨rfl, h⟩ := ifs h8
  obtain ⟨x, w, z, t, rfl, hz, hn⟩ := ii2_inv h
  obtain ⟨rfl, rfl, rfl, rfl, rfl⟩ := nx_inv hn
  cases hz
  have q := kp hH kk hL (hS.tl.tl.cons (okV32 _ _) rfl)
  rw [List.map_cons, cv_of] at q
  exact lv_ixor X.1 X.2.1 hd q
theorem sn_ishl : SNg p l e R s m args below meth c Q xs y K D A sa .ishl := by
  intro pc len L st μ f φ ls H locs cells slots pc' L' st' μ' f' X hX hL hS hH hd h8 hc hs hF hl kk
  obtain ⟨rfl, h⟩ := ifs h8
  obtain ⟨x, w, z, t, rfl, hz, hn⟩ := ii2_inv h
  obtain ⟨rfl, rfl, rfl, rfl, rfl⟩ := nx_inv hn
  cases hz
  have q := kp hH kk hL (hS.tl.tl.cons (okV32 _ _) rfl)
  rw [List.map_cons, cv_of] at q
  exact lv_ishl X.1 X.2.1 hd q
theorem sn_ishr : SNg p l e R s m args below meth c Q xs y K D A sa .ishr := by
  intro pc len L st μ f φ ls H locs cells slots pc' L' st' μ' f' X hX hL hS hH hd h8 hc hs hF hl kk
  obtain ⟨rfl, h⟩ := ifs h8
  obtain ⟨x, w, z, t, rfl, hz, hn⟩ := ii2_inv h
  obtain ⟨rfl, rfl, rfl, rfl, rfl⟩ := nx_inv hn
  cases hz
  have q := kp hH kk hL (hS.tl.tl.cons (okV32 _ _) rfl)
  rw [List.map_cons, cv_of] at q
  exact lv_ishr X.1 X.2.1 hd q
theorem i32_ne0 {w : Int} (h : -2147483648 ≤ w ∧ w < 2147483648) (h0 : ¬ w = 0) : ¬ i32 w = 0 := fun e => h0 ((i32_eq h ⟨by omega, by omega⟩).mp (e.trans i32_0.symm))
theorem sn_idiv : SNg p l e R s m args below meth c Q xs y K D A sa .idiv := by
  intro pc len L st μ f φ ls H locs cells slots pc' L' st' μ' f' X hX hL hS hH hd h8 hc hs hF hl kk
  obtain ⟨rfl, h⟩ := ifs h8
  obtain ⟨x, w, z, t, rfl, hz, hn⟩ := ii2_inv h
  obtain ⟨rfl, rfl, rfl, rfl, rfl⟩ := nx_inv hn
  split at hz
  · cases hz
  · rename_i h0
    cases hz
    have q := kp hH kk hL (hS.tl.tl.cons (okV32 _ _) rfl)
    rw [List.map_cons, cv_of] at q
    exact lv_idiv X.1 X.2.1 hd (i32_ne0 hS.hd.1 h0) q
theorem sn_irem : SNg p l e R s m args below meth c Q xs y K D A sa .irem := by
  intro pc len L st μ f φ ls H locs cells slots pc' L' st' μ' f' X hX hL hS hH hd h8 hc hs hF hl kk
  obtain ⟨rfl, h⟩ := ifs h8
  obtain ⟨x, w, z, t, rfl, hz, hn⟩ := ii2_inv h
  obtain ⟨rfl, rfl, rfl, rfl, rfl⟩ := nx_inv hn
  split at hz
  · cases hz
  · rename_i h0
    cases hz
    have q := kp hH kk hL (hS.tl.tl.cons (okV32 _ _) rfl)
    rw [List.map_cons, cv_of] at q
    exact lv_irem X.1 X.2.1 hd (i32_ne0 hS.hd.1 h0) q
theorem sn_ineg : SNg p l e R s m args below meth c Q xs y K D A sa .ineg := by
  intro pc len L st μ f φ ls H locs cells slots pc' L' st' μ' f' X hX hL hS hH hd h8 hc hs hF hl kk
  obtain ⟨rfl, h⟩ := ifs h8
  split at h
  · rename_i x t
    obtain ⟨rfl, rfl, rfl, rfl, rfl⟩ := nx_inv h
    have q := kp hH kk hL (hS.tl.cons (okVw _ _) rfl)
    rw [List.map_cons, show cv φ (vi (wrp (-x))) = .int (-i32 x) by show Value.int (i32 (wrp (-x))) = _; rw [i32_wrp]; exact congrArg Value.int (Int32.ofInt_neg _)] at q
    exact lv_ineg X.1 X.2.1 hd q
  · cases h
theorem sn_i2l : SNg p l e R s m args below meth c Q xs y K D A sa .i2l := by
  intro pc len L st μ f φ ls H locs cells slots pc' L' st' μ' f' X hX hL hS hH hd h8 hc hs hF hl kk
  obtain ⟨rfl, h⟩ := ifs h8
  split at h
  · obtain ⟨rfl, rfl, rfl, rfl, rfl⟩ := nx_inv h
    exact lv_i2l X.1 X.2.1 hd rfl (kp hH kk hL (hS.tl.cons trivial rfl))
  · cases h
theorem sn_i2d : SNg p l e R s m args below meth c Q xs y K D A sa .i2d := by
  intro pc len L st μ f φ ls H locs cells slots pc' L' st' μ' f' X hX hL hS hH hd h8 hc hs hF hl kk
  obtain ⟨rfl, h⟩ := ifs h8
  split at h
  · obtain ⟨rfl, rfl, rfl, rfl, rfl⟩ := nx_inv h
    exact lv_i2d X.1 X.2.1 hd (kp hH kk hL (hS.tl.cons trivial rfl))
  · cases h
theorem sn_d2l : SNg p l e R s m args below meth c Q xs y K D A sa .d2l := by
  intro pc len L st μ f φ ls H locs cells slots pc' L' st' μ' f' X hX hL hS hH hd h8 hc hs hF hl kk
  obtain ⟨rfl, h⟩ := ifs h8
  split at h
  · obtain ⟨rfl, rfl, rfl, rfl, rfl⟩ := nx_inv h
    exact lv_d2l X.1 X.2.1 hd (kp hH kk hL (hS.tl.cons trivial rfl))
  · cases h
theorem sn_ladd : SNg p l e R s m args below meth c Q xs y K D A sa .ladd := by
  intro pc len L st μ f φ ls H locs cells slots pc' L' st' μ' f' X hX hL hS hH hd h8 hc hs hF hl kk
  obtain ⟨rfl, h⟩ := ifs h8
  obtain ⟨x, w, t, rfl, hn⟩ := ll2_inv h
  obtain ⟨rfl, rfl, rfl, rfl, rfl⟩ := nx_inv hn
  exact lv_ladd X.1 X.2.1 hd (kp hH kk hL (hS.tl.tl.cons trivial rfl))
theorem sn_lsub : SNg p l e R s m args below meth c Q xs y K D A sa .lsub := by
  intro pc len L st μ f φ ls H locs cells slots pc' L' st' μ' f' X hX hL hS hH hd h8 hc hs hF hl kk
  obtain ⟨rfl, h⟩ := ifs h8
  obtain ⟨x, w, t, rfl, hn⟩ := ll2_inv h
  obtain ⟨rfl, rfl, rfl, rfl, rfl⟩ := nx_inv hn
  exact lv_lsub X.1 X.2.1 hd (kp hH kk hL (hS.tl.tl.cons trivial rfl))
theorem sn_lmul : SNg p l e R s m args below meth c Q xs y K D A sa .lmul := by
  intro pc len L st μ f φ ls H locs cells slots pc' L' st' μ' f' X hX hL hS hH hd h8 hc hs hF hl kk
  obtain ⟨rfl, h⟩ := ifs h8
  obtain ⟨x, w, t, rfl, hn⟩ := ll2_inv h
  obtain ⟨rfl, rfl, rfl, rfl, rfl⟩ := nx_inv hn
  exact lv_lmul X.1 X.2.1 hd (kp hH kk hL (hS.tl.tl.cons trivial rfl))
theorem sn_lshl : SNg p l e R s m args below meth c Q xs y K D A sa .lshl := by
  intro pc len L st μ f φ ls H locs cells slots pc' L' st' μ' f' X hX hL hS hH hd h8 hc hs hF hl kk
  obtain ⟨rfl, h⟩ := ifs h8
  split at h
  · obtain ⟨rfl, rfl, rfl, rfl, rfl⟩ := nx_inv h
    exact lv_lshl X.1 X.2.1 hd rfl (kp hH kk hL (hS.tl.tl.cons trivial rfl))
  · cases h
theorem sn_dmul : SNg p l e R s m args below meth c Q xs y K D A sa .dmul := by
  intro pc len L st μ f φ ls H locs cells slots pc' L' st' μ' f' X hX hL hS hH hd h8 hc hs hF hl kk
  obtain ⟨rfl, h⟩ := ifs h8
  obtain ⟨x, w, t, rfl, hnn, hn⟩ := dd2_inv h
  obtain ⟨rfl, rfl, rfl, rfl, rfl⟩ := nx_inv hn
  exact lv_dmul X.1 X.2.1 hd (nn64_of hnn) (kp hH kk hL (hS.tl.tl.cons trivial rfl))
theorem sn_ddiv : SNg p l e R s m args below meth c Q xs y K D A sa .ddiv := by
  intro pc len L st μ f φ ls H locs cells slots pc' L' st' μ' f' X hX hL hS hH hd h8 hc hs hF hl kk
  obtain ⟨rfl, h⟩ := ifs h8
  obtain ⟨x, w, t, rfl, hnn, hn⟩ := dd2_inv h
  obtain ⟨rfl, rfl, rfl, rfl, rfl⟩ := nx_inv hn
  exact lv_ddiv X.1 X.2.1 hd (nn64_of hnn) (kp hH kk hL (hS.tl.tl.cons trivial rfl))
theorem sn_dsub : SNg p l e R s m args below meth c Q xs y K D A sa .dsub := by
  intro pc len L st μ f φ ls H locs cells slots pc' L' st' μ' f' X hX hL hS hH hd h8 hc hs hF hl kk
  obtain ⟨rfl, h⟩ := ifs h8
  obtain ⟨x, w, t, rfl, hnn, hn⟩ := dd2_inv h
  obtain ⟨rfl, rfl, rfl, rfl, rfl⟩ := nx_inv hn
  exact lv_dsub X.1 X.2.1 hd (nn64_of hnn) (kp hH kk hL (hS.tl.tl.cons trivial rfl))
theorem sn_lcmp : SNg p l e R s m args below meth c Q xs y K D A sa .lcmp := by
  intro pc len L st μ f φ ls H locs cells slots pc' L' st' μ' f' X hX hL hS hH hd h8 hc hs hF hl kk
  obtain ⟨rfl, h⟩ := ifs h8
  split at h
  · obtain ⟨rfl, rfl, rfl, rfl, rfl⟩ := nx_inv h
    have q := kp hH kk hL (hS.tl.tl.cons (okV32 _ _) rfl)
    rw [List.map_cons, cv_of] at q
    exact W.lcmp X.1 X.2.1 hd q
  · cases h
theorem sn_dcmp (op : CmpOp) : SNg p l e R s m args below meth c Q xs y K D A sa (.dcmp op) := by
  intro pc len L st μ f φ ls H locs cells slots pc' L' st' μ' f' X hX hL hS hH hd h8 hc hs hF hl kk
  obtain ⟨rfl, h⟩ := ifs h8
  split at h
  · obtain ⟨rfl, rfl, rfl, rfl, rfl⟩ := nx_inv h
    have q := kp hH kk hL (hS.tl.tl.cons (okV32 _ _) rfl)
    rw [List.map_cons, cv_of] at q
    exact lv_dcmp X.1 X.2.1 hd q
  · cases h
theorem sn_iinc (k : Nat) (n : Int) : SNg p l e R s m args below meth c Q xs y K D A sa (.iinc k n) := by
  intro pc len L st μ f φ ls H locs cells slots pc' L' st' μ' f' X hX hL hS hH hd h8 hc hs hF hl kk
  obtain ⟨rfl, h⟩ := ifs h8
  split at h
  · rename_i x hx
    obtain ⟨rfl, rfl, rfl, rfl, rfl⟩ := nx_inv h
    have hi : k < L.length := (List.getElem?_eq_some_iff.mp hx).1
    have hm : (k, Value.int (i32 x)) ∈ lps φ L := lps_mem.mpr ⟨vi x, hx, rfl, rfl⟩
    obtain ⟨j, hj⟩ := List.getElem?_of_mem hm
    have hcat : k = 0 ∨ cat2 (L.getD (k - 1) vu) = false := by
      by_cases h0 : k = 0
      · exact Or.inl h0
      · right
        cases hq : cat2 (L.getD (k - 1) vu) with
        | false => rfl
        | true =>
          have h1 : k - 1 < L.length := by omega
          rw [List.getD_eq_getElem?_getD, List.getElem?_eq_getElem h1] at hq
          have hu : isU L[k - 1] = false := by
            generalize L[k - 1] = v at hq
            rcases v with z | (_ | a) | x | x | x
            · rfl
            · rfl
            · rfl
            · rfl
            · rfl
            · cases hq
          have h2 := hL.at (List.getElem?_eq_getElem h1) hu
          have h3 : (cv φ L[k - 1]).category = 2 := by
            generalize L[k - 1] = v at hq
            rcases v with z | (_ | a) | x | x | x
            · cases hq
            · cases hq
            · cases hq
            · rfl
            · rfl
            · cases hq
          have h4 := hL.1.2.1.1 _ _ h2 h3
          rw [show k - 1 + 1 = k by omega, hL.at hx rfl] at h4
          cases h4
    refine lv_iinc (v := i32 (wrp (x + n))) X.1 X.2.1 hd hL.1 hj (by rw [i32_wrp]; exact (Int32.ofInt_add _ _).symm) (by rw [← hL.2.1]; exact hi) rfl (fun ls' h' => kp hH kk (LR.st hL.2.1 hL.2.2 (okVw _ _) rfl hi hcat h') hS)
  · cases h
theorem sn_dup : SNg p l e R s m args below meth c Q xs y K D A sa .dup := by
  intro pc len L st μ f φ ls H locs cells slots pc' L' st' μ' f' X hX hL hS hH hd h8 hc hs hF hl kk
  obtain ⟨rfl, h⟩ := ifs h8
  split at h
  · rename_i v t
    obtain ⟨h1, h2⟩ := ifs h
    obtain ⟨rfl, rfl, rfl, rfl, rfl⟩ := nx_inv h2
    exact lv_dup X.1 X.2.1 hd (cat_cv h1.1) (kp hH kk hL (hS.cons hS.hd.1 hS.hd.2))
  · cases h
theorem sn_dup2 : SNg p l e R s m args below meth c Q xs y K D A sa .dup2 := by
  intro pc len L st μ f φ ls H locs cells slots pc' L' st' μ' f' X hX hL hS hH hd h8 hc hs hF hl kk
  obtain ⟨rfl, h⟩ := ifs h8
  split at h
  · rename_i v w t
    obtain ⟨h1, h2⟩ := ifs h
    obtain ⟨rfl, rfl, rfl, rfl, rfl⟩ := nx_inv h2
    exact lv_dup2_11 X.1 X.2.1 hd (cat_cv h1.1) (cat_cv h1.2.2.1) (kp hH kk hL ((hS.cons hS.tl.hd.1 hS.tl.hd.2).cons hS.hd.1 hS.hd.2))
  · cases h
theorem sn_pop : SNg p l e R s m args below meth c Q xs y K D A sa .pop := by
  intro pc len L st μ f φ ls H locs cells slots pc' L' st' μ' f' X hX hL hS hH hd h8 hc hs hF hl kk
  obtain ⟨rfl, h⟩ := ifs h8
  split at h
  · rename_i v t
    obtain ⟨h1, h2⟩ := ifs h
    obtain ⟨rfl, rfl, rfl, rfl, rfl⟩ := nx_inv h2
    exact lv_pop X.1 X.2.1 hd (cat_cv h1.1) (kp hH kk hL hS.tl)
  · cases h
theorem sn_goto (off : Int) : SNg p l e R s m args below meth c Q xs y K D A sa (.goto off) := by
  intro pc len L st μ f φ ls H locs cells slots pc' L' st' μ' f' X hX hL hS hH hd h8 hc hs hF hl kk
  obtain ⟨rfl, h⟩ := ifs h8
  obtain ⟨t, ht, hn⟩ := tg_inv h
  obtain ⟨rfl, rfl, rfl, rfl, rfl⟩ := nx_inv hn
  exact lv_goto X.1 X.2.1 hd ht (kp hH kk hL hS)
theorem r32_0 : -2147483648 ≤ (0 : Int) ∧ (0 : Int) < 2147483648 := ⟨by omega, by omega⟩
theorem sn_ifCond (cd : Jvm.ClassFile.Cond) (off : Int) : SNg p l e R s m args below meth c Q xs y K D A sa (.ifCond cd off) := by
  intro pc len L st μ f φ ls H locs cells slots pc' L' st' μ' f' X hX hL hS hH hd h8 hc hs hF hl kk
  obtain ⟨rfl, h⟩ := ifs h8
  split at h
  · rename_i x t
    have r := hS.hd.1
    have w := r32_0
    cases cd with
    | eq =>
      obtain ⟨tgt, ht, ⟨hb, hn⟩ | ⟨hb, hn⟩⟩ := br_inv h
      · obtain ⟨rfl, rfl, rfl, rfl, rfl⟩ := nx_inv hn
        exact lv_if_eq X.1 X.2.1 hd ht (fun _ => kp hH kk hL hS.tl) (fun q => absurd ((i32_eq r w).mpr hb) q)
      · obtain ⟨rfl, rfl, rfl, rfl, rfl⟩ := nx_inv hn
        exact lv_if_eq X.1 X.2.1 hd ht (fun q => absurd ((i32_eq r w).mp q) hb) (fun _ => kp hH kk hL hS.tl)
    | ne =>
      obtain ⟨tgt, ht, ⟨hb, hn⟩ | ⟨hb, hn⟩⟩ := br_inv h
      · obtain ⟨rfl, rfl, rfl, rfl, rfl⟩ := nx_inv hn
        exact lv_if_ne X.1 X.2.1 hd ht (fun _ => kp hH kk hL hS.tl) (fun q => absurd ((i32_eq r w).mp q) hb)
      · obtain ⟨rfl, rfl, rfl, rfl, rfl⟩ := nx_inv hn
        exact lv_if_ne X.1 X.2.1 hd ht (fun q => absurd ((i32_eq r w).mpr (Decidable.not_not.mp hb)) q) (fun _ => kp hH kk hL hS.tl)
    | lt =>
      obtain ⟨tgt, ht, ⟨hb, hn⟩ | ⟨hb, hn⟩⟩ := br_inv h
      · obtain ⟨rfl, rfl, rfl, rfl, rfl⟩ := nx_inv hn
        exact lv_if_lt X.1 X.2.1 hd ht (fun _ => kp hH kk hL hS.tl) (fun q => absurd ((i32_lt r w).mpr hb) q)
      · obtain ⟨rfl, rfl, rfl, rfl, rfl⟩ := nx_inv hn
        exact lv_if_lt X.1 X.2.1 hd ht (fun q => absurd ((i32_lt r w).mp q) hb) (fun _ => kp hH kk hL hS.tl)
    | ge =>
      obtain ⟨tgt, ht, ⟨hb, hn⟩ | ⟨hb, hn⟩⟩ := br_inv h
      · obtain ⟨rfl, rfl, rfl, rfl, rfl⟩ := nx_inv hn
        exact lv_if_ge X.1 X.2.1 hd ht (fun _ => kp hH kk hL hS.tl) (fun q => absurd ((i32_le w r).mpr hb) q)
      · obtain ⟨rfl, rfl, rfl, rfl, rfl⟩ := nx_inv hn
        exact lv_if_ge X.1 X.2.1 hd ht (fun q => absurd ((i32_le w r).mp q) hb) (fun _ => kp hH kk hL hS.tl)
    | gt =>
      obtain ⟨tgt, ht, ⟨hb, hn⟩ | ⟨hb, hn⟩⟩ := br_inv h
      · obtain ⟨rfl, rfl, rfl, rfl, rfl⟩ := nx_inv hn
        exact lv_if_gt X.1 X.2.1 hd ht (fun _ => kp hH kk hL hS.tl) (fun q => absurd ((i32_lt w r).mpr hb) q)
      · obtain ⟨rfl, rfl, rfl, rfl, rfl⟩ := nx_inv hn
        exact lv_if_gt X.1 X.2.1 hd ht (fun q => absurd ((i32_lt w r).mp q) hb) (fun _ => kp hH kk hL hS.tl)
    | le =>
      obtain ⟨tgt, ht, ⟨hb, hn⟩ | ⟨hb, hn⟩⟩ := br_inv h
      · obtain ⟨rfl, rfl, rfl, rfl, rfl⟩ := nx_inv hn
        exact lv_if_le X.1 X.2.1 hd ht (fun _ => kp hH kk hL hS.tl) (fun q => absurd ((i32_le r w).mpr hb) q)
      · obtain ⟨rfl, rfl, rfl, rfl, rfl⟩ := nx_inv hn
        exact lv_if_le X.1 X.2.1 hd ht (fun q => absurd ((i32_le r w).mp q) hb) (fun _ => kp hH kk hL hS.tl)
  · cases h
theorem sn_if_icmp (cd : Jvm.ClassFile.Cond) (off : Int) : SNg p l e R s m args below meth c Q xs y K D A sa (.if_icmp cd off) := by
  intro pc len L st μ f φ ls H locs cells slots pc' L' st' μ' f' X hX hL hS hH hd h8 hc hs hF hl kk
  obtain ⟨rfl, h⟩ := ifs h8
  split at h
  · rename_i z x t
    have r := hS.tl.hd.1
    have w := hS.hd.1
    cases cd with
    | eq =>
      obtain ⟨tgt, ht, ⟨hb, hn⟩ | ⟨hb, hn⟩⟩ := br_inv h
      · obtain ⟨rfl, rfl, rfl, rfl, rfl⟩ := nx_inv hn
        exact lv_icmp_eq X.1 X.2.1 hd ht (fun _ => kp hH kk hL hS.tl.tl) (fun q => absurd ((i32_eq r w).mpr hb) q)
      · obtain ⟨rfl, rfl, rfl, rfl, rfl⟩ := nx_inv hn
        exact lv_icmp_eq X.1 X.2.1 hd ht (fun q => absurd ((i32_eq r w).mp q) hb) (fun _ => kp hH kk hL hS.tl.tl)
    | ne =>
      obtain ⟨tgt, ht, ⟨hb, hn⟩ | ⟨hb, hn⟩⟩ := br_inv h
      · obtain ⟨rfl, rfl, rfl, rfl, rfl⟩ := nx_inv hn
        exact lv_icmp_ne X.1 X.2.1 hd ht (fun _ => kp hH kk hL hS.tl.tl) (fun q => absurd ((i32_eq r w).mp q) hb)
      · obtain ⟨rfl, rfl, rfl, rfl, rfl⟩ := nx_inv hn
        exact lv_icmp_ne X.1 X.2.1 hd ht (fun q => absurd ((i32_eq r w).mpr (Decidable.not_not.mp hb)) q) (fun _ => kp hH kk hL hS.tl.tl)
    | lt =>
      obtain ⟨tgt, ht, ⟨hb, hn⟩ | ⟨hb, hn⟩⟩ := br_inv h
      · obtain ⟨rfl, rfl, rfl, rfl, rfl⟩ := nx_inv hn
        exact lv_icmp_lt X.1 X.2.1 hd ht (fun _ => kp hH kk hL hS.tl.tl) (fun q => absurd ((i32_lt r w).mpr hb) q)
      · obtain ⟨rfl, rfl, rfl, rfl, rfl⟩ := nx_inv hn
        exact lv_icmp_lt X.1 X.2.1 hd ht (fun q => absurd ((i32_lt r w).mp q) hb) (fun _ => kp hH kk hL hS.tl.tl)
    | ge =>
      obtain ⟨tgt, ht, ⟨hb, hn⟩ | ⟨hb, hn⟩⟩ := br_inv h
      · obtain ⟨rfl, rfl, rfl, rfl, rfl⟩ := nx_inv hn
        exact lv_icmp_ge X.1 X.2.1 hd ht (fun _ => kp hH kk hL hS.tl.tl) (fun q => absurd ((i32_le w r).mpr hb) q)
      · obtain ⟨rfl, rfl, rfl, rfl, rfl⟩ := nx_inv hn
        exact lv_icmp_ge X.1 X.2.1 hd ht (fun q => absurd ((i32_le w r).mp q) hb) (fun _ => kp hH kk hL hS.tl.tl)
    | gt =>
      obtain ⟨tgt, ht, ⟨hb, hn⟩ | ⟨hb, hn⟩⟩ := br_inv h
      · obtain ⟨rfl, rfl, rfl, rfl, rfl⟩ := nx_inv hn
        exact lv_icmp_gt X.1 X.2.1 hd ht (fun _ => kp hH kk hL hS.tl.tl) (fun q => absurd ((i32_lt w r).mpr hb) q)
      · obtain ⟨rfl, rfl, rfl, rfl, rfl⟩ := nx_inv hn
        exact lv_icmp_gt X.1 X.2.1 hd ht (fun q => absurd ((i32_lt w r).mp q) hb) (fun _ => kp hH kk hL hS.tl.tl)
    | le =>
      obtain ⟨tgt, ht, ⟨hb, hn⟩ | ⟨hb, hn⟩⟩ := br_inv h
      · obtain ⟨rfl, rfl, rfl, rfl, rfl⟩ := nx_inv hn
        exact lv_icmp_le X.1 X.2.1 hd ht (fun _ => kp hH kk hL hS.tl.tl) (fun q => absurd ((i32_le r w).mpr hb) q)
      · obtain ⟨rfl, rfl, rfl, rfl, rfl⟩ := nx_inv hn
        exact lv_icmp_le X.1 X.2.1 hd ht (fun q => absurd ((i32_le r w).mp q) hb) (fun _ => kp hH kk hL hS.tl.tl)
  · cases h
theorem sn_ifnull (off : Int) : SNg p l e R s m args below meth c Q xs y K D A sa (.ifnull off) := by
  intro pc len L st μ f φ ls H locs cells slots pc' L' st' μ' f' X hX hL hS hH hd h8 hc hs hF hl kk
  obtain ⟨rfl, h⟩ := ifs h8
  split at h
  · obtain ⟨rfl, rfl, rfl, rfl, rfl⟩ := nx_inv h
    exact lv_ifnull X.1 X.2.1 hd (kp hH kk hL hS.tl)
  · obtain ⟨t, ht, hn⟩ := tg_inv h
    obtain ⟨rfl, rfl, rfl, rfl, rfl⟩ := nx_inv hn
    exact lv_ifnullN X.1 X.2.1 hd ht (kp hH kk hL hS.tl)
  · cases h
theorem sn_tableswitch (d lo hi : Int) (offs : Array Int) : SNg p l e R s m args below meth c Q xs y K D A sa (.tableswitch d lo hi offs) := by
  intro pc len L st μ f φ ls H locs cells slots pc' L' st' μ' f' X hX hL hS hH hd h8 hc hs hF hl kk
  have h : (match st with
    | .inl x :: r => if x < lo ∨ hi < x then tg pc d L r μ f else (match offs[(x - lo).toNat]? with
      | some off => tg pc off L r μ f
      | none => none)
    | _ => none) = some (.inl (pc', (L', (st', (μ', f'))))) := h8
  split at h
  · rename_i x t
    have r := hS.hd.1
    have e := i32_int r.1 r.2
    by_cases hq : x < lo ∨ hi < x
    · rw [if_pos hq] at h
      obtain ⟨tgt, ht, hn⟩ := tg_inv h
      obtain ⟨rfl, rfl, rfl, rfl, rfl⟩ := nx_inv hn
      exact lv_tableOut X.1 X.2.1 hd (by rw [e]; exact hq) ht (kp hH kk hL hS.tl)
    · rw [if_neg hq] at h
      split at h
      · rename_i off ho
        obtain ⟨tgt, ht, hn⟩ := tg_inv h
        obtain ⟨rfl, rfl, rfl, rfl, rfl⟩ := nx_inv hn
        exact lv_tableIn X.1 X.2.1 hd (by rw [e]; exact fun z => hq (Or.inl z)) (by rw [e]; exact fun z => hq (Or.inr z)) (by rw [e]; exact ho) ht (kp hH kk hL hS.tl)
      · cases h
  · cases h
end SN
end
section
/-! ONE INSTRUCTION THAT TOUCHES THE HEAP -/
section SH
variable {p : Program} {l : Launch} {e : Env} {R : Room} {s : State} {m : MethodId} {args : Array Value} {below : List Frame} {meth : Method} {c : Code} {H : Heap} {locs : List Loc} {cells slots : Nat} {Q : State → Prop}
variable {xs : List Int} {y : Nat} {K : KI} {D : va_G} {A : Nat → Prop} {sa : Nat → Nat} {φ : Nat → Nat} {f : AH} {μ : Mu} {L st : List AV} {ls : Array Slot} {pc' : Nat}
theorem lt5 {P : Nat → Prop} (h0 : P 0) (h1 : P 1) (h2 : P 2) (h3 : P 3) (h4 : P 4) : ∀ {ci : Nat}, ci < 5 → P ci
  | 0, _ => h0
  | 1, _ => h1
  | 2, _ => h2
  | 3, _ => h3
  | 4, _ => h4
  | n + 5, h => absurd h (by omega)
theorem vwCl_at {ci : Nat} (h : ci < 5) : vwCl[ci]? = some (cN ci, cT ci, cF ci) := lt5 (P := fun ci => vwCl[ci]? = some (cN ci, cT ci, cF ci)) rfl rfl rfl rfl rfl h
theorem cY_ok {ci : Nat} (h : ci < 5) : ∀ k, k < cF ci → parseFieldDescriptor (cT ci k).2.2.1 = some (cY ci k) := lt5 (P := fun ci => ∀ k, k < cF ci → parseFieldDescriptor (cT ci k).2.2.1 = some (cY ci k)) tyX0_ok tyX1_ok tyX2_ok tyX3_ok tyX3_ok h
theorem cT_nm {ci : Nat} (h : ci < 5) : ∀ a, a < cF ci → ∀ b, b < cF ci → a ≠ b → (cT ci a).2.1 ≠ (cT ci b).2.1 := lt5 (P := fun ci => ∀ a, a < cF ci → ∀ b, b < cF ci → a ≠ b → (cT ci a).2.1 ≠ (cT ci b).2.1) nmX0 nmX1 nmX2 nmX3 nmX3 h
theorem cW_in {ci : Nat} (h : ci < 5) : ∀ w ∈ u_ws (cN ci) (cT ci) (cF ci), w ∈ lw_gd := by
  intro w hw
  obtain ⟨k, hk, rfl⟩ := List.mem_map.mp hw
  exact inG_mem (List.all_eq_true.mp (List.all_eq_true.mp fwP_ok ci (List.mem_range.mpr h)) k hk)
theorem fTab_in {o k ci kk q : Nat} (h : lk fTab o k = some (ci, (kk, q))) : Cond.fieldLink (cN o) k (cN ci) (cT ci kk).2.1 (cT ci kk).2.2.1 ∈ lw_gd ∧ (cT ci kk).1 = cN ci ∧ kk < cF ci ∧ ci < 5 := by
  have h1 := List.all_eq_true.mp fTab_ok _ (lk_mem h)
  simp only [Bool.and_eq_true] at h1
  obtain ⟨a, b, c, d⟩ := h1
  exact ⟨inG_mem a, by simpa using b, by simpa [Nat.blt_eq] using c, by simpa [Nat.blt_eq] using d⟩
theorem gf_inv {a ci k : Nat} {v : AV} (h : gf f a ci k = some v) : ∃ fs, f a = some (oC ci fs) ∧ fs[k]? = some v := by
  unfold gf at h
  split at h
  · rename_i c fs hf
    obtain ⟨rfl, h2⟩ := ifs h
    exact ⟨fs, hf, h2⟩
  · cases h
theorem pf_inv {a ci k : Nat} {v : AV} {f' : AH} (h : pf f a ci k v = some f') : ∃ fs, f a = some (oC ci fs) ∧ k < fs.length ∧ f' = aup f a (oC ci (fs.set k v)) := by
  unfold pf at h
  split at h
  · rename_i c fs hf
    obtain ⟨⟨rfl, h1⟩, h2⟩ := ifs h
    exact ⟨fs, hf, h1, (Option.some.inj h2).symm⟩
  · cases h
theorem sn_getfield (k : Nat) : SNg p l e R s m args below meth c Q xs y K D A sa (.getfield k) := by
  intro pc len L st μ f φ ls H locs cells slots pc' L' st' μ' f' X hX hL hS hH hd h8 hc hs hF hl kk
  obtain ⟨rfl, h⟩ := ifs h8
  split at h
  · rename_i a t ci k2 q hk
    obtain ⟨v, hv, hn⟩ := ov_inv h
    obtain ⟨rfl, rfl, rfl, rfl, rfl⟩ := nx_inv hn
    obtain ⟨fs, hf, hv2⟩ := gf_inv hv
    obtain ⟨w1, w2, w3, w4⟩ := fTab_in hk
    have ho := (hH.2.2.2.1 _ _ hf).2.2.2.2 v (List.mem_of_getElem? hv2)
    exact va_get (C := cN ci) (T := cT ci) (N := cF ci) (ref := cN ci) X.1 X.2.1 X.2.2.2.2.1 (cW_in w4) X.2.2.2.1 X.2.2.2.2.2.1 hH.1 (a - 1) (wld_get hH.2.2.2 hf) (vwCl_at w4) k2 w3 (X.2.2.2.2.1 _ w1) (fun x hx => by rw [w2] at hx; exact hx) (v := cv φ v) (by rw [List.getElem?_map, hv2]; rfl) hd (kp hH kk hL (hS.tl.cons ho.1 ho.2))
  · cases h
theorem fitA_fits {ty : FieldType} {v : AV} (h : fitA ty v = true) (φ : Nat → Nat) : fits ty (cv φ v) = true ∧ narrow ty (cv φ v) = cv φ v ∧ isU v = false := by
  unfold fitA at h
  split at h
  · exact ⟨rfl, rfl, rfl⟩
  · exact ⟨rfl, rfl, rfl⟩
  · rename_i a; cases a <;> exact ⟨rfl, rfl, rfl⟩
  · rename_i a; cases a <;> exact ⟨rfl, rfl, rfl⟩
  · cases h
theorem RH.put {a : Nat} {c0 c1 : AC} (hH : RH K D A s φ f μ.1 H locs) (hf : f a = some c0) (hc : okC μ.1 c1) {H1 : Heap} {locs1 : List Loc} (h1 : va_P D vwCl ((wld K φ f μ.1).set (a - 1) (φ a, ce K φ c1)) H1) (h2 : va_D A ((wld K φ f μ.1).set (a - 1) (φ a, ce K φ c1))) (h3 : va_S A s.heap H1 locs1) : RH K D A s φ (aup f a c1) μ.1 H1 locs1 := by
  rw [wld_set hH.2.2.2 hf] at h1 h2
  exact ⟨h1, h2, h3, okH_set hH.2.2.2 hf hc⟩
theorem sn_putfield (k : Nat) : SNg p l e R s m args below meth c Q xs y K D A sa (.putfield k) := by
  intro pc len L st μ f φ ls H locs cells slots pc' L' st' μ' f' X hX hL hS hH hd h8 hc hs hF hl kk
  obtain ⟨rfl, h⟩ := ifs h8
  split at h
  · rename_i v a t ci k2 q hk
    obtain ⟨⟨hfit, hfin⟩, h⟩ := ifs h
    obtain ⟨f2, hf2, hn⟩ := oh_inv h
    obtain ⟨rfl, rfl, rfl, rfl, rfl⟩ := nx_inv hn
    obtain ⟨fs, hf, hlen, rfl⟩ := pf_inv hf2
    obtain ⟨w1, w2, w3, w4⟩ := fTab_in hk
    obtain ⟨z1, z2, z3⟩ := fitA_fits hfit φ
    have ho := (hH.2.2.2.1 _ _ hf).2.2
    have hok : okC μ'.1 (oC ci (fs.set k2 v)) := ⟨ho.1, by rw [List.length_set]; exact ho.2.1, fun w hw => by
      rcases List.mem_or_eq_of_mem_set hw with hw | rfl
      · exact ho.2.2 w hw
      · exact hS.hd⟩
    have key : ∀ (H1 : Heap) (locs1 : List Loc), va_P D vwCl ((wld K φ f μ'.1).set (a - 1) (φ a, .inr (ci, (fs.map (cv φ)).set k2 (cv φ v)))) H1 → va_D A ((wld K φ f μ'.1).set (a - 1) (φ a, .inr (ci, (fs.map (cv φ)).set k2 (cv φ v)))) → va_S A s.heap H1 locs1 → W p l e R s m args below meth c H1 locs1 cells slots Q (F0 m (pc + 3) ls (st'.map (cv φ))) := by
      intro H1 locs1 h1 h2 h3
      rw [← List.map_set] at h1 h2
      exact kh kk hL hS.tl.tl (RH.put hH hf hok h1 h2 h3)
    rcases hfin with hfin | ⟨hin, ho3⟩
    · exact va_put (C := cN ci) (T := cT ci) (N := cF ci) (ref := cN ci) X.1 X.2.1 X.2.2.2.2.1 (cW_in w4) (cY ci) (cY_ok w4) (cT_nm w4) X.2.2.2.1 X.2.2.2.2.2.1 hH.1 hH.2.1 hH.2.2.1 (a - 1) (wld_get hH.2.2.2 hf) (vwCl_at w4) k2 w3 (X.2.2.2.2.1 _ w1) (fun x hx => by rw [w2] at hx; exact hx) hfin (cY_ok w4 k2 w3) z2 z1 (by rw [List.length_map]; exact hlen) hd key
    · by_cases hf9 : (cT ci k2).2.2.2 = true
      · exact va_putF (C := cN ci) (T := cT ci) (N := cF ci) (ref := cN ci) X.1 X.2.1 X.2.2.2.2.1 (cW_in w4) (cY ci) (cY_ok w4) (cT_nm w4) X.2.2.2.1 X.2.2.2.2.2.1 hH.1 hH.2.1 hH.2.2.1 (a - 1) (wld_get hH.2.2.2 hf) (vwCl_at w4) k2 w3 (X.2.2.2.2.1 _ w1) (fun x hx => by rw [w2] at hx; exact hx) hf9 (X.2.2.2.2.2.2.2.2.2.1 hin) (by rw [w2, ho3]) (cY_ok w4 k2 w3) z2 z1 (by rw [List.length_map]; exact hlen) hd key
      · exact va_put (C := cN ci) (T := cT ci) (N := cF ci) (ref := cN ci) X.1 X.2.1 X.2.2.2.2.1 (cW_in w4) (cY ci) (cY_ok w4) (cT_nm w4) X.2.2.2.1 X.2.2.2.2.2.1 hH.1 hH.2.1 hH.2.2.1 (a - 1) (wld_get hH.2.2.2 hf) (vwCl_at w4) k2 w3 (X.2.2.2.2.1 _ w1) (fun x hx => by rw [w2] at hx; exact hx) (by simpa using hf9) (cY_ok w4 k2 w3) z2 z1 (by rw [List.length_map]; exact hlen) hd key
  · cases h
theorem gi_inv {a : Nat} {i : Int} {v : AV} (h : gi f a i = some v) : ∃ zs, f a = some (iC zs) ∧ 0 ≤ i ∧ i < zs.length ∧ v = vi (zs.getD i.toNat 0) := by
  unfold gi at h
  split at h
  · rename_i zs hf
    obtain ⟨⟨h1, h3⟩, h2⟩ := ifs h
    exact ⟨zs, hf, h1, h3, (Option.some.inj h2).symm⟩
  · cases h
theorem okI {zs : List Int} (h : ∀ x ∈ zs, -2147483648 ≤ x ∧ x < 2147483648) (j : Nat) : -2147483648 ≤ zs.getD j 0 ∧ zs.getD j 0 < 2147483648 := by
  rw [List.getD_eq_getElem?_getD]
  cases hq : zs[j]? with
  | none => exact r32_0
  | some x => exact h x (List.mem_of_getElem? hq)
theorem sn_iaload : SNg p l e R s m args below meth c Q xs y K D A sa .iaload := by
  intro pc len L st μ f φ ls H locs cells slots pc' L' st' μ' f' X hX hL hS hH hd h8 hc hs hF hl kk
  obtain ⟨rfl, h⟩ := ifs h8
  split at h
  · rename_i i a t
    obtain ⟨v, hv, hn⟩ := ov_inv h
    obtain ⟨rfl, rfl, rfl, rfl, rfl⟩ := nx_inv hn
    have ri := hS.hd.1
    by_cases h0 : a = 0
    · rw [if_pos h0] at hv
      subst h0
      obtain ⟨⟨hy, h1, h2⟩, h3⟩ := ifs hv
      cases h3
      obtain ⟨e1, e2, e3, e4, e5⟩ := hX
      have q := kp hH kk hL (hS.tl.tl.cons (v := vi (xs.getD i.toNat 0)) (okI e4 _) rfl)
      refine va_sld X.1 X.2.1 e1 e2 e3 hH.2.2.1 (i32_in h1 h2 e5) hd ?_
      rw [i32_nat h1 (by omega)]
      exact q
    · rw [if_neg h0] at hv
      obtain ⟨zs, hf, h1, h2, rfl⟩ := gi_inv hv
      have ho := (hH.2.2.2.1 _ _ hf).2.2
      have q := kp hH kk hL (hS.tl.tl.cons (v := vi (zs.getD i.toNat 0)) (okI ho.1 _) rfl)
      refine va_iald X.1 X.2.1 X.2.2.2.2.2.1 hH.1 (a - 1) 0 (wld_get hH.2.2.2 hf) rfl (i32_in h1 h2 ho.2) hd ?_
      rw [i32_nat h1 (by have := ho.2; omega)]
      exact q
  · cases h
theorem pi_inv {a : Nat} {i x : Int} {f' : AH} (h : pi f a i x = some f') : ∃ zs, f a = some (iC zs) ∧ 0 ≤ i ∧ i < zs.length ∧ f' = aup f a (iC (zs.set i.toNat x)) := by
  unfold pi at h
  split at h
  · rename_i zs hf
    obtain ⟨⟨h1, h3⟩, h2⟩ := ifs h
    exact ⟨zs, hf, h1, h3, (Option.some.inj h2).symm⟩
  · cases h
theorem ce_iset (zs : List Int) (j : Nat) (x : Int) (hj : j < zs.length) : ce K φ (iC (zs.set j x)) = .inl (K.1, zs.length, .inl (upd (fun k => i32 (zs.getD k 0)) j (i32 x))) := by
  show Sum.inl (K.1, (zs.set j x).length, Sum.inl (fun k => i32 ((zs.set j x).getD k 0))) = _
  rw [List.length_set]
  have e : (fun k => i32 ((zs.set j x).getD k 0)) = upd (fun k => i32 (zs.getD k 0)) j (i32 x) := by
    funext k
    unfold upd
    rw [List.getD_eq_getElem?_getD, List.getElem?_set]
    by_cases hk : j = k
    · subst hk; rw [if_pos rfl, if_pos rfl, if_pos hj]; rfl
    · rw [if_neg hk, if_neg (fun q => hk q.symm), ← List.getD_eq_getElem?_getD]
  rw [e]
theorem sn_iastore : SNg p l e R s m args below meth c Q xs y K D A sa .iastore := by
  intro pc len L st μ f φ ls H locs cells slots pc' L' st' μ' f' X hX hL hS hH hd h8 hc hs hF hl kk
  obtain ⟨rfl, h⟩ := ifs h8
  split at h
  · rename_i x i a t
    obtain ⟨f2, hf2, hn⟩ := oh_inv h
    obtain ⟨rfl, rfl, rfl, rfl, rfl⟩ := nx_inv hn
    obtain ⟨zs, hf, h1, h2, rfl⟩ := pi_inv hf2
    have ho := (hH.2.2.2.1 _ _ hf).2.2
    have hok : okC μ'.1 (iC (zs.set i.toNat x)) := ⟨fun w hw => by
      rcases List.mem_or_eq_of_mem_set hw with hw | rfl
      · exact ho.1 w hw
      · exact hS.hd.1, by rw [List.length_set]; exact ho.2⟩
    refine va_iast X.1 X.2.1 X.2.2.2.2.2.1 hH.1 hH.2.1 hH.2.2.1 (a - 1) 0 (wld_get hH.2.2.2 hf) rfl (i32_in h1 h2 ho.2) hd (fun H1 locs1 q1 q2 q3 => ?_)
    rw [i32_nat h1 (by have := ho.2; omega), ← ce_iset (φ := φ) zs i.toNat x (by omega)] at q1 q2
    exact kh kk hL hS.tl.tl.tl (RH.put hH hf hok q1 q2 q3)
  · cases h
theorem gq_inv {a : Nat} {i : Int} {v : AV} (h : gq f a i = some v) : ∃ zs, f a = some (rC zs) ∧ 0 ≤ i ∧ i < zs.length ∧ v = vp (zs.getD i.toNat none) := by
  unfold gq at h
  split at h
  · rename_i zs hf
    obtain ⟨⟨h1, h3⟩, h2⟩ := ifs h
    exact ⟨zs, hf, h1, h3, (Option.some.inj h2).symm⟩
  · cases h
theorem cv_vp (o : Option Nat) : cv φ (vp o) = va_rf (o.map φ) := by cases o <;> rfl
theorem sn_aaload : SNg p l e R s m args below meth c Q xs y K D A sa .aaload := by
  intro pc len L st μ f φ ls H locs cells slots pc' L' st' μ' f' X hX hL hS hH hd h8 hc hs hF hl kk
  obtain ⟨rfl, h⟩ := ifs h8
  split at h
  · rename_i i a t
    obtain ⟨v, hv, hn⟩ := ov_inv h
    obtain ⟨rfl, rfl, rfl, rfl, rfl⟩ := nx_inv hn
    obtain ⟨zs, hf, h1, h2, rfl⟩ := gq_inv hv
    have ho := (hH.2.2.2.1 _ _ hf).2.2
    have hok : okV μ'.1 (vp (zs.getD i.toNat none)) := by
      cases hq : zs.getD i.toNat none with
      | none => trivial
      | some b =>
        rw [List.getD_eq_getElem?_getD] at hq
        cases hz : zs[i.toNat]? with
        | none => rw [hz] at hq; cases hq
        | some w => rw [hz] at hq; cases hq; exact ho.1 b (List.mem_of_getElem? hz)
    have q := kp hH kk hL (hS.tl.tl.cons hok rfl)
    rw [List.map_cons, cv_vp] at q
    refine va_aldq X.1 X.2.1 X.2.2.2.2.2.1 hH.1 (a - 1) 1 (wld_get hH.2.2.2 hf) rfl (i32_in h1 h2 ho.2) hd ?_
    rw [i32_nat h1 (by have := ho.2; omega)]
    exact q
  · cases h
theorem pq_inv {a b : Nat} {i : Int} {f' : AH} (h : pq f a i b = some f') : ∃ zs fs, f a = some (rC zs) ∧ 0 ≤ i ∧ i < zs.length ∧ f b = some (oC 1 fs) ∧ f' = aup f a (rC (zs.set i.toNat (some b))) := by
  unfold pq at h
  split at h
  · rename_i zs hf
    obtain ⟨⟨h1, h3, h4⟩, h2⟩ := ifs h
    unfold isO at h4
    split at h4
    · rename_i k fs hb
      have e := Nat.eq_of_beq_eq_true h4
      subst e
      exact ⟨zs, fs, hf, h1, h3, hb, (Option.some.inj h2).symm⟩
    · cases h4
  · cases h
theorem ce_qset (zs : List (Option Nat)) (j b : Nat) (hj : j < zs.length) : ce K φ (rC (zs.set j (some b))) = .inl (K.2.1, zs.length, .inr (.inr (.inr (.inr (va_up (fun k => (zs.getD k none).map φ) j (some (φ b))))))) := by
  show Sum.inl (K.2.1, (zs.set j (some b)).length, Sum.inr (Sum.inr (Sum.inr (Sum.inr (fun k => ((zs.set j (some b)).getD k none).map φ))))) = _
  rw [List.length_set]
  have e : (fun k => ((zs.set j (some b)).getD k none).map φ) = va_up (fun k => (zs.getD k none).map φ) j (some (φ b)) := by
    funext k
    unfold va_up
    rw [List.getD_eq_getElem?_getD, List.getElem?_set]
    by_cases hk : j = k
    · subst hk; rw [if_pos rfl, if_pos rfl, if_pos hj]; rfl
    · rw [if_neg hk, if_neg (fun q => hk q.symm), ← List.getD_eq_getElem?_getD]
  rw [e]
theorem sn_aastore : SNg p l e R s m args below meth c Q xs y K D A sa .aastore := by
  intro pc len L st μ f φ ls H locs cells slots pc' L' st' μ' f' X hX hL hS hH hd h8 hc hs hF hl kk
  obtain ⟨rfl, h⟩ := ifs h8
  split at h
  · rename_i b i a t
    obtain ⟨f2, hf2, hn⟩ := oh_inv h
    obtain ⟨rfl, rfl, rfl, rfl, rfl⟩ := nx_inv hn
    obtain ⟨zs, fs, hf, h1, h2, hb, rfl⟩ := pq_inv hf2
    have ho := (hH.2.2.2.1 _ _ hf).2.2
    have hok : okC μ'.1 (rC (zs.set i.toNat (some b))) := ⟨fun w hw => by
      rcases List.mem_or_eq_of_mem_set hw with hw | hw
      · exact ho.1 w hw
      · cases hw; exact hS.hd.1, by rw [List.length_set]; exact ho.2⟩
    refine va_astq (r := (cN 1, cT 1, cF 1)) X.1 X.2.1 X.2.2.2.2.2.1 hH.1 hH.2.1 hH.2.2.1 (a - 1) 1 (b - 1) 1 (wld_get hH.2.2.2 hf) rfl (wld_get hH.2.2.2 hb) (vwCl_at (by omega)) (i32_in h1 h2 ho.2) hd (fun H1 locs1 q1 q2 q3 => ?_)
    rw [i32_nat h1 (by have := ho.2; omega), ← ce_qset (φ := φ) zs i.toNat b (by omega)] at q1 q2
    exact kh kk hL hS.tl.tl.tl (RH.put hH hf hok q1 q2 q3)
  · cases h
theorem sn_arraylength : SNg p l e R s m args below meth c Q xs y K D A sa .arraylength := by
  intro pc len L st μ f φ ls H locs cells slots pc' L' st' μ' f' X hX hL hS hH hd h8 hc hs hF hl kk
  obtain ⟨rfl, h⟩ := ifs h8
  split at h
  · rename_i a t
    by_cases h0 : a = 0
    · rw [if_pos h0] at h
      subst h0
      obtain ⟨hy, h⟩ := ifs h
      obtain ⟨rfl, rfl, rfl, rfl, rfl⟩ := nx_inv h
      obtain ⟨e1, e2, e3, e4, e5⟩ := hX
      exact va_slen X.1 X.2.1 e1 e2 e3 hH.2.2.1 hd (kp hH kk hL (hS.tl.cons (v := vi xs.length) ⟨by omega, by omega⟩ rfl))
    · rw [if_neg h0] at h
      split at h
      · rename_i n hn
        obtain ⟨rfl, rfl, rfl, rfl, rfl⟩ := nx_inv h
        unfold an at hn
        split at hn
        · rename_i zs hf
          cases hn
          have ho := (hH.2.2.2.1 _ _ hf).2.2
          have ho2 := ho.2
          exact va_alen X.1 X.2.1 X.2.2.2.2.2.1 hH.1 (a - 1) 0 (wld_get hH.2.2.2 hf) rfl rfl hd (kp hH kk hL (hS.tl.cons (v := vi zs.length) ⟨by omega, by omega⟩ rfl))
        · rename_i zs hf
          cases hn
          have ho := (hH.2.2.2.1 _ _ hf).2.2
          have ho2 := ho.2
          exact va_alen X.1 X.2.1 X.2.2.2.2.2.1 hH.1 (a - 1) 1 (wld_get hH.2.2.2 hf) rfl rfl hd (kp hH kk hL (hS.tl.cons (v := vi zs.length) ⟨by omega, by omega⟩ rfl))
        · cases hn
      · cases h
  · cases h
end SH
end
section
/-! ONE INSTRUCTION THAT MAKES A CELL, OR CALLS THE JDK -/
section SA
variable {p : Program} {l : Launch} {e : Env} {R : Room} {s : State} {m : MethodId} {args : Array Value} {below : List Frame} {meth : Method} {c : Code} {H : Heap} {locs : List Loc} {cells slots : Nat} {Q : State → Prop}
variable {xs : List Int} {y : Nat} {K : KI} {D : va_G} {A : Nat → Prop} {sa : Nat → Nat} {φ : Nat → Nat} {f : AH} {μ : Mu} {L st : List AV} {ls : Array Slot} {pc' : Nat}
theorem kn {L' st' : List AV} {n ms q pc1 : Nat} {c1 : AC} {H1 : Heap} {locs1 : List Loc} (hL : LR φ n (mL y) L' ls) (hS : okS n st') (ho : okH n f) (hc : okC (n + 1) c1)
    (h1 : va_P D vwCl (wld K φ f n ++ [(q, ce K (aupN φ (n + 1) q) c1)]) H1) (h2 : va_D A (wld K φ f n ++ [(q, ce K (aupN φ (n + 1) q) c1)])) (h3 : va_S A s.heap H1 locs1)
    (kk : ∀ (φ' : Nat → Nat) (ls' : Array Slot) (H' : Heap) (locs' : List Loc), ext n φ φ' → LR φ' (n + 1) (mL y) L' ls' → okS (n + 1) (vr (n + 1) :: st') → RH K D A s φ' (aup f (n + 1) c1) (n + 1) H' locs' → n ≤ n + 1 →
      W p l e R s m args below meth c H' locs' (cells + 1) (slots + ms) Q (F0 m pc1 ls' ((vr (n + 1) :: st').map (cv φ')))) :
    W p l e R s m args below meth c H1 locs1 (cells + 1) (slots + ms) Q (F0 m pc1 ls (.ref q :: st'.map (cv φ))) := by
  rw [wld_new ho] at h1 h2
  have e1 := aupN_ext φ n q
  have k := kk (aupN φ (n + 1) q) ls H1 locs1 e1 (hL.ext e1 (by omega)) (okS.cons (v := vr (n + 1)) (fun v hv => ⟨(hS v hv).1.up (by omega), (hS v hv).2⟩) (Nat.le_refl (n + 1)) rfl) ⟨h1, h2, h3, okH_new ho hc⟩ (by omega)
  rw [List.map_cons, cvs_ext e1 hS, show cv (aupN φ (n + 1) q) (vr (n + 1)) = .ref q by show Value.ref (aupN φ (n + 1) q (n + 1)) = _; simp [aupN]] at k
  exact k
theorem arrId {t : FieldType} {cA : ClassId} {T0 : List (ClassId × FieldType)} (hK : va_K D vwCl (T0 ++ [(cA, t)]) s) : va_RA s cA t := (hK.2 T0.length (cA, t) (by rw [List.getElem?_append_right (Nat.le_refl _), Nat.sub_self]; rfl)).2
theorem oW : Cond.instanceMethod Lib.objectInit ∈ lw_gd ∧ Cond.code Lib.objectInit ⟨#[0xb1]⟩ 1 none ∈ lw_gd ∧ Cond.static Lib.Math.min.name ∈ lw_gd ∧ Cond.initialized "java/lang/Math" ∈ lw_gd ∧ Cond.code Lib.Math.min.name Lib.Math.min.code 2 (some .int) ∈ lw_gd ∧ Cond.native arraycopyName ∈ lw_gd ∧ Cond.static arraycopyName ∈ lw_gd ∧ Cond.initialized "java/lang/System" ∈ lw_gd ∧ Cond.arrayClass .int ∈ lw_gd := by
  have h := oWords
  simp only [Bool.and_eq_true] at h
  obtain ⟨a1, a2, a3, a4, a5, a6, a7, a8, a9⟩ := h
  exact ⟨inG_mem a1, inG_mem a2, inG_mem a3, inG_mem a4, inG_mem a5, inG_mem a6, inG_mem a7, inG_mem a8, inG_mem a9⟩
theorem i32_nn {n : Int} (h : 0 ≤ n) (h2 : n < 2147483648) : ¬ i32 n < 0 := by
  rw [Int32.lt_iff_toInt_lt, i32_int (by omega) h2]
  show ¬ n < 0
  omega
theorem okC_i0 (n k : Nat) (h : k ≤ 100000) : okC n (iC (List.replicate k 0)) := ⟨fun x hx => by rw [List.eq_of_mem_replicate hx]; exact r32_0, by rw [List.length_replicate]; omega⟩
theorem ce_i0 (φ : Nat → Nat) (k : Nat) : ce K φ (iC (List.replicate k 0)) = .inl (K.1, k, .inl (fun _ => 0)) := by
  show Sum.inl (K.1, (List.replicate k (0 : Int)).length, Sum.inl (fun j => i32 ((List.replicate k 0).getD j 0))) = _
  rw [List.length_replicate]
  have e : (fun j => i32 ((List.replicate k (0 : Int)).getD j 0)) = fun _ => 0 := by
    funext j
    rw [List.getD_eq_getElem?_getD, List.getElem?_replicate]
    split <;> rfl
  rw [e]
theorem ce_l0 (φ : Nat → Nat) (k : Nat) : ce K φ (lC (List.replicate k 0)) = .inl (K.2.2, k, .inr (.inl (fun _ => 0))) := by
  show Sum.inl (K.2.2, (List.replicate k (0 : Int64)).length, Sum.inr (Sum.inl (fun j => (List.replicate k 0).getD j 0))) = _
  rw [List.length_replicate]
  have e : (fun j => (List.replicate k (0 : Int64)).getD j 0) = fun _ => 0 := by
    funext j
    rw [List.getD_eq_getElem?_getD, List.getElem?_replicate]
    split <;> rfl
  rw [e]
theorem ce_q0 (φ : Nat → Nat) (k : Nat) : ce K φ (rC (List.replicate k none)) = .inl (K.2.1, k, .inr (.inr (.inr (.inr (fun _ => none))))) := by
  show Sum.inl (K.2.1, (List.replicate k (none : Option Nat)).length, Sum.inr (Sum.inr (Sum.inr (Sum.inr (fun j => ((List.replicate k none).getD j none).map φ))))) = _
  rw [List.length_replicate]
  have e : (fun j => ((List.replicate k (none : Option Nat)).getD j none).map φ) = fun _ => none := by
    funext j
    rw [List.getD_eq_getElem?_getD, List.getElem?_replicate]
    split <;> rfl
  rw [e]
theorem sn_newarray (t : ArrayType) : SNg p l e R s m args below meth c Q xs y K D A sa (.newarray t) := by
  intro pc len L st μ f φ ls H locs cells slots pc' L' st' μ' f' X hX hL hS hH hd h8 hc hs hF hl kk
  obtain ⟨rfl, h⟩ := ifs h8
  split at h
  · rename_i n r
    obtain ⟨hn, h⟩ := ifs h
    split at h
    · obtain ⟨rfl, rfl, rfl, rfl, rfl⟩ := nx_inv h
      dsimp only at hc hs kk
      simp only [Nat.add_sub_cancel_left] at hc hs kk
      refine va_newa (atype := .int) (a0 := (n.toNat, .inl (fun _ => 0))) X.1 X.2.1 (X.2.2.2.2.1 _ oW.2.2.2.2.2.2.2.2) rfl X.2.2.2.2.2.1 hH.1 hH.2.1 hH.2.2.1 X.2.2.2.2.2.2.1 (fun cA => rfl) (i32_nn hn.1 (by omega)) (i32_nat hn.1 (by omega)) (by show n.toNat * 4 ≤ _; omega) hc hs hd (fun q cA H1 k1 h1 h2 h3 => ?_)
      have e1 : va_RA s cA .int := arrId k1
      have e2 := (X.2.2.2.2.2.1.2 0 _ rfl).2
      have e1 : s.vm.findClass "[I" = some cA := e1
      have e2 : s.vm.findClass "[I" = some K.1 := e2
      have e3 : K.1 = cA := Option.some.inj (e2.symm.trans e1)
      subst e3
      rw [← ce_i0 (aupN φ (μ.1 + 1) q)] at h1 h2
      exact kn hL hS.tl hH.2.2.2 (okC_i0 _ _ (by omega)) h1 h2 h3 kk
    · cases h
  · cases h
theorem cTab_in {o k ci q1 q2 : Nat} (h : lk cTab o k = some (ci, (q1, q2))) : Cond.classLink (cN o) k (cN ci) ∈ lw_gd ∧ Cond.instantiable (cN ci) (cF ci) ∈ lw_gd ∧ ci < 5 := by
  have h1 := List.all_eq_true.mp cTab_ok _ (lk_mem h)
  simp only [Bool.and_eq_true] at h1
  obtain ⟨a, b, c⟩ := h1
  exact ⟨inG_mem a, inG_mem b, by simpa [Nat.blt_eq] using c⟩
theorem ini_in {o : Nat} (h : o < 6) : Cond.initialized (cN o) ∈ lw_gd := inG_mem (List.all_eq_true.mp ini_all o (List.mem_range.mpr h))
theorem sn_anewarray (k : Nat) : SNg p l e R s m args below meth c Q xs y K D A sa (.anewarray k) := by
  intro pc len L st μ f φ ls H locs cells slots pc' L' st' μ' f' X hX hL hS hH hd h8 hc hs hF hl kk
  obtain ⟨rfl, h⟩ := ifs h8
  split at h
  · rename_i n r q hk
    obtain ⟨hn, h⟩ := ifs h
    obtain ⟨rfl, rfl, rfl, rfl, rfl⟩ := nx_inv h
    dsimp only at hc hs kk
    simp only [Nat.add_sub_cancel_left] at hc hs kk
    obtain ⟨w1, w2, w3⟩ := cTab_in (q1 := q.1) (q2 := q.2) hk
    refine va_newq (C := RX1) X.1 X.2.1 X.2.2.2.1 (X.2.2.2.2.1 _ w1) X.2.2.2.2.2.2.2.2.1.2.2.2.2.1 X.2.2.2.2.2.1 hH.1 hH.2.1 hH.2.2.1 X.2.2.2.2.2.2.1 (i32_nn hn.1 (by omega)) (i32_nat hn.1 (by omega)) (by omega) hc hs hd (fun q cA H1 k1 h1 h2 h3 => ?_)
    have e1 : va_RA s cA (.object RX1) := arrId k1
    have e2 := (X.2.2.2.2.2.1.2 1 _ rfl).2
    obtain ⟨-, -, -, -, -, e1⟩ := e1
    obtain ⟨-, -, -, -, -, e2⟩ := e2
    have e3 : K.2.1 = cA := Option.some.inj (e2.symm.trans e1)
    subst e3
    rw [← ce_q0 (aupN φ (μ.1 + 1) q)] at h1 h2
    exact kn hL hS.tl hH.2.2.2 (show okC _ (rC (List.replicate n.toNat none)) from ⟨(fun a ha => nomatch (List.eq_of_mem_replicate ha)), by rw [List.length_replicate]; omega⟩) h1 h2 h3 kk
  · cases h
theorem dfs_ok {ci n : Nat} (h : ci < 5) : okC n (oC ci (dfs ci)) := by
  refine ⟨h, by simp [dfs], fun v hv => ?_⟩
  obtain ⟨k, -, rfl⟩ := List.mem_map.mp hv
  unfold dfl
  split
  · exact ⟨r32_0, rfl⟩
  · exact ⟨trivial, rfl⟩
  · exact ⟨trivial, rfl⟩
theorem dfs_V {ci : Nat} (h : ci < 5) (φ : Nat → Nat) : ∀ j, j < cF ci → defaultValue (cY ci j) = vp_V ((dfs ci).map (cv φ)) j := by
  intro j hj
  have e : vp_V ((dfs ci).map (cv φ)) j = cv φ (dfl (cY ci j)) := by
    unfold vp_V dfs
    rw [List.getD_eq_getElem?_getD, List.getElem?_map, List.getElem?_map, List.getElem?_range hj]
    rfl
  rw [e]
  have all : ∀ j, j < cF ci → (cY ci j = .int ∨ cY ci j = .long ∨ (∃ C, cY ci j = .object C) ∨ ∃ C, cY ci j = .array C) := by
    refine lt5 (P := fun ci => ∀ j, j < cF ci → (cY ci j = .int ∨ cY ci j = .long ∨ (∃ C, cY ci j = .object C) ∨ ∃ C, cY ci j = .array C)) ?_ ?_ ?_ ?_ ?_ h
    · intro j _; exact Or.inr (Or.inr (Or.inr ⟨_, rfl⟩))
    · intro j _
      show tyX1 j = _ ∨ tyX1 j = _ ∨ (∃ C, tyX1 j = _) ∨ ∃ C, tyX1 j = _
      unfold tyX1
      split <;> first | exact Or.inl rfl | exact Or.inr (Or.inr (Or.inl ⟨_, rfl⟩))
    · intro j _
      show tyX2 j = _ ∨ tyX2 j = _ ∨ (∃ C, tyX2 j = _) ∨ ∃ C, tyX2 j = _
      unfold tyX2
      split <;> first | exact Or.inl rfl | exact Or.inr (Or.inr (Or.inl ⟨_, rfl⟩))
    · intro j _
      show tyX3 j = _ ∨ tyX3 j = _ ∨ (∃ C, tyX3 j = _) ∨ ∃ C, tyX3 j = _
      unfold tyX3
      split <;> first | exact Or.inl rfl | exact Or.inr (Or.inr (Or.inl ⟨_, rfl⟩)) | exact Or.inr (Or.inr (Or.inr ⟨_, rfl⟩))
    · intro j _
      show tyX3 j = _ ∨ tyX3 j = _ ∨ (∃ C, tyX3 j = _) ∨ ∃ C, tyX3 j = _
      unfold tyX3
      split <;> first | exact Or.inl rfl | exact Or.inr (Or.inl rfl) | exact Or.inr (Or.inr (Or.inl ⟨_, rfl⟩)) | exact Or.inr (Or.inr (Or.inr ⟨_, rfl⟩))
  rcases all j hj with h | h | ⟨C, h⟩ | ⟨C, h⟩ <;> rw [h] <;> rfl
theorem sn_new (k : Nat) : SNg p l e R s m args below meth c Q xs y K D A sa (.new k) := by
  intro pc len L st μ f φ ls H locs cells slots pc' L' st' μ' f' X hX hL hS hH hd h8 hc hs hF hl kk
  obtain ⟨rfl, h⟩ := ifs h8
  split at h
  · obtain ⟨-, h⟩ := ifs h
    cases h
  · split at h
    · rename_i ci q hk
      obtain ⟨rfl, rfl, rfl, rfl, rfl⟩ := nx_inv h
      dsimp only at hc hs kk
      simp only [Nat.add_sub_cancel_left] at hc hs kk
      obtain ⟨w1, w2, w3⟩ := cTab_in (q1 := q.1) (q2 := q.2) hk
      refine va_new (C := cN ci) (T := cT ci) (N := cF ci) (fs := (dfs ci).map (cv φ)) X.1 X.2.1 X.2.2.2.2.1 (cW_in w3) (cY ci) (cY_ok w3) X.2.2.2.1 (X.2.2.2.2.1 _ w1) (X.2.2.2.2.1 _ w2) (X.2.2.2.2.1 _ (ini_in (by omega))) X.2.2.2.2.2.1 hH.1 hH.2.1 hH.2.2.1 X.2.2.2.2.2.2.1 (vwCl_at w3) (dfs_V w3 φ) hc hs hd (fun q H1 h1 h2 h3 => ?_)
      have e : ∀ ψ : Nat → Nat, ce K ψ (oC ci (dfs ci)) = .inr (ci, (dfs ci).map (cv φ)) := by
        intro ψ
        show Sum.inr (ci, (dfs ci).map (cv ψ)) = Sum.inr (ci, (dfs ci).map (cv φ))
        rw [List.map_congr_left]
        intro v hv
        obtain ⟨j, -, rfl⟩ := List.mem_map.mp hv
        unfold dfl
        split <;> rfl
      rw [← e (aupN φ (μ.1 + 1) q)] at h1 h2
      exact kn hL hS hH.2.2.2 (dfs_ok w3) h1 h2 h3 kk
    · cases h
theorem oTab_in {o k j q : Nat} (h : lk oTab o k = some (j, q)) : Cond.methodLink (cN o) k (oName j) ∈ lw_gd := by
  have h1 := List.all_eq_true.mp oTab_ok _ (lk_mem h)
  exact inG_mem h1
theorem okSys_in {r : List AV} (h : okSys y r = true) (hF : rF y ≤ R.frames) (hl : rL y ≤ R.locals) : 1 ≤ R.frames ∧ 70 ≤ R.locals ∧ ((r.map (cv φ)).map fun v => v.category).sum ≤ 8 := by
  unfold okSys at h
  simp only [Bool.and_eq_true] at h
  obtain ⟨h1, h2, h3⟩ := h
  have h1 := Nat.le_of_ble_eq_true h1
  have h2 := Nat.le_of_ble_eq_true h2
  have h3 := Nat.le_of_ble_eq_true h3
  refine ⟨by omega, by omega, ?_⟩
  have k : ∀ r : List AV, ((r.map (cv φ)).map fun v => v.category).sum ≤ 2 * r.length := by
    intro r
    induction r with
    | nil => exact Nat.le_refl _
    | cons v r ih =>
      have := cat_cv2 (φ := φ) (v := v)
      simp only [List.map_cons, List.sum_cons, List.length_cons]
      omega
  have := k r
  omega
theorem natW : nativeFrameWords "java/lang/System" "arraycopy" 5 + 11 ≤ 50 := by decide +kernel
theorem cp_inv {a b : Nat} {n : Int} {f' : AH} (h : cp f a b n = some f') : ∃ us zs, f a = some (iC us) ∧ f b = some (iC zs) ∧ 0 ≤ n ∧ n ≤ us.length ∧ n ≤ zs.length ∧ f' = aup f b (iC (us.take n.toNat ++ zs.drop n.toNat)) := by
  unfold cp at h
  split at h
  · rename_i us zs h1 h2
    obtain ⟨⟨q1, q2, q3⟩, h⟩ := ifs h
    exact ⟨us, zs, h1, h2, q1, q2, q3, (Option.some.inj h).symm⟩
  · cases h
theorem ce_cp (us zs : List Int) (n : Nat) (h1 : n ≤ us.length) (h2 : n ≤ zs.length) : ce K φ (iC (us.take n ++ zs.drop n)) = .inl (K.1, zs.length, .inl (va_cpy (fun j => i32 (us.getD j 0)) (fun j => i32 (zs.getD j 0)) 0 0 n)) := by
  show Sum.inl (K.1, (us.take n ++ zs.drop n).length, Sum.inl (fun j => i32 ((us.take n ++ zs.drop n).getD j 0))) = _
  have e0 : (us.take n ++ zs.drop n).length = zs.length := by rw [List.length_append, List.length_take, List.length_drop]; omega
  rw [e0]
  have e : (fun j => i32 ((us.take n ++ zs.drop n).getD j 0)) = va_cpy (fun j => i32 (us.getD j 0)) (fun j => i32 (zs.getD j 0)) 0 0 n := by
    funext j
    unfold va_cpy
    by_cases hj : j < n
    · rw [if_pos ⟨Nat.zero_le _, by omega⟩, List.getD_eq_getElem?_getD, List.getElem?_append_left (by rw [List.length_take]; omega), List.getElem?_take_of_lt hj, ← List.getD_eq_getElem?_getD]
      rw [Nat.sub_zero, Nat.zero_add]
    · rw [if_neg (by omega), List.getD_eq_getElem?_getD, List.getElem?_append_right (by rw [List.length_take]; omega), List.getElem?_drop, List.length_take, ← List.getD_eq_getElem?_getD]
      congr 2
      omega
  rw [e]
theorem sn_invokestatic (k : Nat) : SNg p l e R s m args below meth c Q xs y K D A sa (.invokestatic k) := by
  intro pc len L st μ f φ ls H locs cells slots pc' L' st' μ' f' X hX hL hS hH hd h8 hc hs hF hl kk
  obtain ⟨rfl, h⟩ := ifs h8
  split at h
  · unfold callA at h
    split at h
    · obtain ⟨-, h⟩ := ifs h
      cases h
    · cases h
  · split at h
    · rename_i _ q w x r hk
      obtain ⟨hsys, h⟩ := ifs h
      obtain ⟨rfl, rfl, rfl, rfl, rfl⟩ := nx_inv h
      obtain ⟨z1, z2, z3⟩ := okSys_in (φ := φ) hsys hF hl
      have rx := hS.tl.hd.1
      have rw9 := hS.hd.1
      have hok : okV μ'.1 (vi (if x ≤ w then x else w)) := by split <;> assumption
      have q := kp hH kk hL (hS.tl.tl.cons hok rfl)
      rw [Nat.sub_self, Nat.add_zero] at hc hs
      refine va_mmin X.1 X.2.1 (by rw [hL.1.1]; exact X.2.2.1) X.2.2.2.1 (X.2.2.2.2.1 _ (oTab_in hk)) (X.2.2.2.2.1 _ oW.2.2.1) (X.2.2.2.2.1 _ oW.2.2.2.1) (X.2.2.2.2.1 _ oW.2.2.2.2.1) z1 (by omega) hc hs hd ?_
      have e : (if i32 w < i32 x then i32 w else i32 x) = i32 (if x ≤ w then x else w) := by
        by_cases hq : x ≤ w
        · rw [if_pos hq, if_neg (fun z => by have := (i32_lt rw9 rx).mp z; omega)]
        · rw [if_neg hq, if_pos ((i32_lt rw9 rx).mpr (by omega))]
      rw [e]
      exact q
    · rename_i _ q n b a r hk
      obtain ⟨hsys, h⟩ := ifs h
      obtain ⟨f2, hf2, hn⟩ := oh_inv h
      obtain ⟨rfl, rfl, rfl, rfl, rfl⟩ := nx_inv hn
      obtain ⟨z1, z2, z3⟩ := okSys_in (φ := φ) hsys hF hl
      obtain ⟨us, zs, h1, h2, n0, n1, n2, rfl⟩ := cp_inv hf2
      have o1 := (hH.2.2.2.1 _ _ h1).2.2
      have o2 := (hH.2.2.2.1 _ _ h2).2.2
      have ol1 := o1.2
      have ol2 := o2.2
      have hok : okC μ'.1 (iC (us.take n.toNat ++ zs.drop n.toNat)) := by
        refine ⟨fun w hw => ?_, ?_⟩
        · rcases List.mem_append.mp hw with hw | hw
          · exact o1.1 w (List.mem_of_mem_take hw)
          · exact o2.1 w (List.mem_of_mem_drop hw)
        · rw [List.length_append, List.length_take, List.length_drop]; omega
      refine va_copyi X.1 X.2.1 (by rw [hL.1.1]; exact X.2.2.1) X.2.2.2.1 (X.2.2.2.2.1 _ (oTab_in hk)) (X.2.2.2.2.1 _ oW.2.2.2.2.2.1) (X.2.2.2.2.1 _ oW.2.2.2.2.2.2.1) (X.2.2.2.2.1 _ oW.2.2.2.2.2.2.2.1) X.2.2.2.2.2.1 hH.1 hH.2.1 hH.2.2.1 (a - 1) (b - 1) 0 0 (wld_get hH.2.2.2 h1) (wld_get hH.2.2.2 h2) rfl rfl rfl (i32_nn (by omega) (by omega)) (i32_nn (by omega) (by omega)) (i32_nn n0 (by omega)) (by rw [i32_nat n0 (by omega), i32_nat (by omega) (by omega)]; show 0 + n.toNat ≤ us.length; omega) (by rw [i32_nat n0 (by omega), i32_nat (by omega) (by omega)]; show 0 + n.toNat ≤ zs.length; omega) (fun i _ => rfl) z1 (by have := natW; omega) hd (fun H1 locs1 q1 q2 q3 => ?_)
      rw [i32_nat n0 (by omega), show (i32 0).toNatClampNeg = 0 from rfl, ← ce_cp (φ := φ) us zs n.toNat (by omega) (by omega)] at q1 q2
      exact kh kk hL hS.tl.tl.tl.tl.tl (RH.put hH h2 hok q1 q2 q3)
    · cases h
theorem sn_invokespecial (k : Nat) : SNg p l e R s m args below meth c Q xs y K D A sa (.invokespecial k) := by
  intro pc len L st μ f φ ls H locs cells slots pc' L' st' μ' f' X hX hL hS hH hd h8 hc hs hF hl kk
  obtain ⟨rfl, h⟩ := ifs h8
  split at h
  · split at h
    · obtain ⟨-, h⟩ := ifs h
      cases h
    · cases h
  · split at h
    · rename_i _ q a r hk
      obtain ⟨hsys, h⟩ := ifs h
      obtain ⟨rfl, rfl, rfl, rfl, rfl⟩ := nx_inv h
      obtain ⟨z1, z2, z3⟩ := okSys_in (φ := φ) hsys hF hl
      exact W.objInit X.1 X.2.1 X.2.2.2.1 (X.2.2.2.2.1 _ (oTab_in hk)) (X.2.2.2.2.1 _ oW.1) (X.2.2.2.2.1 _ oW.2.1) rfl (by show ls.size = _; rw [hL.1.1]; exact X.2.2.1.symm) rfl hd z1 (by show 2 * 0 + _ + 12 ≤ _; omega) (kp hH kk hL hS.tl)
    · cases h
theorem sn_invokevirtual (k : Nat) : SNg p l e R s m args below meth c Q xs y K D A sa (.invokevirtual k) := by
  intro pc len L st μ f φ ls H locs cells slots pc' L' st' μ' f' X hX hL hS hH hd h8 hc hs hF hl kk
  obtain ⟨rfl, h⟩ := ifs h8
  split at h
  · split at h
    · obtain ⟨-, h⟩ := ifs h
      cases h
    · cases h
  · cases h
end SA
end
section
/-! ALL INSTRUCTIONS: what goes on, what ends, what is called; the counts only grow -/
section AL
variable {p : Program} {l : Launch} {e : Env} {R : Room} {s : State} {m : MethodId} {args : Array Value} {below : List Frame} {meth : Method} {c : Code} {Q : State → Prop}
variable {xs : List Int} {y : Nat} {K : KI} {D : va_G} {A : Nat → Prop} {sa : Nat → Nat} {f : AH} {μ : Mu} {L st : List AV}
theorem sn_ret (i : Instr) (hi : i = .ireturn ∨ i = .lreturn ∨ i = .dreturn ∨ i = .return_) : SNg p l e R s m args below meth c Q xs y K D A sa i := by
  intro pc len L st μ f φ ls H locs cells slots pc' L' st' μ' f' X hX hL hS hH hd h8 hc hs hF hl kk
  rcases hi with rfl | rfl | rfl | rfl
  · obtain ⟨-, h⟩ := ifs h8
    split at h
    · split at h
      · cases h
      · obtain ⟨-, h⟩ := ifs h; cases h
      · cases h
    · cases h
  · obtain ⟨-, h⟩ := ifs h8
    split at h
    · obtain ⟨-, h⟩ := ifs h; cases h
    · cases h
  · obtain ⟨-, h⟩ := ifs h8
    split at h
    · obtain ⟨-, h⟩ := ifs h; cases h
    · cases h
  · obtain ⟨-, h⟩ := ifs h8
    split at h
    · obtain ⟨-, h⟩ := ifs h; cases h
    · cases h
theorem sn_all (i : Instr) : SNg p l e R s m args below meth c Q xs y K D A sa i := by
  cases i with
  | aload_n k => exact sn_aload_n k
  | aload k => exact sn_aload k
  | iload_n k => exact sn_iload_n k
  | iload k => exact sn_iload k
  | lload_n k => exact sn_lload_n k
  | lload k => exact sn_lload k
  | dload_n k => exact sn_dload_n k
  | dload k => exact sn_dload k
  | astore_n k => exact sn_astore_n k
  | astore k => exact sn_astore k
  | istore_n k => exact sn_istore_n k
  | istore k => exact sn_istore k
  | lstore_n k => exact sn_lstore_n k
  | lstore k => exact sn_lstore k
  | dstore_n k => exact sn_dstore_n k
  | dstore k => exact sn_dstore k
  | iconst n => exact sn_iconst n
  | bipush n => exact sn_bipush n
  | sipush n => exact sn_sipush n
  | lconst n => exact sn_lconst n
  | dconst n => exact sn_dconst n
  | ldc2_w k => exact sn_ldc2_w k
  | ldc k => exact sn_ldc k
  | iadd => exact sn_iadd
  | isub => exact sn_isub
  | imul => exact sn_imul
  | idiv => exact sn_idiv
  | irem => exact sn_irem
  | iand => exact sn_iand
  | ior => exact sn_ior
  | ixor => exact sn_ixor
  | ishl => exact sn_ishl
  | ishr => exact sn_ishr
  | ineg => exact sn_ineg
  | i2l => exact sn_i2l
  | i2d => exact sn_i2d
  | d2l => exact sn_d2l
  | ladd => exact sn_ladd
  | lsub => exact sn_lsub
  | lmul => exact sn_lmul
  | lshl => exact sn_lshl
  | dmul => exact sn_dmul
  | ddiv => exact sn_ddiv
  | dsub => exact sn_dsub
  | lcmp => exact sn_lcmp
  | dcmp op => exact sn_dcmp op
  | iinc k n => exact sn_iinc k n
  | dup => exact sn_dup
  | dup2 => exact sn_dup2
  | pop => exact sn_pop
  | goto off => exact sn_goto off
  | ifCond cd off => exact sn_ifCond cd off
  | if_icmp cd off => exact sn_if_icmp cd off
  | ifnull off => exact sn_ifnull off
  | tableswitch d lo hi offs => exact sn_tableswitch d lo hi offs
  | getfield k => exact sn_getfield k
  | putfield k => exact sn_putfield k
  | iaload => exact sn_iaload
  | iastore => exact sn_iastore
  | aaload => exact sn_aaload
  | aastore => exact sn_aastore
  | arraylength => exact sn_arraylength
  | newarray t => exact sn_newarray t
  | anewarray k => exact sn_anewarray k
  | new k => exact sn_new k
  | invokestatic k => exact sn_invokestatic k
  | invokespecial k => exact sn_invokespecial k
  | invokevirtual k => exact sn_invokevirtual k
  | ireturn => exact sn_ret _ (Or.inl rfl)
  | lreturn => exact sn_ret _ (Or.inr (Or.inl rfl))
  | dreturn => exact sn_ret _ (Or.inr (Or.inr (Or.inl rfl)))
  | return_ => exact sn_ret _ (Or.inr (Or.inr (Or.inr rfl)))
  | _ => intro pc len L st μ f φ ls H locs cells slots pc' L' st' μ' f' X hX hL hS hH hd h8; exact (Option.some_ne_none _ (h8.symm : some _ = none)).elim
/-- the counts behind a step -/
def muLe (μ μ' : Mu) : Prop := μ.1 ≤ μ'.1 ∧ μ.2.1 ≤ μ'.2.1 ∧ μ.2.2 ≤ μ'.2.2
theorem muLe.rf {μ : Mu} : muLe μ μ := ⟨Nat.le_refl _, Nat.le_refl _, Nat.le_refl _⟩
theorem muLe.tr {μ μ1 μ2 : Mu} (h : muLe μ μ1) (h2 : muLe μ1 μ2) : muLe μ μ2 := ⟨Nat.le_trans h.1 h2.1, Nat.le_trans h.2.1 h2.2.1, Nat.le_trans h.2.2 h2.2.2⟩
def Mz (μ : Mu) (r : Option SR) : Prop := match r with
  | some (.inl (_, (_, (_, (μ', _))))) => muLe μ μ'
  | some (.inr (.inl (_, (μ', _)))) => muLe μ μ'
  | _ => True
theorem mz_no : Mz μ none := trivial
theorem mz_nx {pc : Nat} : Mz μ (nx pc L st μ f) := muLe.rf
theorem mz_dn {r : Out} : Mz μ (dn r μ f) := muLe.rf
theorem mz_ite {b : Prop} [Decidable b] {r r' : Option SR} (h : Mz μ r) (h2 : Mz μ r') : Mz μ (if b then r else r') := by
  by_cases hb : b
  · rw [if_pos hb]; exact h
  · rw [if_neg hb]; exact h2
theorem mz_if {b : Prop} [Decidable b] {r : Option SR} (h : Mz μ r) : Mz μ (if b then r else none) := mz_ite h mz_no
theorem mz_tg {pc : Nat} {off : Int} : Mz μ (tg pc off L st μ f) := mz_if mz_nx
theorem mz_br {b : Prop} [Decidable b] {pc : Nat} {off : Int} : Mz μ (br b pc off L st μ f) := mz_if (mz_ite mz_nx mz_nx)
theorem mz_cmp {cd : Jvm.ClassFile.Cond} {pc : Nat} {off x z : Int} : Mz μ (cmpA cd pc off x z L st μ f) := by cases cd <;> exact mz_br
theorem mz_ov {o : Option AV} {pc : Nat} : Mz μ (ov o pc L st μ f) := by cases o <;> first | exact mz_no | exact mz_nx
theorem mz_oh {o : Option AH} {pc : Nat} : Mz μ (oh o pc L st μ) := by cases o <;> first | exact mz_no | exact mz_nx
theorem mz_ol {o : Option (List AV)} {pc : Nat} : Mz μ (ol o pc st μ f) := by cases o <;> first | exact mz_no | exact mz_nx
theorem mz_ld {o : Option AV} {k pc : Nat} : Mz μ (ld1 o k pc L st μ f) := by
  unfold ld1
  split
  · split <;> first | exact mz_no | exact mz_nx
  · exact mz_no
theorem mz_st {k i pc : Nat} : Mz μ (st1 k i pc L st μ f) := by
  unfold st1
  split
  · split <;> first | exact mz_no | exact mz_ol
  · exact mz_no
theorem mz_ii {g : Int → Int → Option Int} {pc : Nat} : Mz μ (ii2 g pc L st μ f) := by
  unfold ii2
  split
  · split <;> first | exact mz_no | exact mz_nx
  · exact mz_no
theorem mz_ll {g : Int64 → Int64 → Int64} {pc : Nat} : Mz μ (ll2 g pc L st μ f) := by
  unfold ll2
  split <;> first | exact mz_no | exact mz_nx
theorem mz_dd {g : UInt64 → UInt64 → UInt64} {pc : Nat} : Mz μ (dd2 g pc L st μ f) := by
  unfold dd2
  split <;> first | exact mz_no | exact mz_if mz_nx
theorem mz_call {y' n pc : Nat} : Mz μ (callA y y' n pc L st) := by
  unfold callA
  split
  · exact mz_if trivial
  · trivial
theorem mz_new {n a b : Nat} {pc : Nat} {g : AH} : Mz μ (nx pc L st (μ.1 + n, (μ.2.1 + a, μ.2.2 + b)) g) := ⟨Nat.le_add_right _ _, Nat.le_add_right _ _, Nat.le_add_right _ _⟩
theorem istep_mu (pc len : Nat) (i : Instr) : Mz μ (istep xs y pc len i L st μ f) := by
  cases i with
  | aload_n k => exact mz_if mz_ld
  | aload k => exact mz_if mz_ld
  | iload_n k => exact mz_if mz_ld
  | iload k => exact mz_if mz_ld
  | lload_n k => exact mz_if mz_ld
  | lload k => exact mz_if mz_ld
  | dload_n k => exact mz_if mz_ld
  | dload k => exact mz_if mz_ld
  | astore_n k => exact mz_if mz_st
  | astore k => exact mz_if mz_st
  | istore_n k => exact mz_if mz_st
  | istore k => exact mz_if mz_st
  | lstore_n k => exact mz_if mz_st
  | lstore k => exact mz_if mz_st
  | dstore_n k => exact mz_if mz_st
  | dstore k => exact mz_if mz_st
  | iconst n => exact mz_if mz_nx
  | bipush n => exact mz_if mz_nx
  | sipush n => exact mz_if mz_nx
  | lconst n => exact mz_if mz_nx
  | dconst n => exact mz_if mz_nx
  | ldc2_w k => exact mz_if mz_no
  | ldc k => refine mz_if ?_; split <;> first | exact mz_no | exact mz_nx
  | iadd => exact mz_if mz_ii
  | isub => exact mz_if mz_ii
  | imul => exact mz_if mz_ii
  | idiv => exact mz_if mz_ii
  | irem => exact mz_if mz_ii
  | iand => exact mz_if mz_ii
  | ior => exact mz_if mz_ii
  | ixor => exact mz_if mz_ii
  | ishl => exact mz_if mz_ii
  | ishr => exact mz_if mz_ii
  | ineg => refine mz_if ?_; split <;> first | exact mz_no | exact mz_nx
  | i2l => refine mz_if ?_; split <;> first | exact mz_no | exact mz_nx
  | i2d => refine mz_if ?_; split <;> first | exact mz_no | exact mz_nx
  | d2l => refine mz_if ?_; split <;> first | exact mz_no | exact mz_nx
  | ladd => exact mz_if mz_ll
  | lsub => exact mz_if mz_ll
  | lmul => exact mz_if mz_ll
  | lshl => refine mz_if ?_; split <;> first | exact mz_no | exact mz_nx
  | dmul => exact mz_if mz_dd
  | ddiv => exact mz_if mz_dd
  | dsub => exact mz_if mz_dd
  | lcmp => refine mz_if ?_; split <;> first | exact mz_no | exact mz_nx
  | dcmp op => refine mz_if ?_; split <;> first | exact mz_no | exact mz_nx
  | iinc k n => refine mz_if ?_; split <;> first | exact mz_no | exact mz_nx
  | dup => refine mz_if ?_; split <;> first | exact mz_no | exact mz_if mz_nx
  | dup2 => refine mz_if ?_; split <;> first | exact mz_no | exact mz_if mz_nx
  | pop => refine mz_if ?_; split <;> first | exact mz_no | exact mz_if mz_nx
  | goto off => exact mz_if mz_tg
  | ifCond cd off => refine mz_if ?_; split <;> first | exact mz_no | exact mz_cmp
  | if_icmp cd off => refine mz_if ?_; split <;> first | exact mz_no | exact mz_cmp
  | ifnull off => refine mz_if ?_; split <;> first | exact mz_no | exact mz_nx | exact mz_tg
  | tableswitch d lo hi offs => show Mz μ (match st with | .inl x :: r => if x < lo ∨ hi < x then tg pc d L r μ f else (match offs[(x - lo).toNat]? with | some off => tg pc off L r μ f | none => none) | _ => none); split <;> first | exact mz_no | (refine mz_ite mz_tg ?_; split <;> first | exact mz_tg | exact mz_no)
  | getfield k => refine mz_if ?_; split <;> first | exact mz_no | exact mz_ov
  | putfield k => refine mz_if ?_; split <;> first | exact mz_no | exact mz_if mz_oh
  | iaload => refine mz_if ?_; split <;> first | exact mz_no | exact mz_ov
  | iastore => refine mz_if ?_; split <;> first | exact mz_no | exact mz_oh
  | aaload => refine mz_if ?_; split <;> first | exact mz_no | exact mz_ov
  | aastore => refine mz_if ?_; split <;> first | exact mz_no | exact mz_oh
  | arraylength => refine mz_if ?_; split <;> first | exact mz_no | (refine mz_ite (mz_if mz_nx) ?_; split <;> first | exact mz_nx | exact mz_no)
  | newarray t => refine mz_if ?_; split <;> first | exact mz_no | (refine mz_if ?_; split <;> first | exact mz_new (n := 1) (a := 1) | exact mz_no)
  | anewarray k => refine mz_if ?_; split <;> first | exact mz_no | exact mz_if (mz_new (n := 1) (a := 1))
  | new k => refine mz_if ?_; split <;> first | exact mz_if (⟨Nat.le_refl _, Nat.le_add_right _ _, Nat.le_add_right _ _⟩ : muLe μ (μ.1, (μ.2.1 + 1, μ.2.2 + 6))) | (split <;> first | exact mz_new (n := 1) (a := 1) | exact mz_no)
  | invokestatic k => refine mz_if ?_; split <;> first | exact mz_call | (split <;> first | exact mz_if mz_nx | exact mz_if mz_oh | exact mz_no)
  | invokespecial k => refine mz_if ?_; split <;> first | (split <;> first | exact mz_no | exact mz_if trivial) | (split <;> first | exact mz_if mz_nx | exact mz_no)
  | invokevirtual k => refine mz_if ?_; split <;> first | (split <;> first | exact mz_no | exact mz_if trivial) | exact mz_no
  | ireturn => refine mz_if ?_; split <;> first | exact mz_no | (split <;> first | exact mz_dn | exact mz_if mz_dn | exact mz_no)
  | lreturn => refine mz_if ?_; split <;> first | exact mz_no | exact mz_if mz_dn
  | dreturn => refine mz_if ?_; split <;> first | exact mz_no | exact mz_if mz_dn
  | return_ => refine mz_if ?_; split <;> first | exact mz_no | exact mz_if mz_dn
  | _ => exact mz_no
theorem exec_mu (xs : List Int) : ∀ (k y pc : Nat) (L st : List AV) (μ : Mu) (f : AH) (o : Out) (μ' : Mu) (f' : AH), exec xs k y pc L st μ f = some (o, (μ', f')) → muLe μ μ' := by
  intro k
  induction k with
  | zero => intro y pc L st μ f o μ' f' h; cases h
  | succ k ih =>
    intro y pc L st μ f o μ' f' h
    rw [exec_one] at h
    have hz : Mz μ (Step1 xs y pc L st μ f) := by
      unfold Step1
      split
      · exact mz_no
      · exact istep_mu _ _ _
    cases hs : Step1 xs y pc L st μ f with
    | none => rw [hs] at h; cases h
    | some q =>
      rw [hs] at h hz
      rcases q with ⟨pc1, L1, st1, μ1, f1⟩ | ⟨o1, μ1, f1⟩ | ⟨y1, as, pc1, L1, st1⟩
      · exact muLe.tr hz (ih _ _ _ _ _ _ _ _ _ h)
      · cases h; exact hz
      · dsimp only at h
        cases hc : exec xs k y1 0 (ini y1 as) [] μ f with
        | none => rw [hc] at h; cases h
        | some q =>
          rw [hc] at h
          obtain ⟨o1, μ1, f1⟩ := q
          have h1 := ih _ _ _ _ _ _ _ _ _ hc
          rcases o1 with (_ | v) | E
          · exact h1.tr (ih _ _ _ _ _ _ _ _ _ h)
          · exact h1.tr (ih _ _ _ _ _ _ _ _ _ h)
          · dsimp only at h
            cases hE : lk hTab y E with
            | none =>
              rw [hE] at h
              obtain ⟨-, h⟩ := ifs h
              cases h
              exact h1
            | some w =>
              rw [hE] at h
              obtain ⟨w1, w2, w3, w4, w5⟩ := w
              obtain ⟨-, h⟩ := ifs h
              exact h1.tr (ih _ _ _ _ _ _ _ _ _ h)
def NoD (r : Option SR) : Prop := match r with
  | some (.inr _) => False
  | _ => True
theorem nd_no : NoD none := trivial
theorem nd_nx {pc : Nat} : NoD (nx pc L st μ f) := trivial
theorem nd_ite {b : Prop} [Decidable b] {r r' : Option SR} (h : NoD r) (h2 : NoD r') : NoD (if b then r else r') := by
  by_cases hb : b
  · rw [if_pos hb]; exact h
  · rw [if_neg hb]; exact h2
theorem nd_if {b : Prop} [Decidable b] {r : Option SR} (h : NoD r) : NoD (if b then r else none) := nd_ite h nd_no
theorem nd_tg {pc : Nat} {off : Int} : NoD (tg pc off L st μ f) := nd_if nd_nx
theorem nd_br {b : Prop} [Decidable b] {pc : Nat} {off : Int} : NoD (br b pc off L st μ f) := nd_if (nd_ite nd_nx nd_nx)
theorem nd_cmp {cd : Jvm.ClassFile.Cond} {pc : Nat} {off x z : Int} : NoD (cmpA cd pc off x z L st μ f) := by cases cd <;> exact nd_br
theorem nd_ov {o : Option AV} {pc : Nat} : NoD (ov o pc L st μ f) := by cases o <;> first | exact nd_no | exact nd_nx
theorem nd_oh {o : Option AH} {pc : Nat} : NoD (oh o pc L st μ) := by cases o <;> first | exact nd_no | exact nd_nx
theorem nd_ol {o : Option (List AV)} {pc : Nat} : NoD (ol o pc st μ f) := by cases o <;> first | exact nd_no | exact nd_nx
theorem nd_ld {o : Option AV} {k pc : Nat} : NoD (ld1 o k pc L st μ f) := by
  unfold ld1
  split
  · split <;> first | exact nd_no | exact nd_nx
  · exact nd_no
theorem nd_st {k i pc : Nat} : NoD (st1 k i pc L st μ f) := by
  unfold st1
  split
  · split <;> first | exact nd_no | exact nd_ol
  · exact nd_no
theorem nd_ii {g : Int → Int → Option Int} {pc : Nat} : NoD (ii2 g pc L st μ f) := by
  unfold ii2
  split
  · split <;> first | exact nd_no | exact nd_nx
  · exact nd_no
theorem nd_ll {g : Int64 → Int64 → Int64} {pc : Nat} : NoD (ll2 g pc L st μ f) := by
  unfold ll2
  split <;> first | exact nd_no | exact nd_nx
theorem nd_dd {g : UInt64 → UInt64 → UInt64} {pc : Nat} : NoD (dd2 g pc L st μ f) := by
  unfold dd2
  split <;> first | exact nd_no | exact nd_if nd_nx
theorem nd_new {n a b : Nat} {pc : Nat} {g : AH} : NoD (nx pc L st (μ.1 + n, (μ.2.1 + a, μ.2.2 + b)) g) := trivial
theorem istep_nd (pc len : Nat) (i : Instr) (hne : (∀ k, i ≠ .new k) ∧ (∀ k, i ≠ .invokestatic k) ∧ (∀ k, i ≠ .invokespecial k) ∧ (∀ k, i ≠ .invokevirtual k) ∧ i ≠ .ireturn ∧ i ≠ .lreturn ∧ i ≠ .dreturn ∧ i ≠ .return_) : NoD (istep xs y pc len i L st μ f) := by
  cases i with
  | aload_n k => exact nd_if nd_ld
  | aload k => exact nd_if nd_ld
  | iload_n k => exact nd_if nd_ld
  | iload k => exact nd_if nd_ld
  | lload_n k => exact nd_if nd_ld
  | lload k => exact nd_if nd_ld
  | dload_n k => exact nd_if nd_ld
  | dload k => exact nd_if nd_ld
  | astore_n k => exact nd_if nd_st
  | astore k => exact nd_if nd_st
  | istore_n k => exact nd_if nd_st
  | istore k => exact nd_if nd_st
  | lstore_n k => exact nd_if nd_st
  | lstore k => exact nd_if nd_st
  | dstore_n k => exact nd_if nd_st
  | dstore k => exact nd_if nd_st
  | iconst n => exact nd_if nd_nx
  | bipush n => exact nd_if nd_nx
  | sipush n => exact nd_if nd_nx
  | lconst n => exact nd_if nd_nx
  | dconst n => exact nd_if nd_nx
  | ldc2_w k => exact nd_if nd_no
  | ldc k => refine nd_if ?_; split <;> first | exact nd_no | exact nd_nx
  | iadd => exact nd_if nd_ii
  | isub => exact nd_if nd_ii
  | imul => exact nd_if nd_ii
  | idiv => exact nd_if nd_ii
  | irem => exact nd_if nd_ii
  | iand => exact nd_if nd_ii
  | ior => exact nd_if nd_ii
  | ixor => exact nd_if nd_ii
  | ishl => exact nd_if nd_ii
  | ishr => exact nd_if nd_ii
  | ineg => refine nd_if ?_; split <;> first | exact nd_no | exact nd_nx
  | i2l => refine nd_if ?_; split <;> first | exact nd_no | exact nd_nx
  | i2d => refine nd_if ?_; split <;> first | exact nd_no | exact nd_nx
  | d2l => refine nd_if ?_; split <;> first | exact nd_no | exact nd_nx
  | ladd => exact nd_if nd_ll
  | lsub => exact nd_if nd_ll
  | lmul => exact nd_if nd_ll
  | lshl => refine nd_if ?_; split <;> first | exact nd_no | exact nd_nx
  | dmul => exact nd_if nd_dd
  | ddiv => exact nd_if nd_dd
  | dsub => exact nd_if nd_dd
  | lcmp => refine nd_if ?_; split <;> first | exact nd_no | exact nd_nx
  | dcmp op => refine nd_if ?_; split <;> first | exact nd_no | exact nd_nx
  | iinc k n => refine nd_if ?_; split <;> first | exact nd_no | exact nd_nx
  | dup => refine nd_if ?_; split <;> first | exact nd_no | exact nd_if nd_nx
  | dup2 => refine nd_if ?_; split <;> first | exact nd_no | exact nd_if nd_nx
  | pop => refine nd_if ?_; split <;> first | exact nd_no | exact nd_if nd_nx
  | goto off => exact nd_if nd_tg
  | ifCond cd off => refine nd_if ?_; split <;> first | exact nd_no | exact nd_cmp
  | if_icmp cd off => refine nd_if ?_; split <;> first | exact nd_no | exact nd_cmp
  | ifnull off => refine nd_if ?_; split <;> first | exact nd_no | exact nd_nx | exact nd_tg
  | tableswitch d lo hi offs => show NoD (match st with | .inl x :: r => if x < lo ∨ hi < x then tg pc d L r μ f else (match offs[(x - lo).toNat]? with | some off => tg pc off L r μ f | none => none) | _ => none); split <;> first | exact nd_no | (refine nd_ite nd_tg ?_; split <;> first | exact nd_tg | exact nd_no)
  | getfield k => refine nd_if ?_; split <;> first | exact nd_no | exact nd_ov
  | putfield k => refine nd_if ?_; split <;> first | exact nd_no | exact nd_if nd_oh
  | iaload => refine nd_if ?_; split <;> first | exact nd_no | exact nd_ov
  | iastore => refine nd_if ?_; split <;> first | exact nd_no | exact nd_oh
  | aaload => refine nd_if ?_; split <;> first | exact nd_no | exact nd_ov
  | aastore => refine nd_if ?_; split <;> first | exact nd_no | exact nd_oh
  | arraylength => refine nd_if ?_; split <;> first | exact nd_no | (refine nd_ite (nd_if nd_nx) ?_; split <;> first | exact nd_nx | exact nd_no)
  | newarray t => refine nd_if ?_; split <;> first | exact nd_no | (refine nd_if ?_; split <;> first | exact nd_new (n := 1) (a := 1) | exact nd_no)
  | anewarray k => refine nd_if ?_; split <;> first | exact nd_no | exact nd_if (nd_new (n := 1) (a := 1))
  | new k => exact absurd rfl (hne.1 k)
  | invokestatic k => exact absurd rfl (hne.2.1 k)
  | invokespecial k => exact absurd rfl (hne.2.2.1 k)
  | invokevirtual k => exact absurd rfl (hne.2.2.2.1 k)
  | ireturn => exact absurd rfl hne.2.2.2.2.1
  | lreturn => exact absurd rfl hne.2.2.2.2.2.1
  | dreturn => exact absurd rfl hne.2.2.2.2.2.2.1
  | return_ => exact absurd rfl hne.2.2.2.2.2.2.2
  | _ => exact nd_no
/-- an end by a return -/
def retI (y : Nat) (i : Instr) (v : Option AV) : Prop := match v with
  | none => i = .return_ ∧ mR y = none
  | some (.inl x) => i = .ireturn ∧ (mR y = some .int ∨ (mR y = some .boolean ∧ (x = 0 ∨ x = 1)))
  | some (.inr (.inr (.inl _))) => i = .lreturn ∧ mR y = some .long
  | some (.inr (.inr (.inr (.inl x)))) => i = .dreturn ∧ mR y = some .double ∧ nn64 x = true
  | _ => False
theorem istep_done {pc len : Nat} {i : Instr} {o : Out} {μ' : Mu} {f' : AH} (h9 : istep xs y pc len i L st μ f = some (.inr (.inl (o, (μ', f'))))) :
    (∃ v : Option AV, o = .inl v ∧ μ' = μ ∧ f' = f ∧ st = v.toList ∧ len = 1 ∧ retI y i v) ∨
    (∃ k E r, i = .new k ∧ len = 3 ∧ lk xTab y pc = some (E, r) ∧ o = .inr E ∧ st = [] ∧ 6 ≤ rF y ∧ 100 ≤ rL y ∧ μ' = (μ.1, (μ.2.1 + 1, μ.2.2 + 6)) ∧ f' = f) := by
  by_cases h1 : i = .ireturn
  · subst h1
    obtain ⟨e, h⟩ := ifs h9
    split at h
    · rename_i x
      split at h
      · rename_i hr; cases h; exact Or.inl ⟨some (vi x), rfl, rfl, rfl, rfl, e, rfl, Or.inl hr⟩
      · rename_i hr; obtain ⟨hx, h⟩ := ifs h; cases h; exact Or.inl ⟨some (vi x), rfl, rfl, rfl, rfl, e, rfl, Or.inr ⟨hr, hx⟩⟩
      · cases h
    · cases h
  by_cases h2 : i = .lreturn
  · subst h2
    obtain ⟨e, h⟩ := ifs h9
    split at h
    · rename_i x
      obtain ⟨hr, h⟩ := ifs h
      cases h
      exact Or.inl ⟨some (vl x), rfl, rfl, rfl, rfl, e, rfl, hr⟩
    · cases h
  by_cases h3 : i = .dreturn
  · subst h3
    obtain ⟨e, h⟩ := ifs h9
    split at h
    · rename_i x
      obtain ⟨hr, h⟩ := ifs h
      cases h
      exact Or.inl ⟨some (vd x), rfl, rfl, rfl, rfl, e, rfl, hr.1, hr.2⟩
    · cases h
  by_cases h4 : i = .return_
  · subst h4
    obtain ⟨e, h⟩ := ifs h9
    split at h
    · obtain ⟨hr, h⟩ := ifs h
      cases h
      exact Or.inl ⟨none, rfl, rfl, rfl, rfl, e, rfl, hr⟩
    · cases h
  by_cases h5 : ∃ k, i = .new k
  · obtain ⟨k, rfl⟩ := h5
    obtain ⟨e, h⟩ := ifs h9
    split at h
    · rename_i E r hx
      obtain ⟨hr, h⟩ := ifs h
      cases h
      exact Or.inr ⟨k, E, r, rfl, e, hx, rfl, hr.1, hr.2.1, hr.2.2, rfl, rfl⟩
    · split at h
      · cases h
      · cases h
  by_cases h6 : ∃ k, i = .invokestatic k
  · obtain ⟨k, rfl⟩ := h6
    obtain ⟨e, h⟩ := ifs h9
    split at h
    · unfold callA at h
      split at h
      · obtain ⟨-, h⟩ := ifs h; cases h
      · cases h
    · split at h
      · obtain ⟨-, h⟩ := ifs h; cases h
      · obtain ⟨-, h⟩ := ifs h
        obtain ⟨f2, -, h⟩ := oh_inv h
        cases h
      · cases h
  by_cases h7 : ∃ k, i = .invokespecial k
  · obtain ⟨k, rfl⟩ := h7
    obtain ⟨e, h⟩ := ifs h9
    split at h
    · split at h
      · obtain ⟨-, h⟩ := ifs h; cases h
      · cases h
    · split at h
      · obtain ⟨-, h⟩ := ifs h; cases h
      · cases h
  by_cases h8 : ∃ k, i = .invokevirtual k
  · obtain ⟨k, rfl⟩ := h8
    obtain ⟨e, h⟩ := ifs h9
    split at h
    · split at h
      · obtain ⟨-, h⟩ := ifs h; cases h
      · cases h
    · cases h
  have hn := istep_nd (xs := xs) (y := y) (L := L) (st := st) (μ := μ) (f := f) pc len i ⟨fun k z => h5 ⟨k, z⟩, fun k z => h6 ⟨k, z⟩, fun k z => h7 ⟨k, z⟩, fun k z => h8 ⟨k, z⟩, h1, h2, h3, h4⟩
  rw [h9] at hn
  exact hn.elim
theorem takeArgs_inv {n : Nat} {st as r : List AV} (h : takeArgs n st = some (as, r)) : st = as.reverse ++ r ∧ as.length = n := by
  unfold takeArgs at h
  obtain ⟨hn, h⟩ := ifs h
  cases h
  exact ⟨by rw [List.reverse_reverse, List.take_append_drop], by rw [List.length_reverse, List.length_take]; omega⟩
theorem callA_inv {y' n pc y1 pc1 : Nat} {as L1 r : List AV} (h : callA y y' n pc L st = some (.inr (.inr (y1, (as, (pc1, (L1, r))))))) : y1 = y' ∧ pc1 = pc ∧ L1 = L ∧ st = as.reverse ++ r ∧ as.length = n ∧ okArg y' as = true ∧ okRank y y' = true ∧ r.length ≤ 4 := by
  unfold callA at h
  split at h
  · rename_i as2 r2 ht
    obtain ⟨hc, h⟩ := ifs h
    cases h
    obtain ⟨e1, e2⟩ := takeArgs_inv ht
    exact ⟨rfl, rfl, rfl, e1, e2, hc⟩
  · cases h
theorem istep_call {pc len : Nat} {i : Instr} {y' pc1 : Nat} {as L1 r : List AV} (h9 : istep xs y pc len i L st μ f = some (.inr (.inr (y', (as, (pc1, (L1, r))))))) :
    len = 3 ∧ pc1 = pc + 3 ∧ L1 = L ∧ st = as.reverse ++ r ∧ okArg y' as = true ∧ okRank y y' = true ∧ r.length ≤ 4 ∧
    ((∃ k q a bs, i = .invokevirtual k ∧ lk vTab (mO y) k = some (y', q) ∧ as = vr a :: bs ∧ bs.length = mA y' ∧ isO f a (mO y') = true) ∨
     (∃ k q, i = .invokestatic k ∧ lk sTab (mO y) k = some (y', q) ∧ as.length = mA y') ∨
     (∃ k q a bs, i = .invokespecial k ∧ lk pTab (mO y) k = some (y', q) ∧ as = vr a :: bs ∧ bs.length = mA y' ∧ isO f a (mO y') = true)) := by
  by_cases h6 : ∃ k, i = .invokestatic k
  · obtain ⟨k, rfl⟩ := h6
    obtain ⟨e, h⟩ := ifs h9
    split at h
    · rename_i y2 q hk
      obtain ⟨rfl, rfl, rfl, e1, e2, e3, e4, e5⟩ := callA_inv h
      exact ⟨e, rfl, rfl, e1, e3, e4, e5, Or.inr (Or.inl ⟨k, q, rfl, hk, e2⟩)⟩
    · split at h
      · obtain ⟨-, h⟩ := ifs h; cases h
      · obtain ⟨-, h⟩ := ifs h
        obtain ⟨f2, -, h⟩ := oh_inv h
        cases h
      · cases h
  by_cases h7 : ∃ k, i = .invokespecial k
  · obtain ⟨k, rfl⟩ := h7
    obtain ⟨e, h⟩ := ifs h9
    split at h
    · rename_i y2 q hk
      split at h
      · rename_i y3 a as3 q3 hc
        obtain ⟨pc3, L3, r3⟩ := q3
        obtain ⟨ho, h⟩ := ifs h
        obtain ⟨rfl, rfl, rfl, e1, e2, e3, e4, e5⟩ := callA_inv hc
        cases h
        exact ⟨e, rfl, rfl, e1, e3, e4, e5, Or.inr (Or.inr ⟨k, q, a, as3, rfl, hk, rfl, by simpa using e2, ho.1⟩)⟩
      · cases h
    · split at h
      · obtain ⟨-, h⟩ := ifs h; cases h
      · cases h
  by_cases h8 : ∃ k, i = .invokevirtual k
  · obtain ⟨k, rfl⟩ := h8
    obtain ⟨e, h⟩ := ifs h9
    split at h
    · rename_i y2 q hk
      split at h
      · rename_i y3 a as3 q3 hc
        obtain ⟨pc3, L3, r3⟩ := q3
        obtain ⟨ho, h⟩ := ifs h
        obtain ⟨rfl, rfl, rfl, e1, e2, e3, e4, e5⟩ := callA_inv hc
        cases h
        exact ⟨e, rfl, rfl, e1, e3, e4, e5, Or.inl ⟨k, q, a, as3, rfl, hk, rfl, by simpa using e2, ho.1⟩⟩
      · cases h
    · cases h
  by_cases h5 : ∃ k, i = .new k
  · obtain ⟨k, rfl⟩ := h5
    obtain ⟨e, h⟩ := ifs h9
    split at h
    · obtain ⟨hr, h⟩ := ifs h
      cases h
    · split at h
      · cases h
      · cases h
  by_cases h1 : i = .ireturn
  · subst h1
    obtain ⟨e, h⟩ := ifs h9
    split at h
    · split at h
      · cases h
      · obtain ⟨hx, h⟩ := ifs h; cases h
      · cases h
    · cases h
  by_cases h2 : i = .lreturn
  · subst h2
    obtain ⟨e, h⟩ := ifs h9
    split at h
    · obtain ⟨hr, h⟩ := ifs h; cases h
    · cases h
  by_cases h3 : i = .dreturn
  · subst h3
    obtain ⟨e, h⟩ := ifs h9
    split at h
    · obtain ⟨hr, h⟩ := ifs h; cases h
    · cases h
  by_cases h4 : i = .return_
  · subst h4
    obtain ⟨e, h⟩ := ifs h9
    split at h
    · obtain ⟨hr, h⟩ := ifs h; cases h
    · cases h
  have hn := istep_nd (xs := xs) (y := y) (L := L) (st := st) (μ := μ) (f := f) pc len i ⟨fun k z => h5 ⟨k, z⟩, fun k z => h6 ⟨k, z⟩, fun k z => h7 ⟨k, z⟩, fun k z => h8 ⟨k, z⟩, h1, h2, h3, h4⟩
  rw [h9] at hn
  exact hn.elim
end AL
end
section
/-! ===== BEGIN a constructor that throws (launches without stack traces) ===== -/
section VXIA
variable {p : Program} {l : Launch} {e : Env} {R : Room} {s : State} {m : MethodId} {args : Array Value} {below : List Frame} {meth : Method} {c : Code} {T : State} {locs : List Loc} {cells slots : Nat}
theorem vx_callI (X : Stand p l e R s m args below meth c T locs cells slots) (hexec : p.tables.exec = Jvm.exec) {own : String} {index : Nat} {y : MethodName} {bytes : ByteArray} {maxL : Nat}
    (hown : s.vm.findClass own = some m.cls) (hy1 : y.name = "<init>") (hlink : (Cond.methodLink own index y).before args s = true) (hinst : (Cond.instanceMethod y).before args s = true)
    (hcode : (Cond.code y bytes maxL none).before args s = true) (hy : y.cls ≠ "java/lang/invoke/MethodHandle" ∧ y.cls ≠ "java/lang/invoke/VarHandle")
    {W9 : Nat} {Pre : Pt → Array Value → Prop} {Post : Pt → Array Value → Option Value → Pt → Prop} {PostX : Pt → Array Value → Addr → Pt → Prop} (hK : vx_Back l R p e below s args y 3 W9 Pre Post PostX)
    {g : JFrame} (hg : g.method = m) (hsize : g.locals.size = c.maxLocals) {a : Addr} {argsL rest : List Value} (hlen : ∀ sig, parseMethodDescriptor y.desc = some sig → argsL.length = sig.parameters.length)
    (hstack : g.stack = argsL.reverse ++ .ref a :: rest) (hW : 2 * g.monitorRoom + (rest.map fun v => v.category).sum ≤ W9) (hdg : decode c.code g.pc = .ok (.invokespecial index, 3))
    (hpre : ∀ vm₁, s.WarmedH vm₁ → Pre ⟨T.setVm vm₁, locs, cells, slots⟩ (Value.ref a :: argsL).toArray) :
    (∃ (v : Option Value) (vm₁ : Vm) (B : Pt), s.WarmedH vm₁ ∧ Stand p l e R s m args below meth c B.U B.locs B.cells B.slots ∧ Post ⟨T.setVm vm₁, locs, cells, slots⟩ (Value.ref a :: argsL).toArray v B ∧
      ∀ target, Steps p.tables e below (B.U.setTop { g with pc := g.pc + 3, stack := v.toList ++ rest }) target → Steps p.tables e below (T.setTop g) target) ∨
    (∃ (q : Addr) (vm₁ : Vm) (B : Pt), s.WarmedH vm₁ ∧ Stand p l e R s m args below meth c B.U B.locs B.cells B.slots ∧ PostX ⟨T.setVm vm₁, locs, cells, slots⟩ (Value.ref a :: argsL).toArray q B ∧
      Steps p.tables e below (T.setTop g) ((B.U.setTop { g with stack := rest }).pushFrame (.throwing q))) := by
  subst hg
  have hpl : e.platform.magicAccessors = ({} : Platform).magicAccessors := by rw [X.admits.platform]
  obtain ⟨mk, methM, cM, kP, vm₁, hnamed, hmethM, hcodeM, -, hlocalsM, -, hkP, -, hW₁, hstep₁⟩ := Steps.initColdArgs (e := e) X.here hexec X.warmed hpl hown hy1 hy hlink hinst hcode (f := g) rfl hlen hstack hdg
  have X₁ := X.noted hW₁
  rcases hK g.method meth c ⟨T.setVm vm₁, locs, cells, slots⟩ { g with stack := rest } (.invokespecial index) mk (Value.ref a :: argsL).toArray X₁ rfl hsize hdg hW (X₁.named hnamed) (hpre vm₁ X₁.warmed) with ⟨v, B, X', hpost, hsteps⟩ | ⟨q, B, X', hpost, hsteps⟩
  · exact Or.inl ⟨v, vm₁, B, X₁.warmed, X', hpost, fun target h => hstep₁ _ fun acts => by rw [doInvoke_state]; exact hsteps.trans h⟩
  · exact Or.inr ⟨q, vm₁, B, X₁.warmed, X', hpost, hstep₁ _ fun acts => by rw [doInvoke_state]; exact hsteps⟩
end VXIA
section VXIB
variable {p : Program} {l : Launch} {e : Env} {R : Room} {s : State} {m : MethodId} {args : Array Value} {below : List Frame} {meth : Method} {c : Code} {H : Heap} {locs : List Loc} {cells slots : Nat}
variable {y : MethodName} {bytes cc : ByteArray} {maxL nL mc ms n index : Nat} {ret : Option FieldType} {ws : List Cond} {rm : Room} {Pc : Array Value → State → Prop} {Qc : Array Value → State → Outcome → State → Prop} {XC : String → State → State → Prop} {free : Addr → Prop} {Ts : List Cond} {own C : String} {b : Addr} {As rest : List Value} {g : JFrame}
theorem vx_runI (S : CallFix p m c cc nL s args Ts own) (hM : vx_Met l y ws rm Pc Qc XC mc ms free) (cw : CallB R s args own index y bytes maxL none ws rm mc ms n ∧ y.name = "<init>" ∧ (Cond.instanceMethod y).before args s = true) (hp : PreS s H Pc (.ref b :: As))
    (hg : g.method = m) (hn : As.length = n) (hsize : g.locals.size = nL) (hstack : g.stack = As.reverse ++ .ref b :: rest) (hW : 2 * g.monitorRoom + (rest.map fun v => v.category).sum ≤ 8) (hdg : decode cc g.pc = .ok (.invokespecial index, 3)) (hf : cells + mc ≤ R.cells ∧ slots + ms ≤ R.slots) :
    vx_Run p l e R s m args below meth c H locs cells slots mc ms g rest (Qc (Value.ref b :: As).toArray) XC free := by
  have hK : vx_Back l R p e below s args y 3 8 (PreOf R mc ms Pc) (PostOf Qc mc ms free) (vx_Post XC mc ms free) := vx_callBack cw.1 hM hp.1
  obtain ⟨⟨-, -, -, -, -, -, hcode, -, hy, hlen, hl⟩, hy1, hin⟩ := cw
  obtain ⟨hx, hb, hml, ho, -⟩ := S
  have hPc := hp.2
  intro T hT X
  rcases vx_callI X hx (bytes := bytes) (maxL := maxL) ho hy1 hl hin hcode hy hK hg (hsize.trans hml.symm) (a := b) (argsL := As) (rest := rest) (fun sig h => hn.trans (hlen sig h)) hstack hW (by rw [hb]; exact hdg)
    (fun vm₁ hW₁ => ⟨hf.1, hf.2, hPc (T.setVm vm₁) hT hW₁⟩) with ⟨v, vm₁, ⟨U', l2, c2, s2⟩, hW₁, X', ⟨g', mk, t, L, e1, e2, hq, h1, hL, h2, h3⟩, st⟩ | ⟨q, vm₁, ⟨U', l2, c2, s2⟩, hW₁, X', ⟨g', mk, t, L, E, ce, e1, e2, hq, hce, hcv, hcl, h1, hL, h2, h3⟩, st⟩
  · dsimp only [Pt.U, Pt.locs, Pt.cells, Pt.slots] at X' e1 e2 h1 h2 h3 st
    subst h1; subst h2; subst h3
    exact Or.inl ⟨v, (T.setVm vm₁).calling g' mk (Value.ref b :: As).toArray, t, U', L, hT, X', hL, e1, e2, hq, st⟩
  · dsimp only [Pt.U, Pt.locs, Pt.cells, Pt.slots] at X' e1 e2 h1 h2 h3 st hcl
    subst h1; subst h2; subst h3
    exact Or.inr ⟨q, (T.setVm vm₁).calling g' mk (Value.ref b :: As).toArray, t, U', L, E, ce, hT, X', hL, e1, e2, hq, hce, hcv, vx_cls hW₁ hcl, st⟩
end VXIB
/-! ===== END ===== -/
/-! ===== BEGIN a private constructor of a nest mate that throws ===== -/
section VXIC
variable {p : Program} {l : Launch} {e : Env} {R : Room} {s : State} {m : MethodId} {args : Array Value} {below : List Frame} {meth : Method} {c : Code} {T : State} {locs : List Loc} {cells slots : Nat}
theorem vx_callIN (X : Stand p l e R s m args below meth c T locs cells slots) (hexec : p.tables.exec = Jvm.exec) {own : String} {index : Nat} {host : String} {y : MethodName} {bytes : ByteArray} {maxL : Nat}
    (hown : s.vm.findClass own = some m.cls) (hy1 : y.name = "<init>") (hlink : (Cond.methodLinkNest own index y host).before args s = true) (hinst : (Cond.instanceMethod y).before args s = true)
    (hcode : (Cond.code y bytes maxL none).before args s = true) (hy : y.cls ≠ "java/lang/invoke/MethodHandle" ∧ y.cls ≠ "java/lang/invoke/VarHandle")
    {W9 : Nat} {Pre : Pt → Array Value → Prop} {Post : Pt → Array Value → Option Value → Pt → Prop} {PostX : Pt → Array Value → Addr → Pt → Prop} (hK : vx_Back l R p e below s args y 3 W9 Pre Post PostX)
    {g : JFrame} (hg : g.method = m) (hsize : g.locals.size = c.maxLocals) {a : Addr} {argsL rest : List Value} (hlen : ∀ sig, parseMethodDescriptor y.desc = some sig → argsL.length = sig.parameters.length)
    (hstack : g.stack = argsL.reverse ++ .ref a :: rest) (hW : 2 * g.monitorRoom + (rest.map fun v => v.category).sum ≤ W9) (hdg : decode c.code g.pc = .ok (.invokespecial index, 3))
    (hpre : ∀ vm₁, s.WarmedH vm₁ → Pre ⟨T.setVm vm₁, locs, cells, slots⟩ (Value.ref a :: argsL).toArray) :
    (∃ (v : Option Value) (vm₁ : Vm) (B : Pt), s.WarmedH vm₁ ∧ Stand p l e R s m args below meth c B.U B.locs B.cells B.slots ∧ Post ⟨T.setVm vm₁, locs, cells, slots⟩ (Value.ref a :: argsL).toArray v B ∧
      ∀ target, Steps p.tables e below (B.U.setTop { g with pc := g.pc + 3, stack := v.toList ++ rest }) target → Steps p.tables e below (T.setTop g) target) ∨
    (∃ (q : Addr) (vm₁ : Vm) (B : Pt), s.WarmedH vm₁ ∧ Stand p l e R s m args below meth c B.U B.locs B.cells B.slots ∧ PostX ⟨T.setVm vm₁, locs, cells, slots⟩ (Value.ref a :: argsL).toArray q B ∧
      Steps p.tables e below (T.setTop g) ((B.U.setTop { g with stack := rest }).pushFrame (.throwing q))) := by
  subst hg
  have hpl : e.platform.magicAccessors = ({} : Platform).magicAccessors := by rw [X.admits.platform]
  obtain ⟨mk, methM, cM, kP, vm₁, hnamed, hmethM, hcodeM, -, hlocalsM, -, hkP, -, hW₁, hstep₁⟩ := Steps.initColdArgsNest (e := e) X.here hexec X.warmed hpl hown hy1 hy hlink hinst hcode (f := g) rfl hlen hstack hdg
  have X₁ := X.noted hW₁
  rcases hK g.method meth c ⟨T.setVm vm₁, locs, cells, slots⟩ { g with stack := rest } (.invokespecial index) mk (Value.ref a :: argsL).toArray X₁ rfl hsize hdg hW (X₁.named hnamed) (hpre vm₁ X₁.warmed) with ⟨v, B, X', hpost, hsteps⟩ | ⟨q, B, X', hpost, hsteps⟩
  · exact Or.inl ⟨v, vm₁, B, X₁.warmed, X', hpost, fun target h => hstep₁ _ fun acts => by rw [doInvoke_state]; exact hsteps.trans h⟩
  · exact Or.inr ⟨q, vm₁, B, X₁.warmed, X', hpost, hstep₁ _ fun acts => by rw [doInvoke_state]; exact hsteps⟩
end VXIC
section VXID
variable {p : Program} {l : Launch} {e : Env} {R : Room} {s : State} {m : MethodId} {args : Array Value} {below : List Frame} {meth : Method} {c : Code} {H : Heap} {locs : List Loc} {cells slots : Nat}
theorem vx_runIN {y : MethodName} {bytes cc : ByteArray} {maxL nL mc ms n index : Nat} {ws : List Cond} {rm : Room} {Pc : Array Value → State → Prop} {Qc : Array Value → State → Outcome → State → Prop} {XC : String → State → State → Prop} {free : Addr → Prop} {Ts : List Cond} {own host : String} {b : Addr} {As rest : List Value} {g : JFrame}
    (S : CallFix p m c cc nL s args Ts own) (hM : vx_Met l y ws rm Pc Qc XC mc ms free) (cw : va_CN R s args own index y host bytes maxL none ws rm mc ms n ∧ y.name = "<init>" ∧ (Cond.instanceMethod y).before args s = true) (hp : PreS s H Pc (.ref b :: As))
    (hg : g.method = m) (hn : As.length = n) (hsize : g.locals.size = nL) (hstack : g.stack = As.reverse ++ .ref b :: rest) (hW : 2 * g.monitorRoom + (rest.map fun v => v.category).sum ≤ 8) (hdg : decode cc g.pc = .ok (.invokespecial index, 3)) (hf : cells + mc ≤ R.cells ∧ slots + ms ≤ R.slots) :
    vx_Run p l e R s m args below meth c H locs cells slots mc ms g rest (Qc (Value.ref b :: As).toArray) XC free := by
  obtain ⟨⟨⟨hrc, hrs, hfr, hlo, hws, hcw⟩, hcode, hini, hy, hlen, hl⟩, hx1, hx2⟩ := cw
  have hK : vx_Back l R p e below s args y 3 8 (PreOf R mc ms Pc) (PostOf Qc mc ms free) (vx_Post XC mc ms free) := vx_back (bytes := bytes) (maxL := maxL) (ret := none) hM hp.1 hrc hrs hfr hlo hws hcw (fun a' U hW => word_at hW (Or.inl (by first | rfl | simp [Cond.onTables, Cond.keeps, Cond.steady])) hini)
  obtain ⟨hx, hb, hml, ho, -⟩ := S
  have hPc := hp.2
  intro T hT X
  rcases vx_callIN X hx (bytes := bytes) (maxL := maxL) ho hx1 hl hx2 hcode hy hK hg (hsize.trans hml.symm) (a := b) (argsL := As) (rest := rest) (fun sig h => hn.trans (hlen sig h)) hstack hW (by rw [hb]; exact hdg)
    (fun vm₁ hW₁ => ⟨hf.1, hf.2, hPc (T.setVm vm₁) hT hW₁⟩) with ⟨v, vm₁, ⟨U', l2, c2, s2⟩, hW₁, X', ⟨g', mk, t, L, e1, e2, hq, h1, hL, h2, h3⟩, st⟩ | ⟨q, vm₁, ⟨U', l2, c2, s2⟩, hW₁, X', ⟨g', mk, t, L, E, ce, e1, e2, hq, hce, hcv, hcl, h1, hL, h2, h3⟩, st⟩
  · dsimp only [Pt.U, Pt.locs, Pt.cells, Pt.slots] at X' e1 e2 h1 h2 h3 st
    subst h1; subst h2; subst h3
    exact Or.inl ⟨v, (T.setVm vm₁).calling g' mk (Value.ref b :: As).toArray, t, U', L, hT, X', hL, e1, e2, hq, st⟩
  · dsimp only [Pt.U, Pt.locs, Pt.cells, Pt.slots] at X' e1 e2 h1 h2 h3 st hcl
    subst h1; subst h2; subst h3
    exact Or.inr ⟨q, (T.setVm vm₁).calling g' mk (Value.ref b :: As).toArray, t, U', L, E, ce, hT, X', hL, e1, e2, hq, hce, hcv, vx_cls hW₁ hcl, st⟩
end VXID
/-! ===== END ===== -/
/-! THE WALK: what exec says, the machine does -/
section WK
variable {p : Program} {l : Launch} {e : Env} {R : Room} {s : State} {m : MethodId} {args : Array Value} {below : List Frame} {meth : Method} {c : Code} {H : Heap} {locs : List Loc} {cells slots : Nat} {Q : State → Prop}
variable {xs : List Int} {y : Nat} {K : KI} {D : va_G} {A : Nat → Prop} {sa : Nat → Nat} {φ : Nat → Nat} {f : AH} {μ : Mu} {L st : List AV} {ls : Array Slot}
theorem GW.moved {s U : State} {A B : Nat → Prop} {H : Heap} {locs : List Loc} (h : GW s A sa) (hS : va_S A s.heap H locs) (hU : U.heap = H) (hW : s.WarmedH U.vm) (hAB : ∀ q, B q → A q) : GW U B sa := by
  obtain ⟨⟨a1, a2⟩, b, ⟨c, c2⟩, -, e, f1, f2⟩ := h
  refine ⟨⟨?_, ?_⟩, fun k hk => (b k hk).warm hW, ⟨fun E => (c E).warmC hW, fun n hn => (c2 n hn).warmD hW⟩, trivial, e.moved hW.alike, f1.warmM hW, f2.warmM hW⟩
  · rw [hU]; exact vx_Zq.moved hW.alike ((vx_Zq.kept a1 hS.2.1).narrow hAB)
  · rw [hU]; exact vx_Zq.moved hW.alike ((vx_Zq.kept a2 hS.2.1).narrow hAB)
theorem GW.call {U : State} {g : JFrame} {mk : MethodId} {a : Array Value} (h : GW U A sa) : GW (U.calling g mk a) A sa :=
  h.moved (U := U.calling g mk a) (locs := []) (H := U.heap) va_S.rf rfl (State.WarmedH.refl U) (fun _ q => q)
abbrev tysK (K : KI) : List (ClassId × FieldType) := [(K.1, .int), (K.2.1, .object RX1)]
def Bef (xs : List Int) (K : KI) (D : va_G) (φ : Nat → Nat) (f : AH) (n sz : Nat) (sa : Nat → Nat) (U : State) : Prop := U.heap.size = sz ∧ va_P D vwCl (wld K φ f n) U.heap ∧ va_K D vwCl (tysK K) U ∧ va_D (fun _ => True) (wld K φ f n) ∧ GW U (va_A (wld K φ f n) sz) sa ∧ SX xs 0 U (va_A (wld K φ f n) sz) φ
def Aft (K : KI) (D : va_G) (φ : Nat → Nat) (n : Nat) (f' : AH) (n' : Nat) (A : Nat → Prop) (st t : State) (ψ : Nat → Nat) : Prop := ext n φ ψ ∧ va_P D vwCl (wld K ψ f' n') t.heap ∧ va_D A (wld K ψ f' n') ∧ okH n' f' ∧ va_F A st t
theorem blind (As : List Value) (n sz : Nat) : FrameBlind (va_Pc As (Bef xs K D φ f n sz sa)) := by
  intro a U g mk h
  obtain ⟨h0, h1, h2, h3, h4, h5, h6⟩ := h
  exact ⟨h0, h1, h2, va_K.moved (u := U) (U := U.calling g mk a) (Vm.Alike.refl U.vm) h3, h4, h5.call, h6.1.moved (u := U) (U := U.calling g mk a) (Vm.Alike.refl U.vm), h6.2⟩
def CQ (K : KI) (D : va_G) (φ : Nat → Nat) (n : Nat) (o : Out) (f' : AH) (n' : Nat) (A : Nat → Prop) : Array Value → State → Outcome → State → Prop := fun _ st oc t =>
  ∃ (v : Option AV) (ψ : Nat → Nat), o = .inl v ∧ oc = .returned (v.map (cv ψ)) ∧ okS n' v.toList ∧ Aft K D φ n f' n' A st t ψ
def CE (K : KI) (D : va_G) (φ : Nat → Nat) (n : Nat) (o : Out) (f' : AH) (n' : Nat) (A : Nat → Prop) : String → State → State → Prop := fun E st t =>
  ∃ (E0 : Nat) (ψ : Nat → Nat), o = .inr E0 ∧ E = eN E0 ∧ Aft K D φ n f' n' A st t ψ
def Con (l : Launch) (xs : List Int) (k : Nat) : Prop := ∀ (y : Nat), 0 < y → y < 83 → ∀ (as : List AV) (μ : Mu) (f : AH) (o : Out) (μ' : Mu) (f' : AH), exec xs k y 0 (ini y as) [] μ f = some (o, (μ', f')) → okArg y as = true → okS μ.1 as → okH μ.1 f →
  ∀ (K : KI) (D : va_G) (φ : Nat → Nat) (sz : Nat) (sa : Nat → Nat), vx_Met l (mN y) (mW y) { frames := rF y, cells := μ'.2.1 - μ.2.1, slots := μ'.2.2 - μ.2.2, locals := rL y } (va_Pc (as.map (cv φ)) (Bef xs K D φ f μ.1 sz sa))
    (CQ K D φ μ.1 o f' μ'.1 (va_A (wld K φ f μ.1) sz)) (CE K D φ μ.1 o f' μ'.1 (va_A (wld K φ f μ.1) sz)) (μ'.2.1 - μ.2.1) (μ'.2.2 - μ.2.2) (va_A (wld K φ f μ.1) sz)
theorem mCode_in {y : Nat} (h0 : 0 < y) (h : y < 83) : mCode y ∈ lw_gd := by
  refine List.mem_filter.mpr ⟨List.mem_of_getElem? (mC_all y h h0), ?_⟩
  unfold mCode
  split <;> rfl
theorem mChk_at {y : Nat} (h0 : 0 < y) (h : y < 83) : plainName (mN y).cls = true ∧ (mN y).cls = cN (mO y) ∧ ((mN y).cls ≠ "java/lang/invoke/MethodHandle" ∧ (mN y).cls ≠ "java/lang/invoke/VarHandle") ∧ (parseMethodDescriptor (mN y).desc).map (fun d => d.parameters.length) = some (mA y) := by
  have h1 := List.all_eq_true.mp mChk_all (y - 1) (List.mem_range.mpr (by omega))
  rw [Nat.sub_add_cancel h0] at h1
  simp only [mChk, Bool.and_eq_true, decide_eq_true_eq, beq_iff_eq] at h1
  exact ⟨h1.1, h1.2.1, h1.2.2.1, h1.2.2.2⟩
theorem gd_good {w : Cond} (h : w ∈ lw_gd) : (w.onTables && w.keeps) = true ∨ ∃ ty, w = .arrayClass ty := good_of_word (List.mem_filter.mp h).2
theorem gd_in (ws : List Cond) (h : ∀ w ∈ ws, w ∈ lw_gd) : GoodIn lw_gd ws := fun w hw => ⟨h w hw, gd_good (h w hw)⟩
theorem mW_in {y : Nat} (h0 : 0 < y) (h : y < 83) : ∀ w ∈ mW y, w ∈ lw_gd := fun w hw => (List.mem_cons.mp hw).elim (fun e => e ▸ mCode_in h0 h) id
theorem vTab_in {o k y' : Nat} {q : Nat × (Nat × Nat)} (h : lk vTab o k = some (y', q)) : Cond.methodLink (cN o) k (mN y') ∈ lw_gd ∧ Cond.instanceMethod (mN y') ∈ lw_gd ∧ Cond.selects (cN (mO y')) (mN y') (mN y') ∈ lw_gd ∧ y' < 83 ∧ 0 < y' ∧ (mH y').isEmpty = true := by
  have h1 := List.all_eq_true.mp vTab_ok _ (lk_mem h)
  simp only [Bool.and_eq_true, Nat.blt_eq] at h1
  obtain ⟨a, b, c, d, e, f⟩ := h1
  exact ⟨inG_mem a, inG_mem b, inG_mem c, d, e, f⟩
theorem sTab_in {o k y' : Nat} {q : Nat × Nat} (h : lk sTab o k = some (y', q)) : Cond.methodLink (cN o) k (mN y') ∈ lw_gd ∧ Cond.static (mN y') ∈ lw_gd ∧ y' < 83 ∧ 0 < y' ∧ mO y' = o := by
  have h1 := List.all_eq_true.mp sTab_ok _ (lk_mem h)
  simp only [Bool.and_eq_true, Nat.blt_eq] at h1
  obtain ⟨a, b, c, d, e⟩ := h1
  exact ⟨inG_mem a, inG_mem b, c, d, Nat.eq_of_beq_eq_true e⟩
theorem pNest : (pTab.all fun e => Nat.beq e.2.2.2.1 0 || (Nat.beq e.1 3 && ((Nat.beq e.2.1 9 && Nat.beq e.2.2.1 11) || (Nat.beq e.2.1 29 && Nat.beq e.2.2.1 31)))) = true := by decide +kernel
theorem pTab_in {o k y' w : Nat} {q : Nat × Nat} (h : lk pTab o k = some (y', (w, q))) : ((w = 0 ∧ Cond.methodLink (cN o) k (mN y') ∈ lw_gd) ∨ (o = 3 ∧ ((k = 9 ∧ y' = 11) ∨ (k = 29 ∧ y' = 31)))) ∧ Cond.instanceMethod (mN y') ∈ lw_gd ∧ (mN y').name = "<init>" ∧ y' < 83 ∧ 0 < y' ∧ (mH y').isEmpty = true ∧ mR y' = none := by
  have h1 := List.all_eq_true.mp pTab_ok _ (lk_mem h)
  have h2 := List.all_eq_true.mp pNest _ (lk_mem h)
  simp only [Bool.and_eq_true, Nat.blt_eq, beq_iff_eq, decide_eq_true_eq] at h1
  simp only [Bool.or_eq_true, Bool.and_eq_true] at h2
  obtain ⟨a, b, c, d, e, f, g⟩ := h1
  refine ⟨?_, inG_mem b, c, d, e, f, g⟩
  rcases h2 with h2 | ⟨h2, h3⟩
  · left
    have e1 := Nat.eq_of_beq_eq_true h2
    subst e1
    rw [if_neg (by decide)] at a
    exact ⟨rfl, inG_mem a⟩
  · refine Or.inr ⟨Nat.eq_of_beq_eq_true h2, ?_⟩
    rcases h3 with ⟨h3, h4⟩ | ⟨h3, h4⟩
    · exact Or.inl ⟨Nat.eq_of_beq_eq_true h3, Nat.eq_of_beq_eq_true h4⟩
    · exact Or.inr ⟨Nat.eq_of_beq_eq_true h3, Nat.eq_of_beq_eq_true h4⟩
theorem mO_lt {y : Nat} (h0 : 0 < y) (h : y < 83) : mO y < 6 := by
  have h1 : ((List.range 83).all fun y => Nat.blt (mO y) 6) = true := by decide +kernel
  have h2 := List.all_eq_true.mp h1 y (List.mem_range.mpr h)
  simpa [Nat.blt_eq] using h2
theorem isO_inv {a k : Nat} (h : isO f a k = true) : ∃ fs, f a = some (oC k fs) := by
  unfold isO at h
  split at h
  · rename_i k2 fs hf
    have e := Nat.eq_of_beq_eq_true h
    subst e
    exact ⟨fs, hf⟩
  · cases h
/-- the premises of a call -/
theorem bef_at {n : Nat} (X : CX p s m args meth c y K D A sa) (hX : SX xs y s A φ) (hH : RH K D A s φ f n H locs) : ∀ U : State, U.heap = H → s.WarmedH U.vm → Bef xs K D φ f n H.size sa U := fun U hU hW =>
  ⟨by rw [hU], by rw [hU]; exact hH.1, va_K.moved hW.alike X.2.2.2.2.2.1, hH.2.1.weaken (fun _ _ _ _ => trivial),
    X.2.2.2.2.2.2.2.2.1.moved hH.2.2.1 hU hW (fun q hq => by
      rcases hq with ⟨k, e, hk⟩ | hq
      · exact hH.2.1.2 k _ hk
      · exact X.2.2.2.2.2.2.1 q (Nat.le_trans hH.2.2.1.1 hq)),
    by rw [hU]; exact (hX.1.kept (hH.2.2.1.2.1 _ hX.2.1 hX.2.2.1)).moved hW.alike, by rw [hU]; exact Nat.lt_of_lt_of_le hX.2.1 hH.2.2.1.1, fun hq => hX.2.2.1 (by
      rcases hq with ⟨k, e, hk⟩ | hq
      · exact hH.2.1.2 k _ hk
      · exact absurd (Nat.lt_of_lt_of_le hX.2.1 hH.2.2.1.1) (Nat.not_lt.mpr hq)), hX.2.2.2⟩
theorem rank_in {y y' : Nat} (h : okRank y y' = true) (hF : rF y ≤ R.frames) (hl : rL y ≤ R.locals) : rF y' + 1 ≤ R.frames ∧ 8 + (mL y' + 11) + rL y' ≤ R.locals := by
  unfold okRank at h
  simp only [Bool.and_eq_true] at h
  have h1 := Nat.le_of_ble_eq_true h.1
  have h2 := Nat.le_of_ble_eq_true h.2
  omega
theorem catS {r : List AV} (h : r.length ≤ 4) : 2 * (F0 m 0 ls []).monitorRoom + ((r.map (cv φ)).map fun v => v.category).sum ≤ 8 := by
  show 2 * 0 + _ ≤ 8
  have k : ∀ r : List AV, ((r.map (cv φ)).map fun v => v.category).sum ≤ 2 * r.length := by
    intro r
    induction r with
    | nil => exact Nat.le_refl _
    | cons v r ih =>
      have := cat_cv2 (φ := φ) (v := v)
      simp only [List.map_cons, List.sum_cons, List.length_cons]
      omega
  have := k r
  omega
theorem mCode_plain {y : Nat} (h : (mH y).isEmpty = true) : mCode y = .code (mN y) (mB y) (mL y) (mR y) := by unfold mCode; rw [if_pos h]
theorem mCode_hand {y : Nat} (h : (mH y).isEmpty = false) : mCode y = .codeWith (mN y) (mB y) (mL y) (mR y) (mH y) := by unfold mCode; rw [if_neg (by rw [h]; simp)]
theorem call_run {k pc y' pc1 : Nat} {i : Instr} {len : Nat} {as L1 r : List AV} {o : Out} {μ' : Mu} {f' : AH} (hC : Con l xs k) (X : CX p s m args meth c y K D A sa) (hX : SX xs y s A φ) (hL : LR φ μ.1 (mL y) L ls) (hS : okS μ.1 st) (hH : RH K D A s φ f μ.1 H locs) (hd : decode (mB y) pc = .ok (i, len))
    (h : istep xs y pc len i L st μ f = some (.inr (.inr (y', (as, (pc1, (L1, r))))))) (hx : exec xs k y' 0 (ini y' as) [] μ f = some (o, (μ', f'))) (hF : rF y ≤ R.frames) (hl : rL y ≤ R.locals) (hc : cells + (μ'.2.1 - μ.2.1) ≤ R.cells) (hs : slots + (μ'.2.2 - μ.2.2) ≤ R.slots) :
    vx_Run p l e R s m args below meth c H locs cells slots (μ'.2.1 - μ.2.1) (μ'.2.2 - μ.2.2) (F0 m pc ls (st.map (cv φ))) (r.map (cv φ)) (CQ K D φ μ.1 o f' μ'.1 (va_A (wld K φ f μ.1) H.size) (as.map (cv φ)).toArray) (CE K D φ μ.1 o f' μ'.1 (va_A (wld K φ f μ.1) H.size)) (va_A (wld K φ f μ.1) H.size) := by
  obtain ⟨rfl, rfl, rfl, rfl, hA, hrk, hr4, hk⟩ := istep_call h
  obtain ⟨k1, k2⟩ := rank_in hrk hF hl
  have hSa : okS μ.1 as := fun v hv => hS v (List.mem_append_left _ (List.mem_reverse.mpr hv))
  have fix : CallFix p m c (mB y) (mL y) s args lw_gd (cN (mO y)) := ⟨X.1, X.2.1, X.2.2.1, X.2.2.2.1, X.2.2.2.2.1⟩
  have hsz : (F0 m pc ls ((as.reverse ++ r).map (cv φ))).locals.size = mL y := hL.1.1
  rcases hk with ⟨kk, q, a, bs, rfl, ht, rfl, hn, ho⟩ | ⟨kk, q, rfl, ht, hn⟩ | ⟨kk, q, a, bs, rfl, ht, rfl, hn, ho⟩
  · obtain ⟨w1, w2, w3, w4, w5, w6⟩ := vTab_in ht
    obtain ⟨z1, z2, z3, z4⟩ := mChk_at w5 w4
    obtain ⟨fs, hf⟩ := isO_inv ho
    have hM := hC y' w5 w4 (vr a :: bs) μ f o μ' f' hx hA hSa hH.2.2.2 K D φ H.size sa
    have hok := hH.2.2.2.1 _ _ hf
    refine vx_runV (C := cN (mO y')) (b := φ a) (As := bs.map (cv φ)) fix hM (cwV (ws' := lw_gd) (mA y') fix.2.2.2.2 (gd_in _ fun w hw => ?_) (by show mCode y' :: lw_gd = _; rw [mCode_plain w6]) rfl rfl ⟨z2, z3.1, z3.2, z4⟩ ⟨k1, k2⟩) ⟨blind _ _ _, va_recv X.2.2.2.2.2.1 hH.1 (vwCl_at hok.2.2.1) (wld_get hH.2.2.2 hf), fun U hU hW => ⟨rfl, bef_at X hX hH U hU hW⟩⟩ rfl (by rw [List.length_map]; exact hn) hsz ?_ (catS (m := m) (ls := ls) hr4) hd ⟨hc, hs⟩
    · rcases List.mem_append.mp hw with hw | hw
      · simp only [List.mem_cons, List.not_mem_nil, or_false] at hw
        rcases hw with rfl | rfl | rfl | rfl
        · exact w1
        · exact w2
        · exact w3
        · exact ini_in (mO_lt w5 w4)
      · exact mW_in w5 w4 w hw
    · show ((vr a :: bs).reverse ++ r).map (cv φ) = _
      rw [List.reverse_cons, List.append_assoc, List.map_append, List.map_reverse]
      rfl
  · obtain ⟨w1, w2, w4, w5, w6⟩ := sTab_in ht
    obtain ⟨z1, z2, z3, z4⟩ := mChk_at w5 w4
    have hM := hC y' w5 w4 as μ f o μ' f' hx hA hSa hH.2.2.2 K D φ H.size sa
    have hst : (F0 m pc ls ((as.reverse ++ r).map (cv φ))).stack = (as.map (cv φ)).reverse ++ r.map (cv φ) := by
      show (as.reverse ++ r).map (cv φ) = _
      rw [List.map_append, List.map_reverse]
    rw [← w6] at w1 fix
    cases hE : (mH y').isEmpty with
    | true =>
      refine vx_runS (As := as.map (cv φ)) fix hM (cwS (ws' := lw_gd) (mA y') fix.2.2.2.2 (gd_in _ fun w hw => ?_) (by show mCode y' :: lw_gd = _; rw [mCode_plain hE]) rfl rfl ⟨z2, z3.1, z3.2, z4⟩ ⟨k1, k2⟩) ⟨blind _ _ _, fun U hU hW => ⟨rfl, bef_at X hX hH U hU hW⟩⟩ rfl (by rw [List.length_map]; exact hn) hsz hst (catS (m := m) (ls := ls) hr4) hd ⟨hc, hs⟩
      · rcases List.mem_append.mp hw with hw | hw
        · simp only [List.mem_cons, List.not_mem_nil, or_false] at hw
          rcases hw with rfl | rfl | rfl
          · exact w1
          · exact w2
          · exact ini_in (mO_lt w5 w4)
        · exact mW_in w5 w4 w hw
    | false =>
      refine vx_runSX (hh := mH y') (As := as.map (cv φ)) fix hM (vx_cwSW (ws' := lw_gd) (mA y') fix.2.2.2.2 (gd_in _ fun w hw => ?_) (by show mCode y' :: lw_gd = _; rw [mCode_hand hE]) rfl rfl ⟨z3.1, z3.2, z4⟩ ⟨k1, k2⟩) ⟨blind _ _ _, fun U hU hW => ⟨rfl, bef_at X hX hH U hU hW⟩⟩ rfl (by rw [List.length_map]; exact hn) hsz hst (catS (m := m) (ls := ls) hr4) hd ⟨hc, hs⟩
      · rcases List.mem_append.mp hw with hw | hw
        · simp only [List.mem_cons, List.not_mem_nil, or_false] at hw
          rcases hw with rfl | rfl | rfl
          · exact w1
          · exact w2
          · rw [z2]; exact ini_in (mO_lt w5 w4)
        · exact mW_in w5 w4 w hw
  · obtain ⟨qw, q⟩ := q
    obtain ⟨w1, w2, w3, w4, w5, w6, w7⟩ := pTab_in ht
    obtain ⟨z1, z2, z3, z4⟩ := mChk_at w5 w4
    have hM := hC y' w5 w4 (vr a :: bs) μ f o μ' f' hx hA hSa hH.2.2.2 K D φ H.size sa
    have hst : (F0 m pc ls (((vr a :: bs).reverse ++ r).map (cv φ))).stack = (bs.map (cv φ)).reverse ++ .ref (φ a) :: r.map (cv φ) := by
      show ((vr a :: bs).reverse ++ r).map (cv φ) = _
      rw [List.reverse_cons, List.append_assoc, List.map_append, List.map_reverse]
      rfl
    have hw : mW y' = Cond.code (mN y') (mB y') (mL y') none :: lw_gd := by show mCode y' :: lw_gd = _; rw [mCode_plain w6, w7]
    rcases w1 with ⟨-, w1⟩ | ⟨hO, w1⟩
    · exact vx_runI (b := φ a) (As := bs.map (cv φ)) fix hM (cwI (ws' := lw_gd) (mA y') fix.2.2.2.2 (gd_in _ (mW_in w5 w4)) hw rfl rfl (by rw [z2]; exact fix.2.2.2.2 _ (ini_in (mO_lt w5 w4))) (fix.2.2.2.2 _ w1) (fix.2.2.2.2 _ w2) w3 ⟨z3.1, z3.2, z4⟩ ⟨k1, k2⟩) ⟨blind _ _ _, fun U hU hW => ⟨rfl, bef_at X hX hH U hU hW⟩⟩ rfl (by rw [List.length_map]; exact hn) hsz hst (catS (m := m) (ls := ls) hr4) hd ⟨hc, hs⟩
    · have hlk : va_Nw (.methodLinkNest (cN (mO y)) kk (mN y') RX3) s := by
        rw [hO]
        rcases w1 with ⟨rfl, rfl⟩ | ⟨rfl, rfl⟩
        · exact X.2.2.2.2.2.2.2.2.1.2.2.2.2.2.1
        · exact X.2.2.2.2.2.2.2.2.1.2.2.2.2.2.2
      exact vx_runIN (b := φ a) (As := bs.map (cv φ)) fix hM ⟨va_cnB (ws' := lw_gd) (mA y') fix.2.2.2.2 (gd_in _ (mW_in w5 w4)) hw rfl rfl hlk (by rw [z2]; exact fix.2.2.2.2 _ (ini_in (mO_lt w5 w4))) ⟨z3.1, z3.2, z4⟩ ⟨k1, k2⟩, w3, fix.2.2.2.2 _ w2⟩ ⟨blind _ _ _, fun U hU hW => ⟨rfl, bef_at X hX hH U hU hW⟩⟩ rfl (by rw [List.length_map]; exact hn) hsz hst (catS (m := m) (ls := ls) hr4) hd ⟨hc, hs⟩
end WK
end
section
/-! SOUNDNESS: a run that exec tells is a walk of the machine; every method's contract -/
section SD
variable {p : Program} {l : Launch} {e : Env} {R : Room} {s : State} {m : MethodId} {args : Array Value} {below : List Frame} {meth : Method} {c : Code} {H : Heap} {locs : List Loc} {cells slots : Nat} {Q : State → Prop}
variable {xs : List Int} {y : Nat} {K : KI} {D : va_G} {A : Nat → Prop} {sa : Nat → Nat} {φ : Nat → Nat} {f : AH} {μ : Mu} {L st : List AV} {ls : Array Slot}
def FinR (p : Program) (l : Launch) (e : Env) (R : Room) (s : State) (m : MethodId) (args : Array Value) (below : List Frame) (meth : Method) (c : Code) (Q : State → Prop) (y : Nat) (K : KI) (D : va_G) (A : Nat → Prop) (φ : Nat → Nat) (n C S : Nat) (o : Out) (μ' : Mu) (f' : AH) : Prop :=
  ∀ (pc2 : Nat) (i : Instr) (v : Option AV) (ψ : Nat → Nat) (ls2 : Array Slot) (H2 : Heap) (locs2 : List Loc), o = .inl v → ext n φ ψ → RH K D A s ψ f' μ'.1 H2 locs2 → okS μ'.1 v.toList → decode (mB y) pc2 = .ok (i, 1) → retI y i v →
    W p l e R s m args below meth c H2 locs2 C S Q (F0 m pc2 ls2 (v.toList.map (cv ψ)))
def FinT (p : Program) (l : Launch) (e : Env) (R : Room) (s : State) (m : MethodId) (args : Array Value) (below : List Frame) (meth : Method) (c : Code) (Q : State → Prop) (y : Nat) (K : KI) (D : va_G) (A : Nat → Prop) (φ : Nat → Nat) (n C S : Nat) (o : Out) (μ' : Mu) (f' : AH) : Prop :=
  ∀ (pc2 E : Nat) (r : Nat × (Nat × (Nat × (Nat × Nat)))) (ψ : Nat → Nat) (ls2 : Array Slot) (H2 : Heap) (locs2 : List Loc) (c2 s2 : Nat), o = .inr E → ext n φ ψ → RH K D A s ψ f' μ'.1 H2 locs2 → ls2.size = mL y → lk xTab y pc2 = some (E, r) → 6 ≤ rF y → 100 ≤ rL y → c2 + 1 = C → s2 + 6 = S →
    W p l e R s m args below meth c H2 locs2 c2 s2 Q (F0 m pc2 ls2 [])
def FinP (p : Program) (l : Launch) (e : Env) (R : Room) (s : State) (m : MethodId) (args : Array Value) (below : List Frame) (meth : Method) (c : Code) (Q : State → Prop) (y : Nat) (K : KI) (D : va_G) (A : Nat → Prop) (φ : Nat → Nat) (n C S : Nat) (o : Out) (μ' : Mu) (f' : AH) : Prop :=
  ∀ (pc2 E q : Nat) (ce : Cell) (ψ : Nat → Nat) (ls2 : Array Slot) (rest : List Value) (H2 : Heap) (locs2 : List Loc), o = .inr E → (mH y).isEmpty = true → ext n φ ψ → RH K D A s ψ f' μ'.1 H2 locs2 → H2[q]? = some ce → ce.vm = .none → s.vm.findClass (eN E) = some ce.cls →
    vx_W p l e R s m args below meth c H2 locs2 C S Q (F0 m pc2 ls2 rest) q
theorem FinR.up {ψ : Nat → Nat} {n n' C S : Nat} {o : Out} {μ' : Mu} {f' : AH} (h : FinR p l e R s m args below meth c Q y K D A φ n C S o μ' f') (e1 : ext n φ ψ) (hn : n ≤ n') : FinR p l e R s m args below meth c Q y K D A ψ n' C S o μ' f' :=
  fun pc2 i v χ ls2 H2 locs2 h1 h2 => h pc2 i v χ ls2 H2 locs2 h1 (e1.tr h2 hn)
theorem FinT.up {ψ : Nat → Nat} {n n' C S : Nat} {o : Out} {μ' : Mu} {f' : AH} (h : FinT p l e R s m args below meth c Q y K D A φ n C S o μ' f') (e1 : ext n φ ψ) (hn : n ≤ n') : FinT p l e R s m args below meth c Q y K D A ψ n' C S o μ' f' :=
  fun pc2 E r χ ls2 H2 locs2 c2 s2 h1 h2 => h pc2 E r χ ls2 H2 locs2 c2 s2 h1 (e1.tr h2 hn)
theorem FinP.up {ψ : Nat → Nat} {n n' C S : Nat} {o : Out} {μ' : Mu} {f' : AH} (h : FinP p l e R s m args below meth c Q y K D A φ n C S o μ' f') (e1 : ext n φ ψ) (hn : n ≤ n') : FinP p l e R s m args below meth c Q y K D A ψ n' C S o μ' f' :=
  fun pc2 E q ce χ ls2 rest H2 locs2 h1 h0 h2 => h pc2 E q ce χ ls2 rest H2 locs2 h1 h0 (e1.tr h2 hn)
def Walk (l : Launch) (xs : List Int) (k : Nat) : Prop := ∀ (p : Program) (e : Env) (R : Room) (s : State) (m : MethodId) (args : Array Value) (below : List Frame) (meth : Method) (c : Code) (Q : State → Prop) (y : Nat) (K : KI) (D : va_G) (A : Nat → Prop) (sa : Nat → Nat),
  CX p s m args meth c y K D A sa → ((mH y).isEmpty = false → c.exceptionTable.toList = tableOf (mH y)) → rF y ≤ R.frames → rL y ≤ R.locals →
  ∀ (pc : Nat) (L st : List AV) (μ : Mu) (f : AH) (φ : Nat → Nat) (ls : Array Slot) (H : Heap) (locs : List Loc) (cells slots : Nat) (o : Out) (μ' : Mu) (f' : AH) (C S : Nat),
    SX xs y s A φ → LR φ μ.1 (mL y) L ls → okS μ.1 st → RH K D A s φ f μ.1 H locs → exec xs k y pc L st μ f = some (o, (μ', f')) → C = cells + (μ'.2.1 - μ.2.1) → S = slots + (μ'.2.2 - μ.2.2) → C ≤ R.cells → S ≤ R.slots →
    FinR p l e R s m args below meth c Q y K D A φ μ.1 C S o μ' f' → FinT p l e R s m args below meth c Q y K D A φ μ.1 C S o μ' f' → FinP p l e R s m args below meth c Q y K D A φ μ.1 C S o μ' f' →
    W p l e R s m args below meth c H locs cells slots Q (F0 m pc ls (st.map (cv φ)))
/-- the world behind a call, seen from the caller -/
theorem aft_RH {n n' : Nat} {f' : AH} {ψ : Nat → Nat} {st₀ t T' : State} {locs2 : List Loc} (X : CX p s m args meth c y K D A sa) (hH : RH K D A s φ f n H locs) (h0 : st₀.heap = H) (e1 : T'.heap = t.heap) (hL : ∀ q ∈ locs2, va_A (wld K φ f n) H.size q.base)
    (h : Aft K D φ n f' n' (va_A (wld K φ f n) H.size) st₀ t ψ) : RH K D A s ψ f' n' T'.heap (locs ++ locs2) := by
  obtain ⟨a1, a2, a3, a4, a5⟩ := h
  have hA : ∀ q, va_A (wld K φ f n) H.size q → A q := fun q hq => by
    rcases hq with ⟨k, e, hk⟩ | hq
    · exact hH.2.1.2 k _ hk
    · exact X.2.2.2.2.2.2.1 q (Nat.le_trans hH.2.2.1.1 hq)
  obtain ⟨k1, k2, k3⟩ := vx_keep (free := va_A (wld K φ f n) H.size) h0 e1 hH.2.2.1 (fun q _ hq => hA q hq) hA hL a5
  exact ⟨by rw [e1]; exact a2, a3.weaken (fun _ q _ hq => hA q.1 hq), k3, a4⟩
theorem walk_step (k : Nat) (hC : Con l xs k) (hW : Walk l xs k) : Walk l xs (k + 1) := by
  intro p e R s m args below meth c Q y K D A sa X ht hF hl pc L st μ f φ ls H locs cells slots o μ' f' C S hX hL hS hH hx eC eS hCc hSs fR fT fP
  rw [exec_one] at hx
  cases hs : Step1 xs y pc L st μ f with
  | none => rw [hs] at hx; cases hx
  | some q =>
    rw [hs] at hx
    obtain ⟨i, len, hd, hi⟩ : ∃ i len, decode (mB y) pc = .ok (i, len) ∧ istep xs y pc len i L st μ f = some q := by
      unfold Step1 at hs
      split at hs
      · cases hs
      · rename_i i len hd
        exact ⟨i, len, hd, hs⟩
    rcases q with ⟨pc1, L1, st1, μ1, f1⟩ | ⟨o1, μ1, f1⟩ | ⟨y1, as, pc1, L1, st1⟩
    · have hx : exec xs k y pc1 L1 st1 μ1 f1 = some (o, (μ', f')) := hx
      have m1 := istep_mu (xs := xs) (y := y) (f := f) (μ := μ) (L := L) (st := st) pc len i
      rw [hi] at m1
      have m1 : muLe μ μ1 := m1
      have m2 := exec_mu xs k _ _ _ _ _ _ _ _ _ hx
      obtain ⟨p1, p2, p3⟩ := m1
      obtain ⟨r1, r2, r3⟩ := m2
      refine sn_all i pc len L st μ f φ ls H locs cells slots pc1 L1 st1 μ1 f1 X hX hL hS hH hd hi (by omega) (by omega) hF hl (fun φ' ls' H' locs' e1 h1 h2 h3 h4 => ?_)
      exact hW p e R s m args below meth c Q y K D A sa X ht hF hl pc1 L1 st1 μ1 f1 φ' ls' H' locs' _ _ o μ' f' C S (hX.ext e1) h1 h2 h3 hx (by omega) (by omega) hCc hSs (fR.up e1 h4) (fT.up e1 h4) (fP.up e1 h4)
    · cases hx
      rcases istep_done hi with ⟨v, rfl, rfl, rfl, rfl, rfl, hr⟩ | ⟨kk, E, r, rfl, rfl, hxt, rfl, rfl, h6, h100, rfl, rfl⟩
      · rw [Nat.sub_self, Nat.add_zero] at eC eS
        subst eC; subst eS
        exact fR pc i v φ ls H locs rfl ext.rf hH hS hd hr
      · dsimp only at eC eS
        exact fT pc E r φ ls H locs cells slots rfl ext.rf hH hL.1.1 hxt h6 h100 (by omega) (by omega)
    · have hx : (match exec xs k y1 0 (ini y1 as) [] μ f with
        | none => none
        | some (.inl none, (μ', f')) => exec xs k y pc1 L1 st1 μ' f'
        | some (.inl (some v), (μ', f')) => exec xs k y pc1 L1 (v :: st1) μ' f'
        | some (.inr E, (μ', f')) => match lk hTab y E with
          | none => if (mH y).isEmpty then some (.inr E, (μ', f')) else none
          | some (_, (_, (h, (j, _)))) => if hcov y (pc1 - 3) = true then exec xs k y h (List.replicate (mL y) vu) [] μ' f' else none) = some (o, (μ', f')) := hx
      cases hc : exec xs k y1 0 (ini y1 as) [] μ f with
      | none => rw [hc] at hx; cases hx
      | some q =>
        rw [hc] at hx
        obtain ⟨o1, μ1, f1⟩ := q
        obtain ⟨p1, p2, p3⟩ := exec_mu xs k _ _ _ _ _ _ _ _ _ hc
        obtain ⟨z1, z2, z3, z4, -⟩ := istep_call hi
        have hbound : μ1.2.1 ≤ μ'.2.1 ∧ μ1.2.2 ≤ μ'.2.2 := by
          rcases o1 with (_ | v) | E
          · exact (exec_mu xs k _ _ _ _ _ _ _ _ _ hx).2
          · exact (exec_mu xs k _ _ _ _ _ _ _ _ _ hx).2
          · dsimp only at hx
            split at hx
            · obtain ⟨-, hx⟩ := ifs hx
              cases hx
              exact ⟨Nat.le_refl _, Nat.le_refl _⟩
            · obtain ⟨-, hx⟩ := ifs hx
              exact (exec_mu xs k _ _ _ _ _ _ _ _ _ hx).2
        obtain ⟨b1, b2⟩ := hbound
        have q1 : C = cells + (μ1.2.1 - μ.2.1) + (μ'.2.1 - μ1.2.1) := by omega
        have q2 : S = slots + (μ1.2.2 - μ.2.2) + (μ'.2.2 - μ1.2.2) := by omega
        have q3 : cells + (μ1.2.1 - μ.2.1) ≤ R.cells := by omega
        have q4 : slots + (μ1.2.2 - μ.2.2) ≤ R.slots := by omega
        have hrun := call_run (R := R) (e := e) (below := below) (cells := cells) (slots := slots) hC X hX hL hS hH hd hi hc hF hl q3 q4
        have hrS : okS μ.1 st1 := fun v hv => hS v (by rw [z4]; exact List.mem_append_right _ hv)
        intro T hT XT
        rcases hrun T hT XT with ⟨v, st₀, t, T', L9, h0, X', hLf, e1, e2, hQ, hst⟩ | ⟨q, st₀, t, T', L9, E, ce, h0, X', hLf, e1, e2, hE, hce, hcv, hcl, hst⟩
        · obtain ⟨w, ψ, rfl, hv, hw, haft⟩ := hQ
          have hv : v = w.map (cv ψ) := by injection hv
          subst hv
          have hR2 := aft_RH X hH h0 e1 hLf haft
          have hψ := haft.1
          have hLr := hL.ext hψ p1
          rw [← z3] at hLr
          have key : ∀ stk : List AV, (∀ v ∈ stk, okV μ1.1 v ∧ isU v = false) → stk.length ≤ stk.length → exec xs k y pc1 L1 stk μ1 f1 = some (o, (μ', f')) → ∃ t2, Steps p.tables e below (T'.setTop (F0 m pc1 ls (stk.map (cv ψ)))) t2 ∧ Q t2 := by
            intro stk hstk _ hx
            have hx2 := hW p e R s m args below meth c Q y K D A sa X ht hF hl pc1 L1 stk μ1 f1 ψ ls T'.heap (locs ++ L9) (cells + (μ1.2.1 - μ.2.1)) (slots + (μ1.2.2 - μ.2.2)) o μ' f' C S (hX.ext hψ) hLr hstk hR2 hx q1 q2 hCc hSs (fR.up hψ p1) (fT.up hψ p1) (fP.up hψ p1)
            exact hx2 T' rfl X'
          have hr2 : okS μ1.1 st1 := fun v hv => ⟨(hrS v hv).1.up p1, (hrS v hv).2⟩
          rcases w with _ | w
          · obtain ⟨t2, a1, b1⟩ := key st1 hr2 (Nat.le_refl _) hx
            rw [cvs_ext hψ hrS, z2] at a1
            exact ⟨t2, hst t2 a1, b1⟩
          · obtain ⟨t2, a1, b1⟩ := key (w :: st1) (hr2.cons (hw w (by simp)).1 (hw w (by simp)).2) (Nat.le_refl _) hx
            rw [List.map_cons, cvs_ext hψ hrS, z2] at a1
            exact ⟨t2, hst t2 a1, b1⟩
        · obtain ⟨E0, ψ, rfl, rfl, haft⟩ := hE
          have hR2 := aft_RH X hH h0 e1 hLf haft
          have hψ := haft.1
          rw [← e1] at hce
          have hx : (match lk hTab y E0 with
            | none => if (mH y).isEmpty then some (.inr E0, (μ1, f1)) else none
            | some (_, (_, (h, (j, _)))) => if hcov y (pc1 - 3) = true then exec xs k y h (List.replicate (mL y) vu) [] μ1 f1 else none) = some (o, (μ', f')) := hx
          have kx : vx_W p l e R s m args below meth c T'.heap (locs ++ L9) (cells + (μ1.2.1 - μ.2.1)) (slots + (μ1.2.2 - μ.2.2)) Q (F0 m pc ls (st1.map (cv φ))) q := by
            cases hk : lk hTab y E0 with
            | none =>
              rw [hk] at hx
              obtain ⟨hem, hx⟩ := ifs hx
              cases hx
              rw [← eC, ← eS]
              exact fP pc E0 q ce ψ ls _ T'.heap _ rfl hem hψ hR2 hce hcv hcl
            | some w =>
              rw [hk] at hx
              cases hk
          obtain ⟨t2, a1, b1⟩ := kx T' rfl X'
          exact ⟨t2, hst.trans a1, b1⟩
end SD
end
section
/-! EVERY METHOD'S CONTRACT -/
def NMx : List String := ["java/lang/RuntimeException", "java/lang/Exception"]
def exI (E : Nat) : Nat := match E with
  | 0 => 38
  | 1 => 52
  | _ => 80
def exC (E : Nat) : Nat := match E with
  | 0 => 42
  | 1 => 56
  | _ => 84
def xB (E : Nat) : List Cond := [.castable (eN E) (eN E), .declares (Bundle.initS "java/lang/RuntimeException"), .declares (Bundle.initS "java/lang/Exception"), .declares (Bundle.initS Bundle.tN)]
theorem xw0 : ∀ w ∈ (vx_atS RX3 (exC 0) (eN 0) NMx).filter goodWord, w ∈ lw_tbl := by decide +kernel
theorem xw1 : ∀ w ∈ (vx_atS RX3 (exC 1) (eN 1) NMx).filter goodWord, w ∈ lw_tbl := by decide +kernel
theorem xw2 : ∀ w ∈ (vx_atS RX3 (exC 2) (eN 2) NMx).filter goodWord, w ∈ lw_tbl := by decide +kernel
theorem xb0 : ∀ w ∈ (vx_atS RX3 (exC 0) (eN 0) NMx).filter (fun w => !goodWord w), w ∈ xB 0 := by decide +kernel
theorem xb1 : ∀ w ∈ (vx_atS RX3 (exC 1) (eN 1) NMx).filter (fun w => !goodWord w), w ∈ xB 1 := by decide +kernel
theorem xb2 : ∀ w ∈ (vx_atS RX3 (exC 2) (eN 2) NMx).filter (fun w => !goodWord w), w ∈ xB 2 := by decide +kernel
theorem xg0 : ∀ w ∈ Cond.classLink RX3 (exI 0) (eN 0) :: Cond.initialized (eN 0) :: vx_atS RX3 (exC 0) (eN 0) NMx, vx_ot w = true := by decide +kernel
theorem xg1 : ∀ w ∈ Cond.classLink RX3 (exI 1) (eN 1) :: Cond.initialized (eN 1) :: vx_atS RX3 (exC 1) (eN 1) NMx, vx_ot w = true := by decide +kernel
theorem xg2 : ∀ w ∈ Cond.classLink RX3 (exI 2) (eN 2) :: Cond.initialized (eN 2) :: vx_atS RX3 (exC 2) (eN 2) NMx, vx_ot w = true := by decide +kernel
theorem xf0 : Bundle.fit (eN 0) = true ∧ Bundle.fit (eN 1) = true ∧ Bundle.fit (eN 2) = true ∧ ∀ n ∈ NMx, Bundle.fit n = true := by decide +kernel
theorem xl : (Cond.classLink RX3 (exI 0) (eN 0) ∈ lw_tbl ∧ Cond.classLink RX3 (exI 1) (eN 1) ∈ lw_tbl ∧ Cond.classLink RX3 (exI 2) (eN 2) ∈ lw_tbl) ∧ (Cond.initialized (eN 0) ∈ lw_tbl ∧ Cond.initialized (eN 1) ∈ lw_tbl ∧ Cond.initialized (eN 2) ∈ lw_tbl) := by decide +kernel
theorem lt3 {P : Nat → Prop} (h0 : P 0) (h1 : P 1) (h2 : P 2) : ∀ {E : Nat}, E < 3 → P E
  | 0, _ => h0
  | 1, _ => h1
  | 2, _ => h2
  | n + 3, h => absurd h (by omega)
theorem gd_of {w : Cond} (h : w ∈ lw_tbl) (h2 : goodWord w = true) : w ∈ lw_gd := List.mem_filter.mpr ⟨h, h2⟩
theorem xW {E : Nat} (h : E < 3) : (∀ w ∈ (vx_atS RX3 (exC E) (eN E) NMx).filter goodWord, w ∈ lw_gd) ∧ (∀ w ∈ (vx_atS RX3 (exC E) (eN E) NMx).filter (fun w => !goodWord w), w ∈ xB E) ∧
    (∀ w ∈ Cond.classLink RX3 (exI E) (eN E) :: Cond.initialized (eN E) :: vx_atS RX3 (exC E) (eN E) NMx, vx_ot w = true) ∧ Bundle.fit (eN E) = true ∧ Cond.classLink RX3 (exI E) (eN E) ∈ lw_gd ∧ Cond.initialized (eN E) ∈ lw_gd := by
  refine lt3 (P := fun E => (∀ w ∈ (vx_atS RX3 (exC E) (eN E) NMx).filter goodWord, w ∈ lw_gd) ∧ (∀ w ∈ (vx_atS RX3 (exC E) (eN E) NMx).filter (fun w => !goodWord w), w ∈ xB E) ∧
    (∀ w ∈ Cond.classLink RX3 (exI E) (eN E) :: Cond.initialized (eN E) :: vx_atS RX3 (exC E) (eN E) NMx, vx_ot w = true) ∧ Bundle.fit (eN E) = true ∧ Cond.classLink RX3 (exI E) (eN E) ∈ lw_gd ∧ Cond.initialized (eN E) ∈ lw_gd) ?_ ?_ ?_ h
  · exact ⟨fun w hw => gd_of (xw0 w hw) (List.mem_filter.mp hw).2, xb0, xg0, xf0.1, gd_of xl.1.1 rfl, gd_of xl.2.1 rfl⟩
  · exact ⟨fun w hw => gd_of (xw1 w hw) (List.mem_filter.mp hw).2, xb1, xg1, xf0.2.1, gd_of xl.1.2.1 rfl, gd_of xl.2.2.1 rfl⟩
  · exact ⟨fun w hw => gd_of (xw2 w hw) (List.mem_filter.mp hw).2, xb2, xg2, xf0.2.2.1, gd_of xl.1.2.2 rfl, gd_of xl.2.2.2 rfl⟩
def xChk (e : Nat × (Nat × (Nat × (Nat × (Nat × (Nat × (Nat × Nat))))))) : Bool :=
  Nat.beq (mO e.1) 3 && ((mH e.1).isEmpty && (Nat.blt e.2.2.1 3 && (Nat.beq e.2.2.2.1 (exI e.2.2.1) && (Nat.beq e.2.2.2.2.2.1 (exC e.2.2.1) && (Nat.beq e.2.2.2.2.1 (txtI e.2.2.2.2.2.2.1) && (Nat.blt e.2.2.2.2.2.2.1 21 &&
  (decide (decode (mB e.1) e.2.1 = .ok (.new e.2.2.2.1, 3)) && (decide (decode (mB e.1) (e.2.1 + 3) = .ok (.dup, 1)) && (if e.2.2.2.2.2.2.2 = 0 then
    decide (decode (mB e.1) (e.2.1 + 4) = .ok (.ldc e.2.2.2.2.1, 2)) && (decide (decode (mB e.1) (e.2.1 + 6) = .ok (.invokespecial e.2.2.2.2.2.1, 3)) && decide (decode (mB e.1) (e.2.1 + 9) = .ok (.athrow, 1)))
    else decide (decode (mB e.1) (e.2.1 + 4) = .ok (.ldc_w e.2.2.2.2.1, 3)) && (decide (decode (mB e.1) (e.2.1 + 7) = .ok (.invokespecial e.2.2.2.2.2.1, 3)) && decide (decode (mB e.1) (e.2.1 + 10) = .ok (.athrow, 1))))))))))))
theorem xTab_ok : xTab.all xChk = true := by decide +kernel
section CO
variable {p : Program} {l : Launch} {e : Env} {R : Room} {s : State} {m : MethodId} {args : Array Value} {below : List Frame} {meth : Method} {c : Code} {H : Heap} {locs : List Loc} {cells slots : Nat} {Q : State → Prop}
variable {xs : List Int} {y : Nat} {K : KI} {D : va_G} {A : Nat → Prop} {sa : Nat → Nat} {φ : Nat → Nat} {f : AH} {μ : Mu} {L st : List AV} {ls : Array Slot}
theorem cat_cv_2 {φ : Nat → Nat} {v : AV} (h : cat2 v = true) : (cv φ v).category = 2 := by
  rcases v with z | (_ | a) | x | x | x
  · cases h
  · cases h
  · cases h
  · rfl
  · rfl
  · cases h
theorem lay_args (φ : Nat → Nat) : ∀ (as : List AV) (base i : Nat) (v : AV), (lay as)[i]? = some v → isU v = false → (base + i, cv φ v) ∈ lv_args base (as.map (cv φ)) := by
  intro as
  induction as with
  | nil => intro base i v h _; simp [lay] at h
  | cons w as ih =>
    intro base i v h hu
    have e : lay (w :: as) = (if cat2 w then [w, vu] else [w]) ++ lay as := rfl
    rw [e] at h
    show (base + i, cv φ v) ∈ (base, cv φ w) :: lv_args (if (cv φ w).category = 2 then base + 2 else base + 1) (as.map (cv φ))
    cases hc : cat2 w with
    | true =>
      rw [hc] at h
      rw [if_pos (cat_cv_2 hc)]
      match i, h with
      | 0, h => cases h; exact List.mem_cons_self
      | 1, h => cases h; cases hu
      | i + 2, h =>
        have q := ih (base + 2) i v h hu
        rw [show base + (i + 2) = base + 2 + i by omega]
        exact List.mem_cons_of_mem _ q
    | false =>
      rw [hc] at h
      rw [if_neg (by rw [cat_cv hc]; omega)]
      match i, h with
      | 0, h => cases h; exact List.mem_cons_self
      | i + 1, h =>
        have q := ih (base + 1) i v h hu
        rw [show base + (i + 1) = base + 1 + i by omega]
        exact List.mem_cons_of_mem _ q
theorem lay_len (φ : Nat → Nat) : ∀ as : List AV, (lg_sl (as.map (cv φ))).length = (lay as).length := by
  intro as
  induction as with
  | nil => rfl
  | cons w as ih =>
    show ((if (cv φ w).category = 2 then [Slot.val (cv φ w), .second] else [.val (cv φ w)]) ++ lg_sl (as.map (cv φ))).length = ((if cat2 w then [w, vu] else [w]) ++ lay as).length
    rw [List.length_append, List.length_append, ih]
    cases hc : cat2 w with
    | true => rw [if_pos (cat_cv_2 hc)]; rfl
    | false => rw [if_neg (by rw [cat_cv hc]; omega)]; rfl
theorem LR_entry {n : Nat} {as : List AV} (hA : okArg y as = true) (ho : okS n as) {ls : Array Slot} (h : lv_has ls (mL y) (lv_args 0 (as.map (cv φ)))) : LR φ n (mL y) (ini y as) ls := by
  have hA := Nat.le_of_ble_eq_true hA
  refine ⟨lv_mono h fun q hq => ?_, by unfold ini; rw [List.length_append, List.length_replicate]; omega, fun v hv => ?_⟩
  · obtain ⟨i, w⟩ := q
    obtain ⟨v, h1, h2, rfl⟩ := lps_mem.mp hq
    unfold ini at h1
    by_cases hi : i < (lay as).length
    · rw [List.getElem?_append_left hi] at h1
      have q := lay_args φ as 0 i v h1 h2
      rw [Nat.zero_add] at q
      exact q
    · rw [List.getElem?_append_right (by omega)] at h1
      have q := List.eq_of_mem_replicate (List.mem_of_getElem? h1)
      subst q
      cases h2
  · unfold ini at hv
    rcases List.mem_append.mp hv with hv | hv
    · obtain ⟨w, hw, hv⟩ := List.mem_flatMap.mp hv
      split at hv
      · rcases List.mem_cons.mp hv with rfl | hv
        · exact (ho _ hw).1
        · rcases List.mem_cons.mp hv with rfl | hv
          · trivial
          · cases hv
      · rcases List.mem_cons.mp hv with rfl | hv
        · exact (ho _ hw).1
        · cases hv
    · rw [List.eq_of_mem_replicate hv]; trivial
theorem con_body {k : Nat} (hl : l.stackTraces = false) (hW : Walk l xs k) {y : Nat} (h0 : 0 < y) (h : y < 83) {as : List AV} {o : Out} {μ' : Mu} {f' : AH} (hx : exec xs k y 0 (ini y as) [] μ f = some (o, (μ', f'))) (hA : okArg y as = true) (hS : okS μ.1 as) (hH : okH μ.1 f) {sz : Nat}
    {s₁ : State} {hh : Room} (hroom : hh = { frames := rF y, cells := μ'.2.1 - μ.2.1, slots := μ'.2.2 - μ.2.2, locals := rL y }) (B : BodyLoose p l (mN y) (headSpec (mW y) hh) (mB y) (mL y) (mR y) e s m args below meth c s₁) (hml : c.maxLocals = mL y) (ht : c.exceptionTable.toList = tableOf (mH y)) (hP : va_Pc (as.map (cv φ)) (Bef xs K D φ f μ.1 sz sa) args s) :
    W p l e (headSpec (mW y) hh).room s m args below meth c s.heap [] 0 0 (vx_MQ below (CQ K D φ μ.1 o f' μ'.1 (va_A (wld K φ f μ.1) sz)) (CE K D φ μ.1 o f' μ'.1 (va_A (wld K φ f μ.1) sz)) args s (μ'.2.1 - μ.2.1) (μ'.2.2 - μ.2.2) (va_A (wld K φ f μ.1) sz)) (entryFrame m args (mL y)) := by
  obtain ⟨rfl, rfl, hP1, hK, hD, hG, hXs⟩ := hP
  obtain ⟨z1, z2, z3, z4⟩ := mChk_at h0 h
  have hts := atoms_spec (ws := mW y) B.pre
  have X : CX p s m (as.map (cv φ)).toArray meth c y K D (va_A (wld K φ f μ.1) s.heap.size) sa := ⟨B.exec, B.bytes, hml, by rw [← z2]; exact findClass_of_methodNamed B.named, fun w hw => hts w (List.mem_cons_of_mem _ hw), hK, fun q hq => Or.inr hq, B.notSynchronized, hG, fun h9 => (name_of_methodNamed B.named B.method).1.trans h9, B.returns⟩
  have hlen : (lg_sl (as.map (cv φ))).length ≤ mL y := by rw [lay_len]; exact Nat.le_of_ble_eq_true hA
  have hlv := lv_entry (as.map (cv φ)) (n := mL y) hlen
  rw [lg_entry_eq]
  generalize (lg_sl (as.map (cv φ)) ++ List.replicate (mL y - (lg_sl (as.map (cv φ))).length) Slot.unset).toArray = ls at hlv ⊢
  have hR : RH K D (va_A (wld K φ f μ.1) s.heap.size) s φ f μ.1 s.heap [] := ⟨hP1, hD.self, va_S.rf, hH⟩
  subst hroom
  refine hW p e _ s m _ below meth c _ y K D _ sa X (fun _ => ht) (Nat.le_refl _) (Nat.le_refl _) 0 (ini y as) [] μ f φ ls s.heap [] 0 0 o μ' f' (μ'.2.1 - μ.2.1) (μ'.2.2 - μ.2.2) hXs (LR_entry hA hS hlv) (fun v hv => absurd hv List.not_mem_nil) hR hx (by omega) (by omega) (Nat.le_refl _) (Nat.le_refl _) ?_ ?_ ?_
  · intro pc2 i v ψ ls2 H2 locs2 ho he hR2 hok hd hr
    have fin : ∀ t : State, t.heap = H2 → s.WarmedH t.vm → CQ K D φ μ.1 o f' μ'.1 (va_A (wld K φ f μ.1) s.heap.size) (as.map (cv φ)).toArray s (.returned (v.map (cv ψ))) t := fun t ht _ => ⟨v, ψ, ho, rfl, hok, he, by rw [ht]; exact hR2.1, hR2.2.1, hR2.2.2.2, hR2.2.2.1.F ht⟩
    unfold retI at hr
    split at hr
    · obtain ⟨rfl, hr⟩ := hr
      exact vx_ret (W.vret X.1 X.2.1 (X.2.2.2.2.2.2.2.2.2.2.trans hr) fin hR2.2.2.1.2.2 hd X.2.2.2.2.2.2.2.1)
    · rename_i x
      obtain ⟨rfl, hr⟩ := hr
      rcases hr with hr | ⟨hr, hx9⟩
      · exact vx_ret (W.iret X.1 X.2.1 (X.2.2.2.2.2.2.2.2.2.2.trans hr) fin hR2.2.2.1.2.2 hd X.2.2.2.2.2.2.2.1)
      · exact vx_ret (W.zret X.1 X.2.1 (X.2.2.2.2.2.2.2.2.2.2.trans hr) (by rcases hx9 with rfl | rfl <;> rfl) fin hR2.2.2.1.2.2 hd X.2.2.2.2.2.2.2.1)
    · obtain ⟨rfl, hr⟩ := hr
      exact vx_ret (W.lret X.1 X.2.1 (X.2.2.2.2.2.2.2.2.2.2.trans hr) fin hR2.2.2.1.2.2 hd X.2.2.2.2.2.2.2.1)
    · obtain ⟨rfl, hr, hn⟩ := hr
      exact vx_ret (W.dret X.1 X.2.1 (X.2.2.2.2.2.2.2.2.2.2.trans hr) fin hR2.2.2.1.2.2 hd X.2.2.2.2.2.2.2.1)
    · exact hr.elim
  · intro pc2 E r ψ ls2 H2 locs2 c2 s2 ho he hR2 hsz hk h6 h100 hc2 hs2
    have h1 := List.all_eq_true.mp xTab_ok _ (lk_mem hk)
    obtain ⟨ik, is, ic, tx, w⟩ := r
    unfold xChk at h1
    simp only [Bool.and_eq_true, Nat.blt_eq, decide_eq_true_eq] at h1
    obtain ⟨a1, a2, a3, a4, a5, a6, a7, a8, a9, a10⟩ := h1
    have a1 : mO y = 3 := Nat.eq_of_beq_eq_true a1
    have a4 : ik = exI E := Nat.eq_of_beq_eq_true a4
    have a5 : ic = exC E := Nat.eq_of_beq_eq_true a5
    have a6 : is = txtI tx := Nat.eq_of_beq_eq_true a6
    subst a4; subst a5; subst a6
    obtain ⟨b1, b2, b3, b4, b5, b6⟩ := xW a3
    have hown : s.vm.findClass RX3 = some m.cls := by have z := X.2.2.2.1; rw [a1] at z; exact z
    have htab : c.exceptionTable.toList = [] := by rw [ht, List.isEmpty_iff.mp a2]; rfl
    have hat : ∀ w ∈ vx_atS RX3 (exC E) (eN E) NMx, w.before (as.map (cv φ)).toArray s = true := vx_hat (B := xB E) (fun w hw => X.2.2.2.2.1 w (b1 w hw)) b2 (vx_c ((hG.2.2.1.1 E).use rfl) (vx_c ((hG.2.2.1.2 _ (by simp [NMd])).use rfl) (vx_c ((hG.2.2.1.2 _ (by simp [NMd])).use rfl) (vx_c ((hG.2.2.1.2 _ (by simp [NMd])).use rfl) vx_n))))
    have fin : ∀ t : State, s.vm.Alike t.vm → H2.size ≤ t.heap.size → (∀ q : Nat, q < H2.size → t.heap[q]? = H2[q]?) → CE K D φ μ.1 o f' μ'.1 (va_A (wld K φ f μ.1) s.heap.size) (eN E) s t := fun t _ h1 h2 =>
      ⟨E, ψ, ho, rfl, he, hR2.1.kept (fun k q hq => h2 _ (hR2.1 k q hq).lt), hR2.2.1, hR2.2.2.2, Nat.le_trans hR2.2.2.1.1 h1, fun q q1 q2 => (h2 q (Nat.lt_of_lt_of_le q1 hR2.2.2.1.1)).trans (hR2.2.2.1.2.1 q q1 q2)⟩
    split at a10
    · simp only [Bool.and_eq_true, decide_eq_true_eq] at a10
      exact vx_throwS (names := NMx) (text := txt tx) (sa := sa tx) X.1 X.2.1 hl hown b4 xf0.2.2.2 (X.2.2.2.2.1 _ b5) (X.2.2.2.2.1 _ b6) (hG.2.1 tx a7) hat b3 hG.1.1 hG.1.2 hR2.2.2.1 (hsz.trans X.2.2.1.symm) a8 a9 a10.1 a10.2.1 a10.2.2 (fun x hx => by rw [htab] at hx; cases hx) (by show 2 + 3 < rF y; omega) (by show 0 + (13 * (2 + 1) + 43) ≤ rL y; omega) (by show c2 + 1 ≤ μ'.2.1 - μ.2.1; omega) (by show s2 + 6 ≤ μ'.2.2 - μ.2.2; omega) X.2.2.2.2.2.2.2.1 fin hR2.2.2.1.2.2 (by omega) (by omega)
    · simp only [Bool.and_eq_true, decide_eq_true_eq] at a10
      exact vx_throwSW (names := NMx) (text := txt tx) (sa := sa tx) X.1 X.2.1 hl hown b4 xf0.2.2.2 (X.2.2.2.2.1 _ b5) (X.2.2.2.2.1 _ b6) (hG.2.1 tx a7) hat b3 hG.1.1 hG.1.2 hR2.2.2.1 (hsz.trans X.2.2.1.symm) a8 a9 a10.1 a10.2.1 a10.2.2 (fun x hx => by rw [htab] at hx; cases hx) (by show 2 + 3 < rF y; omega) (by show 0 + (13 * (2 + 1) + 43) ≤ rL y; omega) (by show c2 + 1 ≤ μ'.2.1 - μ.2.1; omega) (by show s2 + 6 ≤ μ'.2.2 - μ.2.2; omega) X.2.2.2.2.2.2.2.1 fin hR2.2.2.1.2.2 (by omega) (by omega)
  · intro pc2 E q ce ψ ls2 rest H2 locs2 ho hem he hR2 hce hcv hcl
    have htab : c.exceptionTable.toList = [] := by rw [ht, List.isEmpty_iff.mp hem]; rfl
    exact vx_out (fun x hx => by rw [htab] at hx; cases hx) X.2.2.2.2.2.2.2.1 hce hcv hcl (fun t ht9 _ => ⟨E, ψ, ho, rfl, he, by rw [ht9]; exact hR2.1, hR2.2.1, hR2.2.2.2, hR2.2.2.1.F ht9⟩) hR2.2.2.1.2.2 (Nat.le_refl _) (Nat.le_refl _)
theorem con_of {k : Nat} (hl : l.stackTraces = false) (hW : Walk l xs k) : Con l xs k := by
  intro y h0 h as μ f o μ' f' hx hA hS hH K D φ sz sa
  obtain ⟨z1, z2, z3, z4⟩ := mChk_at h0 h
  cases hE : (mH y).isEmpty with
  | true =>
    refine vx_ofW (cc := mB y) (maxL := mL y) (ret := mR y) z1 (ws' := lw_gd) (by show mCode y :: lw_gd = _; rw [mCode_plain hE]) ?_
    intro p e s m args below meth c s₁ B hml htab hP
    refine con_body hl hW h0 h hx hA hS hH rfl B hml ?_ hP
    have e1 : c.exceptionTable.toList = [] := by
      cases hq : c.exceptionTable.toList with
      | nil => rfl
      | cons x r => exact (htab x (by rw [hq]; exact List.mem_cons_self)).elim
    rw [e1, List.isEmpty_iff.mp hE]; rfl
  | false =>
    refine vx_ofWH (cc := mB y) (maxL := mL y) (ret := mR y) (hh := mH y) z1 (ws' := lw_gd) (by show mCode y :: lw_gd = _; rw [mCode_hand hE]) ?_
    intro p e s m args below meth c s₁ B hml hP
    have hts := atoms_spec (ws := mW y) B.pre
    have hw := hts (mCode y) List.mem_cons_self
    rw [mCode_hand hE] at hw
    exact con_body hl hW h0 h hx hA hS hH rfl B hml (vx_table (x := mN y) B hw) hP
theorem walk_all (hl : l.stackTraces = false) (xs : List Int) : ∀ k, Walk l xs k
  | 0 => fun p e R s m args below meth c Q y K D A sa X ht hF hl pc L st μ f φ ls H locs cells slots o μ' f' C S hX hL hS hH hx => by cases hx
  | k + 1 => walk_step k (con_of hl (walk_all hl xs k)) (walk_all hl xs k)
end CO
end
section
/-! THE CLAIM OUT OF ONE WALK OF THE LAW'S BODY. Your part is whole_start (and what it stands on); all else here is the same for every law, but numbers. -/
def R_law : String := "PlannedPagesLaw"
def lw_P (b : Addr) (xs : List Int32) (args : Array Value) (s : State) : Prop := args = #[.ref b] ∧ s.IntsAt b xs ∧ xs.length ≤ 260 ∧ (Jvm.Cond.and given_1 narrow_1).before args s = true
/-- what a walk over the start with the record d0 says of its end, said of the start itself -/
theorem lw_closed {s t : State} {o : Outcome} {d0 : Drawn} {L : List Loc} {k n : Nat} (hd0 : s.drawn.sameBut d0 lw_cs) (hv : ∃ v, o = .returned v) (hW : (s.setDrawn d0).WarmedH t.vm) (hs : (s.setDrawn d0).sameButNew ({ t with vm := s.vm } : State) L k n) : State.butDraws s t lw_cs (fun t1 => Framed s o t1 L k n) := by
  have h2 : t.drawn = d0 := congrArg State.drawn hs.1
  refine ⟨⟨hv, hW, State.sameButNew.setDrawn hs s.drawn⟩, ?_, by decide⟩
  rw [h2]
  exact hd0
def lw_Q (_ : Array Value) (s : State) (o : Outcome) (t : State) : Prop := o = .returned (some (.int 1)) ∧ State.butDraws s t lw_cs (fun t1 => Framed s o t1 [] 600130 7301080)
def lw_Z (below : List Frame) (a : Array Value) (s : State) : State → Prop := fun t => ∃ o, t.status = .running ∧ Ended t below o ∧ lw_Q a s o t
/-- the law's own end, with 1 on the stack, nothing written that was there before, its room as the claim has it; d0: the record of draws at this point (at the entry s.drawn: begin with 'refine W.base ?_' and 'have hd0 := Drawn.sameBut.refl s.drawn lw_cs') -/
theorem lw_ret {p : Program} {l : Launch} {e : Env} {s : State} {m : MethodId} {below : List Frame} {meth : Method} {c : Code} {b : Nat} {d0 : Drawn} (hd0 : s.drawn.sameBut d0 lw_cs) (hx : p.tables.exec = Jvm.exec) (hb : c.code = code) (hr : meth.sig.returnType = ret) (hlocks : meth.locks = false) {pc : Nat} {H : Heap} {ls : Array Slot} (hdg : decode code pc = .ok (.ireturn, 1)) : W p l e room_1 (s.setDrawn d0) m #[Value.ref b] below meth c H [] 600130 7301080 (lw_Z below #[Value.ref b] s) (F0 m pc ls [.int 1]) := by
  intro T hT X
  obtain ⟨fs, hret, hrun, hended, hW, hframe⟩ := X.leave (v := some (.int 1)) (hlocks := hlocks) (fun h => by rw [hr] at h; cases h)
  have hmeth' : T.vm.method? m = some meth := X.method'
  refine ⟨T.setFrames fs, ?_, .returned (some (.int 1)), hrun, hended, rfl, lw_closed hd0 ⟨_, rfl⟩ hW hframe⟩
  jvm_step X.here [X.here.top, hx, hb, hdg, hmeth', hr, ret, narrow_b1]
  (try refine ⟨rfl, ?_⟩); (try refine ⟨rfl, ?_⟩)
  first | (intro acts; rw [hret _ acts rfl rfl rfl]) | rw [hret _ _ rfl rfl rfl]
  exact Steps.refl _
/-- what holds at the law's entry: the machine, the code, the tables' words (any of lw_tbl by 'hts w (by decide +kernel)'), the script of L ints xs at the cell b, what the Statement gives of the start (any of its parts by flat_of_before) -/
def lw_At (p : Program) (s : State) (m : MethodId) (meth : Method) (c : Code) (b L : Nat) (xs : Nat → Int32) : Prop :=
  p.tables.exec = Jvm.exec ∧ c.code = code ∧ meth.sig.returnType = ret ∧ c.maxLocals = 15 ∧ s.vm.findClass R_law = some m.cls ∧ (∀ w ∈ lw_tbl, w.before #[Value.ref b] s = true) ∧ va_X b L xs s s.heap ∧ b < s.heap.size ∧ meth.locks = false ∧ (Jvm.Cond.and given_1 narrow_1).before #[Value.ref b] s = true
/-! THE LAW'S WALK OUT OF A RUN OF THE ABSTRACT MACHINE -/
theorem st_str : ∀ k ∈ List.range 21, Cond.stringRef RX3 (txtI k) (txt k) ∈ lw_tbl := by decide +kernel
theorem st_exa : ∀ k ∈ List.range 21, Cond.exactly (.string RX3 (txtI k)) "java/lang/String" ∈ flatC (Jvm.Cond.and given_1 narrow_1) := by decide +kernel
theorem st_cas : Cond.castable (eN 0) (eN 0) ∈ lw_tbl ∧ Cond.castable (eN 1) (eN 1) ∈ lw_tbl ∧ Cond.castable (eN 2) (eN 2) ∈ lw_tbl := by decide +kernel
theorem st_dec : ∀ n ∈ NMd, Cond.declares (Bundle.initS n) ∈ lw_tbl := by decide +kernel
theorem st_ref : Cond.isRef (.static Bundle.tN "UNASSIGNED_STACK" Bundle.steD) ∈ flatC (Jvm.Cond.and given_1 narrow_1) ∧ Cond.isRef (.static Bundle.tN "SUPPRESSED_SENTINEL" Bundle.listD) ∈ flatC (Jvm.Cond.and given_1 narrow_1) := by decide +kernel
theorem st_lay : Cond.laysStatic Bundle.tN "UNASSIGNED_STACK" Bundle.steD ∈ lw_tbl ∧ Cond.laysStatic Bundle.tN "SUPPRESSED_SENTINEL" Bundle.listD ∈ lw_tbl ∧ Cond.initialized Bundle.tN ∈ lw_tbl := by decide +kernel
theorem st_arr : Cond.arrayOver (.object RX1) ∈ lw_tbl ∧ Cond.methodLinkNest RX3 9 yX1_init RX3 ∈ lw_tbl ∧ Cond.methodLinkNest RX3 29 yX2_init RX3 ∈ lw_tbl ∧ Cond.arrayClass .int ∈ lw_tbl := by decide +kernel
theorem st_ins : Cond.instantiable (cN 0) (cF 0) ∈ lw_tbl ∧ Cond.instantiable (cN 1) (cF 1) ∈ lw_tbl ∧ Cond.instantiable (cN 2) (cF 2) ∈ lw_tbl ∧ Cond.instantiable (cN 3) (cF 3) ∈ lw_tbl ∧ Cond.instantiable (cN 4) (cF 4) ∈ lw_tbl := by decide +kernel
theorem gd_sub {w : Cond} (h : w ∈ lw_gd) : w ∈ lw_tbl := (List.mem_filter.mp h).1
theorem eN_ge {E : Nat} (h : 2 ≤ E) : eN E = eN 2 := by
  match E, h with
  | 2, _ => rfl
  | n + 3, _ => rfl
theorem arr_known {s : State} {args : Array Value} {t : FieldType} (h : (Cond.arrayClass t).before args s = true) (ht : ∀ C, t ≠ .object C) : ∃ cA : ClassId, ArrOfT s cA t ∧ va_RA s cA t := by
  obtain ⟨c, k, comp, h1, h2, h3⟩ := Cond.arrayClass_spec h
  refine ⟨c, fun n z => ⟨fun k h => (by cases h), k, h2, comp, h3⟩, ?_⟩
  cases t with
  | object C => exact absurd rfl (ht C)
  | _ => exact h1
theorem arrO_known {s : State} {args : Array Value} {C : String} (h : (Cond.arrayOver (.object C)).before args s = true) : ∃ cA : ClassId, ArrOfT s cA (.object C) ∧ va_RA s cA (.object C) := by
  obtain ⟨comp, c, k, h1, h2, h3, h4, h5⟩ := Cond.arrayOver_spec h
  exact ⟨c, fun n z => ⟨fun k h => (by cases h), k, h3, comp, h4⟩, k, comp, h3, h4, h1, h5⟩
def LawRuns (xs : List Int) : Prop := ∃ (k : Nat) (μ' : Mu) (f' : AH), exec xs k 0 0 (ini 0 [vr 0]) [] (0, (0, 0)) (fun _ => none) = some (.inl (some (vi 1)), (μ', f')) ∧ μ'.2.1 ≤ 600130 ∧ μ'.2.2 ≤ 7301080
set_option maxHeartbeats 4000000 in
theorem start_of (hrun : ∀ xs : List Int, (∀ x ∈ xs, -2147483648 ≤ x ∧ x < 2147483648) → xs.length ≤ 260 → LawRuns xs) {p : Program} {e : Env} {s : State} {m : MethodId} {below : List Frame} {meth : Method} {c : Code} (l : Launch) (hflags : l.flags = flags0) {b L : Nat} {xs : Nat → Int32} (hL : L ≤ 260) (C0 : lw_At p s m meth c b L xs) : W p l e room_1 s m #[Value.ref b] below meth c s.heap [] 0 0 (lw_Z below #[Value.ref b] s) (entryFrame m ([Value.ref b] : List Value).toArray 15) := by
  obtain ⟨hx, hb, hr, hml, hown, hts, hX, hbl, hlocks, hgv⟩ := id C0
  have hs := flat_of_before _ hgv
  have hst : l.stackTraces = false := by unfold Launch.stackTraces; rw [hflags]; decide +kernel
  -- the tables
  obtain ⟨cI, i1, i2⟩ := arr_known (hts _ st_arr.2.2.2) (fun C => by simp)
  obtain ⟨cR, r1, r2⟩ := arrO_known (hts _ st_arr.1)
  obtain ⟨c0, iS0, k0⟩ := u_known (C := cN 0) (T := cT 0) (N := cF 0) hts (fun w hw => gd_sub (cW_in (by omega) w hw)) (hts _ st_ins.1)
  obtain ⟨c1, iS1, k1⟩ := u_known (C := cN 1) (T := cT 1) (N := cF 1) hts (fun w hw => gd_sub (cW_in (by omega) w hw)) (hts _ st_ins.2.1)
  obtain ⟨c2, iS2, k2⟩ := u_known (C := cN 2) (T := cT 2) (N := cF 2) hts (fun w hw => gd_sub (cW_in (by omega) w hw)) (hts _ st_ins.2.2.1)
  obtain ⟨c3, iS3, k3⟩ := u_known (C := cN 3) (T := cT 3) (N := cF 3) hts (fun w hw => gd_sub (cW_in (by omega) w hw)) (hts _ st_ins.2.2.2.1)
  obtain ⟨c4, iS4, k4⟩ := u_known (C := cN 4) (T := cT 4) (N := cF 4) hts (fun w hw => gd_sub (cW_in (by omega) w hw)) (hts _ st_ins.2.2.2.2)
  obtain ⟨D, hD⟩ : ∃ D : va_G, ∀ (k : Nat) (q : vw_C), vwCl[k]? = some q → u_Kn s q.1 q.2.1 q.2.2 (D.1 k) (D.2 k) := by
    refine ⟨(fun k => if k = 0 then c0 else if k = 1 then c1 else if k = 2 then c2 else if k = 3 then c3 else c4, fun k => if k = 0 then iS0 else if k = 1 then iS1 else if k = 2 then iS2 else if k = 3 then iS3 else iS4), ?_⟩
    intro k q hq
    match k, hq with
    | 0, hq => cases hq; exact k0
    | 1, hq => cases hq; exact k1
    | 2, hq => cases hq; exact k2
    | 3, hq => cases hq; exact k3
    | 4, hq => cases hq; exact k4
    | k + 5, hq => simp [vwCl] at hq
  have hK : va_K D vwCl [(cI, .int), (cR, .object RX1)] s := ⟨hD, fun k q h => by
    match k, h with
    | 0, h => cases h; exact ⟨i1, i2⟩
    | 1, h => cases h; exact ⟨r1, r2⟩
    | k + 2, h => simp at h⟩
  obtain ⟨sa, hsa⟩ : ∃ sa : Nat → Nat, ∀ k, k < 21 → vk_R RX3 (txtI k) (txt k) (sa k) s := by
    have h1 : ∀ k, ∃ a : Nat, k < 21 → vk_R RX3 (txtI k) (txt k) a s := by
      intro k
      by_cases hk : k < 21
      · obtain ⟨a, c, cA, kA, q1, -⟩ := Cond.exactly_spec (hs _ (st_exa k (List.mem_range.mpr hk)))
        refine ⟨a, fun _ => vk_R.of (A := #[Value.ref b]) (hts _ (st_str k (List.mem_range.mpr hk))) q1⟩
      · exact ⟨0, fun h => absurd h hk⟩
    exact ⟨fun k => (h1 k).choose, fun k hk => (h1 k).choose_spec hk⟩
  have hNA : ∀ a : Nat, a < s.heap.size → ¬ (fun q : Nat => s.heap.size ≤ q) a := fun a ha => Nat.not_le.mpr ha
  have hG : GW s (fun q : Nat => s.heap.size ≤ q) sa := by
    refine ⟨⟨vx_Zqof (hts _ st_lay.1) (hts _ st_lay.2.2) (hs _ st_ref.1) hNA, vx_Zqof (hts _ st_lay.2.1) (hts _ st_lay.2.2) (hs _ st_ref.2) hNA⟩, hsa, ⟨fun E => ?_, fun n hn => va_Nw.of rfl (hts _ (st_dec n hn))⟩, trivial, va_AO.of (hts _ st_arr.1), va_Nw.of rfl (hts _ st_arr.2.1), va_Nw.of rfl (hts _ st_arr.2.2.1)⟩
    by_cases h2 : 2 ≤ E
    · rw [eN_ge h2]; exact va_Nw.of rfl (hts _ st_cas.2.2)
    · match E, h2 with
      | 0, _ => exact va_Nw.of rfl (hts _ st_cas.1)
      | 1, _ => exact va_Nw.of rfl (hts _ st_cas.2.1)
      | n + 2, h2 => exact absurd (Nat.le_add_left 2 n) h2
  -- the run
  generalize hxl : (List.range L).map (fun j => (xs j).toInt) = xl
  have hlen : xl.length = L := by rw [← hxl]; simp
  have hrg : ∀ x ∈ xl, -2147483648 ≤ x ∧ x < 2147483648 := fun x hx => by
    rw [← hxl] at hx
    obtain ⟨j, -, rfl⟩ := List.mem_map.mp hx
    exact ⟨i32_lo _, i32_hi _⟩
  obtain ⟨k, μ', f', hk, hc1, hc2⟩ := hrun xl hrg (by omega)
  have X : CX p s m #[Value.ref b] meth c 0 (cI, (cR, cI)) D (fun q : Nat => s.heap.size ≤ q) sa := ⟨hx, hb, hml, hown, fun w hw => hts w (gd_sub hw), hK, fun _ h => h, hlocks, hG, fun h => absurd h (by decide +kernel), hr⟩
  have hH : RH (cI, (cR, cI)) D (fun q : Nat => s.heap.size ≤ q) s (fun _ => b) (fun _ => none) 0 s.heap [] :=
    ⟨fun k q h => by simp [wld] at h, ⟨fun i j p q h => by simp [wld] at h, fun k q h => by simp [wld] at h⟩, va_S.rf, ⟨(fun a c h => nomatch h), fun a h1 h2 => by omega⟩⟩
  have hSX : SX xl 0 s (fun q : Nat => s.heap.size ≤ q) (fun _ => b) := by
    obtain ⟨scr, h1, h2, h3, h4, h5⟩ := hX
    refine ⟨⟨scr, h1, h2, h3, by rw [hlen]; exact h4, fun j hj => ?_⟩, hbl, Nat.not_le.mpr hbl, hrg, by omega⟩
    rw [hlen] at hj
    rw [h5 j hj, ← hxl]
    show _ = some (Value.int (i32 (((List.range L).map (fun j => (xs j).toInt)).getD j 0)))
    rw [List.getD_eq_getElem?_getD, List.getElem?_map, List.getElem?_range hj]
    show _ = some (Value.int (i32 (xs j).toInt))
    rw [i32_of]
  have hlv := lv_entry ([.ref b]) (n := 15) (Nat.le_of_ble_eq_true rfl)
  rw [lg_entry_eq]
  generalize (lg_sl ([.ref b]) ++ List.replicate (15 - (lg_sl ([.ref b])).length) Slot.unset).toArray = ls at hlv ⊢
  have hLR : LR (fun _ => b) 0 (mL 0) (ini 0 [vr 0]) ls := LR_entry (y := 0) (φ := fun _ => b) rfl (fun v hv => by
    rcases List.mem_cons.mp hv with rfl | hv
    · exact ⟨Nat.le_refl _, rfl⟩
    · cases hv) hlv
  refine walk_all hst xl k p e room_1 s m #[Value.ref b] below meth c _ 0 (cI, (cR, cI)) D _ sa X (fun h => absurd h (by decide +kernel)) (by decide +kernel) (by decide +kernel) 0 (ini 0 [vr 0]) [] (0, (0, 0)) (fun _ => none) (fun _ => b) ls s.heap [] 0 0 _ μ' f' (μ'.2.1) (μ'.2.2) hSX hLR (fun v hv => absurd hv List.not_mem_nil) hH hk (by show _ = 0 + (μ'.2.1 - 0); omega) (by show _ = 0 + (μ'.2.2 - 0); omega) hc1 hc2 ?_ ?_ ?_
  · intro pc2 i v ψ ls2 H2 locs2 ho he hR2 hok hd hret
    cases ho
    obtain ⟨rfl, -⟩ := hret
    refine va_forget (fun q hq => hR2.2.2.1.2.2 q hq) ?_
    refine W.widen (k := 600130) (n := 7301080) hc1 hc2 ?_
    exact lw_ret (d0 := s.drawn) (Drawn.sameBut.refl s.drawn lw_cs) hx hb hr hlocks hd
  · intro pc2 E r ψ ls2 H2 locs2 c2 s2 ho; cases ho
  · intro pc2 E q ce ψ ls2 rest H2 locs2 ho; cases ho
end
section
/-! THE RULES' LAWS: an instruction known is an equation of Wp -/
def iAnd (x y : Int) : Int := (i32 x &&& i32 y).toInt
def iOr (x y : Int) : Int := (i32 x ||| i32 y).toInt
def iXor (x y : Int) : Int := (i32 x ^^^ i32 y).toInt
def iShl (x y : Int) : Int := (i32 x <<< (i32 y &&& 31)).toInt
def iShr (x y : Int) : Int := (i32 x >>> (i32 y &&& 31)).toInt
def iDiv (x y : Int) : Int := (i32 x / i32 y).toInt
def iRem (x y : Int) : Int := (i32 x - i32 x / i32 y * i32 y).toInt
def iL (x : Int) : Int64 := (i32 x).toInt64
def iD (x : Int) : UInt64 := FP.i2d (i32 x)
def lSh (x : Int64) (y : Int) : Int64 := x <<< ((i32 y).toInt64 &&& 63)
def bump (μ : Mu) : Mu := (μ.1, (μ.2.1 + 1, μ.2.2 + 6))
def gI (xs : List Int) (y : Nat) (f : AH) (a : Nat) (i : Int) : Option AV := if a = 0 then sG xs y i else gi f a i
def aN (xs : List Int) (y : Nat) (f : AH) (a : Nat) : Option AV := if a = 0 then (if scr y = true then some (vi xs.length) else none) else (an f a).map (fun n => vi (n : Int))
/-- a call on a receiver -/
def WpI (xs : List Int) (ok : Bool) (a : Nat) (y' : Nat) (as : List AV) (y pc : Nat) (L st : List AV) (μ : Mu) (f : AH) (Q : Out → Mu → AH → Prop) : Prop := if ok = true ∧ a ≠ 0 then WpC xs y' as y pc L st μ f Q else False
section RR
variable {xs : List Int} {y pc len : Nat} {i : Instr} {L st : List AV} {μ : Mu} {f : AH} {Q : Out → Mu → AH → Prop}
theorem R_S (hd : decode (mB y) pc = .ok (i, len)) : Wp xs y pc L st μ f Q = WpS xs y (istep xs y pc len i L st μ f) μ f Q := by
  rw [Wp_one]
  unfold Step1
  rw [hd]
theorem R_nx {pc' : Nat} {L' st' : List AV} {μ' : Mu} {f' : AH} (hd : decode (mB y) pc = .ok (i, len)) (hs : istep xs y pc len i L st μ f = some (.inl (pc', (L', (st', (μ', f')))))) : Wp xs y pc L st μ f Q = Wp xs y pc' L' st' μ' f' Q := by
  rw [R_S hd, hs]; rfl
theorem R_br {b : Prop} [Decidable b] {p1 p2 : Nat} {L1 st1 L2 st2 : List AV} {μ1 μ2 : Mu} {f1 f2 : AH} (hd : decode (mB y) pc = .ok (i, len)) (hs : istep xs y pc len i L st μ f = if b then some (.inl (p1, (L1, (st1, (μ1, f1))))) else some (.inl (p2, (L2, (st2, (μ2, f2)))))) : Wp xs y pc L st μ f Q = if b then Wp xs y p1 L1 st1 μ1 f1 Q else Wp xs y p2 L2 st2 μ2 f2 Q := by
  rw [R_S hd, hs]
  split <;> rfl
theorem R_ov {o : Option AV} {pc' : Nat} {L' st' : List AV} (hd : decode (mB y) pc = .ok (i, len)) (hs : istep xs y pc len i L st μ f = ov o pc' L' st' μ f) : Wp xs y pc L st μ f Q = WpV xs o y pc' L' st' μ f Q := by
  rw [R_S hd, hs]; cases o <;> rfl
theorem R_oh {o : Option AH} {pc' : Nat} {L' st' : List AV} (hd : decode (mB y) pc = .ok (i, len)) (hs : istep xs y pc len i L st μ f = oh o pc' L' st' μ) : Wp xs y pc L st μ f Q = WpH xs o y pc' L' st' μ Q := by
  rw [R_S hd, hs]; cases o <;> rfl
theorem R_dn {o : Out} {μ' : Mu} {f' : AH} (hd : decode (mB y) pc = .ok (i, len)) (hs : istep xs y pc len i L st μ f = some (.inr (.inl (o, (μ', f'))))) : Wp xs y pc L st μ f Q = Q o μ' f' := by
  rw [R_S hd, hs]; rfl
theorem R_cs {y' pc' : Nat} {as L' st' : List AV} (hd : decode (mB y) pc = .ok (i, len)) (hs : istep xs y pc len i L st μ f = some (.inr (.inr (y', (as, (pc', (L', st'))))))) : Wp xs y pc L st μ f Q = WpC xs y' as y pc' L' st' μ f Q := by
  rw [R_S hd, hs]; rfl
theorem R_iv {ok : Bool} {a y' pc' : Nat} {as L' st' : List AV} (hd : decode (mB y) pc = .ok (i, len)) (hs : istep xs y pc len i L st μ f = if ok = true ∧ a ≠ 0 then some (.inr (.inr (y', (as, (pc', (L', st')))))) else none) : Wp xs y pc L st μ f Q = WpI xs ok a y' as y pc' L' st' μ f Q := by
  rw [R_S hd, hs]
  unfold WpI
  split <;> rfl
theorem R_s1 {k pc' : Nat} {v : AV} {st' : List AV} (hd : decode (mB y) pc = .ok (i, len)) (hs : istep xs y pc len i L st μ f = ol (stI L k v) pc' st' μ f) (hk : k < L.length) (hc : k = 0 ∨ cat2 (L.getD (k - 1) vu) = false) : Wp xs y pc L st μ f Q = Wp xs y pc' (L.set k v) st' μ f Q := by
  rw [R_S hd, hs]
  unfold stI
  rw [if_pos ⟨hk, hc⟩]
  rfl
theorem R_s2 {k pc' : Nat} {v : AV} {st' : List AV} (hd : decode (mB y) pc = .ok (i, len)) (hs : istep xs y pc len i L st μ f = ol (stL L k v) pc' st' μ f) (hk : k + 1 < L.length) (hc : k = 0 ∨ cat2 (L.getD (k - 1) vu) = false) : Wp xs y pc L st μ f Q = Wp xs y pc' ((L.set k v).set (k + 1) vu) st' μ f Q := by
  rw [R_S hd, hs]
  unfold stL
  rw [if_pos ⟨hk, hc⟩]
  rfl
theorem R_ic {n : Int} (hd : decode (mB y) pc = .ok (.iconst n, 1)) (h1 : -2147483648 ≤ n) (h2 : n < 2147483648) : Wp xs y pc L st μ f Q = Wp xs y (pc + 1) L (vi n :: st) μ f Q := by
  have h : Wp xs y pc L st μ f Q = Wp xs y (pc + 1) L (vi (wrp n) :: st) μ f Q := R_nx hd rfl
  rw [wrp_id h1 h2] at h
  exact h
theorem bi_eq : ∀ n : Int, -128 ≤ n → n < 128 → (Int8.ofInt n).toInt32.toInt = n := by
  intro n h1 h2
  rw [Int8.toInt_toInt32, Int8.toInt_ofInt_of_le (by omega) (by omega)]
theorem si_eq : ∀ n : Int, -32768 ≤ n → n < 32768 → (Int16.ofInt n).toInt32.toInt = n := by
  intro n h1 h2
  rw [Int16.toInt_toInt32, Int16.toInt_ofInt_of_le (by omega) (by omega)]
theorem R_bi {n : Int} (hd : decode (mB y) pc = .ok (.bipush n, 2)) (h1 : -128 ≤ n) (h2 : n < 128) : Wp xs y pc L st μ f Q = Wp xs y (pc + 2) L (vi n :: st) μ f Q := by
  have h : Wp xs y pc L st μ f Q = Wp xs y (pc + 2) L (vi ((Int8.ofInt n).toInt32.toInt) :: st) μ f Q := R_nx hd rfl
  rw [bi_eq n h1 h2] at h
  exact h
theorem R_si {n : Int} (hd : decode (mB y) pc = .ok (.sipush n, 3)) (h1 : -32768 ≤ n) (h2 : n < 32768) : Wp xs y pc L st μ f Q = Wp xs y (pc + 3) L (vi n :: st) μ f Q := by
  have h : Wp xs y pc L st μ f Q = Wp xs y (pc + 3) L (vi ((Int16.ofInt n).toInt32.toInt) :: st) μ f Q := R_nx hd rfl
  rw [si_eq n h1 h2] at h
  exact h
theorem R_idiv {x z : Int} {st' : List AV} (hd : decode (mB y) pc = .ok (.idiv, 1)) (h : z ≠ 0) : Wp xs y pc L (vi z :: vi x :: st') μ f Q = Wp xs y (pc + 1) L (vi (iDiv x z) :: st') μ f Q := by
  refine R_nx hd ?_
  show ii2 (fun x y => if y = 0 then none else some ((i32 x / i32 y).toInt)) (pc + 1) L (vi z :: vi x :: st') μ f = _
  unfold ii2
  dsimp only
  rw [if_neg h]; rfl
theorem R_irem {x z : Int} {st' : List AV} (hd : decode (mB y) pc = .ok (.irem, 1)) (h : z ≠ 0) : Wp xs y pc L (vi z :: vi x :: st') μ f Q = Wp xs y (pc + 1) L (vi (iRem x z) :: st') μ f Q := by
  refine R_nx hd ?_
  show ii2 (fun x y => if y = 0 then none else some ((i32 x - i32 x / i32 y * i32 y).toInt)) (pc + 1) L (vi z :: vi x :: st') μ f = _
  unfold ii2
  dsimp only
  rw [if_neg h]; rfl
theorem R_dmul {x z : UInt64} {st' : List AV} (hd : decode (mB y) pc = .ok (.dmul, 1)) (h : nn64 (FP.dmul x z) = true) : Wp xs y pc L (vd z :: vd x :: st') μ f Q = Wp xs y (pc + 1) L (vd (FP.dmul x z) :: st') μ f Q := by
  refine R_nx hd ?_
  show dd2 FP.dmul (pc + 1) L (vd z :: vd x :: st') μ f = _
  unfold dd2
  dsimp only
  rw [if_pos h]; rfl
theorem R_ddiv {x z : UInt64} {st' : List AV} (hd : decode (mB y) pc = .ok (.ddiv, 1)) (h : nn64 (FP.ddiv x z) = true) : Wp xs y pc L (vd z :: vd x :: st') μ f Q = Wp xs y (pc + 1) L (vd (FP.ddiv x z) :: st') μ f Q := by
  refine R_nx hd ?_
  show dd2 FP.ddiv (pc + 1) L (vd z :: vd x :: st') μ f = _
  unfold dd2
  dsimp only
  rw [if_pos h]; rfl
theorem R_dsub {x z : UInt64} {st' : List AV} (hd : decode (mB y) pc = .ok (.dsub, 1)) (h : nn64 (FP.dsub x z) = true) : Wp xs y pc L (vd z :: vd x :: st') μ f Q = Wp xs y (pc + 1) L (vd (FP.dsub x z) :: st') μ f Q := by
  refine R_nx hd ?_
  show dd2 FP.dsub (pc + 1) L (vd z :: vd x :: st') μ f = _
  unfold dd2
  dsimp only
  rw [if_pos h]; rfl
theorem R_dr {x : UInt64} (hd : decode (mB y) pc = .ok (.dreturn, 1)) (hr : mR y = some .double) (h : nn64 x = true) : Wp xs y pc L [vd x] μ f Q = Q (.inl (some (vd x))) μ f := by
  refine R_dn hd ?_
  exact if_pos ⟨hr, h⟩
theorem R_al {a : Nat} {st' : List AV} (hd : decode (mB y) pc = .ok (.arraylength, 1)) : Wp xs y pc L (vr a :: st') μ f Q = WpV xs (aN xs y f a) y (pc + 1) L st' μ f Q := by
  rw [R_S hd]
  show WpS xs y (if a = 0 then (if scr y = true then nx (pc + 1) L (vi xs.length :: st') μ f else none) else (match an f a with
      | some n => nx (pc + 1) L (vi n :: st') μ f
      | none => none)) μ f Q = _
  unfold aN
  by_cases ha : a = 0
  · rw [if_pos ha, if_pos ha]
    by_cases hy : scr y = true
    · rw [if_pos hy, if_pos hy]; rfl
    · rw [if_neg hy, if_neg hy]; rfl
  · rw [if_neg ha, if_neg ha]
    cases an f a <;> rfl
theorem R_ni {n : Int} {st' : List AV} (hd : decode (mB y) pc = .ok (.newarray .int, 2)) (h0 : 0 ≤ n) (h1 : n ≤ 100000) : Wp xs y pc L (vi n :: st') μ f Q = Wp xs y (pc + 2) L (vr (μ.1 + 1) :: st') (μ.1 + 1, (μ.2.1 + 1, μ.2.2 + n.toNat)) (aup f (μ.1 + 1) (iC (List.replicate n.toNat 0))) Q := R_nx hd (if_pos ⟨h0, h1⟩)
end RR
end
