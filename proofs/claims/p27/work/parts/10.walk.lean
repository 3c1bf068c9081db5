/-! ===== BEGIN a constructor that throws (launches without stack traces) ===== -/
section VXIA
variable {p : Program} {l : Launch} {e : Env} {R : Room} {s : State} {m : MethodId} {args : Array Value} {below : List Frame} {meth : Method} {c : Code} {T : State} {locs : List Loc} {cells slots : Nat}
theorem vx_callI (X : Stand p l e R s m args below meth c T locs cells slots) (hexec : p.tables.exec = Jvm.exec) {own : String} {index : Nat} {y : MethodName} {bytes : ByteArray} {maxL : Nat}
    (hown : s.vm.findClass own = some m.cls) (hy1 : y.name = "<init>") (hlink : (Cond.methodLink own index y).before args s = true) (hinst : (Cond.instanceMethod y).before args s = true)
    (hcode : (Cond.code y bytes maxL none).before args s = true) (hy : y.cls ≠ "java/lang/invoke/MethodHandle" ∧ y.cls ≠ "java/lang/invoke/VarHandle")
    {W9 : Nat} {Pre : Pt → Array Value → Prop} {Post : Pt → Array Value → Option Value → Pt → Prop} {PostX : Pt → Array Value → Addr → Pt → Prop} (hK : vx_Back l R p e below s args y 3 W9 Pre Post PostX)
    {g : JFrame} (hg : g.method = m) (hsize : g.locals.size = c.maxLocals) {a : Addr} {argsL rest : List Value} (hlen : ∀ sig, parseMethodDescriptor y.desc = some sig → argsL.length = sig.parameters.length)
    (hstack : g.stack = argsL.reverse ++ .ref a :: rest) (hW : 2 * g.monitorRoom + (rest.map fun v => v.category).sum ≤ W9) (hdg : decode c.code g.pc = .ok (.invokespecial index, 3))
    (hpre : ∀ vm₁, s.WarmedH vm₁ → Pre ⟨T.setVm vm₁, locs, cells, slots⟩ (Value.ref a :: argsL).toArray) :
    (∃ (v : Option Value) (vm₁ : Vm) (B : Pt), s.WarmedH vm₁ ∧ Stand p l e R s m args below meth c B.U B.locs B.cells B.slots ∧ Post ⟨T.setVm vm₁, locs, cells, slots⟩ (Value.ref a :: argsL).toArray v B ∧
      ∀ target, Steps p.tables e below (B.U.setTop { g with pc := g.pc + 3, stack := v.toList ++ rest }) target → Steps p.tables e below (T.setTop g) target) ∨
    (∃ (q : Addr) (vm₁ : Vm) (B : Pt), s.WarmedH vm₁ ∧ Stand p l e R s m args below meth c B.U B.locs B.cells B.slots ∧ PostX ⟨T.setVm vm₁, locs, cells, slots⟩ (Value.ref a :: argsL).toArray q B ∧
      Steps p.tables e below (T.setTop g) ((B.U.setTop { g with stack := rest }).pushFrame (.throwing q))) := by
  subst hg
  have hpl : e.platform.magicAccessors = ({} : Platform).magicAccessors := by rw [X.admits.platform]
  obtain ⟨mk, methM, cM, kP, vm₁, hnamed, hmethM, hcodeM, -, hlocalsM, -, hkP, -, hW₁, hstep₁⟩ := Steps.initColdArgs (e := e) X.here hexec X.warmed hpl hown hy1 hy hlink hinst hcode (f := g) rfl hlen hstack hdg
  have X₁ := X.noted hW₁
  rcases hK g.method meth c ⟨T.setVm vm₁, locs, cells, slots⟩ { g with stack := rest } (.invokespecial index) mk (Value.ref a :: argsL).toArray X₁ rfl hsize hdg hW (X₁.named hnamed) (hpre vm₁ X₁.warmed) with ⟨v, B, X', hpost, hsteps⟩ | ⟨q, B, X', hpost, hsteps⟩
  · exact Or.inl ⟨v, vm₁, B, X₁.warmed, X', hpost, fun target h => hstep₁ _ fun acts => by rw [doInvoke_state]; exact hsteps.trans h⟩
  · exact Or.inr ⟨q, vm₁, B, X₁.warmed, X', hpost, hstep₁ _ fun acts => by rw [doInvoke_state]; exact hsteps⟩
end VXIA
section VXIB
variable {p : Program} {l : Launch} {e : Env} {R : Room} {s : State} {m : MethodId} {args : Array Value} {below : List Frame} {meth : Method} {c : Code} {H : Heap} {locs : List Loc} {cells slots : Nat}
variable {y : MethodName} {bytes cc : ByteArray} {maxL nL mc ms n index : Nat} {ret : Option FieldType} {ws : List Cond} {rm : Room} {Pc : Array Value → State → Prop} {Qc : Array Value → State → Outcome → State → Prop} {XC : String → State → State → Prop} {free : Addr → Prop} {Ts : List Cond} {own C : String} {b : Addr} {As rest : List Value} {g : JFrame}
theorem vx_runI (S : CallFix p m c cc nL s args Ts own) (hM : vx_Met l y ws rm Pc Qc XC mc ms free) (cw : CallB R s args own index y bytes maxL none ws rm mc ms n ∧ y.name = "<init>" ∧ (Cond.instanceMethod y).before args s = true) (hp : PreS s H Pc (.ref b :: As))
    (hg : g.method = m) (hn : As.length = n) (hsize : g.locals.size = nL) (hstack : g.stack = As.reverse ++ .ref b :: rest) (hW : 2 * g.monitorRoom + (rest.map fun v => v.category).sum ≤ 8) (hdg : decode cc g.pc = .ok (.invokespecial index, 3)) (hf : cells + mc ≤ R.cells ∧ slots + ms ≤ R.slots) :
    vx_Run p l e R s m args below meth c H locs cells slots mc ms g rest (Qc (Value.ref b :: As).toArray) XC free := by
  have hK : vx_Back l R p e below s args y 3 8 (PreOf R mc ms Pc) (PostOf Qc mc ms free) (vx_Post XC mc ms free) := vx_callBack cw.1 hM hp.1
  obtain ⟨⟨-, -, -, -, -, -, hcode, -, hy, hlen, hl⟩, hy1, hin⟩ := cw
  obtain ⟨hx, hb, hml, ho, -⟩ := S
  have hPc := hp.2
  intro T hT X
  rcases vx_callI X hx (bytes := bytes) (maxL := maxL) ho hy1 hl hin hcode hy hK hg (hsize.trans hml.symm) (a := b) (argsL := As) (rest := rest) (fun sig h => hn.trans (hlen sig h)) hstack hW (by rw [hb]; exact hdg)
    (fun vm₁ hW₁ => ⟨hf.1, hf.2, hPc (T.setVm vm₁) hT hW₁⟩) with ⟨v, vm₁, ⟨U', l2, c2, s2⟩, hW₁, X', ⟨g', mk, t, L, e1, e2, hq, h1, hL, h2, h3⟩, st⟩ | ⟨q, vm₁, ⟨U', l2, c2, s2⟩, hW₁, X', ⟨g', mk, t, L, E, ce, e1, e2, hq, hce, hcv, hcl, h1, hL, h2, h3⟩, st⟩
  · dsimp only [Pt.U, Pt.locs, Pt.cells, Pt.slots] at X' e1 e2 h1 h2 h3 st
    subst h1; subst h2; subst h3
    exact Or.inl ⟨v, (T.setVm vm₁).calling g' mk (Value.ref b :: As).toArray, t, U', L, hT, X', hL, e1, e2, hq, st⟩
  · dsimp only [Pt.U, Pt.locs, Pt.cells, Pt.slots] at X' e1 e2 h1 h2 h3 st hcl
    subst h1; subst h2; subst h3
    exact Or.inr ⟨q, (T.setVm vm₁).calling g' mk (Value.ref b :: As).toArray, t, U', L, E, ce, hT, X', hL, e1, e2, hq, hce, hcv, vx_cls hW₁ hcl, st⟩
end VXIB
/-! ===== END ===== -/
/-! ===== BEGIN a private constructor of a nest mate that throws ===== -/
section VXIC
variable {p : Program} {l : Launch} {e : Env} {R : Room} {s : State} {m : MethodId} {args : Array Value} {below : List Frame} {meth : Method} {c : Code} {T : State} {locs : List Loc} {cells slots : Nat}
theorem vx_callIN (X : Stand p l e R s m args below meth c T locs cells slots) (hexec : p.tables.exec = Jvm.exec) {own : String} {index : Nat} {host : String} {y : MethodName} {bytes : ByteArray} {maxL : Nat}
    (hown : s.vm.findClass own = some m.cls) (hy1 : y.name = "<init>") (hlink : (Cond.methodLinkNest own index y host).before args s = true) (hinst : (Cond.instanceMethod y).before args s = true)
    (hcode : (Cond.code y bytes maxL none).before args s = true) (hy : y.cls ≠ "java/lang/invoke/MethodHandle" ∧ y.cls ≠ "java/lang/invoke/VarHandle")
    {W9 : Nat} {Pre : Pt → Array Value → Prop} {Post : Pt → Array Value → Option Value → Pt → Prop} {PostX : Pt → Array Value → Addr → Pt → Prop} (hK : vx_Back l R p e below s args y 3 W9 Pre Post PostX)
    {g : JFrame} (hg : g.method = m) (hsize : g.locals.size = c.maxLocals) {a : Addr} {argsL rest : List Value} (hlen : ∀ sig, parseMethodDescriptor y.desc = some sig → argsL.length = sig.parameters.length)
    (hstack : g.stack = argsL.reverse ++ .ref a :: rest) (hW : 2 * g.monitorRoom + (rest.map fun v => v.category).sum ≤ W9) (hdg : decode c.code g.pc = .ok (.invokespecial index, 3))
    (hpre : ∀ vm₁, s.WarmedH vm₁ → Pre ⟨T.setVm vm₁, locs, cells, slots⟩ (Value.ref a :: argsL).toArray) :
    (∃ (v : Option Value) (vm₁ : Vm) (B : Pt), s.WarmedH vm₁ ∧ Stand p l e R s m args below meth c B.U B.locs B.cells B.slots ∧ Post ⟨T.setVm vm₁, locs, cells, slots⟩ (Value.ref a :: argsL).toArray v B ∧
      ∀ target, Steps p.tables e below (B.U.setTop { g with pc := g.pc + 3, stack := v.toList ++ rest }) target → Steps p.tables e below (T.setTop g) target) ∨
    (∃ (q : Addr) (vm₁ : Vm) (B : Pt), s.WarmedH vm₁ ∧ Stand p l e R s m args below meth c B.U B.locs B.cells B.slots ∧ PostX ⟨T.setVm vm₁, locs, cells, slots⟩ (Value.ref a :: argsL).toArray q B ∧
      Steps p.tables e below (T.setTop g) ((B.U.setTop { g with stack := rest }).pushFrame (.throwing q))) := by
  subst hg
  have hpl : e.platform.magicAccessors = ({} : Platform).magicAccessors := by rw [X.admits.platform]
  obtain ⟨mk, methM, cM, kP, vm₁, hnamed, hmethM, hcodeM, -, hlocalsM, -, hkP, -, hW₁, hstep₁⟩ := Steps.initColdArgsNest (e := e) X.here hexec X.warmed hpl hown hy1 hy hlink hinst hcode (f := g) rfl hlen hstack hdg
  have X₁ := X.noted hW₁
  rcases hK g.method meth c ⟨T.setVm vm₁, locs, cells, slots⟩ { g with stack := rest } (.invokespecial index) mk (Value.ref a :: argsL).toArray X₁ rfl hsize hdg hW (X₁.named hnamed) (hpre vm₁ X₁.warmed) with ⟨v, B, X', hpost, hsteps⟩ | ⟨q, B, X', hpost, hsteps⟩
  · exact Or.inl ⟨v, vm₁, B, X₁.warmed, X', hpost, fun target h => hstep₁ _ fun acts => by rw [doInvoke_state]; exact hsteps.trans h⟩
  · exact Or.inr ⟨q, vm₁, B, X₁.warmed, X', hpost, hstep₁ _ fun acts => by rw [doInvoke_state]; exact hsteps⟩
end VXIC
section VXID
variable {p : Program} {l : Launch} {e : Env} {R : Room} {s : State} {m : MethodId} {args : Array Value} {below : List Frame} {meth : Method} {c : Code} {H : Heap} {locs : List Loc} {cells slots : Nat}
theorem vx_runIN {y : MethodName} {bytes cc : ByteArray} {maxL nL mc ms n index : Nat} {ws : List Cond} {rm : Room} {Pc : Array Value → State → Prop} {Qc : Array Value → State → Outcome → State → Prop} {XC : String → State → State → Prop} {free : Addr → Prop} {Ts : List Cond} {own host : String} {b : Addr} {As rest : List Value} {g : JFrame}
    (S : CallFix p m c cc nL s args Ts own) (hM : vx_Met l y ws rm Pc Qc XC mc ms free) (cw : va_CN R s args own index y host bytes maxL none ws rm mc ms n ∧ y.name = "<init>" ∧ (Cond.instanceMethod y).before args s = true) (hp : PreS s H Pc (.ref b :: As))
    (hg : g.method = m) (hn : As.length = n) (hsize : g.locals.size = nL) (hstack : g.stack = As.reverse ++ .ref b :: rest) (hW : 2 * g.monitorRoom + (rest.map fun v => v.category).sum ≤ 8) (hdg : decode cc g.pc = .ok (.invokespecial index, 3)) (hf : cells + mc ≤ R.cells ∧ slots + ms ≤ R.slots) :
    vx_Run p l e R s m args below meth c H locs cells slots mc ms g rest (Qc (Value.ref b :: As).toArray) XC free := by
  obtain ⟨⟨⟨hrc, hrs, hfr, hlo, hws, hcw⟩, hcode, hini, hy, hlen, hl⟩, hx1, hx2⟩ := cw
  have hK : vx_Back l R p e below s args y 3 8 (PreOf R mc ms Pc) (PostOf Qc mc ms free) (vx_Post XC mc ms free) := vx_back (bytes := bytes) (maxL := maxL) (ret := none) hM hp.1 hrc hrs hfr hlo hws hcw (fun a' U hW => word_at hW (Or.inl (by first | rfl | simp [Cond.onTables, Cond.keeps, Cond.steady])) hini)
  obtain ⟨hx, hb, hml, ho, -⟩ := S
  have hPc := hp.2
  intro T hT X
  rcases vx_callIN X hx (bytes := bytes) (maxL := maxL) ho hx1 hl hx2 hcode hy hK hg (hsize.trans hml.symm) (a := b) (argsL := As) (rest := rest) (fun sig h => hn.trans (hlen sig h)) hstack hW (by rw [hb]; exact hdg)
    (fun vm₁ hW₁ => ⟨hf.1, hf.2, hPc (T.setVm vm₁) hT hW₁⟩) with ⟨v, vm₁, ⟨U', l2, c2, s2⟩, hW₁, X', ⟨g', mk, t, L, e1, e2, hq, h1, hL, h2, h3⟩, st⟩ | ⟨q, vm₁, ⟨U', l2, c2, s2⟩, hW₁, X', ⟨g', mk, t, L, E, ce, e1, e2, hq, hce, hcv, hcl, h1, hL, h2, h3⟩, st⟩
  · dsimp only [Pt.U, Pt.locs, Pt.cells, Pt.slots] at X' e1 e2 h1 h2 h3 st
    subst h1; subst h2; subst h3
    exact Or.inl ⟨v, (T.setVm vm₁).calling g' mk (Value.ref b :: As).toArray, t, U', L, hT, X', hL, e1, e2, hq, st⟩
  · dsimp only [Pt.U, Pt.locs, Pt.cells, Pt.slots] at X' e1 e2 h1 h2 h3 st hcl
    subst h1; subst h2; subst h3
    exact Or.inr ⟨q, (T.setVm vm₁).calling g' mk (Value.ref b :: As).toArray, t, U', L, E, ce, hT, X', hL, e1, e2, hq, hce, hcv, vx_cls hW₁ hcl, st⟩
end VXID
/-! ===== END ===== -/
/-! THE WALK: what exec says, the machine does -/
section WK
variable {p : Program} {l : Launch} {e : Env} {R : Room} {s : State} {m : MethodId} {args : Array Value} {below : List Frame} {meth : Method} {c : Code} {H : Heap} {locs : List Loc} {cells slots : Nat} {Q : State → Prop}
variable {xs : List Int} {y : Nat} {K : KI} {D : va_G} {A : Nat → Prop} {sa : Nat → Nat} {φ : Nat → Nat} {f : AH} {μ : Mu} {L st : List AV} {ls : Array Slot}
theorem GW.moved {s U : State} {A B : Nat → Prop} {H : Heap} {locs : List Loc} (h : GW s A sa) (hS : va_S A s.heap H locs) (hU : U.heap = H) (hW : s.WarmedH U.vm) (hAB : ∀ q, B q → A q) : GW U B sa := by
  obtain ⟨⟨a1, a2⟩, b, ⟨c, c2⟩, -, e, f1, f2⟩ := h
  refine ⟨⟨?_, ?_⟩, fun k hk => (b k hk).warm hW, ⟨fun E => (c E).warmC hW, fun n hn => (c2 n hn).warmD hW⟩, trivial, e.moved hW.alike, f1.warmM hW, f2.warmM hW⟩
  · rw [hU]; exact vx_Zq.moved hW.alike ((vx_Zq.kept a1 hS.2.1).narrow hAB)
  · rw [hU]; exact vx_Zq.moved hW.alike ((vx_Zq.kept a2 hS.2.1).narrow hAB)
theorem GW.call {U : State} {g : JFrame} {mk : MethodId} {a : Array Value} (h : GW U A sa) : GW (U.calling g mk a) A sa :=
  h.moved (U := U.calling g mk a) (locs := []) (H := U.heap) va_S.rf rfl (State.WarmedH.refl U) (fun _ q => q)
abbrev tysK (K : KI) : List (ClassId × FieldType) := [(K.1, .int), (K.2.1, .object RX1)]
def Bef (xs : List Int) (K : KI) (D : va_G) (φ : Nat → Nat) (f : AH) (n sz : Nat) (sa : Nat → Nat) (U : State) : Prop := U.heap.size = sz ∧ va_P D vwCl (wld K φ f n) U.heap ∧ va_K D vwCl (tysK K) U ∧ va_D (fun _ => True) (wld K φ f n) ∧ GW U (va_A (wld K φ f n) sz) sa ∧ SX xs 0 U (va_A (wld K φ f n) sz) φ
def Aft (K : KI) (D : va_G) (φ : Nat → Nat) (n : Nat) (f' : AH) (n' : Nat) (A : Nat → Prop) (st t : State) (ψ : Nat → Nat) : Prop := ext n φ ψ ∧ va_P D vwCl (wld K ψ f' n') t.heap ∧ va_D A (wld K ψ f' n') ∧ okH n' f' ∧ va_F A st t
theorem blind (As : List Value) (n sz : Nat) : FrameBlind (va_Pc As (Bef xs K D φ f n sz sa)) := by
  intro a U g mk h
  obtain ⟨h0, h1, h2, h3, h4, h5, h6⟩ := h
  exact ⟨h0, h1, h2, va_K.moved (u := U) (U := U.calling g mk a) (Vm.Alike.refl U.vm) h3, h4, h5.call, h6.1.moved (u := U) (U := U.calling g mk a) (Vm.Alike.refl U.vm), h6.2⟩
def CQ (K : KI) (D : va_G) (φ : Nat → Nat) (n : Nat) (o : Out) (f' : AH) (n' : Nat) (A : Nat → Prop) : Array Value → State → Outcome → State → Prop := fun _ st oc t =>
  ∃ (v : Option AV) (ψ : Nat → Nat), o = .inl v ∧ oc = .returned (v.map (cv ψ)) ∧ okS n' v.toList ∧ Aft K D φ n f' n' A st t ψ
def CE (K : KI) (D : va_G) (φ : Nat → Nat) (n : Nat) (o : Out) (f' : AH) (n' : Nat) (A : Nat → Prop) : String → State → State → Prop := fun E st t =>
  ∃ (E0 : Nat) (ψ : Nat → Nat), o = .inr E0 ∧ E = eN E0 ∧ Aft K D φ n f' n' A st t ψ
def Con (l : Launch) (xs : List Int) (k : Nat) : Prop := ∀ (y : Nat), 0 < y → y < 83 → ∀ (as : List AV) (μ : Mu) (f : AH) (o : Out) (μ' : Mu) (f' : AH), exec xs k y 0 (ini y as) [] μ f = some (o, (μ', f')) → okArg y as = true → okS μ.1 as → okH μ.1 f →
  ∀ (K : KI) (D : va_G) (φ : Nat → Nat) (sz : Nat) (sa : Nat → Nat), vx_Met l (mN y) (mW y) { frames := rF y, cells := μ'.2.1 - μ.2.1, slots := μ'.2.2 - μ.2.2, locals := rL y } (va_Pc (as.map (cv φ)) (Bef xs K D φ f μ.1 sz sa))
    (CQ K D φ μ.1 o f' μ'.1 (va_A (wld K φ f μ.1) sz)) (CE K D φ μ.1 o f' μ'.1 (va_A (wld K φ f μ.1) sz)) (μ'.2.1 - μ.2.1) (μ'.2.2 - μ.2.2) (va_A (wld K φ f μ.1) sz)
theorem mCode_in {y : Nat} (h0 : 0 < y) (h : y < 83) : mCode y ∈ lw_gd := by
  refine List.mem_filter.mpr ⟨List.mem_of_getElem? (mC_all y h h0), ?_⟩
  unfold mCode
  split <;> rfl
theorem mChk_at {y : Nat} (h0 : 0 < y) (h : y < 83) : plainName (mN y).cls = true ∧ (mN y).cls = cN (mO y) ∧ ((mN y).cls ≠ "java/lang/invoke/MethodHandle" ∧ (mN y).cls ≠ "java/lang/invoke/VarHandle") ∧ (parseMethodDescriptor (mN y).desc).map (fun d => d.parameters.length) = some (mA y) := by
  have h1 := List.all_eq_true.mp mChk_all (y - 1) (List.mem_range.mpr (by omega))
  rw [Nat.sub_add_cancel h0] at h1
  simp only [mChk, Bool.and_eq_true, decide_eq_true_eq, beq_iff_eq] at h1
  exact ⟨h1.1, h1.2.1, h1.2.2.1, h1.2.2.2⟩
theorem gd_good {w : Cond} (h : w ∈ lw_gd) : (w.onTables && w.keeps) = true ∨ ∃ ty, w = .arrayClass ty := good_of_word (List.mem_filter.mp h).2
theorem gd_in (ws : List Cond) (h : ∀ w ∈ ws, w ∈ lw_gd) : GoodIn lw_gd ws := fun w hw => ⟨h w hw, gd_good (h w hw)⟩
theorem mW_in {y : Nat} (h0 : 0 < y) (h : y < 83) : ∀ w ∈ mW y, w ∈ lw_gd := fun w hw => (List.mem_cons.mp hw).elim (fun e => e ▸ mCode_in h0 h) id
theorem vTab_in {o k y' : Nat} {q : Nat × (Nat × Nat)} (h : lk vTab o k = some (y', q)) : Cond.methodLink (cN o) k (mN y') ∈ lw_gd ∧ Cond.instanceMethod (mN y') ∈ lw_gd ∧ Cond.selects (cN (mO y')) (mN y') (mN y') ∈ lw_gd ∧ y' < 83 ∧ 0 < y' ∧ (mH y').isEmpty = true := by
  have h1 := List.all_eq_true.mp vTab_ok _ (lk_mem h)
  simp only [Bool.and_eq_true, Nat.blt_eq] at h1
  obtain ⟨a, b, c, d, e, f⟩ := h1
  exact ⟨inG_mem a, inG_mem b, inG_mem c, d, e, f⟩
theorem sTab_in {o k y' : Nat} {q : Nat × Nat} (h : lk sTab o k = some (y', q)) : Cond.methodLink (cN o) k (mN y') ∈ lw_gd ∧ Cond.static (mN y') ∈ lw_gd ∧ y' < 83 ∧ 0 < y' ∧ mO y' = o := by
  have h1 := List.all_eq_true.mp sTab_ok _ (lk_mem h)
  simp only [Bool.and_eq_true, Nat.blt_eq] at h1
  obtain ⟨a, b, c, d, e⟩ := h1
  exact ⟨inG_mem a, inG_mem b, c, d, Nat.eq_of_beq_eq_true e⟩
theorem pNest : (pTab.all fun e => Nat.beq e.2.2.2.1 0 || (Nat.beq e.1 3 && ((Nat.beq e.2.1 9 && Nat.beq e.2.2.1 11) || (Nat.beq e.2.1 29 && Nat.beq e.2.2.1 31)))) = true := by decide +kernel
theorem pTab_in {o k y' w : Nat} {q : Nat × Nat} (h : lk pTab o k = some (y', (w, q))) : ((w = 0 ∧ Cond.methodLink (cN o) k (mN y') ∈ lw_gd) ∨ (o = 3 ∧ ((k = 9 ∧ y' = 11) ∨ (k = 29 ∧ y' = 31)))) ∧ Cond.instanceMethod (mN y') ∈ lw_gd ∧ (mN y').name = "<init>" ∧ y' < 83 ∧ 0 < y' ∧ (mH y').isEmpty = true ∧ mR y' = none := by
  have h1 := List.all_eq_true.mp pTab_ok _ (lk_mem h)
  have h2 := List.all_eq_true.mp pNest _ (lk_mem h)
  simp only [Bool.and_eq_true, Nat.blt_eq, beq_iff_eq, decide_eq_true_eq] at h1
  simp only [Bool.or_eq_true, Bool.and_eq_true] at h2
  obtain ⟨a, b, c, d, e, f, g⟩ := h1
  refine ⟨?_, inG_mem b, c, d, e, f, g⟩
  rcases h2 with h2 | ⟨h2, h3⟩
  · left
    have e1 := Nat.eq_of_beq_eq_true h2
    subst e1
    rw [if_neg (by decide)] at a
    exact ⟨rfl, inG_mem a⟩
  · refine Or.inr ⟨Nat.eq_of_beq_eq_true h2, ?_⟩
    rcases h3 with ⟨h3, h4⟩ | ⟨h3, h4⟩
    · exact Or.inl ⟨Nat.eq_of_beq_eq_true h3, Nat.eq_of_beq_eq_true h4⟩
    · exact Or.inr ⟨Nat.eq_of_beq_eq_true h3, Nat.eq_of_beq_eq_true h4⟩
theorem mO_lt {y : Nat} (h0 : 0 < y) (h : y < 83) : mO y < 6 := by
  have h1 : ((List.range 83).all fun y => Nat.blt (mO y) 6) = true := by decide +kernel
  have h2 := List.all_eq_true.mp h1 y (List.mem_range.mpr h)
  simpa [Nat.blt_eq] using h2
theorem isO_inv {a k : Nat} (h : isO f a k = true) : ∃ fs, f a = some (oC k fs) := by
  unfold isO at h
  split at h
  · rename_i k2 fs hf
    have e := Nat.eq_of_beq_eq_true h
    subst e
    exact ⟨fs, hf⟩
  · cases h
/-- the premises of a call -/
theorem bef_at {n : Nat} (X : CX p s m args meth c y K D A sa) (hX : SX xs y s A φ) (hH : RH K D A s φ f n H locs) : ∀ U : State, U.heap = H → s.WarmedH U.vm → Bef xs K D φ f n H.size sa U := fun U hU hW =>
  ⟨by rw [hU], by rw [hU]; exact hH.1, va_K.moved hW.alike X.2.2.2.2.2.1, hH.2.1.weaken (fun _ _ _ _ => trivial),
    X.2.2.2.2.2.2.2.2.1.moved hH.2.2.1 hU hW (fun q hq => by
      rcases hq with ⟨k, e, hk⟩ | hq
      · exact hH.2.1.2 k _ hk
      · exact X.2.2.2.2.2.2.1 q (Nat.le_trans hH.2.2.1.1 hq)),
    by rw [hU]; exact (hX.1.kept (hH.2.2.1.2.1 _ hX.2.1 hX.2.2.1)).moved hW.alike, by rw [hU]; exact Nat.lt_of_lt_of_le hX.2.1 hH.2.2.1.1, fun hq => hX.2.2.1 (by
      rcases hq with ⟨k, e, hk⟩ | hq
      · exact hH.2.1.2 k _ hk
      · exact absurd (Nat.lt_of_lt_of_le hX.2.1 hH.2.2.1.1) (Nat.not_lt.mpr hq)), hX.2.2.2⟩
theorem rank_in {y y' : Nat} (h : okRank y y' = true) (hF : rF y ≤ R.frames) (hl : rL y ≤ R.locals) : rF y' + 1 ≤ R.frames ∧ 8 + (mL y' + 11) + rL y' ≤ R.locals := by
  unfold okRank at h
  simp only [Bool.and_eq_true] at h
  have h1 := Nat.le_of_ble_eq_true h.1
  have h2 := Nat.le_of_ble_eq_true h.2
  omega
theorem catS {r : List AV} (h : r.length ≤ 4) : 2 * (F0 m 0 ls []).monitorRoom + ((r.map (cv φ)).map fun v => v.category).sum ≤ 8 := by
  show 2 * 0 + _ ≤ 8
  have k : ∀ r : List AV, ((r.map (cv φ)).map fun v => v.category).sum ≤ 2 * r.length := by
    intro r
    induction r with
    | nil => exact Nat.le_refl _
    | cons v r ih =>
      have := cat_cv2 (φ := φ) (v := v)
      simp only [List.map_cons, List.sum_cons, List.length_cons]
      omega
  have := k r
  omega
theorem mCode_plain {y : Nat} (h : (mH y).isEmpty = true) : mCode y = .code (mN y) (mB y) (mL y) (mR y) := by unfold mCode; rw [if_pos h]
theorem mCode_hand {y : Nat} (h : (mH y).isEmpty = false) : mCode y = .codeWith (mN y) (mB y) (mL y) (mR y) (mH y) := by unfold mCode; rw [if_neg (by rw [h]; simp)]
theorem call_run {k pc y' pc1 : Nat} {i : Instr} {len : Nat} {as L1 r : List AV} {o : Out} {μ' : Mu} {f' : AH} (hC : Con l xs k) (X : CX p s m args meth c y K D A sa) (hX : SX xs y s A φ) (hL : LR φ μ.1 (mL y) L ls) (hS : okS μ.1 st) (hH : RH K D A s φ f μ.1 H locs) (hd : decode (mB y) pc = .ok (i, len))
    (h : istep xs y pc len i L st μ f = some (.inr (.inr (y', (as, (pc1, (L1, r))))))) (hx : exec xs k y' 0 (ini y' as) [] μ f = some (o, (μ', f'))) (hF : rF y ≤ R.frames) (hl : rL y ≤ R.locals) (hc : cells + (μ'.2.1 - μ.2.1) ≤ R.cells) (hs : slots + (μ'.2.2 - μ.2.2) ≤ R.slots) :
    vx_Run p l e R s m args below meth c H locs cells slots (μ'.2.1 - μ.2.1) (μ'.2.2 - μ.2.2) (F0 m pc ls (st.map (cv φ))) (r.map (cv φ)) (CQ K D φ μ.1 o f' μ'.1 (va_A (wld K φ f μ.1) H.size) (as.map (cv φ)).toArray) (CE K D φ μ.1 o f' μ'.1 (va_A (wld K φ f μ.1) H.size)) (va_A (wld K φ f μ.1) H.size) := by
  obtain ⟨rfl, rfl, rfl, rfl, hA, hrk, hr4, hk⟩ := istep_call h
  obtain ⟨k1, k2⟩ := rank_in hrk hF hl
  have hSa : okS μ.1 as := fun v hv => hS v (List.mem_append_left _ (List.mem_reverse.mpr hv))
  have fix : CallFix p m c (mB y) (mL y) s args lw_gd (cN (mO y)) := ⟨X.1, X.2.1, X.2.2.1, X.2.2.2.1, X.2.2.2.2.1⟩
  have hsz : (F0 m pc ls ((as.reverse ++ r).map (cv φ))).locals.size = mL y := hL.1.1
  rcases hk with ⟨kk, q, a, bs, rfl, ht, rfl, hn, ho⟩ | ⟨kk, q, rfl, ht, hn⟩ | ⟨kk, q, a, bs, rfl, ht, rfl, hn, ho⟩
  · obtain ⟨w1, w2, w3, w4, w5, w6⟩ := vTab_in ht
    obtain ⟨z1, z2, z3, z4⟩ := mChk_at w5 w4
    obtain ⟨fs, hf⟩ := isO_inv ho
    have hM := hC y' w5 w4 (vr a :: bs) μ f o μ' f' hx hA hSa hH.2.2.2 K D φ H.size sa
    have hok := hH.2.2.2.1 _ _ hf
    refine vx_runV (C := cN (mO y')) (b := φ a) (As := bs.map (cv φ)) fix hM (cwV (ws' := lw_gd) (mA y') fix.2.2.2.2 (gd_in _ fun w hw => ?_) (by show mCode y' :: lw_gd = _; rw [mCode_plain w6]) rfl rfl ⟨z2, z3.1, z3.2, z4⟩ ⟨k1, k2⟩) ⟨blind _ _ _, va_recv X.2.2.2.2.2.1 hH.1 (vwCl_at hok.2.2.1) (wld_get hH.2.2.2 hf), fun U hU hW => ⟨rfl, bef_at X hX hH U hU hW⟩⟩ rfl (by rw [List.length_map]; exact hn) hsz ?_ (catS (m := m) (ls := ls) hr4) hd ⟨hc, hs⟩
    · rcases List.mem_append.mp hw with hw | hw
      · simp only [List.mem_cons, List.not_mem_nil, or_false] at hw
        rcases hw with rfl | rfl | rfl | rfl
        · exact w1
        · exact w2
        · exact w3
        · exact ini_in (mO_lt w5 w4)
      · exact mW_in w5 w4 w hw
    · show ((vr a :: bs).reverse ++ r).map (cv φ) = _
      rw [List.reverse_cons, List.append_assoc, List.map_append, List.map_reverse]
      rfl
  · obtain ⟨w1, w2, w4, w5, w6⟩ := sTab_in ht
    obtain ⟨z1, z2, z3, z4⟩ := mChk_at w5 w4
    have hM := hC y' w5 w4 as μ f o μ' f' hx hA hSa hH.2.2.2 K D φ H.size sa
    have hst : (F0 m pc ls ((as.reverse ++ r).map (cv φ))).stack = (as.map (cv φ)).reverse ++ r.map (cv φ) := by
      show (as.reverse ++ r).map (cv φ) = _
      rw [List.map_append, List.map_reverse]
    rw [← w6] at w1 fix
    cases hE : (mH y').isEmpty with
    | true =>
      refine vx_runS (As := as.map (cv φ)) fix hM (cwS (ws' := lw_gd) (mA y') fix.2.2.2.2 (gd_in _ fun w hw => ?_) (by show mCode y' :: lw_gd = _; rw [mCode_plain hE]) rfl rfl ⟨z2, z3.1, z3.2, z4⟩ ⟨k1, k2⟩) ⟨blind _ _ _, fun U hU hW => ⟨rfl, bef_at X hX hH U hU hW⟩⟩ rfl (by rw [List.length_map]; exact hn) hsz hst (catS (m := m) (ls := ls) hr4) hd ⟨hc, hs⟩
      · rcases List.mem_append.mp hw with hw | hw
        · simp only [List.mem_cons, List.not_mem_nil, or_false] at hw
          rcases hw with rfl | rfl | rfl
          · exact w1
          · exact w2
          · exact ini_in (mO_lt w5 w4)
        · exact mW_in w5 w4 w hw
    | false =>
      refine vx_runSX (hh := mH y') (As := as.map (cv φ)) fix hM (vx_cwSW (ws' := lw_gd) (mA y') fix.2.2.2.2 (gd_in _ fun w hw => ?_) (by show mCode y' :: lw_gd = _; rw [mCode_hand hE]) rfl rfl ⟨z3.1, z3.2, z4⟩ ⟨k1, k2⟩) ⟨blind _ _ _, fun U hU hW => ⟨rfl, bef_at X hX hH U hU hW⟩⟩ rfl (by rw [List.length_map]; exact hn) hsz hst (catS (m := m) (ls := ls) hr4) hd ⟨hc, hs⟩
      · rcases List.mem_append.mp hw with hw | hw
        · simp only [List.mem_cons, List.not_mem_nil, or_false] at hw
          rcases hw with rfl | rfl | rfl
          · exact w1
          · exact w2
          · rw [z2]; exact ini_in (mO_lt w5 w4)
        · exact mW_in w5 w4 w hw
  · obtain ⟨qw, q⟩ := q
    obtain ⟨w1, w2, w3, w4, w5, w6, w7⟩ := pTab_in ht
    obtain ⟨z1, z2, z3, z4⟩ := mChk_at w5 w4
    have hM := hC y' w5 w4 (vr a :: bs) μ f o μ' f' hx hA hSa hH.2.2.2 K D φ H.size sa
    have hst : (F0 m pc ls (((vr a :: bs).reverse ++ r).map (cv φ))).stack = (bs.map (cv φ)).reverse ++ .ref (φ a) :: r.map (cv φ) := by
      show ((vr a :: bs).reverse ++ r).map (cv φ) = _
      rw [List.reverse_cons, List.append_assoc, List.map_append, List.map_reverse]
      rfl
    have hw : mW y' = Cond.code (mN y') (mB y') (mL y') none :: lw_gd := by show mCode y' :: lw_gd = _; rw [mCode_plain w6, w7]
    rcases w1 with ⟨-, w1⟩ | ⟨hO, w1⟩
    · exact vx_runI (b := φ a) (As := bs.map (cv φ)) fix hM (cwI (ws' := lw_gd) (mA y') fix.2.2.2.2 (gd_in _ (mW_in w5 w4)) hw rfl rfl (by rw [z2]; exact fix.2.2.2.2 _ (ini_in (mO_lt w5 w4))) (fix.2.2.2.2 _ w1) (fix.2.2.2.2 _ w2) w3 ⟨z3.1, z3.2, z4⟩ ⟨k1, k2⟩) ⟨blind _ _ _, fun U hU hW => ⟨rfl, bef_at X hX hH U hU hW⟩⟩ rfl (by rw [List.length_map]; exact hn) hsz hst (catS (m := m) (ls := ls) hr4) hd ⟨hc, hs⟩
    · have hlk : va_Nw (.methodLinkNest (cN (mO y)) kk (mN y') RX3) s := by
        rw [hO]
        rcases w1 with ⟨rfl, rfl⟩ | ⟨rfl, rfl⟩
        · exact X.2.2.2.2.2.2.2.2.1.2.2.2.2.2.1
        · exact X.2.2.2.2.2.2.2.2.1.2.2.2.2.2.2
      exact vx_runIN (b := φ a) (As := bs.map (cv φ)) fix hM ⟨va_cnB (ws' := lw_gd) (mA y') fix.2.2.2.2 (gd_in _ (mW_in w5 w4)) hw rfl rfl hlk (by rw [z2]; exact fix.2.2.2.2 _ (ini_in (mO_lt w5 w4))) ⟨z3.1, z3.2, z4⟩ ⟨k1, k2⟩, w3, fix.2.2.2.2 _ w2⟩ ⟨blind _ _ _, fun U hU hW => ⟨rfl, bef_at X hX hH U hU hW⟩⟩ rfl (by rw [List.length_map]; exact hn) hsz hst (catS (m := m) (ls := ls) hr4) hd ⟨hc, hs⟩
end WK
