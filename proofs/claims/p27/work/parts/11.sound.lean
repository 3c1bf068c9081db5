/-! SOUNDNESS: a run that exec tells is a walk of the machine; every method's contract -/
section SD
variable {p : Program} {l : Launch} {e : Env} {R : Room} {s : State} {m : MethodId} {args : Array Value} {below : List Frame} {meth : Method} {c : Code} {H : Heap} {locs : List Loc} {cells slots : Nat} {Q : State → Prop}
variable {xs : List Int} {y : Nat} {K : KI} {D : va_G} {A : Nat → Prop} {sa : Nat → Nat} {φ : Nat → Nat} {f : AH} {μ : Mu} {L st : List AV} {ls : Array Slot}
def FinR (p : Program) (l : Launch) (e : Env) (R : Room) (s : State) (m : MethodId) (args : Array Value) (below : List Frame) (meth : Method) (c : Code) (Q : State → Prop) (y : Nat) (K : KI) (D : va_G) (A : Nat → Prop) (φ : Nat → Nat) (n C S : Nat) (o : Out) (μ' : Mu) (f' : AH) : Prop :=
  ∀ (pc2 : Nat) (i : Instr) (v : Option AV) (ψ : Nat → Nat) (ls2 : Array Slot) (H2 : Heap) (locs2 : List Loc), o = .inl v → ext n φ ψ → RH K D A s ψ f' μ'.1 H2 locs2 → okS μ'.1 v.toList → decode (mB y) pc2 = .ok (i, 1) → retI y i v →
    W p l e R s m args below meth c H2 locs2 C S Q (F0 m pc2 ls2 (v.toList.map (cv ψ)))
def FinT (p : Program) (l : Launch) (e : Env) (R : Room) (s : State) (m : MethodId) (args : Array Value) (below : List Frame) (meth : Method) (c : Code) (Q : State → Prop) (y : Nat) (K : KI) (D : va_G) (A : Nat → Prop) (φ : Nat → Nat) (n C S : Nat) (o : Out) (μ' : Mu) (f' : AH) : Prop :=
  ∀ (pc2 E : Nat) (r : Nat × (Nat × (Nat × (Nat × Nat)))) (ψ : Nat → Nat) (ls2 : Array Slot) (H2 : Heap) (locs2 : List Loc) (c2 s2 : Nat), o = .inr E → ext n φ ψ → RH K D A s ψ f' μ'.1 H2 locs2 → ls2.size = mL y → lk xTab y pc2 = some (E, r) → 6 ≤ rF y → 100 ≤ rL y → c2 + 1 = C → s2 + 6 = S →
    W p l e R s m args below meth c H2 locs2 c2 s2 Q (F0 m pc2 ls2 [])
def FinP (p : Program) (l : Launch) (e : Env) (R : Room) (s : State) (m : MethodId) (args : Array Value) (below : List Frame) (meth : Method) (c : Code) (Q : State → Prop) (y : Nat) (K : KI) (D : va_G) (A : Nat → Prop) (φ : Nat → Nat) (n C S : Nat) (o : Out) (μ' : Mu) (f' : AH) : Prop :=
  ∀ (pc2 E q : Nat) (ce : Cell) (ψ : Nat → Nat) (ls2 : Array Slot) (rest : List Value) (H2 : Heap) (locs2 : List Loc), o = .inr E → (mH y).isEmpty = true → ext n φ ψ → RH K D A s ψ f' μ'.1 H2 locs2 → H2[q]? = some ce → ce.vm = .none → s.vm.findClass (eN E) = some ce.cls →
    vx_W p l e R s m args below meth c H2 locs2 C S Q (F0 m pc2 ls2 rest) q
theorem FinR.up {ψ : Nat → Nat} {n n' C S : Nat} {o : Out} {μ' : Mu} {f' : AH} (h : FinR p l e R s m args below meth c Q y K D A φ n C S o μ' f') (e1 : ext n φ ψ) (hn : n ≤ n') : FinR p l e R s m args below meth c Q y K D A ψ n' C S o μ' f' :=
  fun pc2 i v χ ls2 H2 locs2 h1 h2 => h pc2 i v χ ls2 H2 locs2 h1 (e1.tr h2 hn)
theorem FinT.up {ψ : Nat → Nat} {n n' C S : Nat} {o : Out} {μ' : Mu} {f' : AH} (h : FinT p l e R s m args below meth c Q y K D A φ n C S o μ' f') (e1 : ext n φ ψ) (hn : n ≤ n') : FinT p l e R s m args below meth c Q y K D A ψ n' C S o μ' f' :=
  fun pc2 E r χ ls2 H2 locs2 c2 s2 h1 h2 => h pc2 E r χ ls2 H2 locs2 c2 s2 h1 (e1.tr h2 hn)
theorem FinP.up {ψ : Nat → Nat} {n n' C S : Nat} {o : Out} {μ' : Mu} {f' : AH} (h : FinP p l e R s m args below meth c Q y K D A φ n C S o μ' f') (e1 : ext n φ ψ) (hn : n ≤ n') : FinP p l e R s m args below meth c Q y K D A ψ n' C S o μ' f' :=
  fun pc2 E q ce χ ls2 rest H2 locs2 h1 h0 h2 => h pc2 E q ce χ ls2 rest H2 locs2 h1 h0 (e1.tr h2 hn)
def Walk (l : Launch) (xs : List Int) (k : Nat) : Prop := ∀ (p : Program) (e : Env) (R : Room) (s : State) (m : MethodId) (args : Array Value) (below : List Frame) (meth : Method) (c : Code) (Q : State → Prop) (y : Nat) (K : KI) (D : va_G) (A : Nat → Prop) (sa : Nat → Nat),
  CX p s m args meth c y K D A sa → ((mH y).isEmpty = false → c.exceptionTable.toList = tableOf (mH y)) → rF y ≤ R.frames → rL y ≤ R.locals →
  ∀ (pc : Nat) (L st : List AV) (μ : Mu) (f : AH) (φ : Nat → Nat) (ls : Array Slot) (H : Heap) (locs : List Loc) (cells slots : Nat) (o : Out) (μ' : Mu) (f' : AH) (C S : Nat),
    SX xs y s A φ → LR φ μ.1 (mL y) L ls → okS μ.1 st → RH K D A s φ f μ.1 H locs → exec xs k y pc L st μ f = some (o, (μ', f')) → C = cells + (μ'.2.1 - μ.2.1) → S = slots + (μ'.2.2 - μ.2.2) → C ≤ R.cells → S ≤ R.slots →
    FinR p l e R s m args below meth c Q y K D A φ μ.1 C S o μ' f' → FinT p l e R s m args below meth c Q y K D A φ μ.1 C S o μ' f' → FinP p l e R s m args below meth c Q y K D A φ μ.1 C S o μ' f' →
    W p l e R s m args below meth c H locs cells slots Q (F0 m pc ls (st.map (cv φ)))
/-- the world behind a call, seen from the caller -/
theorem aft_RH {n n' : Nat} {f' : AH} {ψ : Nat → Nat} {st₀ t T' : State} {locs2 : List Loc} (X : CX p s m args meth c y K D A sa) (hH : RH K D A s φ f n H locs) (h0 : st₀.heap = H) (e1 : T'.heap = t.heap) (hL : ∀ q ∈ locs2, va_A (wld K φ f n) H.size q.base)
    (h : Aft K D φ n f' n' (va_A (wld K φ f n) H.size) st₀ t ψ) : RH K D A s ψ f' n' T'.heap (locs ++ locs2) := by
  obtain ⟨a1, a2, a3, a4, a5⟩ := h
  have hA : ∀ q, va_A (wld K φ f n) H.size q → A q := fun q hq => by
    rcases hq with ⟨k, e, hk⟩ | hq
    · exact hH.2.1.2 k _ hk
    · exact X.2.2.2.2.2.2.1 q (Nat.le_trans hH.2.2.1.1 hq)
  obtain ⟨k1, k2, k3⟩ := vx_keep (free := va_A (wld K φ f n) H.size) h0 e1 hH.2.2.1 (fun q _ hq => hA q hq) hA hL a5
  exact ⟨by rw [e1]; exact a2, a3.weaken (fun _ q _ hq => hA q.1 hq), k3, a4⟩
theorem walk_step (k : Nat) (hC : Con l xs k) (hW : Walk l xs k) : Walk l xs (k + 1) := by
  intro p e R s m args below meth c Q y K D A sa X ht hF hl pc L st μ f φ ls H locs cells slots o μ' f' C S hX hL hS hH hx eC eS hCc hSs fR fT fP
  rw [exec_one] at hx
  cases hs : Step1 xs y pc L st μ f with
  | none => rw [hs] at hx; cases hx
  | some q =>
    rw [hs] at hx
    obtain ⟨i, len, hd, hi⟩ : ∃ i len, decode (mB y) pc = .ok (i, len) ∧ istep xs y pc len i L st μ f = some q := by
      unfold Step1 at hs
      split at hs
      · cases hs
      · rename_i i len hd
        exact ⟨i, len, hd, hs⟩
    rcases q with ⟨pc1, L1, st1, μ1, f1⟩ | ⟨o1, μ1, f1⟩ | ⟨y1, as, pc1, L1, st1⟩
    · have hx : exec xs k y pc1 L1 st1 μ1 f1 = some (o, (μ', f')) := hx
      have m1 := istep_mu (xs := xs) (y := y) (f := f) (μ := μ) (L := L) (st := st) pc len i
      rw [hi] at m1
      have m1 : muLe μ μ1 := m1
      have m2 := exec_mu xs k _ _ _ _ _ _ _ _ _ hx
      obtain ⟨p1, p2, p3⟩ := m1
      obtain ⟨r1, r2, r3⟩ := m2
      refine sn_all i pc len L st μ f φ ls H locs cells slots pc1 L1 st1 μ1 f1 X hX hL hS hH hd hi (by omega) (by omega) hF hl (fun φ' ls' H' locs' e1 h1 h2 h3 h4 => ?_)
      exact hW p e R s m args below meth c Q y K D A sa X ht hF hl pc1 L1 st1 μ1 f1 φ' ls' H' locs' _ _ o μ' f' C S (hX.ext e1) h1 h2 h3 hx (by omega) (by omega) hCc hSs (fR.up e1 h4) (fT.up e1 h4) (fP.up e1 h4)
    · cases hx
      rcases istep_done hi with ⟨v, rfl, rfl, rfl, rfl, rfl, hr⟩ | ⟨kk, E, r, rfl, rfl, hxt, rfl, rfl, h6, h100, rfl, rfl⟩
      · rw [Nat.sub_self, Nat.add_zero] at eC eS
        subst eC; subst eS
        exact fR pc i v φ ls H locs rfl ext.rf hH hS hd hr
      · dsimp only at eC eS
        exact fT pc E r φ ls H locs cells slots rfl ext.rf hH hL.1.1 hxt h6 h100 (by omega) (by omega)
    · have hx : (match exec xs k y1 0 (ini y1 as) [] μ f with
        | none => none
        | some (.inl none, (μ', f')) => exec xs k y pc1 L1 st1 μ' f'
        | some (.inl (some v), (μ', f')) => exec xs k y pc1 L1 (v :: st1) μ' f'
        | some (.inr E, (μ', f')) => match lk hTab y E with
          | none => if (mH y).isEmpty then some (.inr E, (μ', f')) else none
          | some (_, (_, (h, (j, _)))) => if hcov y (pc1 - 3) = true then exec xs k y h (List.replicate (mL y) vu) [] μ' f' else none) = some (o, (μ', f')) := hx
      cases hc : exec xs k y1 0 (ini y1 as) [] μ f with
      | none => rw [hc] at hx; cases hx
      | some q =>
        rw [hc] at hx
        obtain ⟨o1, μ1, f1⟩ := q
        obtain ⟨p1, p2, p3⟩ := exec_mu xs k _ _ _ _ _ _ _ _ _ hc
        obtain ⟨z1, z2, z3, z4, -⟩ := istep_call hi
        have hbound : μ1.2.1 ≤ μ'.2.1 ∧ μ1.2.2 ≤ μ'.2.2 := by
          rcases o1 with (_ | v) | E
          · exact (exec_mu xs k _ _ _ _ _ _ _ _ _ hx).2
          · exact (exec_mu xs k _ _ _ _ _ _ _ _ _ hx).2
          · dsimp only at hx
            split at hx
            · obtain ⟨-, hx⟩ := ifs hx
              cases hx
              exact ⟨Nat.le_refl _, Nat.le_refl _⟩
            · obtain ⟨-, hx⟩ := ifs hx
              exact (exec_mu xs k _ _ _ _ _ _ _ _ _ hx).2
        obtain ⟨b1, b2⟩ := hbound
        have q1 : C = cells + (μ1.2.1 - μ.2.1) + (μ'.2.1 - μ1.2.1) := by omega
        have q2 : S = slots + (μ1.2.2 - μ.2.2) + (μ'.2.2 - μ1.2.2) := by omega
        have q3 : cells + (μ1.2.1 - μ.2.1) ≤ R.cells := by omega
        have q4 : slots + (μ1.2.2 - μ.2.2) ≤ R.slots := by omega
        have hrun := call_run (R := R) (e := e) (below := below) (cells := cells) (slots := slots) hC X hX hL hS hH hd hi hc hF hl q3 q4
        have hrS : okS μ.1 st1 := fun v hv => hS v (by rw [z4]; exact List.mem_append_right _ hv)
        intro T hT XT
        rcases hrun T hT XT with ⟨v, st₀, t, T', L9, h0, X', hLf, e1, e2, hQ, hst⟩ | ⟨q, st₀, t, T', L9, E, ce, h0, X', hLf, e1, e2, hE, hce, hcv, hcl, hst⟩
        · obtain ⟨w, ψ, rfl, hv, hw, haft⟩ := hQ
          have hv : v = w.map (cv ψ) := by injection hv
          subst hv
          have hR2 := aft_RH X hH h0 e1 hLf haft
          have hψ := haft.1
          have hLr := hL.ext hψ p1
          rw [← z3] at hLr
          have key : ∀ stk : List AV, (∀ v ∈ stk, okV μ1.1 v ∧ isU v = false) → stk.length ≤ stk.length → exec xs k y pc1 L1 stk μ1 f1 = some (o, (μ', f')) → ∃ t2, Steps p.tables e below (T'.setTop (F0 m pc1 ls (stk.map (cv ψ)))) t2 ∧ Q t2 := by
            intro stk hstk _ hx
            have hx2 := hW p e R s m args below meth c Q y K D A sa X ht hF hl pc1 L1 stk μ1 f1 ψ ls T'.heap (locs ++ L9) (cells + (μ1.2.1 - μ.2.1)) (slots + (μ1.2.2 - μ.2.2)) o μ' f' C S (hX.ext hψ) hLr hstk hR2 hx q1 q2 hCc hSs (fR.up hψ p1) (fT.up hψ p1) (fP.up hψ p1)
            exact hx2 T' rfl X'
          have hr2 : okS μ1.1 st1 := fun v hv => ⟨(hrS v hv).1.up p1, (hrS v hv).2⟩
          rcases w with _ | w
          · obtain ⟨t2, a1, b1⟩ := key st1 hr2 (Nat.le_refl _) hx
            rw [cvs_ext hψ hrS, z2] at a1
            exact ⟨t2, hst t2 a1, b1⟩
          · obtain ⟨t2, a1, b1⟩ := key (w :: st1) (hr2.cons (hw w (by simp)).1 (hw w (by simp)).2) (Nat.le_refl _) hx
            rw [List.map_cons, cvs_ext hψ hrS, z2] at a1
            exact ⟨t2, hst t2 a1, b1⟩
        · obtain ⟨E0, ψ, rfl, rfl, haft⟩ := hE
          have hR2 := aft_RH X hH h0 e1 hLf haft
          have hψ := haft.1
          rw [← e1] at hce
          have hx : (match lk hTab y E0 with
            | none => if (mH y).isEmpty then some (.inr E0, (μ1, f1)) else none
            | some (_, (_, (h, (j, _)))) => if hcov y (pc1 - 3) = true then exec xs k y h (List.replicate (mL y) vu) [] μ1 f1 else none) = some (o, (μ', f')) := hx
          have kx : vx_W p l e R s m args below meth c T'.heap (locs ++ L9) (cells + (μ1.2.1 - μ.2.1)) (slots + (μ1.2.2 - μ.2.2)) Q (F0 m pc ls (st1.map (cv φ))) q := by
            cases hk : lk hTab y E0 with
            | none =>
              rw [hk] at hx
              obtain ⟨hem, hx⟩ := ifs hx
              cases hx
              rw [← eC, ← eS]
              exact fP pc E0 q ce ψ ls _ T'.heap _ rfl hem hψ hR2 hce hcv hcl
            | some w =>
              rw [hk] at hx
              cases hk
          obtain ⟨t2, a1, b1⟩ := kx T' rfl X'
          exact ⟨t2, hst.trans a1, b1⟩
end SD
