/-! SOUNDNESS: a run that exec tells is a walk of the machine; every method's contract -/
section SD
variable {p : Program} {l : Launch} {e : Env} {R : Room} {s : State} {m : MethodId} {args : Array Value} {below : List Frame} {meth : Method} {c : Code} {H : Heap} {locs : List Loc} {cells slots : Nat} {Q : State → Prop}
variable {xs : List Int} {y : Nat} {K : KI} {D : va_G} {A : Nat → Prop} {sa : Nat → Nat} {φ : Nat → Nat} {f : AH} {μ : Mu} {L st : List AV} {ls : Array Slot}
def FinR (p : Program) (l : Launch) (e : Env) (R : Room) (s : State) (m : MethodId) (args : Array Value) (below : List Frame) (meth : Method) (c : Code) (Q : State → Prop) (y : Nat) (K : KI) (D : va_G) (A : Nat → Prop) (φ : Nat → Nat) (n C S : Nat) (o : Out) (μ' : Mu) (f' : AH) : Prop :=
  ∀ (pc2 : Nat) (i : Instr) (v : Option AV) (ψ : Nat → Nat) (ls2 : Array Slot) (H2 : Heap) (locs2 : List Loc), o = .inl v → ext n φ ψ → RH K D A s ψ f' μ'.1 H2 locs2 → okS μ'.1 v.toList → decode (mB y) pc2 = .ok (i, 1) → retI y i v →
    W p l e R s m args below meth c H2 locs2 C S Q (F0 m pc2 ls2 (v.toList.map (cv ψ)))
def FinT (p : Program) (l : Launch) (e : Env) (R : Room) (s : State) (m : MethodId) (args : Array Value) (below : List Frame) (meth : Method) (c : Code) (Q : State → Prop) (y : Nat) (K : KI) (D : va_G) (A : Nat → Prop) (φ : Nat → Nat) (n C S : Nat) (o : Out) (μ' : Mu) (f' : AH) : Prop :=
  ∀ (pc2 E : Nat) (r : Nat × (Nat × (Nat × (Nat × Nat)))) (ψ : Nat → Nat) (ls2 : Array Slot) (H2 : Heap) (locs2 : List Loc) (c2 s2 : Nat), o = .inr E → ext n φ ψ → RH K D A s ψ f' μ'.1 H2 locs2 → ls2.size = mL y → lk xTab y pc2 = some (E, r) → 6 ≤ rF y → 100 ≤ rL y → c2 + 1 = C → s2 + 6 = S →
    W p l e R s m args below meth c H2 locs2 c2 s2 Q (F0 m pc2 ls2 [])
def FinP (p : Program) (l : Launch) (e : Env) (R : Room) (s : State) (m : MethodId) (args : Array Value) (below : List Frame) (meth : Method) (c : Code) (Q : State → Prop) (y : Nat) (K : KI) (D : va_G) (A : Nat → Prop) (φ : Nat → Nat) (n C S : Nat) (o : Out) (μ' : Mu) (f' : AH) : Prop :=
  ∀ (pc2 E q : Nat) (ce : Cell) (ψ : Nat → Nat) (ls2 : Array Slot) (rest : List Value) (H2 : Heap) (locs2 : List Loc), o = .inr E → (mH y).isEmpty = true → ext n φ ψ → RH K D A s ψ f' μ'.1 H2 locs2 → H2[q]? = some ce → ce.vm = .none → s.vm.findClass (eN E) = some ce.cls →
    vx_W p l e R s m args below meth c H2 locs2 C S Q (F0 m pc2 ls2 rest) q
theorem FinR.up {ψ : Nat → Nat} {n n' C S : Nat} {o : Out} {μ' : Mu} {f' : AH} (h : FinR p l e R s m args below meth c Q y K D A φ n C S o μ' f') (e1 : ext n φ ψ) (hn : n ≤ n') : FinR p l e R s m args below meth c Q y K D A ψ n' C S o μ' f' :=
  fun pc2 i v χ ls2 H2 locs2 h1 h2 => h pc2 i v χ ls2 H2 locs2 h1 (e1.tr h2 hn)
theorem FinT.up {ψ : Nat → Nat} {n n' C S : Nat} {o : Out} {μ' : Mu} {f' : AH} (h : FinT p l e R s m args below meth c Q y K D A φ n C S o μ' f') (e1 : ext n φ ψ) (hn : n ≤ n') : FinT p l e R s m args below meth c Q y K D A ψ n' C S o μ' f' :=
  fun pc2 E r χ ls2 H2 locs2 c2 s2 h1 h2 => h pc2 E r χ ls2 H2 locs2 c2 s2 h1 (e1.tr h2 hn)
theorem FinP.up {ψ : Nat → Nat} {n n' C S : Nat} {o : Out} {μ' : Mu} {f' : AH} (h : FinP p l e R s m args below meth c Q y K D A φ n C S o μ' f') (e1 : ext n φ ψ) (hn : n ≤ n') : FinP p l e R s m args below meth c Q y K D A ψ n' C S o μ' f' :=
  fun pc2 E q ce χ ls2 rest H2 locs2 h1 h0 h2 => h pc2 E q ce χ ls2 rest H2 locs2 h1 h0 (e1.tr h2 hn)
def Walk (l : Launch) (xs : List Int) (k : Nat) : Prop := ∀ (p : Program) (e : Env) (R : Room) (s : State) (m : MethodId) (args : Array Value) (below : List Frame) (meth : Method) (c : Code) (Q : State → Prop) (y : Nat) (K : KI) (D : va_G) (A : Nat → Prop) (sa : Nat → Nat),
  CX p s m args meth c y K D A sa → ((mH y).isEmpty = false → c.exceptionTable.toList = tableOf (mH y)) → rF y ≤ R.frames → rL y ≤ R.locals →
  ∀ (pc : Nat) (L st : List AV) (μ : Mu) (f : AH) (φ : Nat → Nat) (ls : Array Slot) (H : Heap) (locs : List Loc) (cells slots : Nat) (o : Out) (μ' : Mu) (f' : AH) (C S : Nat),
    SX xs y s A φ → LR φ μ.1 (mL y) L ls → okS μ.1 st → RH K D A s φ f μ.1 H locs → exec xs k y pc L st μ f = some (o, (μ', f')) → C = cells + (μ'.2.1 - μ.2.1) → S = slots + (μ'.2.2 - μ.2.2) → C ≤ R.cells → S ≤ R.slots →
    FinR p l e R s m args below meth c Q y K D A φ μ.1 C S o μ' f' → FinT p l e R s m args below meth c Q y K D A φ μ.1 C S o μ' f' → FinP p l e R s m args below meth c Q y K D A φ μ.1 C S o μ' f' →
    W p l e R s m args below meth c H locs cells slots Q (F0 m pc ls (st.map (cv φ)))
/-- the world behind a call, seen from the caller -/
theorem aft_RH {n n' : Nat} {f' : AH} {ψ : Nat → Nat} {st₀ t T' : State} {locs2 : List Loc} (X : CX p s m args meth c y K D A sa) (hH : RH K D A s φ f n H locs) (h0 : st₀.heap = H) (e1 : T'.heap = t.heap) (hL : ∀ q ∈ locs2, va_A (wld K φ f n) H.size q.base)
    (h : Aft K D φ n f' n' (va_A (wld K φ f n) H.size) st₀ t ψ) : RH K D A s ψ f' n' T'.heap (locs ++ locs2) := by
  obtain ⟨a1, a2, a3, a4, a5⟩ := h
  have hA : ∀ q, va_A (wld K φ f n) H.size q → A q := fun q hq => by
    rcases hq with ⟨k, e, hk⟩ | hq
    · exact hH.2.1.2 k _ hk
    · exact X.2.2.2.2.2.2.1 q (Nat.le_trans hH.2.2.1.1 hq)
  obtain ⟨k1, k2, k3⟩ := vx_keep (free := va_A (wld K φ f n) H.size) h0 e1 hH.2.2.1 (fun q _ hq => hA q hq) hA hL a5
  exact ⟨by rw [e1]; exact a2, a3.weaken (fun _ q _ hq => hA q.1 hq), k3, a4⟩
def ctE (ct : Nat) : Option Nat := if ct = 13 then some 0 else if ct = 15 then some 1 else if ct = 21 then some 2 else none
def hChk (e : Nat × (Nat × (Nat × (Nat × (Nat × (Nat × Nat)))))) : Bool :=
  Nat.beq (mO e.1) 5 && (((mH e.1).take e.2.2.1).all (fun q => match ctE q.2.2.2 with | some E => !(Nat.beq E e.2.1) | none => false) &&
  ((match (mH e.1)[e.2.2.1]? with | some q => decide (ctE q.2.2.2 = some e.2.1) && Nat.beq q.2.2.1 e.2.2.2.1 | none => false) &&
  (Nat.blt e.2.2.2.2.2.1 (mL e.1) && (if e.2.2.2.2.2.2 = 0 then (match e.2.2.2.2.2.1 with
    | 0 => decide (decode (mB e.1) e.2.2.2.1 = .ok (.astore_n 0, 1))
    | 1 => decide (decode (mB e.1) e.2.2.2.1 = .ok (.astore_n 1, 1))
    | 2 => decide (decode (mB e.1) e.2.2.2.1 = .ok (.astore_n 2, 1))
    | 3 => decide (decode (mB e.1) e.2.2.2.1 = .ok (.astore_n 3, 1))
    | _ => false) && Nat.beq e.2.2.2.2.1 (e.2.2.2.1 + 1) else decide (decode (mB e.1) e.2.2.2.1 = .ok (.astore e.2.2.2.2.2.1, 2)) && Nat.beq e.2.2.2.2.1 (e.2.2.2.1 + 2)))))
theorem hTab_ok : hTab.all hChk = true := by decide +kernel
theorem lawLinks : Cond.classLink RL 13 (eN 0) ∈ lw_gd ∧ Cond.classLink RL 15 (eN 1) ∈ lw_gd ∧ Cond.classLink RL 21 (eN 2) ∈ lw_gd := by
  have h1 : inG 490 (.classLink RL 13 (eN 0)) = true := by decide +kernel
  have h2 : inG 491 (.classLink RL 15 (eN 1)) = true := by decide +kernel
  have h3 : inG 544 (.classLink RL 21 (eN 2)) = true := by decide +kernel
  exact ⟨inG_mem h1, inG_mem h2, inG_mem h3⟩
theorem ctE_link {ct E : Nat} (h : ctE ct = some E) : Cond.classLink RL ct (eN E) ∈ lw_gd ∧ ct ≠ 0 ∧ E < 3 := by
  unfold ctE at h
  split at h
  · rename_i e; subst e; cases h; exact ⟨lawLinks.1, by omega, by omega⟩
  · split at h
    · rename_i e; subst e; cases h; exact ⟨lawLinks.2.1, by omega, by omega⟩
    · split at h
      · rename_i e; subst e; cases h; exact ⟨lawLinks.2.2, by omega, by omega⟩
      · cases h
theorem GW.nc (h : GW s A sa) {E E' : Nat} (h1 : E < 3) (h2 : E' < 3) (hn : E ≠ E') : va_Nc (eN E) (eN E') s := by
  obtain ⟨-, -, -, ⟨d1, d2, d3, d4, d5, d6⟩, -⟩ := h
  match E, E', h1, h2, hn with
  | 0, 0, _, _, hn => exact absurd rfl hn
  | 0, 1, _, _, _ => exact d1
  | 0, 2, _, _, _ => exact d2
  | 1, 0, _, _, _ => exact d3
  | 1, 1, _, _, hn => exact absurd rfl hn
  | 1, 2, _, _, _ => exact d4
  | 2, 0, _, _, _ => exact d5
  | 2, 1, _, _, _ => exact d6
  | 2, 2, _, _, hn => exact absurd rfl hn
  | n + 3, _, h, _, _ => omega
  | _, n + 3, _, h, _ => omega
/-- a thrown thing that a helper of the law takes -/
theorem catch_at {pc E q j h0 h loc w : Nat} {ce : Cell} {H2 : Heap} {locs2 : List Loc} {C S : Nat} {rest : List Value} {φ2 : Nat → Nat} {n2 : Nat} (X : CX p s m args meth c y K D A sa) (ht : (mH y).isEmpty = false → c.exceptionTable.toList = tableOf (mH y)) (hk : lk hTab y E = some (j, (h0, (h, (loc, w))))) (hv : hcov y pc = true) (hl : lv_has ls (mL y) (lps φ L))
    (hcell : H2[q]? = some ce) (hcv : ce.vm = .none) (hcl : s.vm.findClass (eN E) = some ce.cls)
    (kk : ∀ ls' : Array Slot, LR φ2 n2 (mL y) (List.replicate (mL y) vu) ls' → W p l e R s m args below meth c H2 locs2 C S Q (F0 m h ls' [])) : vx_W p l e R s m args below meth c H2 locs2 C S Q (F0 m pc ls rest) q := by
  have h1 := List.all_eq_true.mp hTab_ok _ (lk_mem hk)
  unfold hChk at h1
  simp only [Bool.and_eq_true] at h1
  obtain ⟨a1, a2, a3, a4, a5⟩ := h1
  have a1 : mO y = 5 := Nat.eq_of_beq_eq_true a1
  have hown : s.vm.findClass RL = some m.cls := by have z := X.2.2.2.1; rw [a1] at z; exact z
  have a4 : loc < mL y := by simpa [Nat.blt_eq] using a4
  split at a3
  · rename_i x hx
    simp only [Bool.and_eq_true, decide_eq_true_eq] at a3
    obtain ⟨b1, b2⟩ := a3
    have b2 := Nat.eq_of_beq_eq_true b2
    obtain ⟨l1, l2, l3⟩ := ctE_link b1
    have hj : j < (mH y).length := (List.getElem?_eq_some_iff.mp hx).1
    have hx2 : (mH y)[j] = x := (List.getElem?_eq_some_iff.mp hx).2
    have hcovers : ∀ z ∈ mH y, covers ⟨z.1, z.2.1, z.2.2.1, z.2.2.2⟩ pc = true := fun z hz => by
      have q := List.all_eq_true.mp hv z hz
      simp only [Bool.and_eq_true, Nat.blt_eq] at q
      have q1 := Nat.le_of_ble_eq_true q.1
      simp only [covers, Bool.and_eq_true, decide_eq_true_eq]
      exact ⟨q1, q.2⟩
    have hsplit : c.exceptionTable.toList = ((mH y).take j).map (fun q => (⟨q.1, q.2.1, q.2.2.1, q.2.2.2⟩ : ExceptionTableEntry)) ++ ⟨x.1, x.2.1, x.2.2.1, x.2.2.2⟩ :: ((mH y).drop (j + 1)).map (fun q => (⟨q.1, q.2.1, q.2.2.1, q.2.2.2⟩ : ExceptionTableEntry)) := by
      rw [ht (by cases hq : mH y with | nil => rw [hq] at hj; exact absurd hj (Nat.not_lt_zero _) | cons a b => rfl)]
      unfold tableOf
      rw [← hx2, ← List.map_cons (f := fun q : Nat × Nat × Nat × Nat => (⟨q.1, q.2.1, q.2.2.1, q.2.2.2⟩ : ExceptionTableEntry)), ← List.map_append, List.getElem_cons_drop, List.take_append_drop]
    refine vx_catch (own := RL) (name := eN E) (E := eN E) hown _ _ _ hsplit (fun z hz => ?_) (hcovers x (List.mem_of_getElem? hx)) l2 (X.2.2.2.2.1 _ l1) ((X.2.2.2.2.2.2.2.2.1.2.2.1.1 E).use rfl) hcell hcv hcl ?_
    · obtain ⟨z0, hz0, rfl⟩ := List.mem_map.mp hz
      have q := List.all_eq_true.mp a2 z0 hz0
      split at q
      · rename_i E2 hE2
        obtain ⟨m1, m2, m3⟩ := ctE_link hE2
        right
        refine ⟨m2, eN E2, X.2.2.2.2.1 _ m1, X.2.2.2.2.2.2.2.2.1.nc l3 m3 fun e => ?_⟩
        subst e
        simp at q
      · cases q
    · have kl : ∀ ls' : Array Slot, lv_has ls' (mL y) ((loc, Value.ref q) :: ([] : List (Nat × Value)).filter (fun q => !(q.1 == loc) && !(q.1 + 1 == loc && q.2.category == 2))) → LR φ2 n2 (mL y) (List.replicate (mL y) vu) ls' := by
        intro ls' h
        refine ⟨lv_mono h fun z hz => ?_, List.length_replicate, fun v hv => by rw [List.eq_of_mem_replicate hv]; trivial⟩
        obtain ⟨i, w⟩ := z
        obtain ⟨v, v1, v2, -⟩ := lps_mem.mp hz
        have v3 := List.eq_of_mem_replicate (List.mem_of_getElem? v1)
        subst v3
        cases v2
      have hl0 : lv_has ls (mL y) [] := lv_mono hl (fun _ h => absurd h List.not_mem_nil)
      dsimp only
      rw [b2]
      split at a5
      · simp only [Bool.and_eq_true] at a5
        obtain ⟨a5, a6⟩ := a5
        have a6 := Nat.eq_of_beq_eq_true a6
        rw [a6] at kk
        split at a5
        · exact lv_astore_n (i := 0) X.1 X.2.1 (of_decide_eq_true a5) rfl hl0 a4 rfl (fun ls' h' => kk ls' (kl ls' h'))
        · exact lv_astore_n (i := 1) X.1 X.2.1 (of_decide_eq_true a5) rfl hl0 a4 rfl (fun ls' h' => kk ls' (kl ls' h'))
        · exact lv_astore_n (i := 2) X.1 X.2.1 (of_decide_eq_true a5) rfl hl0 a4 rfl (fun ls' h' => kk ls' (kl ls' h'))
        · exact lv_astore_n (i := 3) X.1 X.2.1 (of_decide_eq_true a5) rfl hl0 a4 rfl (fun ls' h' => kk ls' (kl ls' h'))
        · cases a5
      · simp only [Bool.and_eq_true] at a5
        obtain ⟨a5, a6⟩ := a5
        have a6 := Nat.eq_of_beq_eq_true a6
        rw [a6] at kk
        exact lv_astore X.1 X.2.1 (of_decide_eq_true a5) hl0 a4 rfl (fun ls' h' => kk ls' (kl ls' h'))
  · cases a3
theorem walk_step (k : Nat) (hC : Con l xs k) (hW : Walk l xs k) : Walk l xs (k + 1) := by
  intro p e R s m args below meth c Q y K D A sa X ht hF hl pc L st μ f φ ls H locs cells slots o μ' f' C S hX hL hS hH hx eC eS hCc hSs fR fT fP
  rw [exec_one] at hx
  cases hs : Step1 xs y pc L st μ f with
  | none => rw [hs] at hx; cases hx
  | some q =>
    rw [hs] at hx
    obtain ⟨i, len, hd, hi⟩ : ∃ i len, decode (mB y) pc = .ok (i, len) ∧ istep xs y pc len i L st μ f = some q := by
      unfold Step1 at hs
      split at hs
      · cases hs
      · rename_i i len hd
        exact ⟨i, len, hd, hs⟩
    rcases q with ⟨pc1, L1, st1, μ1, f1⟩ | ⟨o1, μ1, f1⟩ | ⟨y1, as, pc1, L1, st1⟩
    · have hx : exec xs k y pc1 L1 st1 μ1 f1 = some (o, (μ', f')) := hx
      have m1 := istep_mu (xs := xs) (y := y) (f := f) (μ := μ) (L := L) (st := st) pc len i
      rw [hi] at m1
      have m1 : muLe μ μ1 := m1
      have m2 := exec_mu xs k _ _ _ _ _ _ _ _ _ hx
      obtain ⟨p1, p2, p3⟩ := m1
      obtain ⟨r1, r2, r3⟩ := m2
      refine sn_all i pc len L st μ f φ ls H locs cells slots pc1 L1 st1 μ1 f1 X hX hL hS hH hd hi (by omega) (by omega) hF hl (fun φ' ls' H' locs' e1 h1 h2 h3 h4 => ?_)
      exact hW p e R s m args below meth c Q y K D A sa X ht hF hl pc1 L1 st1 μ1 f1 φ' ls' H' locs' _ _ o μ' f' C S (hX.ext e1) h1 h2 h3 hx (by omega) (by omega) hCc hSs (fR.up e1 h4) (fT.up e1 h4) (fP.up e1 h4)
    · cases hx
      rcases istep_done hi with ⟨v, rfl, rfl, rfl, rfl, rfl, hr⟩ | ⟨kk, E, r, rfl, rfl, hxt, rfl, rfl, h6, h100, rfl, rfl⟩
      · rw [Nat.sub_self, Nat.add_zero] at eC eS
        subst eC; subst eS
        exact fR pc i v φ ls H locs rfl ext.rf hH hS hd hr
      · dsimp only at eC eS
        exact fT pc E r φ ls H locs cells slots rfl ext.rf hH hL.1.1 hxt h6 h100 (by omega) (by omega)
    · have hx : (match exec xs k y1 0 (ini y1 as) [] μ f with
        | none => none
        | some (.inl none, (μ', f')) => exec xs k y pc1 L1 st1 μ' f'
        | some (.inl (some v), (μ', f')) => exec xs k y pc1 L1 (v :: st1) μ' f'
        | some (.inr E, (μ', f')) => match lk hTab y E with
          | none => if (mH y).isEmpty then some (.inr E, (μ', f')) else none
          | some (_, (_, (h, (j, _)))) => if hcov y (pc1 - 3) = true then exec xs k y h (List.replicate (mL y) vu) [] μ' f' else none) = some (o, (μ', f')) := hx
      cases hc : exec xs k y1 0 (ini y1 as) [] μ f with
      | none => rw [hc] at hx; cases hx
      | some q =>
        rw [hc] at hx
        obtain ⟨o1, μ1, f1⟩ := q
        obtain ⟨p1, p2, p3⟩ := exec_mu xs k _ _ _ _ _ _ _ _ _ hc
        obtain ⟨z1, z2, z3, z4, -⟩ := istep_call hi
        have hbound : μ1.2.1 ≤ μ'.2.1 ∧ μ1.2.2 ≤ μ'.2.2 := by
          rcases o1 with (_ | v) | E
          · exact (exec_mu xs k _ _ _ _ _ _ _ _ _ hx).2
          · exact (exec_mu xs k _ _ _ _ _ _ _ _ _ hx).2
          · dsimp only at hx
            split at hx
            · obtain ⟨-, hx⟩ := ifs hx
              cases hx
              exact ⟨Nat.le_refl _, Nat.le_refl _⟩
            · obtain ⟨-, hx⟩ := ifs hx
              exact (exec_mu xs k _ _ _ _ _ _ _ _ _ hx).2
        obtain ⟨b1, b2⟩ := hbound
        have q1 : C = cells + (μ1.2.1 - μ.2.1) + (μ'.2.1 - μ1.2.1) := by omega
        have q2 : S = slots + (μ1.2.2 - μ.2.2) + (μ'.2.2 - μ1.2.2) := by omega
        have q3 : cells + (μ1.2.1 - μ.2.1) ≤ R.cells := by omega
        have q4 : slots + (μ1.2.2 - μ.2.2) ≤ R.slots := by omega
        have hrun := call_run (R := R) (e := e) (below := below) (cells := cells) (slots := slots) hC X hL hS hH hd hi hc hF hl q3 q4
        have hrS : okS μ.1 st1 := fun v hv => hS v (by rw [z4]; exact List.mem_append_right _ hv)
        intro T hT XT
        rcases hrun T hT XT with ⟨v, st₀, t, T', L9, h0, X', hLf, e1, e2, hQ, hst⟩ | ⟨q, st₀, t, T', L9, E, ce, h0, X', hLf, e1, e2, hE, hce, hcv, hcl, hst⟩
        · obtain ⟨w, ψ, rfl, hv, hw, haft⟩ := hQ
          have hv : v = w.map (cv ψ) := by injection hv
          subst hv
          have hR2 := aft_RH X hH h0 e1 hLf haft
          have hψ := haft.1
          have hLr := hL.ext hψ p1
          rw [← z3] at hLr
          have key : ∀ stk : List AV, (∀ v ∈ stk, okV μ1.1 v ∧ isU v = false) → stk.length ≤ stk.length → exec xs k y pc1 L1 stk μ1 f1 = some (o, (μ', f')) → ∃ t2, Steps p.tables e below (T'.setTop (F0 m pc1 ls (stk.map (cv ψ)))) t2 ∧ Q t2 := by
            intro stk hstk _ hx
            have hx2 := hW p e R s m args below meth c Q y K D A sa X ht hF hl pc1 L1 stk μ1 f1 ψ ls T'.heap (locs ++ L9) (cells + (μ1.2.1 - μ.2.1)) (slots + (μ1.2.2 - μ.2.2)) o μ' f' C S (hX.ext hψ) hLr hstk hR2 hx q1 q2 hCc hSs (fR.up hψ p1) (fT.up hψ p1) (fP.up hψ p1)
            exact hx2 T' rfl X'
          have hr2 : okS μ1.1 st1 := fun v hv => ⟨(hrS v hv).1.up p1, (hrS v hv).2⟩
          rcases w with _ | w
          · obtain ⟨t2, a1, b1⟩ := key st1 hr2 (Nat.le_refl _) hx
            rw [cvs_ext hψ hrS, z2] at a1
            exact ⟨t2, hst t2 a1, b1⟩
          · obtain ⟨t2, a1, b1⟩ := key (w :: st1) (hr2.cons (hw w (by simp)).1 (hw w (by simp)).2) (Nat.le_refl _) hx
            rw [List.map_cons, cvs_ext hψ hrS, z2] at a1
            exact ⟨t2, hst t2 a1, b1⟩
        · obtain ⟨E0, ψ, rfl, rfl, haft⟩ := hE
          have hR2 := aft_RH X hH h0 e1 hLf haft
          have hψ := haft.1
          rw [← e1] at hce
          have hx : (match lk hTab y E0 with
            | none => if (mH y).isEmpty then some (.inr E0, (μ1, f1)) else none
            | some (_, (_, (h, (j, _)))) => if hcov y (pc1 - 3) = true then exec xs k y h (List.replicate (mL y) vu) [] μ1 f1 else none) = some (o, (μ', f')) := hx
          have kx : vx_W p l e R s m args below meth c T'.heap (locs ++ L9) (cells + (μ1.2.1 - μ.2.1)) (slots + (μ1.2.2 - μ.2.2)) Q (F0 m pc ls (st1.map (cv φ))) q := by
            cases hk : lk hTab y E0 with
            | none =>
              rw [hk] at hx
              obtain ⟨hem, hx⟩ := ifs hx
              cases hx
              rw [← eC, ← eS]
              exact fP pc E0 q ce ψ ls _ T'.heap _ rfl hem hψ hR2 hce hcv hcl
            | some w =>
              rw [hk] at hx
              obtain ⟨j, h0', h', loc, ww⟩ := w
              obtain ⟨hv, hx⟩ := ifs hx
              rw [z2, Nat.add_sub_cancel] at hv
              refine catch_at (φ2 := ψ) (n2 := μ1.1) X ht hk hv hL.1 hce hcv hcl (fun ls' hl' => ?_)
              have hx2 := hW p e R s m args below meth c Q y K D A sa X ht hF hl h' (List.replicate (mL y) vu) [] μ1 f1 ψ ls' T'.heap (locs ++ L9) (cells + (μ1.2.1 - μ.2.1)) (slots + (μ1.2.2 - μ.2.2)) o μ' f' C S (hX.ext hψ) hl' (fun v hv => absurd hv List.not_mem_nil) hR2 hx q1 q2 hCc hSs (fR.up hψ p1) (fT.up hψ p1) (fP.up hψ p1)
              exact hx2
          obtain ⟨t2, a1, b1⟩ := kx T' rfl X'
          exact ⟨t2, hst.trans a1, b1⟩
end SD
