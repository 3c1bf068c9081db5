/-! ONE INSTRUCTION: the abstract step is the machine's -/
theorem ifs {α : Type} {c : Prop} [Decidable c] {a : Option α} {r : α} (h : (if c then a else none) = some r) : c ∧ a = some r := by
  by_cases hc : c
  · rw [if_pos hc] at h; exact ⟨hc, h⟩
  · rw [if_neg hc] at h; cases h
theorem nx_inv {pc : Nat} {L st : List AV} {μ : Mu} {f : AH} {pc' : Nat} {L' st' : List AV} {μ' : Mu} {f' : AH} (h : nx pc L st μ f = some (.inl (pc', (L', (st', (μ', f')))))) : pc' = pc ∧ L' = L ∧ st' = st ∧ μ' = μ ∧ f' = f := by
  unfold nx at h
  cases h
  exact ⟨rfl, rfl, rfl, rfl, rfl⟩
theorem tg_inv {pc : Nat} {off : Int} {L st : List AV} {μ : Mu} {f : AH} {r : SR} (h : tg pc off L st μ f = some r) : ∃ t : Nat, (pc : Int) + off = (t : Int) ∧ nx t L st μ f = some r := by
  obtain ⟨h1, h2⟩ := ifs h
  exact ⟨_, (Int.toNat_of_nonneg h1).symm, h2⟩
theorem br_inv {b : Prop} [Decidable b] {pc : Nat} {off : Int} {L st : List AV} {μ : Mu} {f : AH} {r : SR} (h : br b pc off L st μ f = some r) : ∃ t : Nat, (pc : Int) + off = (t : Int) ∧ ((b ∧ nx t L st μ f = some r) ∨ (¬ b ∧ nx (pc + 3) L st μ f = some r)) := by
  unfold br at h
  obtain ⟨h1, h2⟩ := ifs h
  refine ⟨_, (Int.toNat_of_nonneg h1).symm, ?_⟩
  by_cases hb : b
  · rw [if_pos hb] at h2; exact Or.inl ⟨hb, h2⟩
  · rw [if_neg hb] at h2; exact Or.inr ⟨hb, h2⟩
theorem ii2_inv {g : Int → Int → Option Int} {pc : Nat} {L st : List AV} {μ : Mu} {f : AH} {r : SR} (h : ii2 g pc L st μ f = some r) : ∃ x y z t, st = vi y :: vi x :: t ∧ g x y = some z ∧ nx pc L (vi z :: t) μ f = some r := by
  unfold ii2 at h
  split at h
  · rename_i y x t
    cases hz : g x y with
    | none => rw [hz] at h; cases h
    | some z => rw [hz] at h; exact ⟨x, y, z, t, rfl, hz, h⟩
  · cases h
theorem ll2_inv {g : Int64 → Int64 → Int64} {pc : Nat} {L st : List AV} {μ : Mu} {f : AH} {r : SR} (h : ll2 g pc L st μ f = some r) : ∃ x y t, st = vl y :: vl x :: t ∧ nx pc L (vl (g x y) :: t) μ f = some r := by
  unfold ll2 at h
  split at h
  · rename_i y x t
    exact ⟨x, y, t, rfl, h⟩
  · cases h
theorem dd2_inv {g : UInt64 → UInt64 → UInt64} {pc : Nat} {L st : List AV} {μ : Mu} {f : AH} {r : SR} (h : dd2 g pc L st μ f = some r) : ∃ x y t, st = vd y :: vd x :: t ∧ nn64 (g x y) = true ∧ nx pc L (vd (g x y) :: t) μ f = some r := by
  unfold dd2 at h
  split at h
  · rename_i y x t
    obtain ⟨h1, h2⟩ := ifs h
    exact ⟨x, y, t, rfl, h1, h2⟩
  · cases h
theorem ov_inv {o : Option AV} {pc : Nat} {L st : List AV} {μ : Mu} {f : AH} {r : SR} (h : ov o pc L st μ f = some r) : ∃ v, o = some v ∧ nx pc L (v :: st) μ f = some r := by
  cases o with
  | none => cases h
  | some v => exact ⟨v, rfl, h⟩
theorem oh_inv {o : Option AH} {pc : Nat} {L st : List AV} {μ : Mu} {r : SR} (h : oh o pc L st μ = some r) : ∃ f, o = some f ∧ nx pc L st μ f = some r := by
  cases o with
  | none => cases h
  | some v => exact ⟨v, rfl, h⟩
theorem ol_inv {o : Option (List AV)} {pc : Nat} {st : List AV} {μ : Mu} {f : AH} {r : SR} (h : ol o pc st μ f = some r) : ∃ L, o = some L ∧ nx pc L st μ f = some r := by
  cases o with
  | none => cases h
  | some v => exact ⟨v, rfl, h⟩
theorem nn64_of {r : UInt64} (h : nn64 r = true) : vf_n64 r := by
  have h2 : r &&& 0x7fffffffffffffff ≤ 0x7ff0000000000000 := of_decide_eq_true h
  exact h2
def NMd : List String := ["java/lang/RuntimeException", "java/lang/Exception", Bundle.tN]
/-- what holds of the launch's tables and constants at a state -/
def GW (s : State) (A : Nat → Prop) (sa : Nat → Nat) : Prop :=
  (vx_Zq Bundle.tN "UNASSIGNED_STACK" Bundle.steD A s s.heap ∧ vx_Zq Bundle.tN "SUPPRESSED_SENTINEL" Bundle.listD A s s.heap) ∧ (∀ k, k < 21 → vk_R RX3 (txtI k) (txt k) (sa k) s) ∧ ((∀ E, va_Nw (.castable (eN E) (eN E)) s) ∧ ∀ n ∈ NMd, va_Nw (.declares (Bundle.initS n)) s) ∧
  (True ∧ va_AO RX1 s ∧ va_Nw (.methodLinkNest RX3 9 yX1_init RX3) s ∧ va_Nw (.methodLinkNest RX3 29 yX2_init RX3) s)
def CX (p : Program) (s : State) (m : MethodId) (args : Array Value) (meth : Method) (c : Code) (y : Nat) (K : KI) (D : va_G) (A : Nat → Prop) (sa : Nat → Nat) : Prop :=
  p.tables.exec = Jvm.exec ∧ c.code = mB y ∧ c.maxLocals = mL y ∧ s.vm.findClass (cN (mO y)) = some m.cls ∧ (∀ w ∈ lw_gd, w.before args s = true) ∧ va_K D vwCl [(K.1, .int), (K.2.1, .object RX1)] s ∧ (∀ q, s.heap.size ≤ q → A q) ∧ meth.locks = false ∧ GW s A sa ∧ ((mN y).name = "<init>" → meth.name = "<init>") ∧ meth.sig.returnType = mR y
def RH (K : KI) (D : va_G) (A : Nat → Prop) (s : State) (φ : Nat → Nat) (f : AH) (n : Nat) (H : Heap) (locs : List Loc) : Prop := va_P D vwCl (wld K φ f n) H ∧ va_D A (wld K φ f n) ∧ va_S A s.heap H locs ∧ okH n f
/-- the script -/
def SX (xs : List Int) (y : Nat) (s : State) (A : Nat → Prop) (φ : Nat → Nat) : Prop := va_X (φ 0) xs.length (fun j => i32 (xs.getD j 0)) s s.heap ∧ φ 0 < s.heap.size ∧ ¬ A (φ 0) ∧ (∀ x ∈ xs, -2147483648 ≤ x ∧ x < 2147483648) ∧ xs.length < 2147483648
theorem SX.ext {xs : List Int} {y n : Nat} {s : State} {A : Nat → Prop} {φ ψ : Nat → Nat} (h : SX xs y s A φ) (e : ext n φ ψ) : SX xs y s A ψ := by unfold SX; rw [e 0 (Nat.zero_le _)]; exact h
def SNg (p : Program) (l : Launch) (e : Env) (R : Room) (s : State) (m : MethodId) (args : Array Value) (below : List Frame) (meth : Method) (c : Code) (Q : State → Prop) (xs : List Int) (y : Nat) (K : KI) (D : va_G) (A : Nat → Prop) (sa : Nat → Nat) (i : Instr) : Prop :=
  ∀ (pc len : Nat) (L st : List AV) (μ : Mu) (f : AH) (φ : Nat → Nat) (ls : Array Slot) (H : Heap) (locs : List Loc) (cells slots pc' : Nat) (L' st' : List AV) (μ' : Mu) (f' : AH),
    CX p s m args meth c y K D A sa → SX xs y s A φ → LR φ μ.1 (mL y) L ls → okS μ.1 st → RH K D A s φ f μ.1 H locs → decode (mB y) pc = .ok (i, len) → istep xs y pc len i L st μ f = some (.inl (pc', (L', (st', (μ', f'))))) →
    cells + (μ'.2.1 - μ.2.1) ≤ R.cells → slots + (μ'.2.2 - μ.2.2) ≤ R.slots → rF y ≤ R.frames → rL y ≤ R.locals →
    (∀ (φ' : Nat → Nat) (ls' : Array Slot) (H' : Heap) (locs' : List Loc), ext μ.1 φ φ' → LR φ' μ'.1 (mL y) L' ls' → okS μ'.1 st' → RH K D A s φ' f' μ'.1 H' locs' → μ.1 ≤ μ'.1 →
      W p l e R s m args below meth c H' locs' (cells + (μ'.2.1 - μ.2.1)) (slots + (μ'.2.2 - μ.2.2)) Q (F0 m pc' ls' (st'.map (cv φ')))) →
    W p l e R s m args below meth c H locs cells slots Q (F0 m pc ls (st.map (cv φ)))
section SN
variable {p : Program} {l : Launch} {e : Env} {R : Room} {s : State} {m : MethodId} {args : Array Value} {below : List Frame} {meth : Method} {c : Code} {H : Heap} {locs : List Loc} {cells slots : Nat} {Q : State → Prop}
variable {xs : List Int} {y : Nat} {K : KI} {D : va_G} {A : Nat → Prop} {sa : Nat → Nat} {φ : Nat → Nat} {f : AH} {μ : Mu} {L st : List AV} {ls : Array Slot} {pc' : Nat}
/-- nothing made, nothing written -/
theorem kp {L' st' : List AV} (hH : RH K D A s φ f μ.1 H locs)
    (kk : ∀ (φ' : Nat → Nat) (ls' : Array Slot) (H' : Heap) (locs' : List Loc), ext μ.1 φ φ' → LR φ' μ.1 (mL y) L' ls' → okS μ.1 st' → RH K D A s φ' f μ.1 H' locs' → μ.1 ≤ μ.1 →
      W p l e R s m args below meth c H' locs' (cells + (μ.2.1 - μ.2.1)) (slots + (μ.2.2 - μ.2.2)) Q (F0 m pc' ls' (st'.map (cv φ')))) {ls' : Array Slot} (h1 : LR φ μ.1 (mL y) L' ls') (h2 : okS μ.1 st') :
    W p l e R s m args below meth c H locs cells slots Q (F0 m pc' ls' (st'.map (cv φ))) := by
  have h := kk φ ls' H locs ext.rf h1 h2 hH (Nat.le_refl _)
  rw [Nat.sub_self, Nat.add_zero, Nat.sub_self, Nat.add_zero] at h
  exact h
/-- a heap changed, nothing made -/
theorem kh {L' st' : List AV} {f' : AH} {H' : Heap} {locs' : List Loc}
    (kk : ∀ (φ' : Nat → Nat) (ls' : Array Slot) (H' : Heap) (locs' : List Loc), ext μ.1 φ φ' → LR φ' μ.1 (mL y) L' ls' → okS μ.1 st' → RH K D A s φ' f' μ.1 H' locs' → μ.1 ≤ μ.1 →
      W p l e R s m args below meth c H' locs' (cells + (μ.2.1 - μ.2.1)) (slots + (μ.2.2 - μ.2.2)) Q (F0 m pc' ls' (st'.map (cv φ')))) {ls' : Array Slot} (h1 : LR φ μ.1 (mL y) L' ls') (h2 : okS μ.1 st') (hH : RH K D A s φ f' μ.1 H' locs') :
    W p l e R s m args below meth c H' locs' cells slots Q (F0 m pc' ls' (st'.map (cv φ))) := by
  have h := kk φ ls' H' locs' ext.rf h1 h2 hH (Nat.le_refl _)
  rw [Nat.sub_self, Nat.add_zero, Nat.sub_self, Nat.add_zero] at h
  exact h
theorem okS.tl {n : Nat} {v : AV} {st : List AV} (h : okS n (v :: st)) : okS n st := fun w hw => h w (List.mem_cons_of_mem _ hw)
theorem okS.hd {n : Nat} {v : AV} {st : List AV} (h : okS n (v :: st)) : okV n v ∧ isU v = false := h v List.mem_cons_self
theorem okS.cons {n : Nat} {v : AV} {st : List AV} (h : okS n st) (h1 : okV n v) (h2 : isU v = false) : okS n (v :: st) := fun w hw => (List.mem_cons.mp hw).elim (fun e => e ▸ ⟨h1, h2⟩) (h w)
theorem ld1_inv {k : Nat} {o : Option AV} {pc : Nat} {r : SR} (h : ld1 o k pc L st μ f = some r) : ∃ v, o = some v ∧ isU v = false ∧ nx pc L (v :: st) μ f = some r ∧ ((k = 0 ∧ ∃ x, v = vi x) ∨ (k = 1 ∧ ∃ a, v = vr a) ∨ (k = 2 ∧ ∃ x, v = vl x) ∨ (k = 3 ∧ ∃ x, v = vd x)) := by
  cases o with
  | none => cases h
  | some v =>
    unfold ld1 at h
    dsimp only at h
    split at h
    · exact ⟨_, rfl, rfl, h, Or.inl ⟨rfl, _, rfl⟩⟩
    · exact ⟨_, rfl, rfl, h, Or.inr (Or.inl ⟨rfl, _, rfl⟩)⟩
    · exact ⟨_, rfl, rfl, h, Or.inr (Or.inr (Or.inl ⟨rfl, _, rfl⟩))⟩
    · exact ⟨_, rfl, rfl, h, Or.inr (Or.inr (Or.inr ⟨rfl, _, rfl⟩))⟩
    · cases h
theorem sn_aload_n (k : Fin 4) : SNg p l e R s m args below meth c Q xs y K D A sa (.aload_n k) := by
  intro pc len L st μ f φ ls H locs cells slots pc' L' st' μ' f' X hX hL hS hH hd h8 hc hs hF hl kk
  obtain ⟨rfl, h⟩ := ifs h8
  obtain ⟨v, hv, hu, hn, hk⟩ := ld1_inv h
  obtain ⟨rfl, rfl, rfl, rfl, rfl⟩ := nx_inv hn
  rcases hk with ⟨h0, _⟩ | ⟨_, a, rfl⟩ | ⟨h0, _⟩ | ⟨h0, _⟩
  · cases h0
  · exact lv_aload_n X.1 X.2.1 hd rfl (hL.at hv rfl) (kp hH kk hL (hS.cons (hL.ok hv) hu))
  · cases h0
  · cases h0
theorem sn_aload (k : Nat) : SNg p l e R s m args below meth c Q xs y K D A sa (.aload k) := by
  intro pc len L st μ f φ ls H locs cells slots pc' L' st' μ' f' X hX hL hS hH hd h8 hc hs hF hl kk
  obtain ⟨rfl, h⟩ := ifs h8
  obtain ⟨v, hv, hu, hn, hk⟩ := ld1_inv h
  obtain ⟨rfl, rfl, rfl, rfl, rfl⟩ := nx_inv hn
  rcases hk with ⟨h0, _⟩ | ⟨_, a, rfl⟩ | ⟨h0, _⟩ | ⟨h0, _⟩
  · cases h0
  · exact lv_aload X.1 X.2.1 hd (hL.at hv rfl) (kp hH kk hL (hS.cons (hL.ok hv) hu))
  · cases h0
  · cases h0
theorem sn_iload_n (k : Fin 4) : SNg p l e R s m args below meth c Q xs y K D A sa (.iload_n k) := by
  intro pc len L st μ f φ ls H locs cells slots pc' L' st' μ' f' X hX hL hS hH hd h8 hc hs hF hl kk
  obtain ⟨rfl, h⟩ := ifs h8
  obtain ⟨v, hv, hu, hn, hk⟩ := ld1_inv h
  obtain ⟨rfl, rfl, rfl, rfl, rfl⟩ := nx_inv hn
  rcases hk with ⟨_, a, rfl⟩ | ⟨h0, _⟩ | ⟨h0, _⟩ | ⟨h0, _⟩
  · exact lv_iload_n X.1 X.2.1 hd rfl (hL.at hv rfl) (kp hH kk hL (hS.cons (hL.ok hv) hu))
  · cases h0
  · cases h0
  · cases h0
theorem sn_iload (k : Nat) : SNg p l e R s m args below meth c Q xs y K D A sa (.iload k) := by
  intro pc len L st μ f φ ls H locs cells slots pc' L' st' μ' f' X hX hL hS hH hd h8 hc hs hF hl kk
  obtain ⟨rfl, h⟩ := ifs h8
  obtain ⟨v, hv, hu, hn, hk⟩ := ld1_inv h
  obtain ⟨rfl, rfl, rfl, rfl, rfl⟩ := nx_inv hn
  rcases hk with ⟨_, a, rfl⟩ | ⟨h0, _⟩ | ⟨h0, _⟩ | ⟨h0, _⟩
  · exact lv_iload X.1 X.2.1 hd (hL.at hv rfl) (kp hH kk hL (hS.cons (hL.ok hv) hu))
  · cases h0
  · cases h0
  · cases h0
theorem sn_lload_n (k : Fin 4) : SNg p l e R s m args below meth c Q xs y K D A sa (.lload_n k) := by
  intro pc len L st μ f φ ls H locs cells slots pc' L' st' μ' f' X hX hL hS hH hd h8 hc hs hF hl kk
  obtain ⟨rfl, h⟩ := ifs h8
  obtain ⟨v, hv, hu, hn, hk⟩ := ld1_inv h
  obtain ⟨rfl, rfl, rfl, rfl, rfl⟩ := nx_inv hn
  rcases hk with ⟨h0, _⟩ | ⟨h0, _⟩ | ⟨_, a, rfl⟩ | ⟨h0, _⟩
  · cases h0
  · cases h0
  · exact lv_lload_n X.1 X.2.1 hd rfl (hL.at hv rfl) (kp hH kk hL (hS.cons (hL.ok hv) hu))
  · cases h0
theorem sn_lload (k : Nat) : SNg p l e R s m args below meth c Q xs y K D A sa (.lload k) := by
  intro pc len L st μ f φ ls H locs cells slots pc' L' st' μ' f' X hX hL hS hH hd h8 hc hs hF hl kk
  obtain ⟨rfl, h⟩ := ifs h8
  obtain ⟨v, hv, hu, hn, hk⟩ := ld1_inv h
  obtain ⟨rfl, rfl, rfl, rfl, rfl⟩ := nx_inv hn
  rcases hk with ⟨h0, _⟩ | ⟨h0, _⟩ | ⟨_, a, rfl⟩ | ⟨h0, _⟩
  · cases h0
  · cases h0
  · exact lv_lload X.1 X.2.1 hd (hL.at hv rfl) (kp hH kk hL (hS.cons (hL.ok hv) hu))
  · cases h0
theorem sn_dload_n (k : Fin 4) : SNg p l e R s m args below meth c Q xs y K D A sa (.dload_n k) := by
  intro pc len L st μ f φ ls H locs cells slots pc' L' st' μ' f' X hX hL hS hH hd h8 hc hs hF hl kk
  obtain ⟨rfl, h⟩ := ifs h8
  obtain ⟨v, hv, hu, hn, hk⟩ := ld1_inv h
  obtain ⟨rfl, rfl, rfl, rfl, rfl⟩ := nx_inv hn
  rcases hk with ⟨h0, _⟩ | ⟨h0, _⟩ | ⟨h0, _⟩ | ⟨_, a, rfl⟩
  · cases h0
  · cases h0
  · cases h0
  · exact lv_dload_n X.1 X.2.1 hd rfl (hL.at hv rfl) (kp hH kk hL (hS.cons (hL.ok hv) hu))
theorem sn_dload (k : Nat) : SNg p l e R s m args below meth c Q xs y K D A sa (.dload k) := by
  intro pc len L st μ f φ ls H locs cells slots pc' L' st' μ' f' X hX hL hS hH hd h8 hc hs hF hl kk
  obtain ⟨rfl, h⟩ := ifs h8
  obtain ⟨v, hv, hu, hn, hk⟩ := ld1_inv h
  obtain ⟨rfl, rfl, rfl, rfl, rfl⟩ := nx_inv hn
  rcases hk with ⟨h0, _⟩ | ⟨h0, _⟩ | ⟨h0, _⟩ | ⟨_, a, rfl⟩
  · cases h0
  · cases h0
  · cases h0
  · exact lv_dload X.1 X.2.1 hd (hL.at hv rfl) (kp hH kk hL (hS.cons (hL.ok hv) hu))
theorem st1_inv {k i : Nat} {pc : Nat} {r : SR} (h : st1 k i pc L st μ f = some r) : ∃ v t L', st = v :: t ∧ isU v = false ∧ nx pc L' t μ f = some r ∧ (i = 0 ∨ cat2 (L.getD (i - 1) vu) = false) ∧
    ((k = 0 ∧ (∃ x, v = vi x) ∧ i < L.length ∧ L' = L.set i v) ∨ (k = 1 ∧ (∃ a, v = vr a) ∧ i < L.length ∧ L' = L.set i v) ∨ (k = 2 ∧ (∃ x, v = vl x) ∧ i + 1 < L.length ∧ L' = (L.set i v).set (i + 1) vu) ∨ (k = 3 ∧ (∃ x, v = vd x) ∧ i + 1 < L.length ∧ L' = (L.set i v).set (i + 1) vu)) := by
  unfold st1 at h
  split at h
  · split at h
    · obtain ⟨L', h1, h2⟩ := ol_inv h
      obtain ⟨h3, h4⟩ := ifs h1
      cases h4
      exact ⟨_, _, _, rfl, rfl, h2, h3.2, Or.inl ⟨rfl, ⟨_, rfl⟩, h3.1, rfl⟩⟩
    · obtain ⟨L', h1, h2⟩ := ol_inv h
      obtain ⟨h3, h4⟩ := ifs h1
      cases h4
      exact ⟨_, _, _, rfl, rfl, h2, h3.2, Or.inr (Or.inl ⟨rfl, ⟨_, rfl⟩, h3.1, rfl⟩)⟩
    · obtain ⟨L', h1, h2⟩ := ol_inv h
      obtain ⟨h3, h4⟩ := ifs h1
      cases h4
      exact ⟨_, _, _, rfl, rfl, h2, h3.2, Or.inr (Or.inr (Or.inl ⟨rfl, ⟨_, rfl⟩, h3.1, rfl⟩))⟩
    · obtain ⟨L', h1, h2⟩ := ol_inv h
      obtain ⟨h3, h4⟩ := ifs h1
      cases h4
      exact ⟨_, _, _, rfl, rfl, h2, h3.2, Or.inr (Or.inr (Or.inr ⟨rfl, ⟨_, rfl⟩, h3.1, rfl⟩))⟩
    · cases h
  · cases h
theorem sn_istore_n (k : Fin 4) : SNg p l e R s m args below meth c Q xs y K D A sa (.istore_n k) := by
  intro pc len L st μ f φ ls H locs cells slots pc' L' st' μ' f' X hX hL hS hH hd h8 hc hs hF hl kk
  obtain ⟨rfl, h⟩ := ifs h8
  obtain ⟨v, t, L2, rfl, hu, hn, hcat, hk⟩ := st1_inv h
  obtain ⟨rfl, rfl, rfl, rfl, rfl⟩ := nx_inv hn
  rcases hk with ⟨_, ⟨x, rfl⟩, hi, rfl⟩ | ⟨h0, _⟩ | ⟨h0, _⟩ | ⟨h0, _⟩
  · exact lv_istore_n X.1 X.2.1 hd rfl hL.1 (by rw [← hL.2.1]; exact hi) rfl (fun ls' h' => kp hH kk (LR.st hL.2.1 hL.2.2 hS.hd.1 rfl hi hcat h') hS.tl)
  · cases h0
  · cases h0
  · cases h0
theorem sn_istore (k : Nat) : SNg p l e R s m args below meth c Q xs y K D A sa (.istore k) := by
  intro pc len L st μ f φ ls H locs cells slots pc' L' st' μ' f' X hX hL hS hH hd h8 hc hs hF hl kk
  obtain ⟨rfl, h⟩ := ifs h8
  obtain ⟨v, t, L2, rfl, hu, hn, hcat, hk⟩ := st1_inv h
  obtain ⟨rfl, rfl, rfl, rfl, rfl⟩ := nx_inv hn
  rcases hk with ⟨_, ⟨x, rfl⟩, hi, rfl⟩ | ⟨h0, _⟩ | ⟨h0, _⟩ | ⟨h0, _⟩
  · exact lv_istore X.1 X.2.1 hd hL.1 (by rw [← hL.2.1]; exact hi) rfl (fun ls' h' => kp hH kk (LR.st hL.2.1 hL.2.2 hS.hd.1 rfl hi hcat h') hS.tl)
  · cases h0
  · cases h0
  · cases h0
theorem sn_astore_n (k : Fin 4) : SNg p l e R s m args below meth c Q xs y K D A sa (.astore_n k) := by
  intro pc len L st μ f φ ls H locs cells slots pc' L' st' μ' f' X hX hL hS hH hd h8 hc hs hF hl kk
  obtain ⟨rfl, h⟩ := ifs h8
  obtain ⟨v, t, L2, rfl, hu, hn, hcat, hk⟩ := st1_inv h
  obtain ⟨rfl, rfl, rfl, rfl, rfl⟩ := nx_inv hn
  rcases hk with ⟨h0, _⟩ | ⟨_, ⟨x, rfl⟩, hi, rfl⟩ | ⟨h0, _⟩ | ⟨h0, _⟩
  · cases h0
  · exact lv_astore_n X.1 X.2.1 hd rfl hL.1 (by rw [← hL.2.1]; exact hi) rfl (fun ls' h' => kp hH kk (LR.st hL.2.1 hL.2.2 hS.hd.1 rfl hi hcat h') hS.tl)
  · cases h0
  · cases h0
theorem sn_astore (k : Nat) : SNg p l e R s m args below meth c Q xs y K D A sa (.astore k) := by
  intro pc len L st μ f φ ls H locs cells slots pc' L' st' μ' f' X hX hL hS hH hd h8 hc hs hF hl kk
  obtain ⟨rfl, h⟩ := ifs h8
  obtain ⟨v, t, L2, rfl, hu, hn, hcat, hk⟩ := st1_inv h
  obtain ⟨rfl, rfl, rfl, rfl, rfl⟩ := nx_inv hn
  rcases hk with ⟨h0, _⟩ | ⟨_, ⟨x, rfl⟩, hi, rfl⟩ | ⟨h0, _⟩ | ⟨h0, _⟩
  · cases h0
  · exact lv_astore X.1 X.2.1 hd hL.1 (by rw [← hL.2.1]; exact hi) rfl (fun ls' h' => kp hH kk (LR.st hL.2.1 hL.2.2 hS.hd.1 rfl hi hcat h') hS.tl)
  · cases h0
  · cases h0
theorem sn_lstore_n (k : Fin 4) : SNg p l e R s m args below meth c Q xs y K D A sa (.lstore_n k) := by
  intro pc len L st μ f φ ls H locs cells slots pc' L' st' μ' f' X hX hL hS hH hd h8 hc hs hF hl kk
  obtain ⟨rfl, h⟩ := ifs h8
  obtain ⟨v, t, L2, rfl, hu, hn, hcat, hk⟩ := st1_inv h
  obtain ⟨rfl, rfl, rfl, rfl, rfl⟩ := nx_inv hn
  rcases hk with ⟨h0, _⟩ | ⟨h0, _⟩ | ⟨_, ⟨x, rfl⟩, hi, rfl⟩ | ⟨h0, _⟩
  · cases h0
  · cases h0
  · exact lv_lstore_n X.1 X.2.1 hd rfl hL.1 (by rw [← hL.2.1]; exact hi) rfl (fun ls' h' => kp hH kk (LR.st2 hL.2.1 hL.2.2 hS.hd.1 rfl hi hcat h') hS.tl)
  · cases h0
theorem sn_lstore (k : Nat) : SNg p l e R s m args below meth c Q xs y K D A sa (.lstore k) := by
  intro pc len L st μ f φ ls H locs cells slots pc' L' st' μ' f' X hX hL hS hH hd h8 hc hs hF hl kk
  obtain ⟨rfl, h⟩ := ifs h8
  obtain ⟨v, t, L2, rfl, hu, hn, hcat, hk⟩ := st1_inv h
  obtain ⟨rfl, rfl, rfl, rfl, rfl⟩ := nx_inv hn
  rcases hk with ⟨h0, _⟩ | ⟨h0, _⟩ | ⟨_, ⟨x, rfl⟩, hi, rfl⟩ | ⟨h0, _⟩
  · cases h0
  · cases h0
  · exact lv_lstore X.1 X.2.1 hd hL.1 (by rw [← hL.2.1]; exact hi) rfl (fun ls' h' => kp hH kk (LR.st2 hL.2.1 hL.2.2 hS.hd.1 rfl hi hcat h') hS.tl)
  · cases h0
theorem sn_dstore_n (k : Fin 4) : SNg p l e R s m args below meth c Q xs y K D A sa (.dstore_n k) := by
  intro pc len L st μ f φ ls H locs cells slots pc' L' st' μ' f' X hX hL hS hH hd h8 hc hs hF hl kk
  obtain ⟨rfl, h⟩ := ifs h8
  obtain ⟨v, t, L2, rfl, hu, hn, hcat, hk⟩ := st1_inv h
  obtain ⟨rfl, rfl, rfl, rfl, rfl⟩ := nx_inv hn
  rcases hk with ⟨h0, _⟩ | ⟨h0, _⟩ | ⟨h0, _⟩ | ⟨_, ⟨x, rfl⟩, hi, rfl⟩
  · cases h0
  · cases h0
  · cases h0
  · exact lv_dstore_n X.1 X.2.1 hd rfl hL.1 (by rw [← hL.2.1]; exact hi) rfl (fun ls' h' => kp hH kk (LR.st2 hL.2.1 hL.2.2 hS.hd.1 rfl hi hcat h') hS.tl)
theorem sn_dstore (k : Nat) : SNg p l e R s m args below meth c Q xs y K D A sa (.dstore k) := by
  intro pc len L st μ f φ ls H locs cells slots pc' L' st' μ' f' X hX hL hS hH hd h8 hc hs hF hl kk
  obtain ⟨rfl, h⟩ := ifs h8
  obtain ⟨v, t, L2, rfl, hu, hn, hcat, hk⟩ := st1_inv h
  obtain ⟨rfl, rfl, rfl, rfl, rfl⟩ := nx_inv hn
  rcases hk with ⟨h0, _⟩ | ⟨h0, _⟩ | ⟨h0, _⟩ | ⟨_, ⟨x, rfl⟩, hi, rfl⟩
  · cases h0
  · cases h0
  · cases h0
  · exact lv_dstore X.1 X.2.1 hd hL.1 (by rw [← hL.2.1]; exact hi) rfl (fun ls' h' => kp hH kk (LR.st2 hL.2.1 hL.2.2 hS.hd.1 rfl hi hcat h') hS.tl)
theorem sn_iconst (n : Int) : SNg p l e R s m args below meth c Q xs y K D A sa (.iconst n) := by
  intro pc len L st μ f φ ls H locs cells slots pc' L' st' μ' f' X hX hL hS hH hd h8 hc hs hF hl kk
  obtain ⟨rfl, h⟩ := ifs h8
  obtain ⟨rfl, rfl, rfl, rfl, rfl⟩ := nx_inv h
  exact lv_iconst X.1 X.2.1 hd (i32_wrp n).symm (kp hH kk hL (hS.cons ⟨wrp_lo n, wrp_hi n⟩ rfl))
theorem sn_bipush (n : Int) : SNg p l e R s m args below meth c Q xs y K D A sa (.bipush n) := by
  intro pc len L st μ f φ ls H locs cells slots pc' L' st' μ' f' X hX hL hS hH hd h8 hc hs hF hl kk
  obtain ⟨rfl, h⟩ := ifs h8
  obtain ⟨rfl, rfl, rfl, rfl, rfl⟩ := nx_inv h
  exact lv_bipush X.1 X.2.1 hd (i32_of _).symm (kp hH kk hL (hS.cons ⟨i32_lo _, i32_hi _⟩ rfl))
theorem sn_sipush (n : Int) : SNg p l e R s m args below meth c Q xs y K D A sa (.sipush n) := by
  intro pc len L st μ f φ ls H locs cells slots pc' L' st' μ' f' X hX hL hS hH hd h8 hc hs hF hl kk
  obtain ⟨rfl, h⟩ := ifs h8
  obtain ⟨rfl, rfl, rfl, rfl, rfl⟩ := nx_inv h
  exact lv_sipush X.1 X.2.1 hd (i32_of _).symm (kp hH kk hL (hS.cons ⟨i32_lo _, i32_hi _⟩ rfl))
theorem sn_lconst (n : Fin 2) : SNg p l e R s m args below meth c Q xs y K D A sa (.lconst n) := by
  intro pc len L st μ f φ ls H locs cells slots pc' L' st' μ' f' X hX hL hS hH hd h8 hc hs hF hl kk
  obtain ⟨rfl, h⟩ := ifs h8
  obtain ⟨rfl, rfl, rfl, rfl, rfl⟩ := nx_inv h
  exact lv_lconst X.1 X.2.1 hd rfl (kp hH kk hL (hS.cons trivial rfl))
theorem sn_dconst (n : Fin 2) : SNg p l e R s m args below meth c Q xs y K D A sa (.dconst n) := by
  intro pc len L st μ f φ ls H locs cells slots pc' L' st' μ' f' X hX hL hS hH hd h8 hc hs hF hl kk
  obtain ⟨rfl, h⟩ := ifs h8
  obtain ⟨rfl, rfl, rfl, rfl, rfl⟩ := nx_inv h
  match n, hd, kk with
  | 0, hd, kk => exact lv_dconst0 X.1 X.2.1 hd (kp hH kk hL (hS.cons trivial rfl))
  | 1, hd, kk => exact lv_dconst1 X.1 X.2.1 hd (kp hH kk hL (hS.cons trivial rfl))
theorem kTab_in {o k pos : Nat} {v : Int64 ⊕ UInt64} (h : lk kTab o k = some (v, pos)) : kCond o k v ∈ lw_gd := inG_mem (List.all_eq_true.mp kTab_ok _ (lk_mem h))
theorem sn_ldc2_w (k : Nat) : SNg p l e R s m args below meth c Q xs y K D A sa (.ldc2_w k) := by
  intro pc len L st μ f φ ls H locs cells slots pc' L' st' μ' f' X hX hL hS hH hd h8 hc hs hF hl kk
  obtain ⟨rfl, h⟩ := ifs h8
  cases (h : (none : Option SR) = some _)
theorem jTab_in {o k pos : Nat} {z : Int} (h : lk jTab o k = some (z, pos)) : Cond.constant (cN o) k (i32 z) ∈ lw_gd ∧ -2147483648 ≤ z ∧ z < 2147483648 := by
  have h1 := List.all_eq_true.mp jTab_ok _ (lk_mem h)
  simp only [Bool.and_eq_true, decide_eq_true_eq] at h1
  exact ⟨inG_mem h1.1, h1.2⟩
theorem sn_ldc (k : Nat) : SNg p l e R s m args below meth c Q xs y K D A sa (.ldc k) := by
  intro pc len L st μ f φ ls H locs cells slots pc' L' st' μ' f' X hX hL hS hH hd h8 hc hs hF hl kk
  obtain ⟨rfl, h⟩ := ifs h8
  split at h
  · rename_i z pos hk
    obtain ⟨rfl, rfl, rfl, rfl, rfl⟩ := nx_inv h
    obtain ⟨j1, j2, j3⟩ := jTab_in hk
    exact lv_ldc X.1 X.2.1 X.2.2.2.1 (X.2.2.2.2.1 _ j1) hd (kp hH kk hL (hS.cons (v := vi z) ⟨j2, j3⟩ rfl))
  · cases h
theorem okV32 (n : Nat) (x : Int32) : okV n (vi x.toInt) := ⟨i32_lo x, i32_hi x⟩
theorem okVw (n : Nat) (x : Int) : okV n (vi (wrp x)) := ⟨wrp_lo x, wrp_hi x⟩
theorem sn_iadd : SNg p l e R s m args below meth c Q xs y K D A sa .iadd := by
  intro pc len L st μ f φ ls H locs cells slots pc' L' st' μ' f' X hX hL hS hH hd h8 hc hs hF hl kk
  obtain ⟨rfl, h⟩ := ifs h8
  obtain ⟨x, w, z, t, rfl, hz, hn⟩ := ii2_inv h
  obtain ⟨rfl, rfl, rfl, rfl, rfl⟩ := nx_inv hn
  cases hz
  have q := kp hH kk hL (hS.tl.tl.cons (okVw _ _) rfl)
  rw [List.map_cons, show cv φ (vi (wrp (x + w))) = .int (i32 x + i32 w) by show Value.int (i32 (wrp (x + w))) = _; rw [i32_wrp]; exact congrArg Value.int (Int32.ofInt_add _ _)] at q
  exact lv_iadd X.1 X.2.1 hd q
theorem sn_isub : SNg p l e R s m args below meth c Q xs y K D A sa .isub := by
  intro pc len L st μ f φ ls H locs cells slots pc' L' st' μ' f' X hX hL hS hH hd h8 hc hs hF hl kk
  obtain ⟨rfl, h⟩ := ifs h8
  obtain ⟨x, w, z, t, rfl, hz, hn⟩ := ii2_inv h
  obtain ⟨rfl, rfl, rfl, rfl, rfl⟩ := nx_inv hn
  cases hz
  have q := kp hH kk hL (hS.tl.tl.cons (okVw _ _) rfl)
  rw [List.map_cons, show cv φ (vi (wrp (x - w))) = .int (i32 x - i32 w) by show Value.int (i32 (wrp (x - w))) = _; rw [i32_wrp]; exact congrArg Value.int (Int32.ofInt_sub _ _)] at q
  exact lv_isub X.1 X.2.1 hd q
theorem sn_imul : SNg p l e R s m args below meth c Q xs y K D A sa .imul := by
  intro pc len L st μ f φ ls H locs cells slots pc' L' st' μ' f' X hX hL hS hH hd h8 hc hs hF hl kk
  obtain ⟨rfl, h⟩ := ifs h8
  obtain ⟨x, w, z, t, rfl, hz, hn⟩ := ii2_inv h
  obtain ⟨rfl, rfl, rfl, rfl, rfl⟩ := nx_inv hn
  cases hz
  have q := kp hH kk hL (hS.tl.tl.cons (okVw _ _) rfl)
  rw [List.map_cons, show cv φ (vi (wrp (x * w))) = .int (i32 x * i32 w) by show Value.int (i32 (wrp (x * w))) = _; rw [i32_wrp]; exact congrArg Value.int (Int32.ofInt_mul _ _)] at q
  exact lv_imul X.1 X.2.1 hd q
/-- a number that the machine computes by itself -/
theorem cv_of (φ : Nat → Nat) (x : Int32) : cv φ (vi x.toInt) = .int x := congrArg Value.int (i32_of x)
theorem sn_iand : SNg p l e R s m args below meth c Q xs y K D A sa .iand := by
  intro pc len L st μ f φ ls H locs cells slots pc' L' st' μ' f' X hX hL hS hH hd h8 hc hs hF hl kk
  obtain ⟨rfl, h⟩ := ifs h8
  obtain ⟨x, w, z, t, rfl, hz, hn⟩ := ii2_inv h
  obtain ⟨rfl, rfl, rfl, rfl, rfl⟩ := nx_inv hn
  cases hz
  have q := kp hH kk hL (hS.tl.tl.cons (okV32 _ _) rfl)
  rw [List.map_cons, cv_of] at q
  exact lv_iand X.1 X.2.1 hd q
theorem sn_ior : SNg p l e R s m args below meth c Q xs y K D A sa .ior := by
  intro pc len L st μ f φ ls H locs cells slots pc' L' st' μ' f' X hX hL hS hH hd h8 hc hs hF hl kk
  obtain ⟨rfl, h⟩ := ifs h8
  obtain ⟨x, w, z, t, rfl, hz, hn⟩ := ii2_inv h
  obtain ⟨rfl, rfl, rfl, rfl, rfl⟩ := nx_inv hn
  cases hz
  have q := kp hH kk hL (hS.tl.tl.cons (okV32 _ _) rfl)
  rw [List.map_cons, cv_of] at q
  exact lv_ior X.1 X.2.1 hd q
theorem sn_ixor : SNg p l e R s m args below meth c Q xs y K D A sa .ixor := by
  intro pc len L st μ f φ ls H locs cells slots pc' L' st' μ' f' X hX hL hS hH hd h8 hc hs hF hl kk
  obtain ⟨rfl, h⟩ := ifs h8
  obtain ⟨x, w, z, t, rfl, hz, hn⟩ := ii2_inv h
  obtain ⟨rfl, rfl, rfl, rfl, rfl⟩ := nx_inv hn
  cases hz
  have q := kp hH kk hL (hS.tl.tl.cons (okV32 _ _) rfl)
  rw [List.map_cons, cv_of] at q
  exact lv_ixor X.1 X.2.1 hd q
theorem sn_ishl : SNg p l e R s m args below meth c Q xs y K D A sa .ishl := by
  intro pc len L st μ f φ ls H locs cells slots pc' L' st' μ' f' X hX hL hS hH hd h8 hc hs hF hl kk
  obtain ⟨rfl, h⟩ := ifs h8
  obtain ⟨x, w, z, t, rfl, hz, hn⟩ := ii2_inv h
  obtain ⟨rfl, rfl, rfl, rfl, rfl⟩ := nx_inv hn
  cases hz
  have q := kp hH kk hL (hS.tl.tl.cons (okV32 _ _) rfl)
  rw [List.map_cons, cv_of] at q
  exact lv_ishl X.1 X.2.1 hd q
theorem sn_ishr : SNg p l e R s m args below meth c Q xs y K D A sa .ishr := by
  intro pc len L st μ f φ ls H locs cells slots pc' L' st' μ' f' X hX hL hS hH hd h8 hc hs hF hl kk
  obtain ⟨rfl, h⟩ := ifs h8
  obtain ⟨x, w, z, t, rfl, hz, hn⟩ := ii2_inv h
  obtain ⟨rfl, rfl, rfl, rfl, rfl⟩ := nx_inv hn
  cases hz
  have q := kp hH kk hL (hS.tl.tl.cons (okV32 _ _) rfl)
  rw [List.map_cons, cv_of] at q
  exact lv_ishr X.1 X.2.1 hd q
theorem i32_ne0 {w : Int} (h : -2147483648 ≤ w ∧ w < 2147483648) (h0 : ¬ w = 0) : ¬ i32 w = 0 := fun e => h0 ((i32_eq h ⟨by omega, by omega⟩).mp (e.trans i32_0.symm))
theorem sn_idiv : SNg p l e R s m args below meth c Q xs y K D A sa .idiv := by
  intro pc len L st μ f φ ls H locs cells slots pc' L' st' μ' f' X hX hL hS hH hd h8 hc hs hF hl kk
  obtain ⟨rfl, h⟩ := ifs h8
  obtain ⟨x, w, z, t, rfl, hz, hn⟩ := ii2_inv h
  obtain ⟨rfl, rfl, rfl, rfl, rfl⟩ := nx_inv hn
  split at hz
  · cases hz
  · rename_i h0
    cases hz
    have q := kp hH kk hL (hS.tl.tl.cons (okV32 _ _) rfl)
    rw [List.map_cons, cv_of] at q
    exact lv_idiv X.1 X.2.1 hd (i32_ne0 hS.hd.1 h0) q
theorem sn_irem : SNg p l e R s m args below meth c Q xs y K D A sa .irem := by
  intro pc len L st μ f φ ls H locs cells slots pc' L' st' μ' f' X hX hL hS hH hd h8 hc hs hF hl kk
  obtain ⟨rfl, h⟩ := ifs h8
  obtain ⟨x, w, z, t, rfl, hz, hn⟩ := ii2_inv h
  obtain ⟨rfl, rfl, rfl, rfl, rfl⟩ := nx_inv hn
  split at hz
  · cases hz
  · rename_i h0
    cases hz
    have q := kp hH kk hL (hS.tl.tl.cons (okV32 _ _) rfl)
    rw [List.map_cons, cv_of] at q
    exact lv_irem X.1 X.2.1 hd (i32_ne0 hS.hd.1 h0) q
theorem sn_ineg : SNg p l e R s m args below meth c Q xs y K D A sa .ineg := by
  intro pc len L st μ f φ ls H locs cells slots pc' L' st' μ' f' X hX hL hS hH hd h8 hc hs hF hl kk
  obtain ⟨rfl, h⟩ := ifs h8
  split at h
  · rename_i x t
    obtain ⟨rfl, rfl, rfl, rfl, rfl⟩ := nx_inv h
    have q := kp hH kk hL (hS.tl.cons (okVw _ _) rfl)
    rw [List.map_cons, show cv φ (vi (wrp (-x))) = .int (-i32 x) by show Value.int (i32 (wrp (-x))) = _; rw [i32_wrp]; exact congrArg Value.int (Int32.ofInt_neg _)] at q
    exact lv_ineg X.1 X.2.1 hd q
  · cases h
theorem sn_i2l : SNg p l e R s m args below meth c Q xs y K D A sa .i2l := by
  intro pc len L st μ f φ ls H locs cells slots pc' L' st' μ' f' X hX hL hS hH hd h8 hc hs hF hl kk
  obtain ⟨rfl, h⟩ := ifs h8
  split at h
  · obtain ⟨rfl, rfl, rfl, rfl, rfl⟩ := nx_inv h
    exact lv_i2l X.1 X.2.1 hd rfl (kp hH kk hL (hS.tl.cons trivial rfl))
  · cases h
theorem sn_i2d : SNg p l e R s m args below meth c Q xs y K D A sa .i2d := by
  intro pc len L st μ f φ ls H locs cells slots pc' L' st' μ' f' X hX hL hS hH hd h8 hc hs hF hl kk
  obtain ⟨rfl, h⟩ := ifs h8
  split at h
  · obtain ⟨rfl, rfl, rfl, rfl, rfl⟩ := nx_inv h
    exact lv_i2d X.1 X.2.1 hd (kp hH kk hL (hS.tl.cons trivial rfl))
  · cases h
theorem sn_d2l : SNg p l e R s m args below meth c Q xs y K D A sa .d2l := by
  intro pc len L st μ f φ ls H locs cells slots pc' L' st' μ' f' X hX hL hS hH hd h8 hc hs hF hl kk
  obtain ⟨rfl, h⟩ := ifs h8
  split at h
  · obtain ⟨rfl, rfl, rfl, rfl, rfl⟩ := nx_inv h
    exact lv_d2l X.1 X.2.1 hd (kp hH kk hL (hS.tl.cons trivial rfl))
  · cases h
theorem sn_ladd : SNg p l e R s m args below meth c Q xs y K D A sa .ladd := by
  intro pc len L st μ f φ ls H locs cells slots pc' L' st' μ' f' X hX hL hS hH hd h8 hc hs hF hl kk
  obtain ⟨rfl, h⟩ := ifs h8
  obtain ⟨x, w, t, rfl, hn⟩ := ll2_inv h
  obtain ⟨rfl, rfl, rfl, rfl, rfl⟩ := nx_inv hn
  exact lv_ladd X.1 X.2.1 hd (kp hH kk hL (hS.tl.tl.cons trivial rfl))
theorem sn_lsub : SNg p l e R s m args below meth c Q xs y K D A sa .lsub := by
  intro pc len L st μ f φ ls H locs cells slots pc' L' st' μ' f' X hX hL hS hH hd h8 hc hs hF hl kk
  obtain ⟨rfl, h⟩ := ifs h8
  obtain ⟨x, w, t, rfl, hn⟩ := ll2_inv h
  obtain ⟨rfl, rfl, rfl, rfl, rfl⟩ := nx_inv hn
  exact lv_lsub X.1 X.2.1 hd (kp hH kk hL (hS.tl.tl.cons trivial rfl))
theorem sn_lmul : SNg p l e R s m args below meth c Q xs y K D A sa .lmul := by
  intro pc len L st μ f φ ls H locs cells slots pc' L' st' μ' f' X hX hL hS hH hd h8 hc hs hF hl kk
  obtain ⟨rfl, h⟩ := ifs h8
  obtain ⟨x, w, t, rfl, hn⟩ := ll2_inv h
  obtain ⟨rfl, rfl, rfl, rfl, rfl⟩ := nx_inv hn
  exact lv_lmul X.1 X.2.1 hd (kp hH kk hL (hS.tl.tl.cons trivial rfl))
theorem sn_lshl : SNg p l e R s m args below meth c Q xs y K D A sa .lshl := by
  intro pc len L st μ f φ ls H locs cells slots pc' L' st' μ' f' X hX hL hS hH hd h8 hc hs hF hl kk
  obtain ⟨rfl, h⟩ := ifs h8
  split at h
  · obtain ⟨rfl, rfl, rfl, rfl, rfl⟩ := nx_inv h
    exact lv_lshl X.1 X.2.1 hd rfl (kp hH kk hL (hS.tl.tl.cons trivial rfl))
  · cases h
theorem sn_dmul : SNg p l e R s m args below meth c Q xs y K D A sa .dmul := by
  intro pc len L st μ f φ ls H locs cells slots pc' L' st' μ' f' X hX hL hS hH hd h8 hc hs hF hl kk
  obtain ⟨rfl, h⟩ := ifs h8
  obtain ⟨x, w, t, rfl, hnn, hn⟩ := dd2_inv h
  obtain ⟨rfl, rfl, rfl, rfl, rfl⟩ := nx_inv hn
  exact lv_dmul X.1 X.2.1 hd (nn64_of hnn) (kp hH kk hL (hS.tl.tl.cons trivial rfl))
theorem sn_ddiv : SNg p l e R s m args below meth c Q xs y K D A sa .ddiv := by
  intro pc len L st μ f φ ls H locs cells slots pc' L' st' μ' f' X hX hL hS hH hd h8 hc hs hF hl kk
  obtain ⟨rfl, h⟩ := ifs h8
  obtain ⟨x, w, t, rfl, hnn, hn⟩ := dd2_inv h
  obtain ⟨rfl, rfl, rfl, rfl, rfl⟩ := nx_inv hn
  exact lv_ddiv X.1 X.2.1 hd (nn64_of hnn) (kp hH kk hL (hS.tl.tl.cons trivial rfl))
theorem sn_dsub : SNg p l e R s m args below meth c Q xs y K D A sa .dsub := by
  intro pc len L st μ f φ ls H locs cells slots pc' L' st' μ' f' X hX hL hS hH hd h8 hc hs hF hl kk
  obtain ⟨rfl, h⟩ := ifs h8
  obtain ⟨x, w, t, rfl, hnn, hn⟩ := dd2_inv h
  obtain ⟨rfl, rfl, rfl, rfl, rfl⟩ := nx_inv hn
  exact lv_dsub X.1 X.2.1 hd (nn64_of hnn) (kp hH kk hL (hS.tl.tl.cons trivial rfl))
theorem sn_lcmp : SNg p l e R s m args below meth c Q xs y K D A sa .lcmp := by
  intro pc len L st μ f φ ls H locs cells slots pc' L' st' μ' f' X hX hL hS hH hd h8 hc hs hF hl kk
  obtain ⟨rfl, h⟩ := ifs h8
  split at h
  · obtain ⟨rfl, rfl, rfl, rfl, rfl⟩ := nx_inv h
    have q := kp hH kk hL (hS.tl.tl.cons (okV32 _ _) rfl)
    rw [List.map_cons, cv_of] at q
    exact W.lcmp X.1 X.2.1 hd q
  · cases h
theorem sn_dcmp (op : CmpOp) : SNg p l e R s m args below meth c Q xs y K D A sa (.dcmp op) := by
  intro pc len L st μ f φ ls H locs cells slots pc' L' st' μ' f' X hX hL hS hH hd h8 hc hs hF hl kk
  obtain ⟨rfl, h⟩ := ifs h8
  split at h
  · obtain ⟨rfl, rfl, rfl, rfl, rfl⟩ := nx_inv h
    have q := kp hH kk hL (hS.tl.tl.cons (okV32 _ _) rfl)
    rw [List.map_cons, cv_of] at q
    exact lv_dcmp X.1 X.2.1 hd q
  · cases h
theorem sn_iinc (k : Nat) (n : Int) : SNg p l e R s m args below meth c Q xs y K D A sa (.iinc k n) := by
  intro pc len L st μ f φ ls H locs cells slots pc' L' st' μ' f' X hX hL hS hH hd h8 hc hs hF hl kk
  obtain ⟨rfl, h⟩ := ifs h8
  split at h
  · rename_i x hx
    obtain ⟨rfl, rfl, rfl, rfl, rfl⟩ := nx_inv h
    have hi : k < L.length := (List.getElem?_eq_some_iff.mp hx).1
    have hm : (k, Value.int (i32 x)) ∈ lps φ L := lps_mem.mpr ⟨vi x, hx, rfl, rfl⟩
    obtain ⟨j, hj⟩ := List.getElem?_of_mem hm
    have hcat : k = 0 ∨ cat2 (L.getD (k - 1) vu) = false := by
      by_cases h0 : k = 0
      · exact Or.inl h0
      · right
        cases hq : cat2 (L.getD (k - 1) vu) with
        | false => rfl
        | true =>
          have h1 : k - 1 < L.length := by omega
          rw [List.getD_eq_getElem?_getD, List.getElem?_eq_getElem h1] at hq
          have hu : isU L[k - 1] = false := by
            generalize L[k - 1] = v at hq
            rcases v with z | (_ | a) | x | x | x
            · rfl
            · rfl
            · rfl
            · rfl
            · rfl
            · cases hq
          have h2 := hL.at (List.getElem?_eq_getElem h1) hu
          have h3 : (cv φ L[k - 1]).category = 2 := by
            generalize L[k - 1] = v at hq
            rcases v with z | (_ | a) | x | x | x
            · cases hq
            · cases hq
            · cases hq
            · rfl
            · rfl
            · cases hq
          have h4 := hL.1.2.1.1 _ _ h2 h3
          rw [show k - 1 + 1 = k by omega, hL.at hx rfl] at h4
          cases h4
    refine lv_iinc (v := i32 (wrp (x + n))) X.1 X.2.1 hd hL.1 hj (by rw [i32_wrp]; exact (Int32.ofInt_add _ _).symm) (by rw [← hL.2.1]; exact hi) rfl (fun ls' h' => kp hH kk (LR.st hL.2.1 hL.2.2 (okVw _ _) rfl hi hcat h') hS)
  · cases h
theorem sn_dup : SNg p l e R s m args below meth c Q xs y K D A sa .dup := by
  intro pc len L st μ f φ ls H locs cells slots pc' L' st' μ' f' X hX hL hS hH hd h8 hc hs hF hl kk
  obtain ⟨rfl, h⟩ := ifs h8
  split at h
  · rename_i v t
    obtain ⟨h1, h2⟩ := ifs h
    obtain ⟨rfl, rfl, rfl, rfl, rfl⟩ := nx_inv h2
    exact lv_dup X.1 X.2.1 hd (cat_cv h1.1) (kp hH kk hL (hS.cons hS.hd.1 hS.hd.2))
  · cases h
theorem sn_dup2 : SNg p l e R s m args below meth c Q xs y K D A sa .dup2 := by
  intro pc len L st μ f φ ls H locs cells slots pc' L' st' μ' f' X hX hL hS hH hd h8 hc hs hF hl kk
  obtain ⟨rfl, h⟩ := ifs h8
  split at h
  · rename_i v w t
    obtain ⟨h1, h2⟩ := ifs h
    obtain ⟨rfl, rfl, rfl, rfl, rfl⟩ := nx_inv h2
    exact lv_dup2_11 X.1 X.2.1 hd (cat_cv h1.1) (cat_cv h1.2.2.1) (kp hH kk hL ((hS.cons hS.tl.hd.1 hS.tl.hd.2).cons hS.hd.1 hS.hd.2))
  · cases h
theorem sn_pop : SNg p l e R s m args below meth c Q xs y K D A sa .pop := by
  intro pc len L st μ f φ ls H locs cells slots pc' L' st' μ' f' X hX hL hS hH hd h8 hc hs hF hl kk
  obtain ⟨rfl, h⟩ := ifs h8
  split at h
  · rename_i v t
    obtain ⟨h1, h2⟩ := ifs h
    obtain ⟨rfl, rfl, rfl, rfl, rfl⟩ := nx_inv h2
    exact lv_pop X.1 X.2.1 hd (cat_cv h1.1) (kp hH kk hL hS.tl)
  · cases h
theorem sn_goto (off : Int) : SNg p l e R s m args below meth c Q xs y K D A sa (.goto off) := by
  intro pc len L st μ f φ ls H locs cells slots pc' L' st' μ' f' X hX hL hS hH hd h8 hc hs hF hl kk
  obtain ⟨rfl, h⟩ := ifs h8
  obtain ⟨t, ht, hn⟩ := tg_inv h
  obtain ⟨rfl, rfl, rfl, rfl, rfl⟩ := nx_inv hn
  exact lv_goto X.1 X.2.1 hd ht (kp hH kk hL hS)
theorem r32_0 : -2147483648 ≤ (0 : Int) ∧ (0 : Int) < 2147483648 := ⟨by omega, by omega⟩
theorem sn_ifCond (cd : Jvm.ClassFile.Cond) (off : Int) : SNg p l e R s m args below meth c Q xs y K D A sa (.ifCond cd off) := by
  intro pc len L st μ f φ ls H locs cells slots pc' L' st' μ' f' X hX hL hS hH hd h8 hc hs hF hl kk
  obtain ⟨rfl, h⟩ := ifs h8
  split at h
  · rename_i x t
    have r := hS.hd.1
    have w := r32_0
    cases cd with
    | eq =>
      obtain ⟨tgt, ht, ⟨hb, hn⟩ | ⟨hb, hn⟩⟩ := br_inv h
      · obtain ⟨rfl, rfl, rfl, rfl, rfl⟩ := nx_inv hn
        exact lv_if_eq X.1 X.2.1 hd ht (fun _ => kp hH kk hL hS.tl) (fun q => absurd ((i32_eq r w).mpr hb) q)
      · obtain ⟨rfl, rfl, rfl, rfl, rfl⟩ := nx_inv hn
        exact lv_if_eq X.1 X.2.1 hd ht (fun q => absurd ((i32_eq r w).mp q) hb) (fun _ => kp hH kk hL hS.tl)
    | ne =>
      obtain ⟨tgt, ht, ⟨hb, hn⟩ | ⟨hb, hn⟩⟩ := br_inv h
      · obtain ⟨rfl, rfl, rfl, rfl, rfl⟩ := nx_inv hn
        exact lv_if_ne X.1 X.2.1 hd ht (fun _ => kp hH kk hL hS.tl) (fun q => absurd ((i32_eq r w).mp q) hb)
      · obtain ⟨rfl, rfl, rfl, rfl, rfl⟩ := nx_inv hn
        exact lv_if_ne X.1 X.2.1 hd ht (fun q => absurd ((i32_eq r w).mpr (Decidable.not_not.mp hb)) q) (fun _ => kp hH kk hL hS.tl)
    | lt =>
      obtain ⟨tgt, ht, ⟨hb, hn⟩ | ⟨hb, hn⟩⟩ := br_inv h
      · obtain ⟨rfl, rfl, rfl, rfl, rfl⟩ := nx_inv hn
        exact lv_if_lt X.1 X.2.1 hd ht (fun _ => kp hH kk hL hS.tl) (fun q => absurd ((i32_lt r w).mpr hb) q)
      · obtain ⟨rfl, rfl, rfl, rfl, rfl⟩ := nx_inv hn
        exact lv_if_lt X.1 X.2.1 hd ht (fun q => absurd ((i32_lt r w).mp q) hb) (fun _ => kp hH kk hL hS.tl)
    | ge =>
      obtain ⟨tgt, ht, ⟨hb, hn⟩ | ⟨hb, hn⟩⟩ := br_inv h
      · obtain ⟨rfl, rfl, rfl, rfl, rfl⟩ := nx_inv hn
        exact lv_if_ge X.1 X.2.1 hd ht (fun _ => kp hH kk hL hS.tl) (fun q => absurd ((i32_le w r).mpr hb) q)
      · obtain ⟨rfl, rfl, rfl, rfl, rfl⟩ := nx_inv hn
        exact lv_if_ge X.1 X.2.1 hd ht (fun q => absurd ((i32_le w r).mp q) hb) (fun _ => kp hH kk hL hS.tl)
    | gt =>
      obtain ⟨tgt, ht, ⟨hb, hn⟩ | ⟨hb, hn⟩⟩ := br_inv h
      · obtain ⟨rfl, rfl, rfl, rfl, rfl⟩ := nx_inv hn
        exact lv_if_gt X.1 X.2.1 hd ht (fun _ => kp hH kk hL hS.tl) (fun q => absurd ((i32_lt w r).mpr hb) q)
      · obtain ⟨rfl, rfl, rfl, rfl, rfl⟩ := nx_inv hn
        exact lv_if_gt X.1 X.2.1 hd ht (fun q => absurd ((i32_lt w r).mp q) hb) (fun _ => kp hH kk hL hS.tl)
    | le =>
      obtain ⟨tgt, ht, ⟨hb, hn⟩ | ⟨hb, hn⟩⟩ := br_inv h
      · obtain ⟨rfl, rfl, rfl, rfl, rfl⟩ := nx_inv hn
        exact lv_if_le X.1 X.2.1 hd ht (fun _ => kp hH kk hL hS.tl) (fun q => absurd ((i32_le r w).mpr hb) q)
      · obtain ⟨rfl, rfl, rfl, rfl, rfl⟩ := nx_inv hn
        exact lv_if_le X.1 X.2.1 hd ht (fun q => absurd ((i32_le r w).mp q) hb) (fun _ => kp hH kk hL hS.tl)
  · cases h
theorem sn_if_icmp (cd : Jvm.ClassFile.Cond) (off : Int) : SNg p l e R s m args below meth c Q xs y K D A sa (.if_icmp cd off) := by
  intro pc len L st μ f φ ls H locs cells slots pc' L' st' μ' f' X hX hL hS hH hd h8 hc hs hF hl kk
  obtain ⟨rfl, h⟩ := ifs h8
  split at h
  · rename_i z x t
    have r := hS.tl.hd.1
    have w := hS.hd.1
    cases cd with
    | eq =>
      obtain ⟨tgt, ht, ⟨hb, hn⟩ | ⟨hb, hn⟩⟩ := br_inv h
      · obtain ⟨rfl, rfl, rfl, rfl, rfl⟩ := nx_inv hn
        exact lv_icmp_eq X.1 X.2.1 hd ht (fun _ => kp hH kk hL hS.tl.tl) (fun q => absurd ((i32_eq r w).mpr hb) q)
      · obtain ⟨rfl, rfl, rfl, rfl, rfl⟩ := nx_inv hn
        exact lv_icmp_eq X.1 X.2.1 hd ht (fun q => absurd ((i32_eq r w).mp q) hb) (fun _ => kp hH kk hL hS.tl.tl)
    | ne =>
      obtain ⟨tgt, ht, ⟨hb, hn⟩ | ⟨hb, hn⟩⟩ := br_inv h
      · obtain ⟨rfl, rfl, rfl, rfl, rfl⟩ := nx_inv hn
        exact lv_icmp_ne X.1 X.2.1 hd ht (fun _ => kp hH kk hL hS.tl.tl) (fun q => absurd ((i32_eq r w).mp q) hb)
      · obtain ⟨rfl, rfl, rfl, rfl, rfl⟩ := nx_inv hn
        exact lv_icmp_ne X.1 X.2.1 hd ht (fun q => absurd ((i32_eq r w).mpr (Decidable.not_not.mp hb)) q) (fun _ => kp hH kk hL hS.tl.tl)
    | lt =>
      obtain ⟨tgt, ht, ⟨hb, hn⟩ | ⟨hb, hn⟩⟩ := br_inv h
      · obtain ⟨rfl, rfl, rfl, rfl, rfl⟩ := nx_inv hn
        exact lv_icmp_lt X.1 X.2.1 hd ht (fun _ => kp hH kk hL hS.tl.tl) (fun q => absurd ((i32_lt r w).mpr hb) q)
      · obtain ⟨rfl, rfl, rfl, rfl, rfl⟩ := nx_inv hn
        exact lv_icmp_lt X.1 X.2.1 hd ht (fun q => absurd ((i32_lt r w).mp q) hb) (fun _ => kp hH kk hL hS.tl.tl)
    | ge =>
      obtain ⟨tgt, ht, ⟨hb, hn⟩ | ⟨hb, hn⟩⟩ := br_inv h
      · obtain ⟨rfl, rfl, rfl, rfl, rfl⟩ := nx_inv hn
        exact lv_icmp_ge X.1 X.2.1 hd ht (fun _ => kp hH kk hL hS.tl.tl) (fun q => absurd ((i32_le w r).mpr hb) q)
      · obtain ⟨rfl, rfl, rfl, rfl, rfl⟩ := nx_inv hn
        exact lv_icmp_ge X.1 X.2.1 hd ht (fun q => absurd ((i32_le w r).mp q) hb) (fun _ => kp hH kk hL hS.tl.tl)
    | gt =>
      obtain ⟨tgt, ht, ⟨hb, hn⟩ | ⟨hb, hn⟩⟩ := br_inv h
      · obtain ⟨rfl, rfl, rfl, rfl, rfl⟩ := nx_inv hn
        exact lv_icmp_gt X.1 X.2.1 hd ht (fun _ => kp hH kk hL hS.tl.tl) (fun q => absurd ((i32_lt w r).mpr hb) q)
      · obtain ⟨rfl, rfl, rfl, rfl, rfl⟩ := nx_inv hn
        exact lv_icmp_gt X.1 X.2.1 hd ht (fun q => absurd ((i32_lt w r).mp q) hb) (fun _ => kp hH kk hL hS.tl.tl)
    | le =>
      obtain ⟨tgt, ht, ⟨hb, hn⟩ | ⟨hb, hn⟩⟩ := br_inv h
      · obtain ⟨rfl, rfl, rfl, rfl, rfl⟩ := nx_inv hn
        exact lv_icmp_le X.1 X.2.1 hd ht (fun _ => kp hH kk hL hS.tl.tl) (fun q => absurd ((i32_le r w).mpr hb) q)
      · obtain ⟨rfl, rfl, rfl, rfl, rfl⟩ := nx_inv hn
        exact lv_icmp_le X.1 X.2.1 hd ht (fun q => absurd ((i32_le r w).mp q) hb) (fun _ => kp hH kk hL hS.tl.tl)
  · cases h
theorem sn_ifnull (off : Int) : SNg p l e R s m args below meth c Q xs y K D A sa (.ifnull off) := by
  intro pc len L st μ f φ ls H locs cells slots pc' L' st' μ' f' X hX hL hS hH hd h8 hc hs hF hl kk
  obtain ⟨rfl, h⟩ := ifs h8
  split at h
  · obtain ⟨rfl, rfl, rfl, rfl, rfl⟩ := nx_inv h
    exact lv_ifnull X.1 X.2.1 hd (kp hH kk hL hS.tl)
  · obtain ⟨t, ht, hn⟩ := tg_inv h
    obtain ⟨rfl, rfl, rfl, rfl, rfl⟩ := nx_inv hn
    exact lv_ifnullN X.1 X.2.1 hd ht (kp hH kk hL hS.tl)
  · cases h
theorem sn_tableswitch (d lo hi : Int) (offs : Array Int) : SNg p l e R s m args below meth c Q xs y K D A sa (.tableswitch d lo hi offs) := by
  intro pc len L st μ f φ ls H locs cells slots pc' L' st' μ' f' X hX hL hS hH hd h8 hc hs hF hl kk
  have h : (match st with
    | .inl x :: r => if x < lo ∨ hi < x then tg pc d L r μ f else (match offs[(x - lo).toNat]? with
      | some off => tg pc off L r μ f
      | none => none)
    | _ => none) = some (.inl (pc', (L', (st', (μ', f'))))) := h8
  split at h
  · rename_i x t
    have r := hS.hd.1
    have e := i32_int r.1 r.2
    by_cases hq : x < lo ∨ hi < x
    · rw [if_pos hq] at h
      obtain ⟨tgt, ht, hn⟩ := tg_inv h
      obtain ⟨rfl, rfl, rfl, rfl, rfl⟩ := nx_inv hn
      exact lv_tableOut X.1 X.2.1 hd (by rw [e]; exact hq) ht (kp hH kk hL hS.tl)
    · rw [if_neg hq] at h
      split at h
      · rename_i off ho
        obtain ⟨tgt, ht, hn⟩ := tg_inv h
        obtain ⟨rfl, rfl, rfl, rfl, rfl⟩ := nx_inv hn
        exact lv_tableIn X.1 X.2.1 hd (by rw [e]; exact fun z => hq (Or.inl z)) (by rw [e]; exact fun z => hq (Or.inr z)) (by rw [e]; exact ho) ht (kp hH kk hL hS.tl)
      · cases h
  · cases h
end SN
