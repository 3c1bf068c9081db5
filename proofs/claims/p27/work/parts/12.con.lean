/-! EVERY METHOD'S CONTRACT -/
def NMx : List String := ["java/lang/RuntimeException", "java/lang/Exception"]
def exI (E : Nat) : Nat := match E with
  | 0 => 38
  | 1 => 52
  | _ => 80
def exC (E : Nat) : Nat := match E with
  | 0 => 42
  | 1 => 56
  | _ => 84
def xB (E : Nat) : List Cond := [.castable (eN E) (eN E), .declares (Bundle.initS "java/lang/RuntimeException"), .declares (Bundle.initS "java/lang/Exception"), .declares (Bundle.initS Bundle.tN)]
theorem xw0 : ∀ w ∈ (vx_atS RX3 (exC 0) (eN 0) NMx).filter goodWord, w ∈ lw_tbl := by decide +kernel
theorem xw1 : ∀ w ∈ (vx_atS RX3 (exC 1) (eN 1) NMx).filter goodWord, w ∈ lw_tbl := by decide +kernel
theorem xw2 : ∀ w ∈ (vx_atS RX3 (exC 2) (eN 2) NMx).filter goodWord, w ∈ lw_tbl := by decide +kernel
theorem xb0 : ∀ w ∈ (vx_atS RX3 (exC 0) (eN 0) NMx).filter (fun w => !goodWord w), w ∈ xB 0 := by decide +kernel
theorem xb1 : ∀ w ∈ (vx_atS RX3 (exC 1) (eN 1) NMx).filter (fun w => !goodWord w), w ∈ xB 1 := by decide +kernel
theorem xb2 : ∀ w ∈ (vx_atS RX3 (exC 2) (eN 2) NMx).filter (fun w => !goodWord w), w ∈ xB 2 := by decide +kernel
theorem xg0 : ∀ w ∈ Cond.classLink RX3 (exI 0) (eN 0) :: Cond.initialized (eN 0) :: vx_atS RX3 (exC 0) (eN 0) NMx, vx_ot w = true := by decide +kernel
theorem xg1 : ∀ w ∈ Cond.classLink RX3 (exI 1) (eN 1) :: Cond.initialized (eN 1) :: vx_atS RX3 (exC 1) (eN 1) NMx, vx_ot w = true := by decide +kernel
theorem xg2 : ∀ w ∈ Cond.classLink RX3 (exI 2) (eN 2) :: Cond.initialized (eN 2) :: vx_atS RX3 (exC 2) (eN 2) NMx, vx_ot w = true := by decide +kernel
theorem xf0 : Bundle.fit (eN 0) = true ∧ Bundle.fit (eN 1) = true ∧ Bundle.fit (eN 2) = true ∧ ∀ n ∈ NMx, Bundle.fit n = true := by decide +kernel
theorem xl : (Cond.classLink RX3 (exI 0) (eN 0) ∈ lw_tbl ∧ Cond.classLink RX3 (exI 1) (eN 1) ∈ lw_tbl ∧ Cond.classLink RX3 (exI 2) (eN 2) ∈ lw_tbl) ∧ (Cond.initialized (eN 0) ∈ lw_tbl ∧ Cond.initialized (eN 1) ∈ lw_tbl ∧ Cond.initialized (eN 2) ∈ lw_tbl) := by decide +kernel
theorem lt3 {P : Nat → Prop} (h0 : P 0) (h1 : P 1) (h2 : P 2) : ∀ {E : Nat}, E < 3 → P E
  | 0, _ => h0
  | 1, _ => h1
  | 2, _ => h2
  | n + 3, h => absurd h (by omega)
theorem gd_of {w : Cond} (h : w ∈ lw_tbl) (h2 : goodWord w = true) : w ∈ lw_gd := List.mem_filter.mpr ⟨h, h2⟩
theorem xW {E : Nat} (h : E < 3) : (∀ w ∈ (vx_atS RX3 (exC E) (eN E) NMx).filter goodWord, w ∈ lw_gd) ∧ (∀ w ∈ (vx_atS RX3 (exC E) (eN E) NMx).filter (fun w => !goodWord w), w ∈ xB E) ∧
    (∀ w ∈ Cond.classLink RX3 (exI E) (eN E) :: Cond.initialized (eN E) :: vx_atS RX3 (exC E) (eN E) NMx, vx_ot w = true) ∧ Bundle.fit (eN E) = true ∧ Cond.classLink RX3 (exI E) (eN E) ∈ lw_gd ∧ Cond.initialized (eN E) ∈ lw_gd := by
  refine lt3 (P := fun E => (∀ w ∈ (vx_atS RX3 (exC E) (eN E) NMx).filter goodWord, w ∈ lw_gd) ∧ (∀ w ∈ (vx_atS RX3 (exC E) (eN E) NMx).filter (fun w => !goodWord w), w ∈ xB E) ∧
    (∀ w ∈ Cond.classLink RX3 (exI E) (eN E) :: Cond.initialized (eN E) :: vx_atS RX3 (exC E) (eN E) NMx, vx_ot w = true) ∧ Bundle.fit (eN E) = true ∧ Cond.classLink RX3 (exI E) (eN E) ∈ lw_gd ∧ Cond.initialized (eN E) ∈ lw_gd) ?_ ?_ ?_ h
  · exact ⟨fun w hw => gd_of (xw0 w hw) (List.mem_filter.mp hw).2, xb0, xg0, xf0.1, gd_of xl.1.1 rfl, gd_of xl.2.1 rfl⟩
  · exact ⟨fun w hw => gd_of (xw1 w hw) (List.mem_filter.mp hw).2, xb1, xg1, xf0.2.1, gd_of xl.1.2.1 rfl, gd_of xl.2.2.1 rfl⟩
  · exact ⟨fun w hw => gd_of (xw2 w hw) (List.mem_filter.mp hw).2, xb2, xg2, xf0.2.2.1, gd_of xl.1.2.2 rfl, gd_of xl.2.2.2 rfl⟩
def xChk (e : Nat × (Nat × (Nat × (Nat × (Nat × (Nat × (Nat × Nat))))))) : Bool :=
  Nat.beq (mO e.1) 3 && ((mH e.1).isEmpty && (Nat.blt e.2.2.1 3 && (Nat.beq e.2.2.2.1 (exI e.2.2.1) && (Nat.beq e.2.2.2.2.2.1 (exC e.2.2.1) && (Nat.beq e.2.2.2.2.1 (txtI e.2.2.2.2.2.2.1) && (Nat.blt e.2.2.2.2.2.2.1 21 &&
  (decide (decode (mB e.1) e.2.1 = .ok (.new e.2.2.2.1, 3)) && (decide (decode (mB e.1) (e.2.1 + 3) = .ok (.dup, 1)) && (if e.2.2.2.2.2.2.2 = 0 then
    decide (decode (mB e.1) (e.2.1 + 4) = .ok (.ldc e.2.2.2.2.1, 2)) && (decide (decode (mB e.1) (e.2.1 + 6) = .ok (.invokespecial e.2.2.2.2.2.1, 3)) && decide (decode (mB e.1) (e.2.1 + 9) = .ok (.athrow, 1)))
    else decide (decode (mB e.1) (e.2.1 + 4) = .ok (.ldc_w e.2.2.2.2.1, 3)) && (decide (decode (mB e.1) (e.2.1 + 7) = .ok (.invokespecial e.2.2.2.2.2.1, 3)) && decide (decode (mB e.1) (e.2.1 + 10) = .ok (.athrow, 1))))))))))))
theorem xTab_ok : xTab.all xChk = true := by decide +kernel
section CO
variable {p : Program} {l : Launch} {e : Env} {R : Room} {s : State} {m : MethodId} {args : Array Value} {below : List Frame} {meth : Method} {c : Code} {H : Heap} {locs : List Loc} {cells slots : Nat} {Q : State → Prop}
variable {xs : List Int} {y : Nat} {K : KI} {D : va_G} {A : Nat → Prop} {sa : Nat → Nat} {φ : Nat → Nat} {f : AH} {μ : Mu} {L st : List AV} {ls : Array Slot}
theorem cat_cv_2 {φ : Nat → Nat} {v : AV} (h : cat2 v = true) : (cv φ v).category = 2 := by
  rcases v with z | (_ | a) | x | x | x
  · cases h
  · cases h
  · cases h
  · rfl
  · rfl
  · cases h
theorem lay_args (φ : Nat → Nat) : ∀ (as : List AV) (base i : Nat) (v : AV), (lay as)[i]? = some v → isU v = false → (base + i, cv φ v) ∈ lv_args base (as.map (cv φ)) := by
  intro as
  induction as with
  | nil => intro base i v h _; simp [lay] at h
  | cons w as ih =>
    intro base i v h hu
    have e : lay (w :: as) = (if cat2 w then [w, vu] else [w]) ++ lay as := rfl
    rw [e] at h
    show (base + i, cv φ v) ∈ (base, cv φ w) :: lv_args (if (cv φ w).category = 2 then base + 2 else base + 1) (as.map (cv φ))
    cases hc : cat2 w with
    | true =>
      rw [hc] at h
      rw [if_pos (cat_cv_2 hc)]
      match i, h with
      | 0, h => cases h; exact List.mem_cons_self
      | 1, h => cases h; cases hu
      | i + 2, h =>
        have q := ih (base + 2) i v h hu
        rw [show base + (i + 2) = base + 2 + i by omega]
        exact List.mem_cons_of_mem _ q
    | false =>
      rw [hc] at h
      rw [if_neg (by rw [cat_cv hc]; omega)]
      match i, h with
      | 0, h => cases h; exact List.mem_cons_self
      | i + 1, h =>
        have q := ih (base + 1) i v h hu
        rw [show base + (i + 1) = base + 1 + i by omega]
        exact List.mem_cons_of_mem _ q
theorem lay_len (φ : Nat → Nat) : ∀ as : List AV, (lg_sl (as.map (cv φ))).length = (lay as).length := by
  intro as
  induction as with
  | nil => rfl
  | cons w as ih =>
    show ((if (cv φ w).category = 2 then [Slot.val (cv φ w), .second] else [.val (cv φ w)]) ++ lg_sl (as.map (cv φ))).length = ((if cat2 w then [w, vu] else [w]) ++ lay as).length
    rw [List.length_append, List.length_append, ih]
    cases hc : cat2 w with
    | true => rw [if_pos (cat_cv_2 hc)]; rfl
    | false => rw [if_neg (by rw [cat_cv hc]; omega)]; rfl
theorem LR_entry {n : Nat} {as : List AV} (hA : okArg y as = true) (ho : okS n as) {ls : Array Slot} (h : lv_has ls (mL y) (lv_args 0 (as.map (cv φ)))) : LR φ n (mL y) (ini y as) ls := by
  have hA := Nat.le_of_ble_eq_true hA
  refine ⟨lv_mono h fun q hq => ?_, by unfold ini; rw [List.length_append, List.length_replicate]; omega, fun v hv => ?_⟩
  · obtain ⟨i, w⟩ := q
    obtain ⟨v, h1, h2, rfl⟩ := lps_mem.mp hq
    unfold ini at h1
    by_cases hi : i < (lay as).length
    · rw [List.getElem?_append_left hi] at h1
      have q := lay_args φ as 0 i v h1 h2
      rw [Nat.zero_add] at q
      exact q
    · rw [List.getElem?_append_right (by omega)] at h1
      have q := List.eq_of_mem_replicate (List.mem_of_getElem? h1)
      subst q
      cases h2
  · unfold ini at hv
    rcases List.mem_append.mp hv with hv | hv
    · obtain ⟨w, hw, hv⟩ := List.mem_flatMap.mp hv
      split at hv
      · rcases List.mem_cons.mp hv with rfl | hv
        · exact (ho _ hw).1
        · rcases List.mem_cons.mp hv with rfl | hv
          · trivial
          · cases hv
      · rcases List.mem_cons.mp hv with rfl | hv
        · exact (ho _ hw).1
        · cases hv
    · rw [List.eq_of_mem_replicate hv]; trivial
theorem con_body {k : Nat} (hl : l.stackTraces = false) (hW : Walk l xs k) {y : Nat} (h0 : 0 < y) (h : y < 83) {as : List AV} {o : Out} {μ' : Mu} {f' : AH} (hx : exec xs k y 0 (ini y as) [] μ f = some (o, (μ', f'))) (hA : okArg y as = true) (hS : okS μ.1 as) (hH : okH μ.1 f) {sz : Nat}
    {s₁ : State} {hh : Room} (hroom : hh = { frames := rF y, cells := μ'.2.1 - μ.2.1, slots := μ'.2.2 - μ.2.2, locals := rL y }) (B : BodyLoose p l (mN y) (headSpec (mW y) hh) (mB y) (mL y) (mR y) e s m args below meth c s₁) (hml : c.maxLocals = mL y) (ht : c.exceptionTable.toList = tableOf (mH y)) (hP : va_Pc (as.map (cv φ)) (Bef xs K D φ f μ.1 sz sa) args s) :
    W p l e (headSpec (mW y) hh).room s m args below meth c s.heap [] 0 0 (vx_MQ below (CQ K D φ μ.1 o f' μ'.1 (va_A (wld K φ f μ.1) sz)) (CE K D φ μ.1 o f' μ'.1 (va_A (wld K φ f μ.1) sz)) args s (μ'.2.1 - μ.2.1) (μ'.2.2 - μ.2.2) (va_A (wld K φ f μ.1) sz)) (entryFrame m args (mL y)) := by
  obtain ⟨rfl, rfl, hP1, hK, hD, hG, hXs⟩ := hP
  obtain ⟨z1, z2, z3, z4⟩ := mChk_at h0 h
  have hts := atoms_spec (ws := mW y) B.pre
  have X : CX p s m (as.map (cv φ)).toArray meth c y K D (va_A (wld K φ f μ.1) s.heap.size) sa := ⟨B.exec, B.bytes, hml, by rw [← z2]; exact findClass_of_methodNamed B.named, fun w hw => hts w (List.mem_cons_of_mem _ hw), hK, fun q hq => Or.inr hq, B.notSynchronized, hG, fun h9 => (name_of_methodNamed B.named B.method).1.trans h9, B.returns⟩
  have hlen : (lg_sl (as.map (cv φ))).length ≤ mL y := by rw [lay_len]; exact Nat.le_of_ble_eq_true hA
  have hlv := lv_entry (as.map (cv φ)) (n := mL y) hlen
  rw [lg_entry_eq]
  generalize (lg_sl (as.map (cv φ)) ++ List.replicate (mL y - (lg_sl (as.map (cv φ))).length) Slot.unset).toArray = ls at hlv ⊢
  have hR : RH K D (va_A (wld K φ f μ.1) s.heap.size) s φ f μ.1 s.heap [] := ⟨hP1, hD.self, va_S.rf, hH⟩
  subst hroom
  refine hW p e _ s m _ below meth c _ y K D _ sa X (fun _ => ht) (Nat.le_refl _) (Nat.le_refl _) 0 (ini y as) [] μ f φ ls s.heap [] 0 0 o μ' f' (μ'.2.1 - μ.2.1) (μ'.2.2 - μ.2.2) hXs (LR_entry hA hS hlv) (fun v hv => absurd hv List.not_mem_nil) hR hx (by omega) (by omega) (Nat.le_refl _) (Nat.le_refl _) ?_ ?_ ?_
  · intro pc2 i v ψ ls2 H2 locs2 ho he hR2 hok hd hr
    have fin : ∀ t : State, t.heap = H2 → s.WarmedH t.vm → CQ K D φ μ.1 o f' μ'.1 (va_A (wld K φ f μ.1) s.heap.size) (as.map (cv φ)).toArray s (.returned (v.map (cv ψ))) t := fun t ht _ => ⟨v, ψ, ho, rfl, hok, he, by rw [ht]; exact hR2.1, hR2.2.1, hR2.2.2.2, hR2.2.2.1.F ht⟩
    unfold retI at hr
    split at hr
    · obtain ⟨rfl, hr⟩ := hr
      exact vx_ret (W.vret X.1 X.2.1 (X.2.2.2.2.2.2.2.2.2.2.trans hr) fin hR2.2.2.1.2.2 hd X.2.2.2.2.2.2.2.1)
    · rename_i x
      obtain ⟨rfl, hr⟩ := hr
      rcases hr with hr | ⟨hr, hx9⟩
      · exact vx_ret (W.iret X.1 X.2.1 (X.2.2.2.2.2.2.2.2.2.2.trans hr) fin hR2.2.2.1.2.2 hd X.2.2.2.2.2.2.2.1)
      · exact vx_ret (W.zret X.1 X.2.1 (X.2.2.2.2.2.2.2.2.2.2.trans hr) (by rcases hx9 with rfl | rfl <;> rfl) fin hR2.2.2.1.2.2 hd X.2.2.2.2.2.2.2.1)
    · obtain ⟨rfl, hr⟩ := hr
      exact vx_ret (W.lret X.1 X.2.1 (X.2.2.2.2.2.2.2.2.2.2.trans hr) fin hR2.2.2.1.2.2 hd X.2.2.2.2.2.2.2.1)
    · obtain ⟨rfl, hr, hn⟩ := hr
      exact vx_ret (W.dret X.1 X.2.1 (X.2.2.2.2.2.2.2.2.2.2.trans hr) fin hR2.2.2.1.2.2 hd X.2.2.2.2.2.2.2.1)
    · exact hr.elim
  · intro pc2 E r ψ ls2 H2 locs2 c2 s2 ho he hR2 hsz hk h6 h100 hc2 hs2
    have h1 := List.all_eq_true.mp xTab_ok _ (lk_mem hk)
    obtain ⟨ik, is, ic, tx, w⟩ := r
    unfold xChk at h1
    simp only [Bool.and_eq_true, Nat.blt_eq, decide_eq_true_eq] at h1
    obtain ⟨a1, a2, a3, a4, a5, a6, a7, a8, a9, a10⟩ := h1
    have a1 : mO y = 3 := Nat.eq_of_beq_eq_true a1
    have a4 : ik = exI E := Nat.eq_of_beq_eq_true a4
    have a5 : ic = exC E := Nat.eq_of_beq_eq_true a5
    have a6 : is = txtI tx := Nat.eq_of_beq_eq_true a6
    subst a4; subst a5; subst a6
    obtain ⟨b1, b2, b3, b4, b5, b6⟩ := xW a3
    have hown : s.vm.findClass RX3 = some m.cls := by have z := X.2.2.2.1; rw [a1] at z; exact z
    have htab : c.exceptionTable.toList = [] := by rw [ht, List.isEmpty_iff.mp a2]; rfl
    have hat : ∀ w ∈ vx_atS RX3 (exC E) (eN E) NMx, w.before (as.map (cv φ)).toArray s = true := vx_hat (B := xB E) (fun w hw => X.2.2.2.2.1 w (b1 w hw)) b2 (vx_c ((hG.2.2.1.1 E).use rfl) (vx_c ((hG.2.2.1.2 _ (by simp [NMd])).use rfl) (vx_c ((hG.2.2.1.2 _ (by simp [NMd])).use rfl) (vx_c ((hG.2.2.1.2 _ (by simp [NMd])).use rfl) vx_n))))
    have fin : ∀ t : State, s.vm.Alike t.vm → H2.size ≤ t.heap.size → (∀ q : Nat, q < H2.size → t.heap[q]? = H2[q]?) → CE K D φ μ.1 o f' μ'.1 (va_A (wld K φ f μ.1) s.heap.size) (eN E) s t := fun t _ h1 h2 =>
      ⟨E, ψ, ho, rfl, he, hR2.1.kept (fun k q hq => h2 _ (hR2.1 k q hq).lt), hR2.2.1, hR2.2.2.2, Nat.le_trans hR2.2.2.1.1 h1, fun q q1 q2 => (h2 q (Nat.lt_of_lt_of_le q1 hR2.2.2.1.1)).trans (hR2.2.2.1.2.1 q q1 q2)⟩
    split at a10
    · simp only [Bool.and_eq_true, decide_eq_true_eq] at a10
      exact vx_throwS (names := NMx) (text := txt tx) (sa := sa tx) X.1 X.2.1 hl hown b4 xf0.2.2.2 (X.2.2.2.2.1 _ b5) (X.2.2.2.2.1 _ b6) (hG.2.1 tx a7) hat b3 hG.1.1 hG.1.2 hR2.2.2.1 (hsz.trans X.2.2.1.symm) a8 a9 a10.1 a10.2.1 a10.2.2 (fun x hx => by rw [htab] at hx; cases hx) (by show 2 + 3 < rF y; omega) (by show 0 + (13 * (2 + 1) + 43) ≤ rL y; omega) (by show c2 + 1 ≤ μ'.2.1 - μ.2.1; omega) (by show s2 + 6 ≤ μ'.2.2 - μ.2.2; omega) X.2.2.2.2.2.2.2.1 fin hR2.2.2.1.2.2 (by omega) (by omega)
    · simp only [Bool.and_eq_true, decide_eq_true_eq] at a10
      exact vx_throwSW (names := NMx) (text := txt tx) (sa := sa tx) X.1 X.2.1 hl hown b4 xf0.2.2.2 (X.2.2.2.2.1 _ b5) (X.2.2.2.2.1 _ b6) (hG.2.1 tx a7) hat b3 hG.1.1 hG.1.2 hR2.2.2.1 (hsz.trans X.2.2.1.symm) a8 a9 a10.1 a10.2.1 a10.2.2 (fun x hx => by rw [htab] at hx; cases hx) (by show 2 + 3 < rF y; omega) (by show 0 + (13 * (2 + 1) + 43) ≤ rL y; omega) (by show c2 + 1 ≤ μ'.2.1 - μ.2.1; omega) (by show s2 + 6 ≤ μ'.2.2 - μ.2.2; omega) X.2.2.2.2.2.2.2.1 fin hR2.2.2.1.2.2 (by omega) (by omega)
  · intro pc2 E q ce ψ ls2 rest H2 locs2 ho hem he hR2 hce hcv hcl
    have htab : c.exceptionTable.toList = [] := by rw [ht, List.isEmpty_iff.mp hem]; rfl
    exact vx_out (fun x hx => by rw [htab] at hx; cases hx) X.2.2.2.2.2.2.2.1 hce hcv hcl (fun t ht9 _ => ⟨E, ψ, ho, rfl, he, by rw [ht9]; exact hR2.1, hR2.2.1, hR2.2.2.2, hR2.2.2.1.F ht9⟩) hR2.2.2.1.2.2 (Nat.le_refl _) (Nat.le_refl _)
theorem con_of {k : Nat} (hl : l.stackTraces = false) (hW : Walk l xs k) : Con l xs k := by
  intro y h0 h as μ f o μ' f' hx hA hS hH K D φ sz sa
  obtain ⟨z1, z2, z3, z4⟩ := mChk_at h0 h
  cases hE : (mH y).isEmpty with
  | true =>
    refine vx_ofW (cc := mB y) (maxL := mL y) (ret := mR y) z1 (ws' := lw_gd) (by show mCode y :: lw_gd = _; rw [mCode_plain hE]) ?_
    intro p e s m args below meth c s₁ B hml htab hP
    refine con_body hl hW h0 h hx hA hS hH rfl B hml ?_ hP
    have e1 : c.exceptionTable.toList = [] := by
      cases hq : c.exceptionTable.toList with
      | nil => rfl
      | cons x r => exact (htab x (by rw [hq]; exact List.mem_cons_self)).elim
    rw [e1, List.isEmpty_iff.mp hE]; rfl
  | false =>
    refine vx_ofWH (cc := mB y) (maxL := mL y) (ret := mR y) (hh := mH y) z1 (ws' := lw_gd) (by show mCode y :: lw_gd = _; rw [mCode_hand hE]) ?_
    intro p e s m args below meth c s₁ B hml hP
    have hts := atoms_spec (ws := mW y) B.pre
    have hw := hts (mCode y) List.mem_cons_self
    rw [mCode_hand hE] at hw
    exact con_body hl hW h0 h hx hA hS hH rfl B hml (vx_table (x := mN y) B hw) hP
theorem walk_all (hl : l.stackTraces = false) (xs : List Int) : ∀ k, Walk l xs k
  | 0 => fun p e R s m args below meth c Q y K D A sa X ht hF hl pc L st μ f φ ls H locs cells slots o μ' f' C S hX hL hS hH hx => by cases hx
  | k + 1 => walk_step k (con_of hl (walk_all hl xs k)) (walk_all hl xs k)
end CO
