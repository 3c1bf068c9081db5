/-! ONE INSTRUCTION THAT MAKES A CELL, OR CALLS THE JDK -/
section SA
variable {p : Program} {l : Launch} {e : Env} {R : Room} {s : State} {m : MethodId} {args : Array Value} {below : List Frame} {meth : Method} {c : Code} {H : Heap} {locs : List Loc} {cells slots : Nat} {Q : State → Prop}
variable {xs : List Int} {y : Nat} {K : KI} {D : va_G} {A : Nat → Prop} {sa : Nat → Nat} {φ : Nat → Nat} {f : AH} {μ : Mu} {L st : List AV} {ls : Array Slot} {pc' : Nat}
theorem kn {L' st' : List AV} {n ms q pc1 : Nat} {c1 : AC} {H1 : Heap} {locs1 : List Loc} (hL : LR φ n (mL y) L' ls) (hS : okS n st') (ho : okH n f) (hc : okC (n + 1) c1)
    (h1 : va_P D vwCl (wld K φ f n ++ [(q, ce K (aupN φ (n + 1) q) c1)]) H1) (h2 : va_D A (wld K φ f n ++ [(q, ce K (aupN φ (n + 1) q) c1)])) (h3 : va_S A s.heap H1 locs1)
    (kk : ∀ (φ' : Nat → Nat) (ls' : Array Slot) (H' : Heap) (locs' : List Loc), ext n φ φ' → LR φ' (n + 1) (mL y) L' ls' → okS (n + 1) (vr (n + 1) :: st') → RH K D A s φ' (aup f (n + 1) c1) (n + 1) H' locs' → n ≤ n + 1 →
      W p l e R s m args below meth c H' locs' (cells + 1) (slots + ms) Q (F0 m pc1 ls' ((vr (n + 1) :: st').map (cv φ')))) :
    W p l e R s m args below meth c H1 locs1 (cells + 1) (slots + ms) Q (F0 m pc1 ls (.ref q :: st'.map (cv φ))) := by
  rw [wld_new ho] at h1 h2
  have e1 := aupN_ext φ n q
  have k := kk (aupN φ (n + 1) q) ls H1 locs1 e1 (hL.ext e1 (by omega)) (okS.cons (v := vr (n + 1)) (fun v hv => ⟨(hS v hv).1.up (by omega), (hS v hv).2⟩) (Nat.le_refl (n + 1)) rfl) ⟨h1, h2, h3, okH_new ho hc⟩ (by omega)
  rw [List.map_cons, cvs_ext e1 hS, show cv (aupN φ (n + 1) q) (vr (n + 1)) = .ref q by show Value.ref (aupN φ (n + 1) q (n + 1)) = _; simp [aupN]] at k
  exact k
theorem arrId {t : FieldType} {cA : ClassId} {T0 : List (ClassId × FieldType)} (hK : va_K D vwCl (T0 ++ [(cA, t)]) s) : va_RA s cA t := (hK.2 T0.length (cA, t) (by rw [List.getElem?_append_right (Nat.le_refl _), Nat.sub_self]; rfl)).2
theorem oW : Cond.instanceMethod Lib.objectInit ∈ lw_gd ∧ Cond.code Lib.objectInit ⟨#[0xb1]⟩ 1 none ∈ lw_gd ∧ Cond.static Lib.Math.min.name ∈ lw_gd ∧ Cond.initialized "java/lang/Math" ∈ lw_gd ∧ Cond.code Lib.Math.min.name Lib.Math.min.code 2 (some .int) ∈ lw_gd ∧ Cond.native arraycopyName ∈ lw_gd ∧ Cond.static arraycopyName ∈ lw_gd ∧ Cond.initialized "java/lang/System" ∈ lw_gd ∧ Cond.arrayClass .int ∈ lw_gd := by
  have h := oWords
  simp only [Bool.and_eq_true] at h
  obtain ⟨a1, a2, a3, a4, a5, a6, a7, a8, a9⟩ := h
  exact ⟨inG_mem a1, inG_mem a2, inG_mem a3, inG_mem a4, inG_mem a5, inG_mem a6, inG_mem a7, inG_mem a8, inG_mem a9⟩
theorem i32_nn {n : Int} (h : 0 ≤ n) (h2 : n < 2147483648) : ¬ i32 n < 0 := by
  rw [Int32.lt_iff_toInt_lt, i32_int (by omega) h2]
  show ¬ n < 0
  omega
theorem okC_i0 (n k : Nat) (h : k ≤ 100000) : okC n (iC (List.replicate k 0)) := ⟨fun x hx => by rw [List.eq_of_mem_replicate hx]; exact r32_0, by rw [List.length_replicate]; omega⟩
theorem ce_i0 (φ : Nat → Nat) (k : Nat) : ce K φ (iC (List.replicate k 0)) = .inl (K.1, k, .inl (fun _ => 0)) := by
  show Sum.inl (K.1, (List.replicate k (0 : Int)).length, Sum.inl (fun j => i32 ((List.replicate k 0).getD j 0))) = _
  rw [List.length_replicate]
  have e : (fun j => i32 ((List.replicate k (0 : Int)).getD j 0)) = fun _ => 0 := by
    funext j
    rw [List.getD_eq_getElem?_getD, List.getElem?_replicate]
    split <;> rfl
  rw [e]
theorem ce_l0 (φ : Nat → Nat) (k : Nat) : ce K φ (lC (List.replicate k 0)) = .inl (K.2.2, k, .inr (.inl (fun _ => 0))) := by
  show Sum.inl (K.2.2, (List.replicate k (0 : Int64)).length, Sum.inr (Sum.inl (fun j => (List.replicate k 0).getD j 0))) = _
  rw [List.length_replicate]
  have e : (fun j => (List.replicate k (0 : Int64)).getD j 0) = fun _ => 0 := by
    funext j
    rw [List.getD_eq_getElem?_getD, List.getElem?_replicate]
    split <;> rfl
  rw [e]
theorem ce_q0 (φ : Nat → Nat) (k : Nat) : ce K φ (rC (List.replicate k none)) = .inl (K.2.1, k, .inr (.inr (.inr (.inr (fun _ => none))))) := by
  show Sum.inl (K.2.1, (List.replicate k (none : Option Nat)).length, Sum.inr (Sum.inr (Sum.inr (Sum.inr (fun j => ((List.replicate k none).getD j none).map φ))))) = _
  rw [List.length_replicate]
  have e : (fun j => ((List.replicate k (none : Option Nat)).getD j none).map φ) = fun _ => none := by
    funext j
    rw [List.getD_eq_getElem?_getD, List.getElem?_replicate]
    split <;> rfl
  rw [e]
theorem sn_newarray (t : ArrayType) : SNg p l e R s m args below meth c Q xs y K D A sa (.newarray t) := by
  intro pc len L st μ f φ ls H locs cells slots pc' L' st' μ' f' X hX hL hS hH hd h8 hc hs hF hl kk
  obtain ⟨rfl, h⟩ := ifs h8
  split at h
  · rename_i n r
    obtain ⟨hn, h⟩ := ifs h
    split at h
    · obtain ⟨rfl, rfl, rfl, rfl, rfl⟩ := nx_inv h
      dsimp only at hc hs kk
      simp only [Nat.add_sub_cancel_left] at hc hs kk
      refine va_newa (atype := .int) (a0 := (n.toNat, .inl (fun _ => 0))) X.1 X.2.1 (X.2.2.2.2.1 _ oW.2.2.2.2.2.2.2.2) rfl X.2.2.2.2.2.1 hH.1 hH.2.1 hH.2.2.1 X.2.2.2.2.2.2.1 (fun cA => rfl) (i32_nn hn.1 (by omega)) (i32_nat hn.1 (by omega)) (by show n.toNat * 4 ≤ _; omega) hc hs hd (fun q cA H1 k1 h1 h2 h3 => ?_)
      have e1 : va_RA s cA .int := arrId k1
      have e2 := (X.2.2.2.2.2.1.2 0 _ rfl).2
      have e1 : s.vm.findClass "[I" = some cA := e1
      have e2 : s.vm.findClass "[I" = some K.1 := e2
      have e3 : K.1 = cA := Option.some.inj (e2.symm.trans e1)
      subst e3
      rw [← ce_i0 (aupN φ (μ.1 + 1) q)] at h1 h2
      exact kn hL hS.tl hH.2.2.2 (okC_i0 _ _ (by omega)) h1 h2 h3 kk
    · cases h
  · cases h
theorem cTab_in {o k ci q1 q2 : Nat} (h : lk cTab o k = some (ci, (q1, q2))) : Cond.classLink (cN o) k (cN ci) ∈ lw_gd ∧ Cond.instantiable (cN ci) (cF ci) ∈ lw_gd ∧ ci < 5 := by
  have h1 := List.all_eq_true.mp cTab_ok _ (lk_mem h)
  simp only [Bool.and_eq_true] at h1
  obtain ⟨a, b, c⟩ := h1
  exact ⟨inG_mem a, inG_mem b, by simpa [Nat.blt_eq] using c⟩
theorem ini_in {o : Nat} (h : o < 6) : Cond.initialized (cN o) ∈ lw_gd := inG_mem (List.all_eq_true.mp ini_all o (List.mem_range.mpr h))
theorem sn_anewarray (k : Nat) : SNg p l e R s m args below meth c Q xs y K D A sa (.anewarray k) := by
  intro pc len L st μ f φ ls H locs cells slots pc' L' st' μ' f' X hX hL hS hH hd h8 hc hs hF hl kk
  obtain ⟨rfl, h⟩ := ifs h8
  split at h
  · rename_i n r q hk
    obtain ⟨hn, h⟩ := ifs h
    obtain ⟨rfl, rfl, rfl, rfl, rfl⟩ := nx_inv h
    dsimp only at hc hs kk
    simp only [Nat.add_sub_cancel_left] at hc hs kk
    obtain ⟨w1, w2, w3⟩ := cTab_in (q1 := q.1) (q2 := q.2) hk
    refine va_newq (C := RX1) X.1 X.2.1 X.2.2.2.1 (X.2.2.2.2.1 _ w1) X.2.2.2.2.2.2.2.2.1.2.2.2.2.1 X.2.2.2.2.2.1 hH.1 hH.2.1 hH.2.2.1 X.2.2.2.2.2.2.1 (i32_nn hn.1 (by omega)) (i32_nat hn.1 (by omega)) (by omega) hc hs hd (fun q cA H1 k1 h1 h2 h3 => ?_)
    have e1 : va_RA s cA (.object RX1) := arrId k1
    have e2 := (X.2.2.2.2.2.1.2 1 _ rfl).2
    obtain ⟨-, -, -, -, -, e1⟩ := e1
    obtain ⟨-, -, -, -, -, e2⟩ := e2
    have e3 : K.2.1 = cA := Option.some.inj (e2.symm.trans e1)
    subst e3
    rw [← ce_q0 (aupN φ (μ.1 + 1) q)] at h1 h2
    exact kn hL hS.tl hH.2.2.2 (show okC _ (rC (List.replicate n.toNat none)) from ⟨(fun a ha => nomatch (List.eq_of_mem_replicate ha)), by rw [List.length_replicate]; omega⟩) h1 h2 h3 kk
  · cases h
theorem dfs_ok {ci n : Nat} (h : ci < 5) : okC n (oC ci (dfs ci)) := by
  refine ⟨h, by simp [dfs], fun v hv => ?_⟩
  obtain ⟨k, -, rfl⟩ := List.mem_map.mp hv
  unfold dfl
  split
  · exact ⟨r32_0, rfl⟩
  · exact ⟨trivial, rfl⟩
  · exact ⟨trivial, rfl⟩
theorem dfs_V {ci : Nat} (h : ci < 5) (φ : Nat → Nat) : ∀ j, j < cF ci → defaultValue (cY ci j) = vp_V ((dfs ci).map (cv φ)) j := by
  intro j hj
  have e : vp_V ((dfs ci).map (cv φ)) j = cv φ (dfl (cY ci j)) := by
    unfold vp_V dfs
    rw [List.getD_eq_getElem?_getD, List.getElem?_map, List.getElem?_map, List.getElem?_range hj]
    rfl
  rw [e]
  have all : ∀ j, j < cF ci → (cY ci j = .int ∨ cY ci j = .long ∨ (∃ C, cY ci j = .object C) ∨ ∃ C, cY ci j = .array C) := by
    refine lt5 (P := fun ci => ∀ j, j < cF ci → (cY ci j = .int ∨ cY ci j = .long ∨ (∃ C, cY ci j = .object C) ∨ ∃ C, cY ci j = .array C)) ?_ ?_ ?_ ?_ ?_ h
    · intro j _; exact Or.inr (Or.inr (Or.inr ⟨_, rfl⟩))
    · intro j _
      show tyX1 j = _ ∨ tyX1 j = _ ∨ (∃ C, tyX1 j = _) ∨ ∃ C, tyX1 j = _
      unfold tyX1
      split <;> first | exact Or.inl rfl | exact Or.inr (Or.inr (Or.inl ⟨_, rfl⟩))
    · intro j _
      show tyX2 j = _ ∨ tyX2 j = _ ∨ (∃ C, tyX2 j = _) ∨ ∃ C, tyX2 j = _
      unfold tyX2
      split <;> first | exact Or.inl rfl | exact Or.inr (Or.inr (Or.inl ⟨_, rfl⟩))
    · intro j _
      show tyX3 j = _ ∨ tyX3 j = _ ∨ (∃ C, tyX3 j = _) ∨ ∃ C, tyX3 j = _
      unfold tyX3
      split <;> first | exact Or.inl rfl | exact Or.inr (Or.inr (Or.inl ⟨_, rfl⟩)) | exact Or.inr (Or.inr (Or.inr ⟨_, rfl⟩))
    · intro j _
      show tyX3 j = _ ∨ tyX3 j = _ ∨ (∃ C, tyX3 j = _) ∨ ∃ C, tyX3 j = _
      unfold tyX3
      split <;> first | exact Or.inl rfl | exact Or.inr (Or.inl rfl) | exact Or.inr (Or.inr (Or.inl ⟨_, rfl⟩)) | exact Or.inr (Or.inr (Or.inr ⟨_, rfl⟩))
  rcases all j hj with h | h | ⟨C, h⟩ | ⟨C, h⟩ <;> rw [h] <;> rfl
theorem sn_new (k : Nat) : SNg p l e R s m args below meth c Q xs y K D A sa (.new k) := by
  intro pc len L st μ f φ ls H locs cells slots pc' L' st' μ' f' X hX hL hS hH hd h8 hc hs hF hl kk
  obtain ⟨rfl, h⟩ := ifs h8
  split at h
  · obtain ⟨-, h⟩ := ifs h
    cases h
  · split at h
    · rename_i ci q hk
      obtain ⟨rfl, rfl, rfl, rfl, rfl⟩ := nx_inv h
      dsimp only at hc hs kk
      simp only [Nat.add_sub_cancel_left] at hc hs kk
      obtain ⟨w1, w2, w3⟩ := cTab_in (q1 := q.1) (q2 := q.2) hk
      refine va_new (C := cN ci) (T := cT ci) (N := cF ci) (fs := (dfs ci).map (cv φ)) X.1 X.2.1 X.2.2.2.2.1 (cW_in w3) (cY ci) (cY_ok w3) X.2.2.2.1 (X.2.2.2.2.1 _ w1) (X.2.2.2.2.1 _ w2) (X.2.2.2.2.1 _ (ini_in (by omega))) X.2.2.2.2.2.1 hH.1 hH.2.1 hH.2.2.1 X.2.2.2.2.2.2.1 (vwCl_at w3) (dfs_V w3 φ) hc hs hd (fun q H1 h1 h2 h3 => ?_)
      have e : ∀ ψ : Nat → Nat, ce K ψ (oC ci (dfs ci)) = .inr (ci, (dfs ci).map (cv φ)) := by
        intro ψ
        show Sum.inr (ci, (dfs ci).map (cv ψ)) = Sum.inr (ci, (dfs ci).map (cv φ))
        rw [List.map_congr_left]
        intro v hv
        obtain ⟨j, -, rfl⟩ := List.mem_map.mp hv
        unfold dfl
        split <;> rfl
      rw [← e (aupN φ (μ.1 + 1) q)] at h1 h2
      exact kn hL hS hH.2.2.2 (dfs_ok w3) h1 h2 h3 kk
    · cases h
theorem oTab_in {o k j q : Nat} (h : lk oTab o k = some (j, q)) : Cond.methodLink (cN o) k (oName j) ∈ lw_gd := by
  have h1 := List.all_eq_true.mp oTab_ok _ (lk_mem h)
  exact inG_mem h1
theorem okSys_in {r : List AV} (h : okSys y r = true) (hF : rF y ≤ R.frames) (hl : rL y ≤ R.locals) : 1 ≤ R.frames ∧ 70 ≤ R.locals ∧ ((r.map (cv φ)).map fun v => v.category).sum ≤ 8 := by
  unfold okSys at h
  simp only [Bool.and_eq_true] at h
  obtain ⟨h1, h2, h3⟩ := h
  have h1 := Nat.le_of_ble_eq_true h1
  have h2 := Nat.le_of_ble_eq_true h2
  have h3 := Nat.le_of_ble_eq_true h3
  refine ⟨by omega, by omega, ?_⟩
  have k : ∀ r : List AV, ((r.map (cv φ)).map fun v => v.category).sum ≤ 2 * r.length := by
    intro r
    induction r with
    | nil => exact Nat.le_refl _
    | cons v r ih =>
      have := cat_cv2 (φ := φ) (v := v)
      simp only [List.map_cons, List.sum_cons, List.length_cons]
      omega
  have := k r
  omega
theorem natW : nativeFrameWords "java/lang/System" "arraycopy" 5 + 11 ≤ 50 := by decide +kernel
theorem cp_inv {a b : Nat} {n : Int} {f' : AH} (h : cp f a b n = some f') : ∃ us zs, f a = some (iC us) ∧ f b = some (iC zs) ∧ 0 ≤ n ∧ n ≤ us.length ∧ n ≤ zs.length ∧ f' = aup f b (iC (us.take n.toNat ++ zs.drop n.toNat)) := by
  unfold cp at h
  split at h
  · rename_i us zs h1 h2
    obtain ⟨⟨q1, q2, q3⟩, h⟩ := ifs h
    exact ⟨us, zs, h1, h2, q1, q2, q3, (Option.some.inj h).symm⟩
  · cases h
theorem ce_cp (us zs : List Int) (n : Nat) (h1 : n ≤ us.length) (h2 : n ≤ zs.length) : ce K φ (iC (us.take n ++ zs.drop n)) = .inl (K.1, zs.length, .inl (va_cpy (fun j => i32 (us.getD j 0)) (fun j => i32 (zs.getD j 0)) 0 0 n)) := by
  show Sum.inl (K.1, (us.take n ++ zs.drop n).length, Sum.inl (fun j => i32 ((us.take n ++ zs.drop n).getD j 0))) = _
  have e0 : (us.take n ++ zs.drop n).length = zs.length := by rw [List.length_append, List.length_take, List.length_drop]; omega
  rw [e0]
  have e : (fun j => i32 ((us.take n ++ zs.drop n).getD j 0)) = va_cpy (fun j => i32 (us.getD j 0)) (fun j => i32 (zs.getD j 0)) 0 0 n := by
    funext j
    unfold va_cpy
    by_cases hj : j < n
    · rw [if_pos ⟨Nat.zero_le _, by omega⟩, List.getD_eq_getElem?_getD, List.getElem?_append_left (by rw [List.length_take]; omega), List.getElem?_take_of_lt hj, ← List.getD_eq_getElem?_getD]
      rw [Nat.sub_zero, Nat.zero_add]
    · rw [if_neg (by omega), List.getD_eq_getElem?_getD, List.getElem?_append_right (by rw [List.length_take]; omega), List.getElem?_drop, List.length_take, ← List.getD_eq_getElem?_getD]
      congr 2
      omega
  rw [e]
theorem sn_invokestatic (k : Nat) : SNg p l e R s m args below meth c Q xs y K D A sa (.invokestatic k) := by
  intro pc len L st μ f φ ls H locs cells slots pc' L' st' μ' f' X hX hL hS hH hd h8 hc hs hF hl kk
  obtain ⟨rfl, h⟩ := ifs h8
  split at h
  · unfold callA at h
    split at h
    · obtain ⟨-, h⟩ := ifs h
      cases h
    · cases h
  · split at h
    · rename_i _ q w x r hk
      obtain ⟨hsys, h⟩ := ifs h
      obtain ⟨rfl, rfl, rfl, rfl, rfl⟩ := nx_inv h
      obtain ⟨z1, z2, z3⟩ := okSys_in (φ := φ) hsys hF hl
      have rx := hS.tl.hd.1
      have rw9 := hS.hd.1
      have hok : okV μ'.1 (vi (if x ≤ w then x else w)) := by split <;> assumption
      have q := kp hH kk hL (hS.tl.tl.cons hok rfl)
      rw [Nat.sub_self, Nat.add_zero] at hc hs
      refine va_mmin X.1 X.2.1 (by rw [hL.1.1]; exact X.2.2.1) X.2.2.2.1 (X.2.2.2.2.1 _ (oTab_in hk)) (X.2.2.2.2.1 _ oW.2.2.1) (X.2.2.2.2.1 _ oW.2.2.2.1) (X.2.2.2.2.1 _ oW.2.2.2.2.1) z1 (by omega) hc hs hd ?_
      have e : (if i32 w < i32 x then i32 w else i32 x) = i32 (if x ≤ w then x else w) := by
        by_cases hq : x ≤ w
        · rw [if_pos hq, if_neg (fun z => by have := (i32_lt rw9 rx).mp z; omega)]
        · rw [if_neg hq, if_pos ((i32_lt rw9 rx).mpr (by omega))]
      rw [e]
      exact q
    · rename_i _ q n b a r hk
      obtain ⟨hsys, h⟩ := ifs h
      obtain ⟨f2, hf2, hn⟩ := oh_inv h
      obtain ⟨rfl, rfl, rfl, rfl, rfl⟩ := nx_inv hn
      obtain ⟨z1, z2, z3⟩ := okSys_in (φ := φ) hsys hF hl
      obtain ⟨us, zs, h1, h2, n0, n1, n2, rfl⟩ := cp_inv hf2
      have o1 := (hH.2.2.2.1 _ _ h1).2.2
      have o2 := (hH.2.2.2.1 _ _ h2).2.2
      have ol1 := o1.2
      have ol2 := o2.2
      have hok : okC μ'.1 (iC (us.take n.toNat ++ zs.drop n.toNat)) := by
        refine ⟨fun w hw => ?_, ?_⟩
        · rcases List.mem_append.mp hw with hw | hw
          · exact o1.1 w (List.mem_of_mem_take hw)
          · exact o2.1 w (List.mem_of_mem_drop hw)
        · rw [List.length_append, List.length_take, List.length_drop]; omega
      refine va_copyi X.1 X.2.1 (by rw [hL.1.1]; exact X.2.2.1) X.2.2.2.1 (X.2.2.2.2.1 _ (oTab_in hk)) (X.2.2.2.2.1 _ oW.2.2.2.2.2.1) (X.2.2.2.2.1 _ oW.2.2.2.2.2.2.1) (X.2.2.2.2.1 _ oW.2.2.2.2.2.2.2.1) X.2.2.2.2.2.1 hH.1 hH.2.1 hH.2.2.1 (a - 1) (b - 1) 0 0 (wld_get hH.2.2.2 h1) (wld_get hH.2.2.2 h2) rfl rfl rfl (i32_nn (by omega) (by omega)) (i32_nn (by omega) (by omega)) (i32_nn n0 (by omega)) (by rw [i32_nat n0 (by omega), i32_nat (by omega) (by omega)]; show 0 + n.toNat ≤ us.length; omega) (by rw [i32_nat n0 (by omega), i32_nat (by omega) (by omega)]; show 0 + n.toNat ≤ zs.length; omega) (fun i _ => rfl) z1 (by have := natW; omega) hd (fun H1 locs1 q1 q2 q3 => ?_)
      rw [i32_nat n0 (by omega), show (i32 0).toNatClampNeg = 0 from rfl, ← ce_cp (φ := φ) us zs n.toNat (by omega) (by omega)] at q1 q2
      exact kh kk hL hS.tl.tl.tl.tl.tl (RH.put hH h2 hok q1 q2 q3)
    · cases h
theorem sn_invokespecial (k : Nat) : SNg p l e R s m args below meth c Q xs y K D A sa (.invokespecial k) := by
  intro pc len L st μ f φ ls H locs cells slots pc' L' st' μ' f' X hX hL hS hH hd h8 hc hs hF hl kk
  obtain ⟨rfl, h⟩ := ifs h8
  split at h
  · split at h
    · obtain ⟨-, h⟩ := ifs h
      cases h
    · cases h
  · split at h
    · rename_i _ q a r hk
      obtain ⟨hsys, h⟩ := ifs h
      obtain ⟨rfl, rfl, rfl, rfl, rfl⟩ := nx_inv h
      obtain ⟨z1, z2, z3⟩ := okSys_in (φ := φ) hsys hF hl
      exact W.objInit X.1 X.2.1 X.2.2.2.1 (X.2.2.2.2.1 _ (oTab_in hk)) (X.2.2.2.2.1 _ oW.1) (X.2.2.2.2.1 _ oW.2.1) rfl (by show ls.size = _; rw [hL.1.1]; exact X.2.2.1.symm) rfl hd z1 (by show 2 * 0 + _ + 12 ≤ _; omega) (kp hH kk hL hS.tl)
    · cases h
theorem sn_invokevirtual (k : Nat) : SNg p l e R s m args below meth c Q xs y K D A sa (.invokevirtual k) := by
  intro pc len L st μ f φ ls H locs cells slots pc' L' st' μ' f' X hX hL hS hH hd h8 hc hs hF hl kk
  obtain ⟨rfl, h⟩ := ifs h8
  split at h
  · split at h
    · obtain ⟨-, h⟩ := ifs h
      cases h
    · cases h
  · cases h
end SA
