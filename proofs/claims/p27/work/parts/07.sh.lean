/-! ONE INSTRUCTION THAT TOUCHES THE HEAP -/
section SH
variable {p : Program} {l : Launch} {e : Env} {R : Room} {s : State} {m : MethodId} {args : Array Value} {below : List Frame} {meth : Method} {c : Code} {H : Heap} {locs : List Loc} {cells slots : Nat} {Q : State → Prop}
variable {xs : List Int} {y : Nat} {K : KI} {D : va_G} {A : Nat → Prop} {sa : Nat → Nat} {φ : Nat → Nat} {f : AH} {μ : Mu} {L st : List AV} {ls : Array Slot} {pc' : Nat}
theorem lt5 {P : Nat → Prop} (h0 : P 0) (h1 : P 1) (h2 : P 2) (h3 : P 3) (h4 : P 4) : ∀ {ci : Nat}, ci < 5 → P ci
  | 0, _ => h0
  | 1, _ => h1
  | 2, _ => h2
  | 3, _ => h3
  | 4, _ => h4
  | n + 5, h => absurd h (by omega)
theorem vwCl_at {ci : Nat} (h : ci < 5) : vwCl[ci]? = some (cN ci, cT ci, cF ci) := lt5 (P := fun ci => vwCl[ci]? = some (cN ci, cT ci, cF ci)) rfl rfl rfl rfl rfl h
theorem cY_ok {ci : Nat} (h : ci < 5) : ∀ k, k < cF ci → parseFieldDescriptor (cT ci k).2.2.1 = some (cY ci k) := lt5 (P := fun ci => ∀ k, k < cF ci → parseFieldDescriptor (cT ci k).2.2.1 = some (cY ci k)) tyX0_ok tyX1_ok tyX2_ok tyX3_ok tyX3_ok h
theorem cT_nm {ci : Nat} (h : ci < 5) : ∀ a, a < cF ci → ∀ b, b < cF ci → a ≠ b → (cT ci a).2.1 ≠ (cT ci b).2.1 := lt5 (P := fun ci => ∀ a, a < cF ci → ∀ b, b < cF ci → a ≠ b → (cT ci a).2.1 ≠ (cT ci b).2.1) nmX0 nmX1 nmX2 nmX3 nmX3 h
theorem cW_in {ci : Nat} (h : ci < 5) : ∀ w ∈ u_ws (cN ci) (cT ci) (cF ci), w ∈ lw_gd := by
  intro w hw
  obtain ⟨k, hk, rfl⟩ := List.mem_map.mp hw
  exact inG_mem (List.all_eq_true.mp (List.all_eq_true.mp fwP_ok ci (List.mem_range.mpr h)) k hk)
theorem fTab_in {o k ci kk q : Nat} (h : lk fTab o k = some (ci, (kk, q))) : Cond.fieldLink (cN o) k (cN ci) (cT ci kk).2.1 (cT ci kk).2.2.1 ∈ lw_gd ∧ (cT ci kk).1 = cN ci ∧ kk < cF ci ∧ ci < 5 := by
  have h1 := List.all_eq_true.mp fTab_ok _ (lk_mem h)
  simp only [Bool.and_eq_true] at h1
  obtain ⟨a, b, c, d⟩ := h1
  exact ⟨inG_mem a, by simpa using b, by simpa [Nat.blt_eq] using c, by simpa [Nat.blt_eq] using d⟩
theorem gf_inv {a ci k : Nat} {v : AV} (h : gf f a ci k = some v) : ∃ fs, f a = some (oC ci fs) ∧ fs[k]? = some v := by
  unfold gf at h
  split at h
  · rename_i c fs hf
    obtain ⟨rfl, h2⟩ := ifs h
    exact ⟨fs, hf, h2⟩
  · cases h
theorem pf_inv {a ci k : Nat} {v : AV} {f' : AH} (h : pf f a ci k v = some f') : ∃ fs, f a = some (oC ci fs) ∧ k < fs.length ∧ f' = aup f a (oC ci (fs.set k v)) := by
  unfold pf at h
  split at h
  · rename_i c fs hf
    obtain ⟨⟨rfl, h1⟩, h2⟩ := ifs h
    exact ⟨fs, hf, h1, (Option.some.inj h2).symm⟩
  · cases h
theorem sn_getfield (k : Nat) : SNg p l e R s m args below meth c Q xs y K D A sa (.getfield k) := by
  intro pc len L st μ f φ ls H locs cells slots pc' L' st' μ' f' X hX hL hS hH hd h8 hc hs hF hl kk
  obtain ⟨rfl, h⟩ := ifs h8
  split at h
  · rename_i a t ci k2 q hk
    obtain ⟨v, hv, hn⟩ := ov_inv h
    obtain ⟨rfl, rfl, rfl, rfl, rfl⟩ := nx_inv hn
    obtain ⟨fs, hf, hv2⟩ := gf_inv hv
    obtain ⟨w1, w2, w3, w4⟩ := fTab_in hk
    have ho := (hH.2.2.2.1 _ _ hf).2.2.2.2 v (List.mem_of_getElem? hv2)
    exact va_get (C := cN ci) (T := cT ci) (N := cF ci) (ref := cN ci) X.1 X.2.1 X.2.2.2.2.1 (cW_in w4) X.2.2.2.1 X.2.2.2.2.2.1 hH.1 (a - 1) (wld_get hH.2.2.2 hf) (vwCl_at w4) k2 w3 (X.2.2.2.2.1 _ w1) (fun x hx => by rw [w2] at hx; exact hx) (v := cv φ v) (by rw [List.getElem?_map, hv2]; rfl) hd (kp hH kk hL (hS.tl.cons ho.1 ho.2))
  · cases h
theorem fitA_fits {ty : FieldType} {v : AV} (h : fitA ty v = true) (φ : Nat → Nat) : fits ty (cv φ v) = true ∧ narrow ty (cv φ v) = cv φ v ∧ isU v = false := by
  unfold fitA at h
  split at h
  · exact ⟨rfl, rfl, rfl⟩
  · exact ⟨rfl, rfl, rfl⟩
  · rename_i a; cases a <;> exact ⟨rfl, rfl, rfl⟩
  · rename_i a; cases a <;> exact ⟨rfl, rfl, rfl⟩
  · cases h
theorem RH.put {a : Nat} {c0 c1 : AC} (hH : RH K D A s φ f μ.1 H locs) (hf : f a = some c0) (hc : okC μ.1 c1) {H1 : Heap} {locs1 : List Loc} (h1 : va_P D vwCl ((wld K φ f μ.1).set (a - 1) (φ a, ce K φ c1)) H1) (h2 : va_D A ((wld K φ f μ.1).set (a - 1) (φ a, ce K φ c1))) (h3 : va_S A s.heap H1 locs1) : RH K D A s φ (aup f a c1) μ.1 H1 locs1 := by
  rw [wld_set hH.2.2.2 hf] at h1 h2
  exact ⟨h1, h2, h3, okH_set hH.2.2.2 hf hc⟩
theorem sn_putfield (k : Nat) : SNg p l e R s m args below meth c Q xs y K D A sa (.putfield k) := by
  intro pc len L st μ f φ ls H locs cells slots pc' L' st' μ' f' X hX hL hS hH hd h8 hc hs hF hl kk
  obtain ⟨rfl, h⟩ := ifs h8
  split at h
  · rename_i v a t ci k2 q hk
    obtain ⟨⟨hfit, hfin⟩, h⟩ := ifs h
    obtain ⟨f2, hf2, hn⟩ := oh_inv h
    obtain ⟨rfl, rfl, rfl, rfl, rfl⟩ := nx_inv hn
    obtain ⟨fs, hf, hlen, rfl⟩ := pf_inv hf2
    obtain ⟨w1, w2, w3, w4⟩ := fTab_in hk
    obtain ⟨z1, z2, z3⟩ := fitA_fits hfit φ
    have ho := (hH.2.2.2.1 _ _ hf).2.2
    have hok : okC μ'.1 (oC ci (fs.set k2 v)) := ⟨ho.1, by rw [List.length_set]; exact ho.2.1, fun w hw => by
      rcases List.mem_or_eq_of_mem_set hw with hw | rfl
      · exact ho.2.2 w hw
      · exact hS.hd⟩
    have key : ∀ (H1 : Heap) (locs1 : List Loc), va_P D vwCl ((wld K φ f μ'.1).set (a - 1) (φ a, .inr (ci, (fs.map (cv φ)).set k2 (cv φ v)))) H1 → va_D A ((wld K φ f μ'.1).set (a - 1) (φ a, .inr (ci, (fs.map (cv φ)).set k2 (cv φ v)))) → va_S A s.heap H1 locs1 → W p l e R s m args below meth c H1 locs1 cells slots Q (F0 m (pc + 3) ls (st'.map (cv φ))) := by
      intro H1 locs1 h1 h2 h3
      rw [← List.map_set] at h1 h2
      exact kh kk hL hS.tl.tl (RH.put hH hf hok h1 h2 h3)
    rcases hfin with hfin | ⟨hin, ho3⟩
    · exact va_put (C := cN ci) (T := cT ci) (N := cF ci) (ref := cN ci) X.1 X.2.1 X.2.2.2.2.1 (cW_in w4) (cY ci) (cY_ok w4) (cT_nm w4) X.2.2.2.1 X.2.2.2.2.2.1 hH.1 hH.2.1 hH.2.2.1 (a - 1) (wld_get hH.2.2.2 hf) (vwCl_at w4) k2 w3 (X.2.2.2.2.1 _ w1) (fun x hx => by rw [w2] at hx; exact hx) hfin (cY_ok w4 k2 w3) z2 z1 (by rw [List.length_map]; exact hlen) hd key
    · by_cases hf9 : (cT ci k2).2.2.2 = true
      · exact va_putF (C := cN ci) (T := cT ci) (N := cF ci) (ref := cN ci) X.1 X.2.1 X.2.2.2.2.1 (cW_in w4) (cY ci) (cY_ok w4) (cT_nm w4) X.2.2.2.1 X.2.2.2.2.2.1 hH.1 hH.2.1 hH.2.2.1 (a - 1) (wld_get hH.2.2.2 hf) (vwCl_at w4) k2 w3 (X.2.2.2.2.1 _ w1) (fun x hx => by rw [w2] at hx; exact hx) hf9 (X.2.2.2.2.2.2.2.2.2.1 hin) (by rw [w2, ho3]) (cY_ok w4 k2 w3) z2 z1 (by rw [List.length_map]; exact hlen) hd key
      · exact va_put (C := cN ci) (T := cT ci) (N := cF ci) (ref := cN ci) X.1 X.2.1 X.2.2.2.2.1 (cW_in w4) (cY ci) (cY_ok w4) (cT_nm w4) X.2.2.2.1 X.2.2.2.2.2.1 hH.1 hH.2.1 hH.2.2.1 (a - 1) (wld_get hH.2.2.2 hf) (vwCl_at w4) k2 w3 (X.2.2.2.2.1 _ w1) (fun x hx => by rw [w2] at hx; exact hx) (by simpa using hf9) (cY_ok w4 k2 w3) z2 z1 (by rw [List.length_map]; exact hlen) hd key
  · cases h
theorem gi_inv {a : Nat} {i : Int} {v : AV} (h : gi f a i = some v) : ∃ zs, f a = some (iC zs) ∧ 0 ≤ i ∧ i < zs.length ∧ v = vi (zs.getD i.toNat 0) := by
  unfold gi at h
  split at h
  · rename_i zs hf
    obtain ⟨⟨h1, h3⟩, h2⟩ := ifs h
    exact ⟨zs, hf, h1, h3, (Option.some.inj h2).symm⟩
  · cases h
theorem okI {zs : List Int} (h : ∀ x ∈ zs, -2147483648 ≤ x ∧ x < 2147483648) (j : Nat) : -2147483648 ≤ zs.getD j 0 ∧ zs.getD j 0 < 2147483648 := by
  rw [List.getD_eq_getElem?_getD]
  cases hq : zs[j]? with
  | none => exact r32_0
  | some x => exact h x (List.mem_of_getElem? hq)
theorem sn_iaload : SNg p l e R s m args below meth c Q xs y K D A sa .iaload := by
  intro pc len L st μ f φ ls H locs cells slots pc' L' st' μ' f' X hX hL hS hH hd h8 hc hs hF hl kk
  obtain ⟨rfl, h⟩ := ifs h8
  split at h
  · rename_i i a t
    obtain ⟨v, hv, hn⟩ := ov_inv h
    obtain ⟨rfl, rfl, rfl, rfl, rfl⟩ := nx_inv hn
    have ri := hS.hd.1
    by_cases h0 : a = 0
    · rw [if_pos h0] at hv
      subst h0
      obtain ⟨⟨hy, h1, h2⟩, h3⟩ := ifs hv
      cases h3
      obtain ⟨e1, e2, e3, e4, e5⟩ := hX
      have q := kp hH kk hL (hS.tl.tl.cons (v := vi (xs.getD i.toNat 0)) (okI e4 _) rfl)
      refine va_sld X.1 X.2.1 e1 e2 e3 hH.2.2.1 (i32_in h1 h2 e5) hd ?_
      rw [i32_nat h1 (by omega)]
      exact q
    · rw [if_neg h0] at hv
      obtain ⟨zs, hf, h1, h2, rfl⟩ := gi_inv hv
      have ho := (hH.2.2.2.1 _ _ hf).2.2
      have q := kp hH kk hL (hS.tl.tl.cons (v := vi (zs.getD i.toNat 0)) (okI ho.1 _) rfl)
      refine va_iald X.1 X.2.1 X.2.2.2.2.2.1 hH.1 (a - 1) 0 (wld_get hH.2.2.2 hf) rfl (i32_in h1 h2 ho.2) hd ?_
      rw [i32_nat h1 (by have := ho.2; omega)]
      exact q
  · cases h
theorem pi_inv {a : Nat} {i x : Int} {f' : AH} (h : pi f a i x = some f') : ∃ zs, f a = some (iC zs) ∧ 0 ≤ i ∧ i < zs.length ∧ f' = aup f a (iC (zs.set i.toNat x)) := by
  unfold pi at h
  split at h
  · rename_i zs hf
    obtain ⟨⟨h1, h3⟩, h2⟩ := ifs h
    exact ⟨zs, hf, h1, h3, (Option.some.inj h2).symm⟩
  · cases h
theorem ce_iset (zs : List Int) (j : Nat) (x : Int) (hj : j < zs.length) : ce K φ (iC (zs.set j x)) = .inl (K.1, zs.length, .inl (upd (fun k => i32 (zs.getD k 0)) j (i32 x))) := by
  show Sum.inl (K.1, (zs.set j x).length, Sum.inl (fun k => i32 ((zs.set j x).getD k 0))) = _
  rw [List.length_set]
  have e : (fun k => i32 ((zs.set j x).getD k 0)) = upd (fun k => i32 (zs.getD k 0)) j (i32 x) := by
    funext k
    unfold upd
    rw [List.getD_eq_getElem?_getD, List.getElem?_set]
    by_cases hk : j = k
    · subst hk; rw [if_pos rfl, if_pos rfl, if_pos hj]; rfl
    · rw [if_neg hk, if_neg (fun q => hk q.symm), ← List.getD_eq_getElem?_getD]
  rw [e]
theorem sn_iastore : SNg p l e R s m args below meth c Q xs y K D A sa .iastore := by
  intro pc len L st μ f φ ls H locs cells slots pc' L' st' μ' f' X hX hL hS hH hd h8 hc hs hF hl kk
  obtain ⟨rfl, h⟩ := ifs h8
  split at h
  · rename_i x i a t
    obtain ⟨f2, hf2, hn⟩ := oh_inv h
    obtain ⟨rfl, rfl, rfl, rfl, rfl⟩ := nx_inv hn
    obtain ⟨zs, hf, h1, h2, rfl⟩ := pi_inv hf2
    have ho := (hH.2.2.2.1 _ _ hf).2.2
    have hok : okC μ'.1 (iC (zs.set i.toNat x)) := ⟨fun w hw => by
      rcases List.mem_or_eq_of_mem_set hw with hw | rfl
      · exact ho.1 w hw
      · exact hS.hd.1, by rw [List.length_set]; exact ho.2⟩
    refine va_iast X.1 X.2.1 X.2.2.2.2.2.1 hH.1 hH.2.1 hH.2.2.1 (a - 1) 0 (wld_get hH.2.2.2 hf) rfl (i32_in h1 h2 ho.2) hd (fun H1 locs1 q1 q2 q3 => ?_)
    rw [i32_nat h1 (by have := ho.2; omega), ← ce_iset (φ := φ) zs i.toNat x (by omega)] at q1 q2
    exact kh kk hL hS.tl.tl.tl (RH.put hH hf hok q1 q2 q3)
  · cases h
theorem gq_inv {a : Nat} {i : Int} {v : AV} (h : gq f a i = some v) : ∃ zs, f a = some (rC zs) ∧ 0 ≤ i ∧ i < zs.length ∧ v = vp (zs.getD i.toNat none) := by
  unfold gq at h
  split at h
  · rename_i zs hf
    obtain ⟨⟨h1, h3⟩, h2⟩ := ifs h
    exact ⟨zs, hf, h1, h3, (Option.some.inj h2).symm⟩
  · cases h
theorem cv_vp (o : Option Nat) : cv φ (vp o) = va_rf (o.map φ) := by cases o <;> rfl
theorem sn_aaload : SNg p l e R s m args below meth c Q xs y K D A sa .aaload := by
  intro pc len L st μ f φ ls H locs cells slots pc' L' st' μ' f' X hX hL hS hH hd h8 hc hs hF hl kk
  obtain ⟨rfl, h⟩ := ifs h8
  split at h
  · rename_i i a t
    obtain ⟨v, hv, hn⟩ := ov_inv h
    obtain ⟨rfl, rfl, rfl, rfl, rfl⟩ := nx_inv hn
    obtain ⟨zs, hf, h1, h2, rfl⟩ := gq_inv hv
    have ho := (hH.2.2.2.1 _ _ hf).2.2
    have hok : okV μ'.1 (vp (zs.getD i.toNat none)) := by
      cases hq : zs.getD i.toNat none with
      | none => trivial
      | some b =>
        rw [List.getD_eq_getElem?_getD] at hq
        cases hz : zs[i.toNat]? with
        | none => rw [hz] at hq; cases hq
        | some w => rw [hz] at hq; cases hq; exact ho.1 b (List.mem_of_getElem? hz)
    have q := kp hH kk hL (hS.tl.tl.cons hok rfl)
    rw [List.map_cons, cv_vp] at q
    refine va_aldq X.1 X.2.1 X.2.2.2.2.2.1 hH.1 (a - 1) 1 (wld_get hH.2.2.2 hf) rfl (i32_in h1 h2 ho.2) hd ?_
    rw [i32_nat h1 (by have := ho.2; omega)]
    exact q
  · cases h
theorem pq_inv {a b : Nat} {i : Int} {f' : AH} (h : pq f a i b = some f') : ∃ zs fs, f a = some (rC zs) ∧ 0 ≤ i ∧ i < zs.length ∧ f b = some (oC 1 fs) ∧ f' = aup f a (rC (zs.set i.toNat (some b))) := by
  unfold pq at h
  split at h
  · rename_i zs hf
    obtain ⟨⟨h1, h3, h4⟩, h2⟩ := ifs h
    unfold isO at h4
    split at h4
    · rename_i k fs hb
      have e := Nat.eq_of_beq_eq_true h4
      subst e
      exact ⟨zs, fs, hf, h1, h3, hb, (Option.some.inj h2).symm⟩
    · cases h4
  · cases h
theorem ce_qset (zs : List (Option Nat)) (j b : Nat) (hj : j < zs.length) : ce K φ (rC (zs.set j (some b))) = .inl (K.2.1, zs.length, .inr (.inr (.inr (.inr (va_up (fun k => (zs.getD k none).map φ) j (some (φ b))))))) := by
  show Sum.inl (K.2.1, (zs.set j (some b)).length, Sum.inr (Sum.inr (Sum.inr (Sum.inr (fun k => ((zs.set j (some b)).getD k none).map φ))))) = _
  rw [List.length_set]
  have e : (fun k => ((zs.set j (some b)).getD k none).map φ) = va_up (fun k => (zs.getD k none).map φ) j (some (φ b)) := by
    funext k
    unfold va_up
    rw [List.getD_eq_getElem?_getD, List.getElem?_set]
    by_cases hk : j = k
    · subst hk; rw [if_pos rfl, if_pos rfl, if_pos hj]; rfl
    · rw [if_neg hk, if_neg (fun q => hk q.symm), ← List.getD_eq_getElem?_getD]
  rw [e]
theorem sn_aastore : SNg p l e R s m args below meth c Q xs y K D A sa .aastore := by
  intro pc len L st μ f φ ls H locs cells slots pc' L' st' μ' f' X hX hL hS hH hd h8 hc hs hF hl kk
  obtain ⟨rfl, h⟩ := ifs h8
  split at h
  · rename_i b i a t
    obtain ⟨f2, hf2, hn⟩ := oh_inv h
    obtain ⟨rfl, rfl, rfl, rfl, rfl⟩ := nx_inv hn
    obtain ⟨zs, fs, hf, h1, h2, hb, rfl⟩ := pq_inv hf2
    have ho := (hH.2.2.2.1 _ _ hf).2.2
    have hok : okC μ'.1 (rC (zs.set i.toNat (some b))) := ⟨fun w hw => by
      rcases List.mem_or_eq_of_mem_set hw with hw | hw
      · exact ho.1 w hw
      · cases hw; exact hS.hd.1, by rw [List.length_set]; exact ho.2⟩
    refine va_astq (r := (cN 1, cT 1, cF 1)) X.1 X.2.1 X.2.2.2.2.2.1 hH.1 hH.2.1 hH.2.2.1 (a - 1) 1 (b - 1) 1 (wld_get hH.2.2.2 hf) rfl (wld_get hH.2.2.2 hb) (vwCl_at (by omega)) (i32_in h1 h2 ho.2) hd (fun H1 locs1 q1 q2 q3 => ?_)
    rw [i32_nat h1 (by have := ho.2; omega), ← ce_qset (φ := φ) zs i.toNat b (by omega)] at q1 q2
    exact kh kk hL hS.tl.tl.tl (RH.put hH hf hok q1 q2 q3)
  · cases h
theorem sn_arraylength : SNg p l e R s m args below meth c Q xs y K D A sa .arraylength := by
  intro pc len L st μ f φ ls H locs cells slots pc' L' st' μ' f' X hX hL hS hH hd h8 hc hs hF hl kk
  obtain ⟨rfl, h⟩ := ifs h8
  split at h
  · rename_i a t
    by_cases h0 : a = 0
    · rw [if_pos h0] at h
      subst h0
      obtain ⟨hy, h⟩ := ifs h
      obtain ⟨rfl, rfl, rfl, rfl, rfl⟩ := nx_inv h
      obtain ⟨e1, e2, e3, e4, e5⟩ := hX
      exact va_slen X.1 X.2.1 e1 e2 e3 hH.2.2.1 hd (kp hH kk hL (hS.tl.cons (v := vi xs.length) ⟨by omega, by omega⟩ rfl))
    · rw [if_neg h0] at h
      split at h
      · rename_i n hn
        obtain ⟨rfl, rfl, rfl, rfl, rfl⟩ := nx_inv h
        unfold an at hn
        split at hn
        · rename_i zs hf
          cases hn
          have ho := (hH.2.2.2.1 _ _ hf).2.2
          have ho2 := ho.2
          exact va_alen X.1 X.2.1 X.2.2.2.2.2.1 hH.1 (a - 1) 0 (wld_get hH.2.2.2 hf) rfl rfl hd (kp hH kk hL (hS.tl.cons (v := vi zs.length) ⟨by omega, by omega⟩ rfl))
        · rename_i zs hf
          cases hn
          have ho := (hH.2.2.2.1 _ _ hf).2.2
          have ho2 := ho.2
          exact va_alen X.1 X.2.1 X.2.2.2.2.2.1 hH.1 (a - 1) 1 (wld_get hH.2.2.2 hf) rfl rfl hd (kp hH kk hL (hS.tl.cons (v := vi zs.length) ⟨by omega, by omega⟩ rfl))
        · cases hn
      · cases h
  · cases h
end SH
