/-! THE MODEL'S METHODS: enough frames, asks taken out, pins tried -/
def tkz (z : Nat → Int) (i c : Nat) : Nat → Int := fun j => if j = 0 then z 0 - 1 else if 27 + 4 * i ≤ j ∧ j < c then z (j + 4) else z j
section MU
variable {xs : List Int} {f : AH} {M : MG} {μ : Mu} {y pc : Nat} {L st : List AV} {Q : Out → Mu → AH → Prop} {σ : SG} {z : Nat → Int}
theorem rel.up (h : rel σ z) {k : Nat} (h1 : σ.2 2 ≤ k) (h2 : k ≤ 6) : rel (sS σ 2 k) (fu z 2 k) := by
  obtain ⟨w1, w2, w3, w4, w5⟩ := h.wf
  have s0 : (sS σ 2 (k : Int)).2 0 = σ.2 0 := rfl
  have s1 : (sS σ 2 (k : Int)).2 1 = σ.2 1 := rfl
  have s2 : (sS σ 2 (k : Int)).2 2 = k := rfl
  have s3 : (sS σ 2 (k : Int)).1 = σ.1 := rfl
  have zj : ∀ j, j ≠ 2 → fu z 2 (k : Int) j = z j := fun j hj => fu_n _ _ hj
  refine ⟨⟨?_, ?_, ?_, ?_⟩, ⟨?_, ?_, ?_⟩, ⟨?_, ?_, ?_⟩, ?_, ?_, ?_⟩
  · unfold wfS; rw [s0, s1, s2]; omega
  · rw [s0, zj 0 (by decide)]; exact h.n.1
  · rw [s1, zj 1 (by decide)]; exact h.n.2.1
  · rw [s2, fu_s]
  · rw [s0, s3]; exact h.P.ext fun i _ => ⟨zj _ (by omega), zj _ (by omega)⟩
  · rw [s1, s3]; exact h.D.ext fun i _ => ⟨zj _ (by omega), zj _ (by omega)⟩
  · rw [s0, s1]; exact h.C.ext fun i _ _ => ⟨zj _ (by omega), zj _ (by omega)⟩
  · rw [s3, zj 3 (by decide)]; exact h.pin
  · rw [s3, zj 4 (by decide)]; exact h.ch
  · rw [s3, s2]
    refine ⟨fun p hp => ?_, fun e he => ?_, fun e p he hp => ?_⟩
    · have := h.F.1 p hp; omega
    · rw [zj _ (by omega)]; exact h.F.2.1 e he
    · rw [zj _ (by omega)]; exact h.F.2.2 e p he hp
  · rw [s3, s1]; exact h.L.ext fun j _ => ⟨(zj _ (by omega)).symm, (zj _ (by omega)).symm⟩
  · rw [s3, s1]
    intro p hp
    rw [zj _ (by omega), zj _ (by omega)]
    exact h.N p hp
  · rw [s3, s2]
    have := h.K
    unfold qK at this ⊢
    omega
theorem rel.pinned (h : rel σ z) {p : Nat} (hp : p < 8) (h0 : σ.1 6 p = 0) (hc : sm8 (σ.1 6) < σ.2 2 - 1) : rel (sR σ 6 (rs 8 (σ.1 6) p 1)) (fu z 3 (iOr (z 3) (iShl 1 p))) := by
  obtain ⟨w1, w2, w3, w4, w5⟩ := h.wf
  obtain ⟨v, hv, hz, hb⟩ := id h.pin
  rw [rs_n _ _ hp, hz, or_n hv hp]
  have sj : ∀ k, k ≠ 6 → (sR σ 6 (fu (σ.1 6) p 1)).1 k = σ.1 k := fun k hk => by rw [sR_1, if_neg hk]
  have s6 : (sR σ 6 (fu (σ.1 6) p 1)).1 6 = fu (σ.1 6) p 1 := by rw [sR_1, if_pos rfl]
  have zj : ∀ j, j ≠ 3 → fu z 3 (sadd v p : Nat) j = z j := fun j hj => fu_n _ _ hj
  refine ⟨⟨?_, ?_, ?_, ?_⟩, ⟨?_, ?_, ?_⟩, ⟨?_, ?_, ?_⟩, ?_, ?_, ?_⟩
  · unfold wfS; rw [sR_2]; exact h.wf
  · rw [sR_2, zj 0 (by decide)]; exact h.n.1
  · rw [sR_2, zj 1 (by decide)]; exact h.n.2.1
  · rw [sR_2, zj 2 (by decide)]; exact h.n.2.2
  · rw [sR_2, sj 0 (by decide), sj 1 (by decide)]; exact h.P.ext fun i _ => ⟨zj _ (by omega), zj _ (by omega)⟩
  · rw [sR_2, sj 2 (by decide), sj 3 (by decide)]; exact h.D.ext fun i _ => ⟨zj _ (by omega), zj _ (by omega)⟩
  · rw [sR_2]; exact h.C.ext fun i _ _ => ⟨zj _ (by omega), zj _ (by omega)⟩
  · rw [s6, fu_s]
    refine ⟨sadd v p, sadd_lt hv hp, rfl, fun q hq => ?_⟩
    rw [bI_add, ← hb q hq]; rfl
  · rw [sj 5 (by decide), zj 4 (by decide)]; exact h.ch
  · rw [sR_2, sj 4 (by decide)]
    refine ⟨h.F.1, fun e he => ?_, fun e q he hq => ?_⟩
    · rw [zj _ (by omega)]; exact h.F.2.1 e he
    · rw [zj _ (by omega)]; exact h.F.2.2 e q he hq
  · rw [sR_2, sj 7 (by decide), sj 8 (by decide)]; exact h.L.ext fun j _ => ⟨(zj _ (by omega)).symm, (zj _ (by omega)).symm⟩
  · rw [sR_2, sj 9 (by decide), sj 10 (by decide), sj 5 (by decide)]
    intro q hq
    rw [zj _ (by omega), zj _ (by omega)]
    exact h.N q hq
  · rw [sR_2, s6]
    unfold qK
    rw [sm8_fu _ hp]
    omega
theorem rel.take (h : rel σ z) {i c : Nat} (h1 : σ.2 1 ≤ i) (h2 : (i : Int) < σ.2 0) (hc : (c : Int) = 27 + 4 * (σ.2 0 - 1)) : rel (tka σ i) (tkz z i c) := by
  obtain ⟨w1, w2, w3, w4, w5⟩ := h.wf
  have s0 : (tka σ i).2 0 = σ.2 0 - 1 := by unfold tka; rw [sS_2, if_pos rfl]
  have s1 : (tka σ i).2 1 = σ.2 1 := by unfold tka; rw [sS_2, if_neg (by decide), sR_2, sR_2]
  have s2 : (tka σ i).2 2 = σ.2 2 := by unfold tka; rw [sS_2, if_neg (by decide), sR_2, sR_2]
  have sj : ∀ k, k ≠ 0 → k ≠ 1 → (tka σ i).1 k = σ.1 k := fun k k0 k1 => by unfold tka; rw [sS_1, sR_1, if_neg k1, sR_1, if_neg k0]
  have r0 : (tka σ i).1 0 = cls (σ.1 0) i 80 := by unfold tka; rw [sS_1, sR_1, if_neg (by decide), sR_1, if_pos rfl, Int.toNat_natCast]
  have r1 : (tka σ i).1 1 = cls (σ.1 1) i 80 := by unfold tka; rw [sS_1, sR_1, if_pos rfl, Int.toNat_natCast]
  have zj : ∀ j, j ≠ 0 → j < 27 + 4 * i → tkz z i c j = z j := fun j h0 hj => by unfold tkz; rw [if_neg h0, if_neg (by omega)]
  have zk : ∀ j r, r < 4 → i ≤ j → 27 + 4 * j + 3 < c → tkz z i c (27 + 4 * j + r) = z (27 + 4 * (j + 1) + r) := fun j r hr hj hjc => by
    unfold tkz; rw [if_neg (by omega), if_pos (by omega)]; exact congrArg z (by omega)
  refine ⟨⟨?_, ?_, ?_, ?_⟩, ⟨?_, ?_, ?_⟩, ⟨?_, ?_, ?_⟩, ?_, ?_, ?_⟩
  · unfold wfS; rw [s0, s1, s2]; omega
  · rw [s0]; unfold tkz; rw [if_pos rfl, h.n.1]
  · rw [s1, zj 1 (by decide) (by omega)]; exact h.n.2.1
  · rw [s2, zj 2 (by decide) (by omega)]; exact h.n.2.2
  · rw [s0, r0, r1]
    intro j hj
    unfold cls
    by_cases c1 : i ≤ j
    · have e := h.P (j + 1) (by omega)
      have k0 := zk j 0 (by decide) c1 (by omega)
      have k1 := zk j 1 (by decide) c1 (by omega)
      rw [show 27 + 4 * j + 0 = 27 + 4 * j by omega, show 27 + 4 * (j + 1) + 0 = 27 + 4 * (j + 1) by omega] at k0
      rw [show 27 + 4 * j + 1 = 28 + 4 * j by omega, show 27 + 4 * (j + 1) + 1 = 28 + 4 * (j + 1) by omega] at k1
      rw [if_pos ⟨c1, by omega⟩, if_pos ⟨c1, by omega⟩, k0, k1]
      exact e
    · rw [if_neg (fun x => c1 x.1), if_neg (fun x => c1 x.1), zj _ (by omega) (by omega), zj _ (by omega) (by omega)]
      exact h.P j (by omega)
  · rw [s1, sj 2 (by decide) (by decide), sj 3 (by decide) (by decide)]
    exact h.D.ext fun j hj => ⟨zj _ (by omega) (by omega), zj _ (by omega) (by omega)⟩
  · rw [s0, s1]
    intro j hj hj2
    by_cases c1 : i ≤ j
    · have e := h.C (j + 1) (by omega) (by omega)
      have k2 := zk j 2 (by decide) c1 (by omega)
      have k3 := zk j 3 (by decide) c1 (by omega)
      rw [show 27 + 4 * j + 2 = 29 + 4 * j by omega, show 27 + 4 * (j + 1) + 2 = 29 + 4 * (j + 1) by omega] at k2
      rw [show 27 + 4 * j + 3 = 30 + 4 * j by omega, show 27 + 4 * (j + 1) + 3 = 30 + 4 * (j + 1) by omega] at k3
      rw [k2, k3]
      exact e
    · rw [zj _ (by omega) (by omega), zj _ (by omega) (by omega)]
      exact h.C j (by omega) (by omega)
  · rw [sj 6 (by decide) (by decide), zj 3 (by decide) (by omega)]; exact h.pin
  · rw [sj 5 (by decide) (by decide), zj 4 (by decide) (by omega)]; exact h.ch
  · rw [s2, sj 4 (by decide) (by decide)]
    refine ⟨h.F.1, fun e he => ?_, fun e p he hp => ?_⟩
    · rw [zj _ (by omega) (by omega)]; exact h.F.2.1 e he
    · rw [zj _ (by omega) (by omega)]; exact h.F.2.2 e p he hp
  · rw [s1, sj 7 (by decide) (by decide), sj 8 (by decide) (by decide)]
    exact h.L.ext fun j hj => ⟨(zj _ (by omega) (by omega)).symm, (zj _ (by omega) (by omega)).symm⟩
  · rw [s1, sj 9 (by decide) (by decide), sj 10 (by decide) (by decide), sj 5 (by decide) (by decide)]
    intro p hp
    rw [zj _ (by omega) (by omega), zj _ (by omega) (by omega)]
    exact h.N p hp
  · rw [s2, sj 6 (by decide) (by decide)]; exact h.K
theorem tkz_up (z : Nat → Int) (i c : Nat) (hc : 27 + 4 * i ≤ c) : fu (tkz z i c) c (tkz z i c (c + 4)) = tkz z i (c + 1) := by
  funext j
  show (if j = c then tkz z i c (c + 4) else tkz z i c j) = _
  unfold tkz
  by_cases h : j = c
  · subst h
    rw [if_pos rfl, if_neg (by omega), if_neg (by omega), if_neg (by omega), if_pos (by omega)]
  · rw [if_neg h]
    by_cases h0 : j = 0
    · rw [if_pos h0, if_pos h0]
    · rw [if_neg h0, if_neg h0]
      by_cases h1 : 27 + 4 * i ≤ j ∧ j < c
      · rw [if_pos h1, if_pos (by omega)]
      · rw [if_neg h1, if_neg (by omega)]
theorem tn4 (c : Nat) : ((c : Int) + 4).toNat = c + 4 := by omega
theorem tko_loop (hw : wfM M) (i : Nat) : ∀ (d c : Nat), (c : Int) + d = 27 + 4 * (M.2.1 0 0 - 1) → 27 + 4 * i ≤ c → (Wp xs 93 17 [vr 190, vi i, vi c] [] μ (putM f (mAr M 0 (tkz (M.2.1 0) i c))) Q = Q (.inl none) μ (putM f (mAr M 0 (tkz (M.2.1 0) i (c + d))))) := by
  obtain ⟨w1, w2, w3, w4, w5⟩ := hw
  have z0 : ∀ c, tkz (M.2.1 0) i c 0 = M.2.1 0 0 - 1 := fun c => if_pos rfl
  intro d
  induction d with
  | zero =>
    intro c hc hi
    simp (disch := first | omega | rfl) only [e93_0, e93_1, e93_4, e93_5, e93_6, e93_7, e93_8, e93_9, e93_10, e93_12, e93_13, e93_14, e93_15, e93_16, e93_17, e93_18, e93_20, e93_21, e93_22, e93_25, e93_26, e93_27, e93_28, e93_29, e93_32, e93_33, e93_36, e93_37, e93_38, e93_41, e93_42, e93_43, e93_44, e93_45, e93_46, e93_49, e93_52, WpV_some, WpH_some, ↓ite_t, ↓ite_f, M_f0, M_f1, M_f2, M_f3, M_f4, M_f5, M_f6, M_f7, M_f8, M_f9, M_f10, M_p0, M_p3, M_p6, M_p7, M_p10, M_g_0, M_g_1, M_g_2, M_g_3, M_g_4, M_g_5, M_s_0, M_s_1, M_s_2, M_s_3, M_s_4, M_s_5, Int.reduceToNat, wrp_id, mAr_same, z0, Nat.add_zero]
  | succ d ih =>
    intro c hc hi
    have q := ih (c + 1) (by omega) (by omega)
    simp only [Int.natCast_add, Int.cast_ofNat_Int] at q
    rw [e93_17]
    simp (disch := first | omega | rfl) only [e93_0, e93_1, e93_4, e93_5, e93_6, e93_7, e93_8, e93_9, e93_10, e93_12, e93_13, e93_14, e93_15, e93_16, e93_18, e93_20, e93_21, e93_22, e93_25, e93_26, e93_27, e93_28, e93_29, e93_32, e93_33, e93_36, e93_37, e93_38, e93_41, e93_42, e93_43, e93_44, e93_45, e93_46, e93_49, e93_52, WpV_some, WpH_some, ↓ite_t, ↓ite_f, M_f0, M_f1, M_f2, M_f3, M_f4, M_f5, M_f6, M_f7, M_f8, M_f9, M_f10, M_p0, M_p3, M_p6, M_p7, M_p10, M_g_0, M_g_1, M_g_2, M_g_3, M_g_4, M_g_5, M_s_0, M_s_1, M_s_2, M_s_3, M_s_4, M_s_5, Int.reduceToNat, wrp_id, mAr_same, mAr_mAr, z0, tn4, Int.toNat_natCast, tkz_up, q]
    rw [show c + 1 + d = c + (d + 1) by omega]
theorem m93 (h : rel σ (M.2.1 0)) {i : Int} {j : Nat} (e : i = j) (h1 : σ.2 1 ≤ i) (h2 : i < σ.2 0) : ∃ zz, rel (tka σ i) zz ∧ Runs xs 93 [vr 190, vi i] μ (putM f M) (.inl none) μ (putM f (mAr M 0 zz)) := by
  subst e
  obtain ⟨w1, w2, w3, w4, w5⟩ := h.wf
  obtain ⟨n0, n1, n2⟩ := h.n
  refine ⟨tkz (M.2.1 0) j (27 + 4 * (σ.2 0 - 1)).toNat, h.take h1 h2 (by omega), Runs.iff fun Q hQ => ?_⟩
  show Wp xs 93 0 [vr 190, vi j, vu] [] μ (putM f M) Q
  have q := tko_loop (xs := xs) (f := f) (μ := μ) (Q := Q) h.wM j ((27 + 4 * (σ.2 0 - 1)).toNat - (27 + 4 * j)) (27 + 4 * j) (by omega) (Nat.le_refl _)
  rw [show 27 + 4 * j + ((27 + 4 * (σ.2 0 - 1)).toNat - (27 + 4 * j)) = (27 + 4 * (σ.2 0 - 1)).toNat by omega] at q
  have e0 : tkz (M.2.1 0) j (27 + 4 * j) = fu (M.2.1 0) 0 (M.2.1 0 0 - 1) := by
    funext k
    unfold tkz fu
    by_cases c : k = 0
    · rw [if_pos c, if_pos c]
    · rw [if_neg c, if_neg c, if_neg (by omega)]
  rw [e0] at q
  simp only [Int.natCast_add, Int.natCast_mul, Int.cast_ofNat_Int] at q
  simp (disch := first | omega | rfl) only [e93_0, e93_1, e93_4, e93_5, e93_6, e93_7, e93_8, e93_9, e93_10, e93_12, e93_13, e93_14, e93_15, e93_16, e93_18, e93_20, e93_21, e93_22, e93_25, e93_26, e93_27, e93_28, e93_29, e93_32, e93_33, e93_36, e93_37, e93_38, e93_41, e93_42, e93_43, e93_44, e93_45, e93_46, e93_49, e93_52, WpV_some, WpH_some, ↓ite_t, ↓ite_f, M_f0, M_f1, M_f2, M_f3, M_f4, M_f5, M_f6, M_f7, M_f8, M_f9, M_f10, M_p0, M_p3, M_p6, M_p7, M_p10, M_g_0, M_g_1, M_g_2, M_g_3, M_g_4, M_g_5, M_s_0, M_s_1, M_s_2, M_s_3, M_s_4, M_s_5, Int.reduceToNat, wrp_id, q]
  exact hQ
theorem m135 (h : rel σ (M.2.1 0)) {i : Int} {j : Nat} (e : i = j) (h1 : σ.2 1 ≤ i) (h2 : i < σ.2 0) : ∃ M', sim M M' ∧ Runs xs 135 [vr 190, vi i] μ (putM f M) (.inl (some (vi (rdO (fn (tka σ i) 0) σ)))) μ (putM f M') := by
  obtain ⟨z1, hz1, hr1⟩ := m93 (xs := xs) (f := f) (μ := μ) (M := mAr M 2 (M.2.1 0)) (by rw [mAr_20]; exact h) e h1 h2
  obtain ⟨z2, hz2, hr2⟩ := m126 (xs := xs) (f := f) (μ := μ) (M := mAr (mAr M 2 (M.2.1 0)) 0 z1) (σ := tka σ i) (by rw [mAr_same]; exact hz1) 0 (Or.inl rfl)
  have e9 : rdO (fn (tka σ i) 0) (tka σ i) = rdO (fn (tka σ i) 0) σ := by
    unfold rdO
    have : (tka σ i).1 9 = σ.1 9 := by unfold tka; rw [sS_1, sR_1, if_neg (by decide), sR_1, if_neg (by decide)]
    rw [this]
  rw [e9] at hr2
  refine ⟨mAr (mS (mAr (mAr (mAr M 2 (M.2.1 0)) 0 z1) 0 z2) 3 (frd ((fn (tka σ i) 0).1 2) ((tka σ i).2 1).toNat (((fn (tka σ i) 0).2 1).toNat - ((tka σ i).2 1).toNat))) 0 (M.2.1 0), ⟨rfl, rfl, rfl, rfl, rfl, rfl, rfl⟩, Runs.iff fun Q hQ => ?_⟩
  show Wp xs 135 0 [vr 190, vi i, vu] [] μ (putM f M) Q
  simp only [mAr_same, mAr_mAr, mAr_1, mAr_h, mS_2, mS_same, mS_mS, mAr_mS, mh_1, mh_2, mh_h, mAr_01, mAr_02, mAr_03, mAr_04, mAr_05, mAr_10, mAr_12, mAr_13, mAr_14, mAr_15, mAr_20, mAr_21, mAr_23, mAr_24, mAr_25, mAr_30, mAr_31, mAr_32, mAr_34, mAr_35, mAr_40, mAr_41, mAr_42, mAr_43, mAr_45, mAr_50, mAr_51, mAr_52, mAr_53, mAr_54, mS_01, mS_02, mS_03, mS_10, mS_12, mS_13, mS_20, mS_21, mS_23, mS_30, mS_31, mS_32] at hQ hr2
  simp (disch := first | omega | rfl) only [e135_0, e135_1, e135_4, e135_5, e135_6, e135_9, e135_10, e135_11, e135_14, e135_15, e135_16, e135_19, e135_20, WpV_some, WpH_some, ↓ite_t, ↓ite_f, M_f0, M_f1, M_f2, M_f3, M_f4, M_f5, M_f6, M_f7, M_f8, M_f9, M_f10, M_p0, M_p3, M_p6, M_p7, M_p10, M_g_0, M_g_1, M_g_2, M_g_3, M_g_4, M_g_5, M_s_0, M_s_1, M_s_2, M_s_3, M_s_4, M_s_5, cI_n m125 M_o h190, cI_n m127 M_o h190, cI_n hr1 M_o h190, cI_v hr2 M_o h190, mAr_same, mAr_mAr, mAr_1, mAr_h, mS_2, mS_same, mS_mS, mAr_mS, mh_1, mh_2, mh_h, mAr_01, mAr_02, mAr_03, mAr_04, mAr_05, mAr_10, mAr_12, mAr_13, mAr_14, mAr_15, mAr_20, mAr_21, mAr_23, mAr_24, mAr_25, mAr_30, mAr_31, mAr_32, mAr_34, mAr_35, mAr_40, mAr_41, mAr_42, mAr_43, mAr_45, mAr_50, mAr_51, mAr_52, mAr_53, mAr_54, mS_01, mS_02, mS_03, mS_10, mS_12, mS_13, mS_20, mS_21, mS_23, mS_30, mS_31, mS_32]
  exact hQ
theorem m133_loop (n : Int) : ∀ (d k : Nat) (M : MG) (τ : SG), k + d = 7 → σ.2 2 ≤ k → rel σ (M.2.1 0) → ∃ M', sim M M' ∧ ∀ Q, (Wp xs 133 9 [vr 190, vi n, vi (-1), vi k] [] μ (putM f M) Q = Q (.inl (some (vi (ffr σ n τ k d).1))) μ (putM f M')) := by
  intro d
  induction d with
  | zero =>
    intro k M τ hk hk2 h
    refine ⟨M, sim.rfl M, fun Q => ?_⟩
    simp (disch := first | omega | rfl) only [e133_0, e133_1, e133_2, e133_3, e133_6, e133_7, e133_8, e133_9, e133_10, e133_12, e133_15, e133_16, e133_17, e133_20, e133_21, e133_24, e133_25, e133_28, e133_29, e133_30, e133_31, e133_32, e133_33, e133_36, e133_37, e133_40, e133_41, e133_44, e133_45, e133_46, e133_47, e133_50, e133_53, e133_56, e133_57, WpV_some, WpH_some, ↓ite_t, ↓ite_f, M_f0, M_f1, M_f2, M_f3, M_f4, M_f5, M_f6, M_f7, M_f8, M_f9, M_f10, M_p0, M_p3, M_p6, M_p7, M_p10, M_g_0, M_g_1, M_g_2, M_g_3, M_g_4, M_g_5, M_s_0, M_s_1, M_s_2, M_s_3, M_s_4, M_s_5, ffr]
  | succ d ih =>
    intro k M τ hk hk2 h
    obtain ⟨w1, w2, w3, w4, w5⟩ := h.wf
    have h2 : rel (sS σ 2 k) ((mAr (mAr M 2 (M.2.1 0)) 0 (fu (M.2.1 0) 2 k)).2.1 0) := by rw [mAr_same]; exact h.up hk2 (by omega)
    obtain ⟨z2, hz2, hr2⟩ := m126 (xs := xs) (f := f) (μ := μ) h2 0 (Or.inl rfl)
    have e9 : rdO (fn (sS σ 2 k) 0) (sS σ 2 k) = rdO (fn (sS σ 2 k) 0) σ := rfl
    rw [e9] at hr2
    generalize hfr : frd ((fn (sS σ 2 k) 0).1 2) ((sS σ 2 (k : Int)).2 1).toNat (((fn (sS σ 2 k) 0).2 1).toNat - ((sS σ 2 (k : Int)).2 1).toNat) = fr at hr2
    have hs : sim M (mAr (mS (mAr (mAr (mAr M 2 (M.2.1 0)) 0 (fu (M.2.1 0) 2 k)) 0 z2) 3 fr) 0 (M.2.1 0)) := ⟨rfl, rfl, rfl, rfl, rfl, rfl, rfl⟩
    have hq : ∀ Q, Wp xs 133 9 [vr 190, vi n, vi (-1), vi k] [] μ (putM f M) Q = Wp xs 133 9 [vr 190, vi n, vi (if rdO (fn (sS σ 2 k) 0) σ ≤ n then (k : Int) else -1), vi ((k : Int) + 1)] [] μ (putM f (mAr (mS (mAr (mAr (mAr M 2 (M.2.1 0)) 0 (fu (M.2.1 0) 2 k)) 0 z2) 3 fr) 0 (M.2.1 0))) Q := fun Q => by
      simp only [mAr_same, mAr_mAr, mAr_1, mAr_h, mS_2, mS_same, mS_mS, mAr_mS, mh_1, mh_2, mh_h, mAr_01, mAr_02, mAr_03, mAr_04, mAr_05, mAr_10, mAr_12, mAr_13, mAr_14, mAr_15, mAr_20, mAr_21, mAr_23, mAr_24, mAr_25, mAr_30, mAr_31, mAr_32, mAr_34, mAr_35, mAr_40, mAr_41, mAr_42, mAr_43, mAr_45, mAr_50, mAr_51, mAr_52, mAr_53, mAr_54, mS_01, mS_02, mS_03, mS_10, mS_12, mS_13, mS_20, mS_21, mS_23, mS_30, mS_31, mS_32] at hr2
      conv => lhs; rw [e133_9]
      by_cases c : rdO (fn (sS σ 2 k) 0) σ ≤ n
      · rw [if_pos c]
        simp (disch := first | omega | rfl) only [e133_0, e133_1, e133_2, e133_3, e133_6, e133_7, e133_8, e133_10, e133_12, e133_15, e133_16, e133_17, e133_20, e133_21, e133_24, e133_25, e133_28, e133_29, e133_30, e133_31, e133_32, e133_33, e133_36, e133_37, e133_40, e133_41, e133_44, e133_45, e133_46, e133_47, e133_50, e133_53, e133_56, e133_57, WpV_some, WpH_some, ↓ite_t, ↓ite_f, M_f0, M_f1, M_f2, M_f3, M_f4, M_f5, M_f6, M_f7, M_f8, M_f9, M_f10, M_p0, M_p3, M_p6, M_p7, M_p10, M_g_0, M_g_1, M_g_2, M_g_3, M_g_4, M_g_5, M_s_0, M_s_1, M_s_2, M_s_3, M_s_4, M_s_5, Int.reduceToNat, wrp_id, cI_n m125 M_o h190, cI_n m127 M_o h190, cI_v hr2 M_o h190, mAr_same, mAr_mAr, mAr_1, mAr_h, mS_2, mS_same, mS_mS, mAr_mS, mh_1, mh_2, mh_h, mAr_01, mAr_02, mAr_03, mAr_04, mAr_05, mAr_10, mAr_12, mAr_13, mAr_14, mAr_15, mAr_20, mAr_21, mAr_23, mAr_24, mAr_25, mAr_30, mAr_31, mAr_32, mAr_34, mAr_35, mAr_40, mAr_41, mAr_42, mAr_43, mAr_45, mAr_50, mAr_51, mAr_52, mAr_53, mAr_54, mS_01, mS_02, mS_03, mS_10, mS_12, mS_13, mS_20, mS_21, mS_23, mS_30, mS_31, mS_32, ne_eq, not_true_eq_false, ↓reduceIte]
      · rw [if_neg c]
        simp (disch := first | omega | rfl) only [e133_0, e133_1, e133_2, e133_3, e133_6, e133_7, e133_8, e133_10, e133_12, e133_15, e133_16, e133_17, e133_20, e133_21, e133_24, e133_25, e133_28, e133_29, e133_30, e133_31, e133_32, e133_33, e133_36, e133_37, e133_40, e133_41, e133_44, e133_45, e133_46, e133_47, e133_50, e133_53, e133_56, e133_57, WpV_some, WpH_some, ↓ite_t, ↓ite_f, M_f0, M_f1, M_f2, M_f3, M_f4, M_f5, M_f6, M_f7, M_f8, M_f9, M_f10, M_p0, M_p3, M_p6, M_p7, M_p10, M_g_0, M_g_1, M_g_2, M_g_3, M_g_4, M_g_5, M_s_0, M_s_1, M_s_2, M_s_3, M_s_4, M_s_5, Int.reduceToNat, wrp_id, cI_n m125 M_o h190, cI_n m127 M_o h190, cI_v hr2 M_o h190, mAr_same, mAr_mAr, mAr_1, mAr_h, mS_2, mS_same, mS_mS, mAr_mS, mh_1, mh_2, mh_h, mAr_01, mAr_02, mAr_03, mAr_04, mAr_05, mAr_10, mAr_12, mAr_13, mAr_14, mAr_15, mAr_20, mAr_21, mAr_23, mAr_24, mAr_25, mAr_30, mAr_31, mAr_32, mAr_34, mAr_35, mAr_40, mAr_41, mAr_42, mAr_43, mAr_45, mAr_50, mAr_51, mAr_52, mAr_53, mAr_54, mS_01, mS_02, mS_03, mS_10, mS_12, mS_13, mS_20, mS_21, mS_23, mS_30, mS_31, mS_32, ne_eq, not_true_eq_false, ↓reduceIte]
    unfold ffr
    by_cases c : rdO (fn (sS σ 2 k) 0) σ ≤ n
    · refine ⟨_, hs, fun Q => ?_⟩
      rw [hq, if_pos c, if_pos c]
      have c2 : ¬ (k : Int) = -1 := by omega
      by_cases c3 : (k : Int) + 1 ≤ 6
      · simp (disch := first | omega | rfl) only [e133_0, e133_1, e133_2, e133_3, e133_6, e133_7, e133_8, e133_9, e133_10, e133_12, e133_15, e133_16, e133_17, e133_20, e133_21, e133_24, e133_25, e133_28, e133_29, e133_30, e133_31, e133_32, e133_33, e133_36, e133_37, e133_40, e133_41, e133_44, e133_45, e133_46, e133_47, e133_50, e133_53, e133_56, e133_57, WpV_some, WpH_some, ↓ite_t, ↓ite_f, M_f0, M_f1, M_f2, M_f3, M_f4, M_f5, M_f6, M_f7, M_f8, M_f9, M_f10, M_p0, M_p3, M_p6, M_p7, M_p10, M_g_0, M_g_1, M_g_2, M_g_3, M_g_4, M_g_5, M_s_0, M_s_1, M_s_2, M_s_3, M_s_4, M_s_5, c2, ne_eq, not_false_eq_true, ↓reduceIte]
      · simp (disch := first | omega | rfl) only [e133_0, e133_1, e133_2, e133_3, e133_6, e133_7, e133_8, e133_9, e133_10, e133_12, e133_15, e133_16, e133_17, e133_20, e133_21, e133_24, e133_25, e133_28, e133_29, e133_30, e133_31, e133_32, e133_33, e133_36, e133_37, e133_40, e133_41, e133_44, e133_45, e133_46, e133_47, e133_50, e133_53, e133_56, e133_57, WpV_some, WpH_some, ↓ite_t, ↓ite_f, M_f0, M_f1, M_f2, M_f3, M_f4, M_f5, M_f6, M_f7, M_f8, M_f9, M_f10, M_p0, M_p3, M_p6, M_p7, M_p10, M_g_0, M_g_1, M_g_2, M_g_3, M_g_4, M_g_5, M_s_0, M_s_1, M_s_2, M_s_3, M_s_4, M_s_5, c2, ne_eq, not_false_eq_true, ↓reduceIte]
    · obtain ⟨M2, hs2, hq2⟩ := ih (k + 1) (mAr (mS (mAr (mAr (mAr M 2 (M.2.1 0)) 0 (fu (M.2.1 0) 2 k)) 0 z2) 3 fr) 0 (M.2.1 0)) (fn (sS σ 2 k) 0) (by omega) (by omega) h
      refine ⟨M2, hs.tr hs2, fun Q => ?_⟩
      have q := hq2 Q
      simp only [Int.natCast_add, Int.cast_ofNat_Int] at q
      rw [hq, if_neg c, if_neg c, q]
theorem m133 (h : rel σ (M.2.1 0)) (n : Int) (τ : SG) : ∃ M', sim M M' ∧ Runs xs 133 [vr 190, vi n] μ (putM f M) (.inl (some (vi (ffr σ n τ (σ.2 2).toNat (7 - (σ.2 2).toNat)).1))) μ (putM f M') := by
  obtain ⟨w1, w2, w3, w4, w5⟩ := h.wf
  obtain ⟨n0, n1, n2⟩ := h.n
  obtain ⟨M', hs, hq⟩ := m133_loop (xs := xs) (f := f) (μ := μ) n (7 - (σ.2 2).toNat) (σ.2 2).toNat M τ (by omega) (by omega) h
  refine ⟨M', hs, Runs.iff fun Q hQ => ?_⟩
  show Wp xs 133 0 [vr 190, vi n, vu, vu] [] μ (putM f M) Q
  have q := hq Q
  rw [Int.toNat_of_nonneg (by omega), ← n2] at q
  simp (disch := first | omega | rfl) only [e133_0, e133_1, e133_2, e133_3, e133_6, e133_7, e133_8, e133_10, e133_12, e133_15, e133_16, e133_17, e133_20, e133_21, e133_24, e133_25, e133_28, e133_29, e133_30, e133_31, e133_32, e133_33, e133_36, e133_37, e133_40, e133_41, e133_44, e133_45, e133_46, e133_47, e133_50, e133_53, e133_56, e133_57, WpV_some, WpH_some, ↓ite_t, ↓ite_f, M_f0, M_f1, M_f2, M_f3, M_f4, M_f5, M_f6, M_f7, M_f8, M_f9, M_f10, M_p0, M_p3, M_p6, M_p7, M_p10, M_g_0, M_g_1, M_g_2, M_g_3, M_g_4, M_g_5, M_s_0, M_s_1, M_s_2, M_s_3, M_s_4, M_s_5, Int.reduceToNat, q]
  rw [n2]
  exact hQ
theorem m137_loop (hc : sm8 (σ.1 6) < σ.2 2 - 1) : ∀ (d p : Nat) (b few r : Int) (M : MG) (τ : SG) (l4 : AV), p + d = 8 → rel σ (M.2.1 0) → (b = -1 ∧ few = 1000) ∨ (0 ≤ b ∧ few = r) → ∃ M', sim M M' ∧ ∀ Q, (Wp xs 137 8 [vr 190, vi b, vi few, vi p, l4] [] μ (putM f M) Q = Q (.inl (some (vi (bpn σ b r τ p d).1))) μ (putM f M')) := by
  intro d
  induction d with
  | zero =>
    intro p b few r M τ l4 hp h hb
    refine ⟨M, sim.rfl M, fun Q => ?_⟩
    simp (disch := first | omega | rfl) only [e137_0, e137_1, e137_2, e137_5, e137_6, e137_7, e137_8, e137_9, e137_11, e137_14, e137_15, e137_18, e137_19, e137_20, e137_23, e137_24, e137_27, e137_28, e137_29, e137_30, e137_31, e137_34, e137_35, e137_38, e137_39, e137_40, e137_41, e137_44, e137_47, e137_48, e137_51, e137_52, e137_55, e137_56, e137_57, e137_58, e137_59, e137_60, e137_61, e137_62, e137_63, e137_64, e137_65, e137_68, e137_70, e137_71, e137_74, e137_76, e137_77, e137_80, e137_81, e137_84, e137_85, e137_86, e137_88, e137_89, e137_92, e137_94, e137_97, e137_98, e137_99, e137_102, e137_105, e137_106, WpV_some, WpH_some, ↓ite_t, ↓ite_f, M_f0, M_f1, M_f2, M_f3, M_f4, M_f5, M_f6, M_f7, M_f8, M_f9, M_f10, M_p0, M_p3, M_p6, M_p7, M_p10, M_g_0, M_g_1, M_g_2, M_g_3, M_g_4, M_g_5, M_s_0, M_s_1, M_s_2, M_s_3, M_s_4, M_s_5, bpn]
  | succ d ih =>
    intro p b few r M τ l4 hp h hb
    have hp8 : p < 8 := by omega
    obtain ⟨w1, w2, w3, w4, w5⟩ := h.wf
    obtain ⟨n0, n1, n2⟩ := h.n
    have b3 := h.pin.btsE
    have q1 := cC_v (m100 (xs := xs) (μ := μ) (f := putM f M) (M.2.1 0 3) p)
    rw [h.pin.btE hp8] at q1
    unfold bpn
    rw [rg_n _ hp8]
    rcases h.pin.r hp8 with c | c
    · rw [if_neg (by omega)] at q1
      rw [if_pos c]
      have h2 : rel (sR σ 6 (rs 8 (σ.1 6) p 1)) ((mAr (mAr M 2 (M.2.1 0)) 0 (fu (M.2.1 0) 3 (iOr (M.2.1 0 3) (iShl 1 p)))).2.1 0) := by rw [mAr_same]; exact h.pinned hp8 c hc
      obtain ⟨z2, hz2, hr2⟩ := m126 (xs := xs) (f := f) (μ := μ) h2 0 (Or.inl rfl)
      have hrb := (rdO_r h2 hz2).2
      have e9 : rdO (fn (sR σ 6 (rs 8 (σ.1 6) p 1)) 0) (sR σ 6 (rs 8 (σ.1 6) p 1)) = rdO (fn (sR σ 6 (rs 8 (σ.1 6) p 1)) 0) σ := rfl
      rw [e9] at hr2 hrb
      generalize hfr : frd ((fn (sR σ 6 (rs 8 (σ.1 6) p 1)) 0).1 2) ((sR σ 6 (rs 8 (σ.1 6) p 1)).2 1).toNat (((fn (sR σ 6 (rs 8 (σ.1 6) p 1)) 0).2 1).toNat - ((sR σ 6 (rs 8 (σ.1 6) p 1)).2 1).toNat) = fr at hr2
      generalize hrd : rdO (fn (sR σ 6 (rs 8 (σ.1 6) p 1)) 0) σ = rd at hr2 hrb ⊢
      have hs : sim M (mAr (mS (mAr (mAr (mAr M 2 (M.2.1 0)) 0 (fu (M.2.1 0) 3 (iOr (M.2.1 0 3) (iShl 1 p)))) 0 z2) 3 fr) 0 (M.2.1 0)) := ⟨rfl, rfl, rfl, rfl, rfl, rfl, rfl⟩
      have hq : ∀ Q, Wp xs 137 8 [vr 190, vi b, vi few, vi p, l4] [] μ (putM f M) Q = Wp xs 137 8 [vr 190, vi (if rd < few then (p : Int) else b), vi (if rd < few then rd else few), vi ((p : Int) + 1), vi rd] [] μ (putM f (mAr (mS (mAr (mAr (mAr M 2 (M.2.1 0)) 0 (fu (M.2.1 0) 3 (iOr (M.2.1 0 3) (iShl 1 p)))) 0 z2) 3 fr) 0 (M.2.1 0))) Q := fun Q => by
        simp only [mAr_same, mAr_mAr, mAr_1, mAr_h, mS_2, mS_same, mS_mS, mAr_mS, mh_1, mh_2, mh_h, mAr_01, mAr_02, mAr_03, mAr_04, mAr_05, mAr_10, mAr_12, mAr_13, mAr_14, mAr_15, mAr_20, mAr_21, mAr_23, mAr_24, mAr_25, mAr_30, mAr_31, mAr_32, mAr_34, mAr_35, mAr_40, mAr_41, mAr_42, mAr_43, mAr_45, mAr_50, mAr_51, mAr_52, mAr_53, mAr_54, mS_01, mS_02, mS_03, mS_10, mS_12, mS_13, mS_20, mS_21, mS_23, mS_30, mS_31, mS_32] at hr2
        conv => lhs; rw [e137_8]
        by_cases c2 : rd < few
        · rw [if_pos c2, if_pos c2]
          simp (disch := first | omega | rfl) only [e137_0, e137_1, e137_2, e137_5, e137_6, e137_7, e137_9, e137_11, e137_14, e137_15, e137_18, e137_19, e137_20, e137_23, e137_24, e137_27, e137_28, e137_29, e137_30, e137_31, e137_34, e137_35, e137_38, e137_39, e137_40, e137_41, e137_44, e137_47, e137_48, e137_51, e137_52, e137_55, e137_56, e137_57, e137_58, e137_59, e137_60, e137_61, e137_62, e137_63, e137_64, e137_65, e137_68, e137_70, e137_71, e137_74, e137_76, e137_77, e137_80, e137_81, e137_84, e137_85, e137_86, e137_88, e137_89, e137_92, e137_94, e137_97, e137_98, e137_99, e137_102, e137_105, e137_106, WpV_some, WpH_some, ↓ite_t, ↓ite_f, M_f0, M_f1, M_f2, M_f3, M_f4, M_f5, M_f6, M_f7, M_f8, M_f9, M_f10, M_p0, M_p3, M_p6, M_p7, M_p10, M_g_0, M_g_1, M_g_2, M_g_3, M_g_4, M_g_5, M_s_0, M_s_1, M_s_2, M_s_3, M_s_4, M_s_5, Int.reduceToNat, wrp_id, cC_v (m106 _), b3, n2, q1, cI_n m125 M_o h190, cI_n m127 M_o h190, cI_v hr2 M_o h190, mAr_same, mAr_mAr, mAr_1, mAr_h, mS_2, mS_same, mS_mS, mAr_mS, mh_1, mh_2, mh_h, mAr_01, mAr_02, mAr_03, mAr_04, mAr_05, mAr_10, mAr_12, mAr_13, mAr_14, mAr_15, mAr_20, mAr_21, mAr_23, mAr_24, mAr_25, mAr_30, mAr_31, mAr_32, mAr_34, mAr_35, mAr_40, mAr_41, mAr_42, mAr_43, mAr_45, mAr_50, mAr_51, mAr_52, mAr_53, mAr_54, mS_01, mS_02, mS_03, mS_10, mS_12, mS_13, mS_20, mS_21, mS_23, mS_30, mS_31, mS_32, ne_eq, Int.reduceEq, not_true_eq_false, not_false_eq_true, ↓reduceIte]
        · rw [if_neg c2, if_neg c2]
          simp (disch := first | omega | rfl) only [e137_0, e137_1, e137_2, e137_5, e137_6, e137_7, e137_9, e137_11, e137_14, e137_15, e137_18, e137_19, e137_20, e137_23, e137_24, e137_27, e137_28, e137_29, e137_30, e137_31, e137_34, e137_35, e137_38, e137_39, e137_40, e137_41, e137_44, e137_47, e137_48, e137_51, e137_52, e137_55, e137_56, e137_57, e137_58, e137_59, e137_60, e137_61, e137_62, e137_63, e137_64, e137_65, e137_68, e137_70, e137_71, e137_74, e137_76, e137_77, e137_80, e137_81, e137_84, e137_85, e137_86, e137_88, e137_89, e137_92, e137_94, e137_97, e137_98, e137_99, e137_102, e137_105, e137_106, WpV_some, WpH_some, ↓ite_t, ↓ite_f, M_f0, M_f1, M_f2, M_f3, M_f4, M_f5, M_f6, M_f7, M_f8, M_f9, M_f10, M_p0, M_p3, M_p6, M_p7, M_p10, M_g_0, M_g_1, M_g_2, M_g_3, M_g_4, M_g_5, M_s_0, M_s_1, M_s_2, M_s_3, M_s_4, M_s_5, Int.reduceToNat, wrp_id, cC_v (m106 _), b3, n2, q1, cI_n m125 M_o h190, cI_n m127 M_o h190, cI_v hr2 M_o h190, mAr_same, mAr_mAr, mAr_1, mAr_h, mS_2, mS_same, mS_mS, mAr_mS, mh_1, mh_2, mh_h, mAr_01, mAr_02, mAr_03, mAr_04, mAr_05, mAr_10, mAr_12, mAr_13, mAr_14, mAr_15, mAr_20, mAr_21, mAr_23, mAr_24, mAr_25, mAr_30, mAr_31, mAr_32, mAr_34, mAr_35, mAr_40, mAr_41, mAr_42, mAr_43, mAr_45, mAr_50, mAr_51, mAr_52, mAr_53, mAr_54, mS_01, mS_02, mS_03, mS_10, mS_12, mS_13, mS_20, mS_21, mS_23, mS_30, mS_31, mS_32, ne_eq, Int.reduceEq, not_true_eq_false, not_false_eq_true, ↓reduceIte]
      by_cases c2 : rd < few
      · rw [if_pos (by omega)]
        obtain ⟨M2, hs2, hq2⟩ := ih (p + 1) p rd rd (mAr (mS (mAr (mAr (mAr M 2 (M.2.1 0)) 0 (fu (M.2.1 0) 3 (iOr (M.2.1 0 3) (iShl 1 p)))) 0 z2) 3 fr) 0 (M.2.1 0)) (fn (sR σ 6 (rs 8 (σ.1 6) p 1)) 0) (vi rd) (by omega) h (Or.inr ⟨by omega, rfl⟩)
        refine ⟨M2, hs.tr hs2, fun Q => ?_⟩
        have q := hq2 Q
        simp only [Int.natCast_add, Int.cast_ofNat_Int] at q
        rw [hq, if_pos c2, if_pos c2, q]
      · rw [if_neg (by omega)]
        obtain ⟨M2, hs2, hq2⟩ := ih (p + 1) b few r (mAr (mS (mAr (mAr (mAr M 2 (M.2.1 0)) 0 (fu (M.2.1 0) 3 (iOr (M.2.1 0 3) (iShl 1 p)))) 0 z2) 3 fr) 0 (M.2.1 0)) (fn (sR σ 6 (rs 8 (σ.1 6) p 1)) 0) (vi rd) (by omega) h hb
        refine ⟨M2, hs.tr hs2, fun Q => ?_⟩
        have q := hq2 Q
        simp only [Int.natCast_add, Int.cast_ofNat_Int] at q
        rw [hq, if_neg c2, if_neg c2, q]
    · rw [if_pos c] at q1
      rw [if_neg (by omega)]
      obtain ⟨M2, hs2, hq2⟩ := ih (p + 1) b few r M τ l4 (by omega) h hb
      refine ⟨M2, hs2, fun Q => ?_⟩
      have q := hq2 Q
      simp only [Int.natCast_add, Int.cast_ofNat_Int] at q
      rw [e137_8]
      simp (disch := first | omega | rfl) only [e137_0, e137_1, e137_2, e137_5, e137_6, e137_7, e137_9, e137_11, e137_14, e137_15, e137_18, e137_19, e137_20, e137_23, e137_24, e137_27, e137_28, e137_29, e137_30, e137_31, e137_34, e137_35, e137_38, e137_39, e137_40, e137_41, e137_44, e137_47, e137_48, e137_51, e137_52, e137_55, e137_56, e137_57, e137_58, e137_59, e137_60, e137_61, e137_62, e137_63, e137_64, e137_65, e137_68, e137_70, e137_71, e137_74, e137_76, e137_77, e137_80, e137_81, e137_84, e137_85, e137_86, e137_88, e137_89, e137_92, e137_94, e137_97, e137_98, e137_99, e137_102, e137_105, e137_106, WpV_some, WpH_some, ↓ite_t, ↓ite_f, M_f0, M_f1, M_f2, M_f3, M_f4, M_f5, M_f6, M_f7, M_f8, M_f9, M_f10, M_p0, M_p3, M_p6, M_p7, M_p10, M_g_0, M_g_1, M_g_2, M_g_3, M_g_4, M_g_5, M_s_0, M_s_1, M_s_2, M_s_3, M_s_4, M_s_5, Int.reduceToNat, wrp_id, cC_v (m106 _), b3, n2, q1, ne_eq, Int.reduceEq, not_true_eq_false, not_false_eq_true, ↓reduceIte, q]
theorem m137 (h : rel σ (M.2.1 0)) (τ : SG) : ∃ M', sim M M' ∧ Runs xs 137 [vr 190] μ (putM f M) (.inl (some (vi (bp σ τ).1))) μ (putM f M') := by
  obtain ⟨w1, w2, w3, w4, w5⟩ := h.wf
  obtain ⟨n0, n1, n2⟩ := h.n
  unfold bp
  rw [h.pin.s8]
  by_cases c : sm8 (σ.1 6) < σ.2 2 - 1
  · rw [if_pos c]
    obtain ⟨M', hs, hq⟩ := m137_loop (xs := xs) (f := f) (μ := μ) c 8 0 (-1) 1000 0 M τ vu rfl h (Or.inl ⟨rfl, rfl⟩)
    refine ⟨M', hs, Runs.iff fun Q hQ => ?_⟩
    show Wp xs 137 0 [vr 190, vu, vu, vu, vu] [] μ (putM f M) Q
    have q := hq Q
    simp only [Int.cast_ofNat_Int] at q
    simp (disch := first | omega | rfl) only [e137_0, e137_1, e137_2, e137_5, e137_6, e137_7, e137_9, e137_11, e137_14, e137_15, e137_18, e137_19, e137_20, e137_23, e137_24, e137_27, e137_28, e137_29, e137_30, e137_31, e137_34, e137_35, e137_38, e137_39, e137_40, e137_41, e137_44, e137_47, e137_48, e137_51, e137_52, e137_55, e137_56, e137_57, e137_58, e137_59, e137_60, e137_61, e137_62, e137_63, e137_64, e137_65, e137_68, e137_70, e137_71, e137_74, e137_76, e137_77, e137_80, e137_81, e137_84, e137_85, e137_86, e137_88, e137_89, e137_92, e137_94, e137_97, e137_98, e137_99, e137_102, e137_105, e137_106, WpV_some, WpH_some, ↓ite_t, ↓ite_f, q]
    exact hQ
  · rw [if_neg c]
    have b3 := h.pin.btsE
    refine ⟨M, sim.rfl M, Runs.iff fun Q hQ => ?_⟩
    show Wp xs 137 0 [vr 190, vu, vu, vu, vu] [] μ (putM f M) Q
    simp (disch := first | omega | rfl) only [e137_0, e137_1, e137_2, e137_5, e137_6, e137_7, e137_8, e137_9, e137_11, e137_14, e137_15, e137_18, e137_19, e137_20, e137_23, e137_24, e137_27, e137_28, e137_29, e137_30, e137_31, e137_34, e137_35, e137_38, e137_39, e137_40, e137_41, e137_44, e137_47, e137_48, e137_51, e137_52, e137_55, e137_56, e137_57, e137_58, e137_59, e137_60, e137_61, e137_62, e137_63, e137_64, e137_65, e137_68, e137_70, e137_71, e137_74, e137_76, e137_77, e137_80, e137_81, e137_84, e137_85, e137_86, e137_88, e137_89, e137_92, e137_94, e137_97, e137_98, e137_99, e137_102, e137_105, e137_106, WpV_some, WpH_some, ↓ite_t, ↓ite_f, M_f0, M_f1, M_f2, M_f3, M_f4, M_f5, M_f6, M_f7, M_f8, M_f9, M_f10, M_p0, M_p3, M_p6, M_p7, M_p10, M_g_0, M_g_1, M_g_2, M_g_3, M_g_4, M_g_5, M_s_0, M_s_1, M_s_2, M_s_3, M_s_4, M_s_5, Int.reduceToNat, wrp_id, cC_v (m106 _), b3, n2]
    exact hQ
end MU
