/-! THE MODEL'S METHODS: exchange, go, pin, flush -/
section MQ
variable {xs : List Int} {f : AH} {M : MG} {μ : Mu} {y pc : Nat} {L st : List AV} {Q : Out → Mu → AH → Prop} {σ : SG} {T : TG} {V : VG} {sc : Int} {z : Nat → Int}
theorem rel.swap (h : rel σ z) {i j : Nat} (hi0 : σ.2 1 ≤ i) (hi1 : (i : Int) < σ.2 0) (hj0 : σ.2 1 ≤ j) (hj1 : (j : Int) < σ.2 0) : rel (swp σ i j) (lys (lys z i (σ.1 0 j) (σ.1 1 j)) j (σ.1 0 i) (σ.1 1 i)) := by
  obtain ⟨w1, w2, w3, w4, w5⟩ := h.wf
  have s2 : (swp σ i j).2 = σ.2 := rfl
  have sj : ∀ k, k ≠ 0 → k ≠ 1 → (swp σ i j).1 k = σ.1 k := fun k k0 k1 => by unfold swp; rw [sR_1, if_neg k1, sR_1, if_neg k0]
  have r0 : (swp σ i j).1 0 = fu (fu (σ.1 0) i (σ.1 0 j)) j (σ.1 0 i) := by unfold swp; rw [sR_1, if_neg (by decide), sR_1, if_pos rfl, rg_n _ (by omega), rg_n _ (by omega), rs_n _ _ (by omega), rs_n _ _ (by omega)]
  have r1 : (swp σ i j).1 1 = fu (fu (σ.1 1) i (σ.1 1 j)) j (σ.1 1 i) := by unfold swp; rw [sR_1, if_pos rfl, rg_n _ (by omega), rg_n _ (by omega), rs_n _ _ (by omega), rs_n _ _ (by omega)]
  have hPi := h.P i hi1
  have hPj := h.P j hj1
  have zl : ∀ k, k < 27 + 4 * i → k < 27 + 4 * j → lys (lys z i (σ.1 0 j) (σ.1 1 j)) j (σ.1 0 i) (σ.1 1 i) k = z k := fun k h1 h2 => by
    rw [lys_n _ _ _ _ (Or.inl h2), lys_n _ _ _ _ (Or.inl h1)]
  have zo : ∀ k v, v < 4 → k ≠ i → k ≠ j → lys (lys z i (σ.1 0 j) (σ.1 1 j)) j (σ.1 0 i) (σ.1 1 i) (27 + 4 * k + v) = z (27 + 4 * k + v) := fun k v hv h1 h2 => by
    rw [lys_n _ _ _ _ (by omega), lys_n _ _ _ _ (by omega)]
  have zo1 : ∀ k, k ≠ i → k ≠ j → lys (lys z i (σ.1 0 j) (σ.1 1 j)) j (σ.1 0 i) (σ.1 1 i) (27 + 4 * k) = z (27 + 4 * k) ∧ lys (lys z i (σ.1 0 j) (σ.1 1 j)) j (σ.1 0 i) (σ.1 1 i) (28 + 4 * k) = z (28 + 4 * k) ∧ lys (lys z i (σ.1 0 j) (σ.1 1 j)) j (σ.1 0 i) (σ.1 1 i) (29 + 4 * k) = z (29 + 4 * k) ∧ lys (lys z i (σ.1 0 j) (σ.1 1 j)) j (σ.1 0 i) (σ.1 1 i) (30 + 4 * k) = z (30 + 4 * k) := fun k h1 h2 => by
    have a := zo k 0 (by decide) h1 h2
    have b := zo k 1 (by decide) h1 h2
    have c := zo k 2 (by decide) h1 h2
    have d := zo k 3 (by decide) h1 h2
    rw [show 27 + 4 * k + 1 = 28 + 4 * k by omega] at b
    rw [show 27 + 4 * k + 2 = 29 + 4 * k by omega] at c
    rw [show 27 + 4 * k + 3 = 30 + 4 * k by omega] at d
    exact ⟨a, b, c, d⟩
  refine ⟨⟨h.wf, ?_, ?_, ?_⟩, ⟨?_, ?_, ?_⟩, ⟨?_, ?_, ?_⟩, ?_, ?_, ?_⟩
  · rw [s2, zl 0 (by omega) (by omega)]; exact h.n.1
  · rw [s2, zl 1 (by omega) (by omega)]; exact h.n.2.1
  · rw [s2, zl 2 (by omega) (by omega)]; exact h.n.2.2
  · rw [s2, r0, r1]
    intro k hk
    by_cases c1 : k = j
    · subst c1
      rw [lys_0, lys_1, fu_s, fu_s]
      exact ⟨rfl, hPi.2.1, hPi.2.2.1, rfl, hPi.2.2.2.2⟩
    · rw [fu_n _ _ c1, fu_n _ _ c1]
      by_cases c2 : k = i
      · subst c2
        have x0 := lys_n (lys z k (σ.1 0 j) (σ.1 1 j)) j (σ.1 0 k) (σ.1 1 k) (j := 27 + 4 * k) (by omega)
        have x1 := lys_n (lys z k (σ.1 0 j) (σ.1 1 j)) j (σ.1 0 k) (σ.1 1 k) (j := 28 + 4 * k) (by omega)
        rw [x0, x1, lys_0, lys_1, fu_s, fu_s]
        exact ⟨rfl, hPj.2.1, hPj.2.2.1, rfl, hPj.2.2.2.2⟩
      · rw [fu_n _ _ c2, fu_n _ _ c2, (zo1 k c2 c1).1, (zo1 k c2 c1).2.1]
        exact h.P k hk
  · rw [s2, sj 2 (by decide) (by decide), sj 3 (by decide) (by decide)]
    exact h.D.ext fun k hk => ⟨zl _ (by omega) (by omega), zl _ (by omega) (by omega)⟩
  · rw [s2]
    intro k hk hk2
    by_cases c1 : k = j
    · subst c1; rw [lys_2, lys_3]; exact ⟨rfl, rfl⟩
    · by_cases c2 : k = i
      · subst c2
        have x0 := lys_n (lys z k (σ.1 0 j) (σ.1 1 j)) j (σ.1 0 k) (σ.1 1 k) (j := 29 + 4 * k) (by omega)
        have x1 := lys_n (lys z k (σ.1 0 j) (σ.1 1 j)) j (σ.1 0 k) (σ.1 1 k) (j := 30 + 4 * k) (by omega)
        rw [x0, x1, lys_2, lys_3]; exact ⟨rfl, rfl⟩
      · rw [(zo1 k c2 c1).2.2.1, (zo1 k c2 c1).2.2.2]
        exact h.C k hk hk2
  · rw [sj 6 (by decide) (by decide), zl 3 (by omega) (by omega)]; exact h.pin
  · rw [sj 5 (by decide) (by decide), zl 4 (by omega) (by omega)]; exact h.ch
  · rw [s2, sj 4 (by decide) (by decide)]
    refine ⟨h.F.1, fun e he => ?_, fun e q he hq => ?_⟩
    · rw [zl _ (by omega) (by omega)]; exact h.F.2.1 e he
    · rw [zl _ (by omega) (by omega)]; exact h.F.2.2 e q he hq
  · rw [s2, sj 7 (by decide) (by decide), sj 8 (by decide) (by decide)]
    exact h.L.ext fun k hk => ⟨(zl _ (by omega) (by omega)).symm, (zl _ (by omega) (by omega)).symm⟩
  · rw [s2, sj 9 (by decide) (by decide), sj 10 (by decide) (by decide), sj 5 (by decide) (by decide)]
    intro q hq
    rw [zl _ (by omega) (by omega), zl _ (by omega) (by omega)]
    exact h.N q hq
  · rw [s2, sj 6 (by decide) (by decide)]; exact h.K
theorem m94 (h : inv σ T V sc M) {i j : Int} (hi0 : σ.2 1 ≤ i) (hi1 : i < σ.2 0) (hj0 : σ.2 1 ≤ j) (hj1 : j < σ.2 0) : ∃ M', inv (swp σ i j) T (svV V sc σ) (svC sc) M' ∧ M'.1 0 = 0 ∧ Runs xs 94 [vr 190, vi i, vi j] μ (putM f M) (.inl (some (vi (rg 80 ((swp σ i j).1 0) i)))) μ (putM f M') := by
  obtain ⟨w1, w2, w3, w4, w5⟩ := h.1.wf
  obtain ⟨i, rfl⟩ : ∃ n : Nat, i = n := ⟨i.toNat, by omega⟩
  obtain ⟨j, rfl⟩ : ∃ n : Nat, j = n := ⟨j.toNat, by omega⟩
  have h0 : inv σ T V sc (mS M 0 0) := h
  obtain ⟨g1, g2, g3, g4, g5, g6⟩ := h0.save
  obtain ⟨e1, e2, e3, e4⟩ := svM_2 (mS M 0 0)
  have qs := cI_n (h0.m85E (xs := xs) (f := f) (μ := μ)) M_o h190
  generalize svM (mS M 0 0) = M1 at *
  have hr := g1.swap hi0 hi1 hj0 hj1
  refine ⟨mAr M1 0 (lys (lys (M1.2.1 0) i (σ.1 0 j) (σ.1 1 j)) j (σ.1 0 i) (σ.1 1 i)), ⟨hr, g2, g3, g4, g5, g6⟩, e3, Runs.iff fun Q hQ => ?_⟩
  show Wp xs 94 0 [vr 190, vi i, vi j, vu, vu] [] μ (putM f M) Q
  have q1 := fun k => cI_v (m91 (xs := xs) (f := f) (M := M) (μ := μ) h.1.wM k) M_o h190
  have qi := q1 i
  have qj := q1 j
  rw [if_pos (by have := h.1.n; omega)] at qi qj
  have a1 := cI_v (m92 (xs := xs) (f := f) (M := M1) (μ := μ) i 0 (by omega) (by omega) (by omega) (by omega)) M_o h190
  have a2 := cI_v (m92 (xs := xs) (f := f) (M := M1) (μ := μ) i 1 (by omega) (by omega) (by omega) (by omega)) M_o h190
  have a3 := cI_v (m92 (xs := xs) (f := f) (M := M1) (μ := μ) j 0 (by omega) (by omega) (by omega) (by omega)) M_o h190
  have a4 := cI_v (m92 (xs := xs) (f := f) (M := M1) (μ := μ) j 1 (by omega) (by omega) (by omega) (by omega)) M_o h190
  have a5 := cI_v (m92 (xs := xs) (f := f) (M := mAr M1 0 (lys (lys (M1.2.1 0) i (σ.1 0 j) (σ.1 1 j)) j (σ.1 0 i) (σ.1 1 i))) (μ := μ) i 0 (by omega) (by omega) (by omega) (by omega)) M_o h190
  rw [tn27, (g1.P i hi1).1] at a1
  rw [tn28, (g1.P i hi1).2.2.2.1] at a2
  rw [tn27, (g1.P j hj1).1] at a3
  rw [tn28, (g1.P j hj1).2.2.2.1] at a4
  rw [tn27, mAr_same, (hr.P i hi1).1] at a5
  rw [rg_n _ (by omega)] at hQ
  have b1 := fun p w => cI_n (m86 (xs := xs) (f := f) (M := M1) (μ := μ) (i := (i : Nat)) rfl (by omega) p w) M_o h190
  have b2 := fun g p w => cI_n (m86 (xs := xs) (f := f) (M := mAr M1 0 g) (μ := μ) (i := (j : Nat)) rfl (by omega) p w) M_o h190
  simp only [mAr_same, mAr_mAr] at b2
  simp (disch := first | omega | rfl) only [e94_0, e94_1, e94_2, e94_3, e94_6, e94_9, e94_10, e94_11, e94_14, e94_17, e94_18, e94_21, e94_22, e94_25, e94_26, e94_29, e94_32, e94_33, e94_34, e94_35, e94_38, e94_39, e94_40, e94_41, e94_44, e94_45, e94_46, e94_47, e94_48, e94_51, e94_53, e94_54, e94_55, e94_56, e94_57, e94_58, e94_61, e94_62, e94_63, e94_64, e94_67, e94_70, e94_71, e94_72, e94_73, e94_75, e94_78, e94_79, e94_80, e94_81, e94_84, WpV_some, WpH_some, ↓ite_t, ↓ite_f, M_f0, M_f1, M_f2, M_f3, M_f4, M_f5, M_f6, M_f7, M_f8, M_f9, M_f10, M_p0, M_p3, M_p6, M_p7, M_p10, M_g_0, M_g_1, M_g_2, M_g_3, M_g_4, M_g_5, M_s_0, M_s_1, M_s_2, M_s_3, M_s_4, M_s_5, mAr_same, mAr_mAr, mAr_1, mAr_h, mS_2, mS_same, mS_mS, mAr_mS, mh_1, mh_2, mh_h, mAr_01, mAr_02, mAr_03, mAr_04, mAr_05, mAr_10, mAr_12, mAr_13, mAr_14, mAr_15, mAr_20, mAr_21, mAr_23, mAr_24, mAr_25, mAr_30, mAr_31, mAr_32, mAr_34, mAr_35, mAr_40, mAr_41, mAr_42, mAr_43, mAr_45, mAr_50, mAr_51, mAr_52, mAr_53, mAr_54, mS_01, mS_02, mS_03, mS_10, mS_12, mS_13, mS_20, mS_21, mS_23, mS_30, mS_31, mS_32, qi, qj, qs, a1, a2, a3, a4, b1, b2, a5, ne_eq, Int.reduceEq, not_true_eq_false, not_false_eq_true, ↓reduceIte]
  exact hQ
theorem m94e (h : inv σ T V sc M) (i j : Int) (hi : (i < σ.2 1 ∨ σ.2 0 ≤ i) ∨ (j < σ.2 1 ∨ σ.2 0 ≤ j)) : Runs xs 94 [vr 190, vi i, vi j] μ (putM f M) (.inl (some (vi 0))) μ (putM f (mS M 0 1)) := Runs.iff fun Q hQ => by
  show Wp xs 94 0 [vr 190, vi i, vi j, vu, vu] [] μ (putM f M) Q
  obtain ⟨n0, n1, n2⟩ := h.1.n
  have qi := cI_v (m91 (xs := xs) (f := f) (M := M) (μ := μ) h.1.wM i) M_o h190
  have qj := cI_v (m91 (xs := xs) (f := f) (M := M) (μ := μ) h.1.wM j) M_o h190
  by_cases c : i < σ.2 1 ∨ σ.2 0 ≤ i
  · rw [if_neg (by omega)] at qi
    simp (disch := first | omega | rfl) only [e94_0, e94_1, e94_2, e94_3, e94_6, e94_9, e94_10, e94_11, e94_14, e94_17, e94_18, e94_21, e94_22, e94_25, e94_26, e94_29, e94_32, e94_33, e94_34, e94_35, e94_38, e94_39, e94_40, e94_41, e94_44, e94_45, e94_46, e94_47, e94_48, e94_51, e94_53, e94_54, e94_55, e94_56, e94_57, e94_58, e94_61, e94_62, e94_63, e94_64, e94_67, e94_70, e94_71, e94_72, e94_73, e94_75, e94_78, e94_79, e94_80, e94_81, e94_84, WpV_some, WpH_some, ↓ite_t, ↓ite_f, M_f0, M_f1, M_f2, M_f3, M_f4, M_f5, M_f6, M_f7, M_f8, M_f9, M_f10, M_p0, M_p3, M_p6, M_p7, M_p10, M_g_0, M_g_1, M_g_2, M_g_3, M_g_4, M_g_5, M_s_0, M_s_1, M_s_2, M_s_3, M_s_4, M_s_5, mAr_same, mAr_mAr, mAr_1, mAr_h, mS_2, mS_same, mS_mS, mAr_mS, mh_1, mh_2, mh_h, mAr_01, mAr_02, mAr_03, mAr_04, mAr_05, mAr_10, mAr_12, mAr_13, mAr_14, mAr_15, mAr_20, mAr_21, mAr_23, mAr_24, mAr_25, mAr_30, mAr_31, mAr_32, mAr_34, mAr_35, mAr_40, mAr_41, mAr_42, mAr_43, mAr_45, mAr_50, mAr_51, mAr_52, mAr_53, mAr_54, mS_01, mS_02, mS_03, mS_10, mS_12, mS_13, mS_20, mS_21, mS_23, mS_30, mS_31, mS_32, qi, ne_eq, Int.reduceEq, not_true_eq_false, not_false_eq_true, ↓reduceIte]
    exact hQ
  · rw [if_pos (by omega)] at qi
    rw [if_neg (by omega)] at qj
    simp (disch := first | omega | rfl) only [e94_0, e94_1, e94_2, e94_3, e94_6, e94_9, e94_10, e94_11, e94_14, e94_17, e94_18, e94_21, e94_22, e94_25, e94_26, e94_29, e94_32, e94_33, e94_34, e94_35, e94_38, e94_39, e94_40, e94_41, e94_44, e94_45, e94_46, e94_47, e94_48, e94_51, e94_53, e94_54, e94_55, e94_56, e94_57, e94_58, e94_61, e94_62, e94_63, e94_64, e94_67, e94_70, e94_71, e94_72, e94_73, e94_75, e94_78, e94_79, e94_80, e94_81, e94_84, WpV_some, WpH_some, ↓ite_t, ↓ite_f, M_f0, M_f1, M_f2, M_f3, M_f4, M_f5, M_f6, M_f7, M_f8, M_f9, M_f10, M_p0, M_p3, M_p6, M_p7, M_p10, M_g_0, M_g_1, M_g_2, M_g_3, M_g_4, M_g_5, M_s_0, M_s_1, M_s_2, M_s_3, M_s_4, M_s_5, mAr_same, mAr_mAr, mAr_1, mAr_h, mS_2, mS_same, mS_mS, mAr_mS, mh_1, mh_2, mh_h, mAr_01, mAr_02, mAr_03, mAr_04, mAr_05, mAr_10, mAr_12, mAr_13, mAr_14, mAr_15, mAr_20, mAr_21, mAr_23, mAr_24, mAr_25, mAr_30, mAr_31, mAr_32, mAr_34, mAr_35, mAr_40, mAr_41, mAr_42, mAr_43, mAr_45, mAr_50, mAr_51, mAr_52, mAr_53, mAr_54, mS_01, mS_02, mS_03, mS_10, mS_12, mS_13, mS_20, mS_21, mS_23, mS_30, mS_31, mS_32, qi, qj, ne_eq, Int.reduceEq, not_true_eq_false, not_false_eq_true, ↓reduceIte]
    exact hQ
theorem fin_no (rule : Int) : ∀ (d : Nat) (σ : SG), σ.2 0 ≤ σ.2 1 → fin σ rule d = σ := by
  intro d
  induction d with
  | zero => intro σ h; rfl
  | succ d ih =>
    intro σ h
    have e : dnx σ rule = σ := by unfold dnx; rw [if_pos h]
    unfold fin
    rw [e, ih σ h]
theorem goM_loop (n : Int) (hn : n ≤ 80) : ∀ (d k : Nat) (σ : SG) (M : MG) (w : Int), (k : Int) + d = n → rel σ (M.2.1 0) → 0 ≤ w → w ≤ k → ∃ zz, rel (fin σ 0 d) zz ∧ ∀ Q, (Wp xs 95 36 [vr 190, vi n, vi w, vi k] [] μ (putM f M) Q = Q (.inl (some (vi (w + (sm8 ((fin σ 0 d).1 9) - sm8 (σ.1 9)))))) μ (putM f (mAr M 0 zz))) := by
  intro d
  induction d with
  | zero =>
    intro k σ M w hk h h0 h1
    refine ⟨M.2.1 0, h, fun Q => ?_⟩
    show _ = Q (.inl (some (vi (w + (sm8 (σ.1 9) - sm8 (σ.1 9)))))) μ (putM f (mAr M 0 (M.2.1 0)))
    rw [mAr_self, Int.sub_self, Int.add_zero]
    simp (disch := first | omega | rfl) only [e95_0, e95_1, e95_2, e95_3, e95_5, e95_8, e95_11, e95_12, e95_15, e95_16, e95_19, e95_20, e95_23, e95_26, e95_27, e95_28, e95_29, e95_32, e95_33, e95_34, e95_35, e95_36, e95_37, e95_38, e95_41, e95_42, e95_45, e95_46, e95_47, e95_48, e95_51, e95_52, e95_53, e95_56, e95_57, e95_58, e95_59, e95_62, e95_65, e95_66, e95_69, e95_70, e95_71, e95_72, e95_75, e95_78, e95_79, WpV_some, WpH_some, ↓ite_t, ↓ite_f, M_f0, M_f1, M_f2, M_f3, M_f4, M_f5, M_f6, M_f7, M_f8, M_f9, M_f10, M_p0, M_p3, M_p6, M_p7, M_p10, M_g_0, M_g_1, M_g_2, M_g_3, M_g_4, M_g_5, M_s_0, M_s_1, M_s_2, M_s_3, M_s_4, M_s_5]
  | succ d ih =>
    intro k σ M w hk h h0 h1
    obtain ⟨w1, w2, w3, w4, w5⟩ := h.wf
    obtain ⟨n0, n1, n2⟩ := h.n
    by_cases c : σ.2 1 < σ.2 0
    · have e := dnx_21 h c 0
      have h2 := h.dnxE c 0 (Or.inl rfl)
      have ec := (dnx_count h c 0 (Or.inl rfl)).1
      have q1 := cI_v (m96 (xs := xs) (f := f) (M := M) (μ := μ) h c 0 (Or.inl rfl)) M_o h190
      have h01 := dnr_01 (M.2.1 0)
      obtain ⟨zz, hz, hq⟩ := ih (k + 1) (dnx σ 0) (mAr M 0 (dnm (M.2.1 0) 0)) (w + dnr (M.2.1 0)) (by omega) (by rw [mAr_same]; exact h2) (by omega) (by omega)
      refine ⟨zz, hz, fun Q => ?_⟩
      have q := hq Q
      simp only [Int.natCast_add, Int.cast_ofNat_Int, mAr_mAr] at q
      have e3 : w + dnr (M.2.1 0) + (sm8 ((fin (dnx σ 0) 0 d).1 9) - sm8 ((dnx σ 0).1 9)) = w + (sm8 ((fin σ 0 (d + 1)).1 9) - sm8 (σ.1 9)) := by
        show _ = w + (sm8 ((fin (dnx σ 0) 0 d).1 9) - sm8 (σ.1 9))
        omega
      rw [e3] at q
      rw [e95_36]
      rcases h01 with c2 | c2
      · rw [c2] at q1 q
        simp (disch := first | omega | rfl) only [e95_37, e95_38, e95_41, e95_42, e95_45, e95_46, e95_47, e95_48, e95_51, e95_52, e95_53, e95_56, e95_57, e95_58, e95_59, e95_62, e95_65, e95_66, e95_69, e95_70, e95_71, e95_72, e95_75, WpV_some, WpH_some, ↓ite_t, ↓ite_f, M_f0, M_f1, M_f2, M_f3, M_f4, M_f5, M_f6, M_f7, M_f8, M_f9, M_f10, M_p0, M_p3, M_p6, M_p7, M_p10, M_g_0, M_g_1, M_g_2, M_g_3, M_g_4, M_g_5, M_s_0, M_s_1, M_s_2, M_s_3, M_s_4, M_s_5, Int.reduceToNat, n0, n1, q1, wrp_id, ne_eq, Int.reduceEq, not_true_eq_false, not_false_eq_true, ↓reduceIte, q]
      · rw [c2] at q1 q
        simp (disch := first | omega | rfl) only [e95_37, e95_38, e95_41, e95_42, e95_45, e95_46, e95_47, e95_48, e95_51, e95_52, e95_53, e95_56, e95_57, e95_58, e95_59, e95_62, e95_65, e95_66, e95_69, e95_70, e95_71, e95_72, e95_75, WpV_some, WpH_some, ↓ite_t, ↓ite_f, M_f0, M_f1, M_f2, M_f3, M_f4, M_f5, M_f6, M_f7, M_f8, M_f9, M_f10, M_p0, M_p3, M_p6, M_p7, M_p10, M_g_0, M_g_1, M_g_2, M_g_3, M_g_4, M_g_5, M_s_0, M_s_1, M_s_2, M_s_3, M_s_4, M_s_5, Int.reduceToNat, n0, n1, q1, wrp_id, ne_eq, Int.reduceEq, not_true_eq_false, not_false_eq_true, ↓reduceIte, q]
    · refine ⟨M.2.1 0, by rw [fin_no 0 _ _ (by omega)]; exact h, fun Q => ?_⟩
      rw [fin_no 0 _ _ (by omega), mAr_self, Int.sub_self, Int.add_zero]
      simp (disch := first | omega | rfl) only [e95_0, e95_1, e95_2, e95_3, e95_5, e95_8, e95_11, e95_12, e95_15, e95_16, e95_19, e95_20, e95_23, e95_26, e95_27, e95_28, e95_29, e95_32, e95_33, e95_34, e95_35, e95_36, e95_37, e95_38, e95_41, e95_42, e95_45, e95_46, e95_47, e95_48, e95_51, e95_52, e95_53, e95_56, e95_57, e95_58, e95_59, e95_62, e95_65, e95_66, e95_69, e95_70, e95_71, e95_72, e95_75, e95_78, e95_79, WpV_some, WpH_some, ↓ite_t, ↓ite_f, M_f0, M_f1, M_f2, M_f3, M_f4, M_f5, M_f6, M_f7, M_f8, M_f9, M_f10, M_p0, M_p3, M_p6, M_p7, M_p10, M_g_0, M_g_1, M_g_2, M_g_3, M_g_4, M_g_5, M_s_0, M_s_1, M_s_2, M_s_3, M_s_4, M_s_5, Int.reduceToNat, n0, n1]
theorem m95 (h : inv σ T V sc M) (n : Int) (hn0 : 1 ≤ n) (hn1 : n ≤ 80) : ∃ M', inv (fin σ 0 n.toNat) T (svV V sc σ) (svC sc) M' ∧ M'.1 0 = 0 ∧ Runs xs 95 [vr 190, vi n] μ (putM f M) (.inl (some (vi (rdO (fin σ 0 n.toNat) σ)))) μ (putM f M') := by
  have h0 : inv σ T V sc (mS M 0 0) := h
  obtain ⟨g1, g2, g3, g4, g5, g6⟩ := h0.save
  obtain ⟨e1, e2, e3, e4⟩ := svM_2 (mS M 0 0)
  have qs := cI_n (h0.m85E (xs := xs) (f := f) (μ := μ)) M_o h190
  generalize svM (mS M 0 0) = M1 at *
  obtain ⟨zz, hz, hq⟩ := goM_loop (xs := xs) (f := f) (μ := μ) n hn1 n.toNat 0 σ M1 0 (by omega) g1 (by omega) (by omega)
  have er := rdO_r h.1 hz
  refine ⟨mAr M1 0 zz, ⟨by rw [mAr_same]; exact hz, g2, g3, g4, g5, g6⟩, e3, Runs.iff fun Q hQ => ?_⟩
  show Wp xs 95 0 [vr 190, vi n, vu, vu] [] μ (putM f M) Q
  have q := hq Q
  rw [Int.zero_add, ← er.1] at q
  simp only [Int.cast_ofNat_Int] at q
  have q1 := cC_v (m77 (xs := xs) (f := putM f M) (μ := μ) n 1 80)
  rw [if_pos ⟨hn0, hn1⟩] at q1
  simp (disch := first | omega | rfl) only [e95_0, e95_1, e95_2, e95_3, e95_5, e95_8, e95_11, e95_12, e95_15, e95_16, e95_19, e95_20, e95_23, e95_26, e95_27, e95_28, e95_29, e95_32, e95_33, e95_34, e95_35, e95_37, e95_38, e95_41, e95_42, e95_45, e95_46, e95_47, e95_48, e95_51, e95_52, e95_53, e95_56, e95_57, e95_58, e95_59, e95_62, e95_65, e95_66, e95_69, e95_70, e95_71, e95_72, e95_75, e95_78, e95_79, WpV_some, WpH_some, ↓ite_t, ↓ite_f, M_f0, M_f1, M_f2, M_f3, M_f4, M_f5, M_f6, M_f7, M_f8, M_f9, M_f10, M_p0, M_p3, M_p6, M_p7, M_p10, M_g_0, M_g_1, M_g_2, M_g_3, M_g_4, M_g_5, M_s_0, M_s_1, M_s_2, M_s_3, M_s_4, M_s_5, mAr_same, mAr_mAr, mAr_1, mAr_h, mS_2, mS_same, mS_mS, mAr_mS, mh_1, mh_2, mh_h, mAr_01, mAr_02, mAr_03, mAr_04, mAr_05, mAr_10, mAr_12, mAr_13, mAr_14, mAr_15, mAr_20, mAr_21, mAr_23, mAr_24, mAr_25, mAr_30, mAr_31, mAr_32, mAr_34, mAr_35, mAr_40, mAr_41, mAr_42, mAr_43, mAr_45, mAr_50, mAr_51, mAr_52, mAr_53, mAr_54, mS_01, mS_02, mS_03, mS_10, mS_12, mS_13, mS_20, mS_21, mS_23, mS_30, mS_31, mS_32, q1, qs, ne_eq, Int.reduceEq, not_true_eq_false, not_false_eq_true, ↓reduceIte, q]
  exact hQ
theorem m95e (n : Int) (hn : n < 1 ∨ 80 < n) : Runs xs 95 [vr 190, vi n] μ (putM f M) (.inl (some (vi 0))) μ (putM f (mS M 0 1)) := Runs.iff fun Q hQ => by
  show Wp xs 95 0 [vr 190, vi n, vu, vu] [] μ (putM f M) Q
  have q1 := cC_v (m77 (xs := xs) (f := putM f M) (μ := μ) n 1 80)
  rw [if_neg (by omega)] at q1
  simp (disch := first | omega | rfl) only [e95_0, e95_1, e95_2, e95_3, e95_5, e95_8, e95_11, e95_12, e95_15, e95_16, e95_19, e95_20, e95_23, e95_26, e95_27, e95_28, e95_29, e95_32, e95_33, e95_34, e95_35, e95_37, e95_38, e95_41, e95_42, e95_45, e95_46, e95_47, e95_48, e95_51, e95_52, e95_53, e95_56, e95_57, e95_58, e95_59, e95_62, e95_65, e95_66, e95_69, e95_70, e95_71, e95_72, e95_75, e95_78, e95_79, WpV_some, WpH_some, ↓ite_t, ↓ite_f, M_f0, M_f1, M_f2, M_f3, M_f4, M_f5, M_f6, M_f7, M_f8, M_f9, M_f10, M_p0, M_p3, M_p6, M_p7, M_p10, M_g_0, M_g_1, M_g_2, M_g_3, M_g_4, M_g_5, M_s_0, M_s_1, M_s_2, M_s_3, M_s_4, M_s_5, mAr_same, mAr_mAr, mAr_1, mAr_h, mS_2, mS_same, mS_mS, mAr_mS, mh_1, mh_2, mh_h, mAr_01, mAr_02, mAr_03, mAr_04, mAr_05, mAr_10, mAr_12, mAr_13, mAr_14, mAr_15, mAr_20, mAr_21, mAr_23, mAr_24, mAr_25, mAr_30, mAr_31, mAr_32, mAr_34, mAr_35, mAr_40, mAr_41, mAr_42, mAr_43, mAr_45, mAr_50, mAr_51, mAr_52, mAr_53, mAr_54, mS_01, mS_02, mS_03, mS_10, mS_12, mS_13, mS_20, mS_21, mS_23, mS_30, mS_31, mS_32, q1, ne_eq, Int.reduceEq, not_true_eq_false, not_false_eq_true, ↓reduceIte]
  exact hQ
theorem rel.pndE (h : rel σ z) {p : Nat} (hp : p < 8) (hc : σ.1 6 p = 0 → sm8 (σ.1 6) < σ.2 2 - 1) : rel (pnd σ p) (fu z 3 (iXor (z 3) (iShl 1 p))) := by
  obtain ⟨w1, w2, w3, w4, w5⟩ := h.wf
  obtain ⟨v, hv, hz, hb⟩ := id h.pin
  have h01 := h.pin.r hp
  rw [hz, xor_n hv hp]
  have s6 : (pnd σ p).1 6 = fu (σ.1 6) p (1 - σ.1 6 p) := by
    unfold pnd
    rw [sR_1, if_pos rfl, rg_n _ hp, rs_n _ _ hp]
    have : (if σ.1 6 p = 0 then (1 : Int) else 0) = 1 - σ.1 6 p := by split <;> omega
    rw [this]
  have sj : ∀ k, k ≠ 6 → (pnd σ p).1 k = σ.1 k := fun k hk => by unfold pnd; rw [sR_1, if_neg hk]
  have s2 : (pnd σ p).2 = σ.2 := rfl
  have zj : ∀ j, j ≠ 3 → fu z 3 (v ^^^ 2 ^ p : Nat) j = z j := fun j hj => fu_n _ _ hj
  refine ⟨⟨?_, ?_, ?_, ?_⟩, ⟨?_, ?_, ?_⟩, ⟨?_, ?_, ?_⟩, ?_, ?_, ?_⟩
  · unfold wfS; rw [s2]; exact h.wf
  · rw [s2, zj 0 (by decide)]; exact h.n.1
  · rw [s2, zj 1 (by decide)]; exact h.n.2.1
  · rw [s2, zj 2 (by decide)]; exact h.n.2.2
  · rw [s2, sj 0 (by decide), sj 1 (by decide)]; exact h.P.ext fun i _ => ⟨zj _ (by omega), zj _ (by omega)⟩
  · rw [s2, sj 2 (by decide), sj 3 (by decide)]; exact h.D.ext fun i _ => ⟨zj _ (by omega), zj _ (by omega)⟩
  · rw [s2]; exact h.C.ext fun i _ _ => ⟨zj _ (by omega), zj _ (by omega)⟩
  · rw [s6, fu_s]
    refine ⟨v ^^^ 2 ^ p, sxor_lt hv hp, rfl, fun q hq => ?_⟩
    rw [bI_xor]
    unfold fu
    by_cases c : q = p
    · subst c; rw [if_pos rfl, if_pos rfl, hb q hq]
    · rw [if_neg c, if_neg c, hb q hq]
  · rw [sj 5 (by decide), zj 4 (by decide)]; exact h.ch
  · rw [s2, sj 4 (by decide)]
    refine ⟨h.F.1, fun e he => ?_, fun e q he hq => ?_⟩
    · rw [zj _ (by omega)]; exact h.F.2.1 e he
    · rw [zj _ (by omega)]; exact h.F.2.2 e q he hq
  · rw [s2, sj 7 (by decide), sj 8 (by decide)]; exact h.L.ext fun j _ => ⟨(zj _ (by omega)).symm, (zj _ (by omega)).symm⟩
  · rw [s2, sj 9 (by decide), sj 10 (by decide), sj 5 (by decide)]
    intro q hq
    rw [zj _ (by omega), zj _ (by omega)]
    exact h.N q hq
  · rw [s2, s6]
    have k : sm8 (σ.1 6) ≤ σ.2 2 - 1 := h.K
    unfold qK
    rw [sm8_fu _ hp]
    rcases h01 with c | c
    · have := hc c; omega
    · omega
theorem m105 (h : inv σ T V sc M) {p : Int} (hp0 : 0 ≤ p) (hp1 : p < 8) (hc : rg 8 (σ.1 6) p = 0 → sm 0 (σ.1 6) 0 8 < σ.2 2 - 1) : ∃ M', inv (pnd σ p) T (svV V sc σ) (svC sc) M' ∧ M'.1 0 = 0 ∧ Runs xs 105 [vr 190, vi p] μ (putM f M) (.inl (some (vi (sm 0 ((pnd σ p).1 6) 0 8)))) μ (putM f M') := by
  obtain ⟨w1, w2, w3, w4, w5⟩ := h.1.wf
  obtain ⟨n0, n1, n2⟩ := h.1.n
  obtain ⟨p, rfl⟩ : ∃ n : Nat, p = n := ⟨p.toNat, by omega⟩
  have hp8 : p < 8 := by omega
  have h01 := h.1.pin.r hp8
  rw [rg_n _ hp8, h.1.pin.s8] at hc
  have h0 : inv σ T V sc (mS M 0 0) := h
  obtain ⟨g1, g2, g3, g4, g5, g6⟩ := h0.save
  obtain ⟨e1, e2, e3, e4⟩ := svM_2 (mS M 0 0)
  have qs := cI_n (h0.m85E (xs := xs) (f := f) (μ := μ)) M_o h190
  generalize svM (mS M 0 0) = M1 at *
  have hr := g1.pndE hp8 hc
  refine ⟨mAr M1 0 (fu (M1.2.1 0) 3 (iXor (M1.2.1 0 3) (iShl 1 p))), ⟨hr, g2, g3, g4, g5, g6⟩, e3, Runs.iff fun Q hQ => ?_⟩
  show Wp xs 105 0 [vr 190, vi p] [] μ (putM f M) Q
  have q1 := cC_v (m89 (xs := xs) (f := putM f M) (μ := μ) p)
  rw [if_pos (by omega)] at q1
  have q2 := cC_v (m100 (xs := xs) (f := putM f M) (μ := μ) (M.2.1 0 3) p)
  rw [h.1.pin.btE hp8] at q2
  have b1 := h.1.pin.btsE
  have b2 := hr.pin.btsE
  rw [← hr.pin.s8] at b2
  rcases h01 with c | c
  · have hc2 := hc c
    rw [if_neg (by omega)] at q2
    simp (disch := first | omega | rfl) only [e105_0, e105_1, e105_4, e105_7, e105_8, e105_9, e105_12, e105_13, e105_14, e105_15, e105_16, e105_19, e105_20, e105_21, e105_22, e105_25, e105_28, e105_29, e105_32, e105_33, e105_34, e105_37, e105_38, e105_41, e105_42, e105_43, e105_44, e105_45, e105_48, e105_49, e105_52, e105_53, e105_56, e105_57, e105_60, e105_63, e105_64, e105_65, e105_66, e105_69, e105_70, e105_73, e105_74, e105_75, e105_76, e105_77, e105_78, e105_79, e105_80, e105_81, e105_82, e105_85, e105_86, e105_87, e105_90, WpV_some, WpH_some, ↓ite_t, ↓ite_f, M_f0, M_f1, M_f2, M_f3, M_f4, M_f5, M_f6, M_f7, M_f8, M_f9, M_f10, M_p0, M_p3, M_p6, M_p7, M_p10, M_g_0, M_g_1, M_g_2, M_g_3, M_g_4, M_g_5, M_s_0, M_s_1, M_s_2, M_s_3, M_s_4, M_s_5, mAr_same, mAr_mAr, mAr_1, mAr_h, mS_2, mS_same, mS_mS, mAr_mS, mh_1, mh_2, mh_h, mAr_01, mAr_02, mAr_03, mAr_04, mAr_05, mAr_10, mAr_12, mAr_13, mAr_14, mAr_15, mAr_20, mAr_21, mAr_23, mAr_24, mAr_25, mAr_30, mAr_31, mAr_32, mAr_34, mAr_35, mAr_40, mAr_41, mAr_42, mAr_43, mAr_45, mAr_50, mAr_51, mAr_52, mAr_53, mAr_54, mS_01, mS_02, mS_03, mS_10, mS_12, mS_13, mS_20, mS_21, mS_23, mS_30, mS_31, mS_32, Int.reduceToNat, q1, q2, cC_v (m106 _), b1, n2, qs, fu_s, b2, wrp_id, ne_eq, Int.reduceEq, not_true_eq_false, not_false_eq_true, ↓reduceIte]
    rw [fu_s] at b2
    rw [b2]
    exact hQ
  · rw [if_pos c] at q2
    simp (disch := first | omega | rfl) only [e105_0, e105_1, e105_4, e105_7, e105_8, e105_9, e105_12, e105_13, e105_14, e105_15, e105_16, e105_19, e105_20, e105_21, e105_22, e105_25, e105_28, e105_29, e105_32, e105_33, e105_34, e105_37, e105_38, e105_41, e105_42, e105_43, e105_44, e105_45, e105_48, e105_49, e105_52, e105_53, e105_56, e105_57, e105_60, e105_63, e105_64, e105_65, e105_66, e105_69, e105_70, e105_73, e105_74, e105_75, e105_76, e105_77, e105_78, e105_79, e105_80, e105_81, e105_82, e105_85, e105_86, e105_87, e105_90, WpV_some, WpH_some, ↓ite_t, ↓ite_f, M_f0, M_f1, M_f2, M_f3, M_f4, M_f5, M_f6, M_f7, M_f8, M_f9, M_f10, M_p0, M_p3, M_p6, M_p7, M_p10, M_g_0, M_g_1, M_g_2, M_g_3, M_g_4, M_g_5, M_s_0, M_s_1, M_s_2, M_s_3, M_s_4, M_s_5, mAr_same, mAr_mAr, mAr_1, mAr_h, mS_2, mS_same, mS_mS, mAr_mS, mh_1, mh_2, mh_h, mAr_01, mAr_02, mAr_03, mAr_04, mAr_05, mAr_10, mAr_12, mAr_13, mAr_14, mAr_15, mAr_20, mAr_21, mAr_23, mAr_24, mAr_25, mAr_30, mAr_31, mAr_32, mAr_34, mAr_35, mAr_40, mAr_41, mAr_42, mAr_43, mAr_45, mAr_50, mAr_51, mAr_52, mAr_53, mAr_54, mS_01, mS_02, mS_03, mS_10, mS_12, mS_13, mS_20, mS_21, mS_23, mS_30, mS_31, mS_32, Int.reduceToNat, q1, q2, cC_v (m106 _), b1, n2, qs, fu_s, b2, wrp_id, ne_eq, Int.reduceEq, not_true_eq_false, not_false_eq_true, ↓reduceIte]
    rw [fu_s] at b2
    rw [b2]
    exact hQ
theorem m105p (p : Int) (hp : p < 0 ∨ 8 ≤ p) : Runs xs 105 [vr 190, vi p] μ (putM f M) (.inl (some (vi 0))) μ (putM f (mS M 0 1)) := Runs.iff fun Q hQ => by
  show Wp xs 105 0 [vr 190, vi p] [] μ (putM f M) Q
  have q1 := cC_v (m89 (xs := xs) (f := putM f M) (μ := μ) p)
  rw [if_neg (by omega)] at q1
  simp (disch := first | omega | rfl) only [e105_0, e105_1, e105_4, e105_7, e105_8, e105_9, e105_12, e105_13, e105_14, e105_15, e105_16, e105_19, e105_20, e105_21, e105_22, e105_25, e105_28, e105_29, e105_32, e105_33, e105_34, e105_37, e105_38, e105_41, e105_42, e105_43, e105_44, e105_45, e105_48, e105_49, e105_52, e105_53, e105_56, e105_57, e105_60, e105_63, e105_64, e105_65, e105_66, e105_69, e105_70, e105_73, e105_74, e105_75, e105_76, e105_77, e105_78, e105_79, e105_80, e105_81, e105_82, e105_85, e105_86, e105_87, e105_90, WpV_some, WpH_some, ↓ite_t, ↓ite_f, M_f0, M_f1, M_f2, M_f3, M_f4, M_f5, M_f6, M_f7, M_f8, M_f9, M_f10, M_p0, M_p3, M_p6, M_p7, M_p10, M_g_0, M_g_1, M_g_2, M_g_3, M_g_4, M_g_5, M_s_0, M_s_1, M_s_2, M_s_3, M_s_4, M_s_5, mAr_same, mAr_mAr, mAr_1, mAr_h, mS_2, mS_same, mS_mS, mAr_mS, mh_1, mh_2, mh_h, mAr_01, mAr_02, mAr_03, mAr_04, mAr_05, mAr_10, mAr_12, mAr_13, mAr_14, mAr_15, mAr_20, mAr_21, mAr_23, mAr_24, mAr_25, mAr_30, mAr_31, mAr_32, mAr_34, mAr_35, mAr_40, mAr_41, mAr_42, mAr_43, mAr_45, mAr_50, mAr_51, mAr_52, mAr_53, mAr_54, mS_01, mS_02, mS_03, mS_10, mS_12, mS_13, mS_20, mS_21, mS_23, mS_30, mS_31, mS_32, q1, ne_eq, Int.reduceEq, not_true_eq_false, not_false_eq_true, ↓reduceIte]
  exact hQ
theorem m105s (h : inv σ T V sc M) {p : Int} (hp0 : 0 ≤ p) (hp1 : p < 8) (c : rg 8 (σ.1 6) p = 0) (hc : ¬ sm 0 (σ.1 6) 0 8 < σ.2 2 - 1) : Runs xs 105 [vr 190, vi p] μ (putM f M) (.inl (some (vi 0))) μ (putM f (mS M 0 2)) := Runs.iff fun Q hQ => by
  obtain ⟨w1, w2, w3, w4, w5⟩ := h.1.wf
  obtain ⟨n0, n1, n2⟩ := h.1.n
  obtain ⟨p, rfl⟩ : ∃ n : Nat, p = n := ⟨p.toNat, by omega⟩
  have hp8 : p < 8 := by omega
  rw [rg_n _ hp8] at c
  rw [h.1.pin.s8] at hc
  show Wp xs 105 0 [vr 190, vi p] [] μ (putM f M) Q
  have q1 := cC_v (m89 (xs := xs) (f := putM f M) (μ := μ) p)
  rw [if_pos (by omega)] at q1
  have q2 := cC_v (m100 (xs := xs) (f := putM f M) (μ := μ) (M.2.1 0 3) p)
  rw [h.1.pin.btE hp8, if_neg (by omega)] at q2
  have b1 := h.1.pin.btsE
  simp (disch := first | omega | rfl) only [e105_0, e105_1, e105_4, e105_7, e105_8, e105_9, e105_12, e105_13, e105_14, e105_15, e105_16, e105_19, e105_20, e105_21, e105_22, e105_25, e105_28, e105_29, e105_32, e105_33, e105_34, e105_37, e105_38, e105_41, e105_42, e105_43, e105_44, e105_45, e105_48, e105_49, e105_52, e105_53, e105_56, e105_57, e105_60, e105_63, e105_64, e105_65, e105_66, e105_69, e105_70, e105_73, e105_74, e105_75, e105_76, e105_77, e105_78, e105_79, e105_80, e105_81, e105_82, e105_85, e105_86, e105_87, e105_90, WpV_some, WpH_some, ↓ite_t, ↓ite_f, M_f0, M_f1, M_f2, M_f3, M_f4, M_f5, M_f6, M_f7, M_f8, M_f9, M_f10, M_p0, M_p3, M_p6, M_p7, M_p10, M_g_0, M_g_1, M_g_2, M_g_3, M_g_4, M_g_5, M_s_0, M_s_1, M_s_2, M_s_3, M_s_4, M_s_5, mAr_same, mAr_mAr, mAr_1, mAr_h, mS_2, mS_same, mS_mS, mAr_mS, mh_1, mh_2, mh_h, mAr_01, mAr_02, mAr_03, mAr_04, mAr_05, mAr_10, mAr_12, mAr_13, mAr_14, mAr_15, mAr_20, mAr_21, mAr_23, mAr_24, mAr_25, mAr_30, mAr_31, mAr_32, mAr_34, mAr_35, mAr_40, mAr_41, mAr_42, mAr_43, mAr_45, mAr_50, mAr_51, mAr_52, mAr_53, mAr_54, mS_01, mS_02, mS_03, mS_10, mS_12, mS_13, mS_20, mS_21, mS_23, mS_30, mS_31, mS_32, Int.reduceToNat, q1, q2, cC_v (m106 _), b1, n2, wrp_id, ne_eq, Int.reduceEq, not_true_eq_false, not_false_eq_true, ↓reduceIte]
  exact hQ
end MQ
