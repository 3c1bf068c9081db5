/-! THE MODEL'S METHODS: its face -/
section MZ
variable {xs : List Int} {f : AH} {M : MG} {μ : Mu} {y pc : Nat} {L st : List AV} {Q : Out → Mu → AH → Prop} {σ : SG} {T : TG} {V : VG} {sc : Int} {z : Nat → Int}
/-- as it was, but what is thrown, spare and hashed -/
def sml (M M' : MG) (t : Int) : Prop := M'.2.1 0 = M.2.1 0 ∧ M'.2.1 1 = M.2.1 1 ∧ M'.2.1 3 = M.2.1 3 ∧ M'.1 0 = t ∧ M'.1 1 = M.1 1 ∧ M'.1 2 = M.1 2
theorem sml.inv {M' : MG} {t : Int} (k : sml M M' t) (h : inv σ T V sc M) : inv σ T V sc M' := by
  obtain ⟨h1, ⟨t1, t2, t3⟩, h3, h4, h5, h6⟩ := h
  obtain ⟨k1, k2, k3, k4, k5, k6⟩ := k
  refine ⟨by rw [k1]; exact h1, ⟨t1, by rw [k6]; exact t2, by rw [k3]; exact t3⟩, by rw [k5]; exact h3, h4, h5, by rw [k2]; exact h6⟩
theorem sml.mS (M : MG) (t : Int) : sml M (mS M 0 t) t := ⟨rfl, rfl, rfl, rfl, rfl, rfl⟩
theorem sim.sml {M' : MG} {t : Int} (k : sim (mS M 0 t) M') : sml M M' t := ⟨k.1, k.2.1, k.2.2.1, k.2.2.2.1, k.2.2.2.2.1, k.2.2.2.2.2.1⟩
theorem m78E (h : inv σ T V sc M) : ∃ M', inv σ (T.1, 0) V sc M' ∧ Runs xs 78 [vr 190] μ (putM f M) (.inl (some (vi T.2))) μ (putM f M') := by
  obtain ⟨h1, ⟨⟨t0, t01, t02⟩, t2, t3⟩, h3, h4, h5, h6⟩ := h
  refine ⟨mS (mS M 0 0) 2 0, ⟨h1, ⟨⟨Int.le_refl 0, (by decide : (0 : Int) ≤ 40), t02⟩, rfl, fun i hi => ?_⟩, h3, h4, h5, h6⟩, ?_⟩
  · have hi : (i : Int) < 0 := hi
    omega
  · have := m78 (xs := xs) (f := f) (M := M) (μ := μ)
    rw [t2] at this
    exact this
theorem m111 (h : rel σ (M.2.1 0)) (i k : Int) (h0 : 0 ≤ i) (h1 : i < σ.2 0) (hk0 : 0 ≤ k) (hk : k ≤ 3) : Runs xs 111 [vr 190, vi i, vi k] μ (putM f M) (.inl (some (vi (askv σ i k.toNat)))) μ (putM f (mS M 0 0)) := Runs.iff fun Q hQ => by
  show Wp xs 111 0 [vr 190, vi i, vi k] [] μ (putM f M) Q
  obtain ⟨w1, w2, w3, w4, w5⟩ := h.wf
  have q1 := cC_v (m77 (xs := xs) (f := putM f M) (μ := μ) i 0 (σ.2 0 - 1))
  rw [if_pos (by omega)] at q1
  have q2 := cC_v (m77 (xs := xs) (f := putM f M) (μ := μ) k 0 3)
  rw [if_pos ⟨hk0, hk⟩] at q2
  have q3 := cI_v (m112 (xs := xs) (f := f) (M := mS M 0 0) (μ := μ) h i k h0 h1 hk0 hk) M_o h190
  simp (disch := first | omega | rfl) only [e111_0, e111_1, e111_2, e111_3, e111_4, e111_7, e111_8, e111_9, e111_10, e111_11, e111_14, e111_17, e111_18, e111_21, e111_22, e111_23, e111_24, e111_27, e111_30, e111_31, e111_34, e111_35, e111_38, e111_39, e111_42, e111_45, e111_46, e111_49, e111_50, e111_51, e111_52, e111_55, WpV_some, WpH_some, ↓ite_t, ↓ite_f, M_f0, M_f1, M_f2, M_f3, M_f4, M_f5, M_f6, M_f7, M_f8, M_f9, M_f10, M_p0, M_p3, M_p6, M_p7, M_p10, M_g_0, M_g_1, M_g_2, M_g_3, M_g_4, M_g_5, M_s_0, M_s_1, M_s_2, M_s_3, M_s_4, M_s_5, mAr_same, mAr_mAr, mAr_1, mAr_h, mS_2, mS_same, mS_mS, mAr_mS, mh_1, mh_2, mh_h, mAr_01, mAr_02, mAr_03, mAr_04, mAr_05, mAr_10, mAr_12, mAr_13, mAr_14, mAr_15, mAr_20, mAr_21, mAr_23, mAr_24, mAr_25, mAr_30, mAr_31, mAr_32, mAr_34, mAr_35, mAr_40, mAr_41, mAr_42, mAr_43, mAr_45, mAr_50, mAr_51, mAr_52, mAr_53, mAr_54, mS_01, mS_02, mS_03, mS_10, mS_12, mS_13, mS_20, mS_21, mS_23, mS_30, mS_31, mS_32, Int.reduceToNat, h.n.1, q1, q2, q3, wrp_id, ne_eq, Int.reduceEq, not_true_eq_false, not_false_eq_true, ↓reduceIte]
  exact hQ
theorem m111b (h : rel σ (M.2.1 0)) (i k : Int) (hi : i < 0 ∨ σ.2 0 ≤ i) : Runs xs 111 [vr 190, vi i, vi k] μ (putM f M) (.inl (some (vi 0))) μ (putM f (mS M 0 1)) := Runs.iff fun Q hQ => by
  show Wp xs 111 0 [vr 190, vi i, vi k] [] μ (putM f M) Q
  obtain ⟨w1, w2, w3, w4, w5⟩ := h.wf
  have q1 := cC_v (m77 (xs := xs) (f := putM f M) (μ := μ) i 0 (σ.2 0 - 1))
  rw [if_neg (by omega)] at q1
  simp (disch := first | omega | rfl) only [e111_0, e111_1, e111_2, e111_3, e111_4, e111_7, e111_8, e111_9, e111_10, e111_11, e111_14, e111_17, e111_18, e111_21, e111_22, e111_23, e111_24, e111_27, e111_30, e111_31, e111_34, e111_35, e111_38, e111_39, e111_42, e111_45, e111_46, e111_49, e111_50, e111_51, e111_52, e111_55, WpV_some, WpH_some, ↓ite_t, ↓ite_f, M_f0, M_f1, M_f2, M_f3, M_f4, M_f5, M_f6, M_f7, M_f8, M_f9, M_f10, M_p0, M_p3, M_p6, M_p7, M_p10, M_g_0, M_g_1, M_g_2, M_g_3, M_g_4, M_g_5, M_s_0, M_s_1, M_s_2, M_s_3, M_s_4, M_s_5, mAr_same, mAr_mAr, mAr_1, mAr_h, mS_2, mS_same, mS_mS, mAr_mS, mh_1, mh_2, mh_h, mAr_01, mAr_02, mAr_03, mAr_04, mAr_05, mAr_10, mAr_12, mAr_13, mAr_14, mAr_15, mAr_20, mAr_21, mAr_23, mAr_24, mAr_25, mAr_30, mAr_31, mAr_32, mAr_34, mAr_35, mAr_40, mAr_41, mAr_42, mAr_43, mAr_45, mAr_50, mAr_51, mAr_52, mAr_53, mAr_54, mS_01, mS_02, mS_03, mS_10, mS_12, mS_13, mS_20, mS_21, mS_23, mS_30, mS_31, mS_32, Int.reduceToNat, h.n.1, q1, wrp_id, ne_eq, Int.reduceEq, not_true_eq_false, not_false_eq_true, ↓reduceIte]
  exact hQ
theorem m111a (h : rel σ (M.2.1 0)) (i k : Int) (h0 : 0 ≤ i) (h1 : i < σ.2 0) (hk : k < 0 ∨ 3 < k) : Runs xs 111 [vr 190, vi i, vi k] μ (putM f M) (.inl (some (vi 0))) μ (putM f (mS M 0 2)) := Runs.iff fun Q hQ => by
  show Wp xs 111 0 [vr 190, vi i, vi k] [] μ (putM f M) Q
  obtain ⟨w1, w2, w3, w4, w5⟩ := h.wf
  have q1 := cC_v (m77 (xs := xs) (f := putM f M) (μ := μ) i 0 (σ.2 0 - 1))
  rw [if_pos (by omega)] at q1
  have q2 := cC_v (m77 (xs := xs) (f := putM f M) (μ := μ) k 0 3)
  rw [if_neg (by omega)] at q2
  simp (disch := first | omega | rfl) only [e111_0, e111_1, e111_2, e111_3, e111_4, e111_7, e111_8, e111_9, e111_10, e111_11, e111_14, e111_17, e111_18, e111_21, e111_22, e111_23, e111_24, e111_27, e111_30, e111_31, e111_34, e111_35, e111_38, e111_39, e111_42, e111_45, e111_46, e111_49, e111_50, e111_51, e111_52, e111_55, WpV_some, WpH_some, ↓ite_t, ↓ite_f, M_f0, M_f1, M_f2, M_f3, M_f4, M_f5, M_f6, M_f7, M_f8, M_f9, M_f10, M_p0, M_p3, M_p6, M_p7, M_p10, M_g_0, M_g_1, M_g_2, M_g_3, M_g_4, M_g_5, M_s_0, M_s_1, M_s_2, M_s_3, M_s_4, M_s_5, mAr_same, mAr_mAr, mAr_1, mAr_h, mS_2, mS_same, mS_mS, mAr_mS, mh_1, mh_2, mh_h, mAr_01, mAr_02, mAr_03, mAr_04, mAr_05, mAr_10, mAr_12, mAr_13, mAr_14, mAr_15, mAr_20, mAr_21, mAr_23, mAr_24, mAr_25, mAr_30, mAr_31, mAr_32, mAr_34, mAr_35, mAr_40, mAr_41, mAr_42, mAr_43, mAr_45, mAr_50, mAr_51, mAr_52, mAr_53, mAr_54, mS_01, mS_02, mS_03, mS_10, mS_12, mS_13, mS_20, mS_21, mS_23, mS_30, mS_31, mS_32, Int.reduceToNat, h.n.1, q1, q2, wrp_id, ne_eq, Int.reduceEq, not_true_eq_false, not_false_eq_true, ↓reduceIte]
  exact hQ
theorem m113 (h : rel σ (M.2.1 0)) (p k : Int) (h0 : 0 ≤ p) (h1 : p < 8) (hk0 : 0 ≤ k) (hk : k ≤ 7) : Runs xs 113 [vr 190, vi p, vi k] μ (putM f M) (.inl (some (vi (pgv σ p k.toNat)))) μ (putM f (mS M 0 0)) := Runs.iff fun Q hQ => by
  show Wp xs 113 0 [vr 190, vi p, vi k] [] μ (putM f M) Q
  have q1 := cC_v (m89 (xs := xs) (f := putM f M) (μ := μ) p)
  rw [if_pos (by omega)] at q1
  have q2 := cC_v (m77 (xs := xs) (f := putM f M) (μ := μ) k 0 7)
  rw [if_pos ⟨hk0, hk⟩] at q2
  have q3 := cI_v (m114 (xs := xs) (f := f) (M := mS M 0 0) (μ := μ) h (p := p) (pn := p.toNat) (by omega) (by omega) k hk0 hk) M_o h190
  simp (disch := first | omega | rfl) only [e113_0, e113_1, e113_2, e113_5, e113_8, e113_9, e113_10, e113_12, e113_15, e113_18, e113_19, e113_22, e113_23, e113_26, e113_27, e113_30, e113_33, e113_34, e113_37, e113_38, e113_39, e113_40, e113_43, WpV_some, WpH_some, ↓ite_t, ↓ite_f, M_f0, M_f1, M_f2, M_f3, M_f4, M_f5, M_f6, M_f7, M_f8, M_f9, M_f10, M_p0, M_p3, M_p6, M_p7, M_p10, M_g_0, M_g_1, M_g_2, M_g_3, M_g_4, M_g_5, M_s_0, M_s_1, M_s_2, M_s_3, M_s_4, M_s_5, mAr_same, mAr_mAr, mAr_1, mAr_h, mS_2, mS_same, mS_mS, mAr_mS, mh_1, mh_2, mh_h, mAr_01, mAr_02, mAr_03, mAr_04, mAr_05, mAr_10, mAr_12, mAr_13, mAr_14, mAr_15, mAr_20, mAr_21, mAr_23, mAr_24, mAr_25, mAr_30, mAr_31, mAr_32, mAr_34, mAr_35, mAr_40, mAr_41, mAr_42, mAr_43, mAr_45, mAr_50, mAr_51, mAr_52, mAr_53, mAr_54, mS_01, mS_02, mS_03, mS_10, mS_12, mS_13, mS_20, mS_21, mS_23, mS_30, mS_31, mS_32, q1, q2, q3, ne_eq, Int.reduceEq, not_true_eq_false, not_false_eq_true, ↓reduceIte]
  exact hQ
theorem m113e (p k : Int) (h : (p < 0 ∨ 8 ≤ p) ∨ (k < 0 ∨ 7 < k)) : Runs xs 113 [vr 190, vi p, vi k] μ (putM f M) (.inl (some (vi 0))) μ (putM f (mS M 0 1)) := Runs.iff fun Q hQ => by
  show Wp xs 113 0 [vr 190, vi p, vi k] [] μ (putM f M) Q
  have q1 := cC_v (m89 (xs := xs) (f := putM f M) (μ := μ) p)
  have q2 := cC_v (m77 (xs := xs) (f := putM f M) (μ := μ) k 0 7)
  by_cases c : p < 0 ∨ 8 ≤ p
  · rw [if_neg (by omega)] at q1
    simp (disch := first | omega | rfl) only [e113_0, e113_1, e113_2, e113_5, e113_8, e113_9, e113_10, e113_12, e113_15, e113_18, e113_19, e113_22, e113_23, e113_26, e113_27, e113_30, e113_33, e113_34, e113_37, e113_38, e113_39, e113_40, e113_43, WpV_some, WpH_some, ↓ite_t, ↓ite_f, M_f0, M_f1, M_f2, M_f3, M_f4, M_f5, M_f6, M_f7, M_f8, M_f9, M_f10, M_p0, M_p3, M_p6, M_p7, M_p10, M_g_0, M_g_1, M_g_2, M_g_3, M_g_4, M_g_5, M_s_0, M_s_1, M_s_2, M_s_3, M_s_4, M_s_5, mAr_same, mAr_mAr, mAr_1, mAr_h, mS_2, mS_same, mS_mS, mAr_mS, mh_1, mh_2, mh_h, mAr_01, mAr_02, mAr_03, mAr_04, mAr_05, mAr_10, mAr_12, mAr_13, mAr_14, mAr_15, mAr_20, mAr_21, mAr_23, mAr_24, mAr_25, mAr_30, mAr_31, mAr_32, mAr_34, mAr_35, mAr_40, mAr_41, mAr_42, mAr_43, mAr_45, mAr_50, mAr_51, mAr_52, mAr_53, mAr_54, mS_01, mS_02, mS_03, mS_10, mS_12, mS_13, mS_20, mS_21, mS_23, mS_30, mS_31, mS_32, q1, ne_eq, Int.reduceEq, not_true_eq_false, not_false_eq_true, ↓reduceIte]
    exact hQ
  · rw [if_pos (by omega)] at q1
    rw [if_neg (by omega)] at q2
    simp (disch := first | omega | rfl) only [e113_0, e113_1, e113_2, e113_5, e113_8, e113_9, e113_10, e113_12, e113_15, e113_18, e113_19, e113_22, e113_23, e113_26, e113_27, e113_30, e113_33, e113_34, e113_37, e113_38, e113_39, e113_40, e113_43, WpV_some, WpH_some, ↓ite_t, ↓ite_f, M_f0, M_f1, M_f2, M_f3, M_f4, M_f5, M_f6, M_f7, M_f8, M_f9, M_f10, M_p0, M_p3, M_p6, M_p7, M_p10, M_g_0, M_g_1, M_g_2, M_g_3, M_g_4, M_g_5, M_s_0, M_s_1, M_s_2, M_s_3, M_s_4, M_s_5, mAr_same, mAr_mAr, mAr_1, mAr_h, mS_2, mS_same, mS_mS, mAr_mS, mh_1, mh_2, mh_h, mAr_01, mAr_02, mAr_03, mAr_04, mAr_05, mAr_10, mAr_12, mAr_13, mAr_14, mAr_15, mAr_20, mAr_21, mAr_23, mAr_24, mAr_25, mAr_30, mAr_31, mAr_32, mAr_34, mAr_35, mAr_40, mAr_41, mAr_42, mAr_43, mAr_45, mAr_50, mAr_51, mAr_52, mAr_53, mAr_54, mS_01, mS_02, mS_03, mS_10, mS_12, mS_13, mS_20, mS_21, mS_23, mS_30, mS_31, mS_32, q1, q2, ne_eq, Int.reduceEq, not_true_eq_false, not_false_eq_true, ↓reduceIte]
    exact hQ
theorem m116 (h : rel σ (M.2.1 0)) (i : Int) (h0 : 0 ≤ i) (h1 : i < σ.2 2) : Runs xs 116 [vr 190, vi i] μ (putM f M) (.inl (some (vi (fo (σ.1 4) i 0 8)))) μ (putM f (mS M 0 0)) := Runs.iff fun Q hQ => by
  show Wp xs 116 0 [vr 190, vi i] [] μ (putM f M) Q
  obtain ⟨w1, w2, w3, w4, w5⟩ := h.wf
  obtain ⟨j, rfl⟩ : ∃ j : Nat, i = j := ⟨i.toNat, by omega⟩
  have q1 := cC_v (m77 (xs := xs) (f := putM f M) (μ := μ) j 0 (σ.2 2 - 1))
  rw [if_pos (by omega)] at q1
  rw [h.pif (by omega)] at hQ
  simp (disch := first | omega | rfl) only [e116_0, e116_1, e116_2, e116_3, e116_4, e116_7, e116_8, e116_9, e116_10, e116_11, e116_14, e116_17, e116_18, e116_21, e116_22, e116_25, e116_26, e116_29, e116_32, e116_33, e116_36, e116_37, e116_40, e116_41, e116_42, e116_43, e116_44, WpV_some, WpH_some, ↓ite_t, ↓ite_f, M_f0, M_f1, M_f2, M_f3, M_f4, M_f5, M_f6, M_f7, M_f8, M_f9, M_f10, M_p0, M_p3, M_p6, M_p7, M_p10, M_g_0, M_g_1, M_g_2, M_g_3, M_g_4, M_g_5, M_s_0, M_s_1, M_s_2, M_s_3, M_s_4, M_s_5, mAr_same, mAr_mAr, mAr_1, mAr_h, mS_2, mS_same, mS_mS, mAr_mS, mh_1, mh_2, mh_h, mAr_01, mAr_02, mAr_03, mAr_04, mAr_05, mAr_10, mAr_12, mAr_13, mAr_14, mAr_15, mAr_20, mAr_21, mAr_23, mAr_24, mAr_25, mAr_30, mAr_31, mAr_32, mAr_34, mAr_35, mAr_40, mAr_41, mAr_42, mAr_43, mAr_45, mAr_50, mAr_51, mAr_52, mAr_53, mAr_54, mS_01, mS_02, mS_03, mS_10, mS_12, mS_13, mS_20, mS_21, mS_23, mS_30, mS_31, mS_32, Int.reduceToNat, h.n.2.2, q1, tn5, wrp_id, ne_eq, Int.reduceEq, not_true_eq_false, not_false_eq_true, ↓reduceIte]
  exact hQ
theorem m116e (h : rel σ (M.2.1 0)) (i : Int) (hi : i < 0 ∨ σ.2 2 ≤ i) : Runs xs 116 [vr 190, vi i] μ (putM f M) (.inl (some (vi 0))) μ (putM f (mS M 0 1)) := Runs.iff fun Q hQ => by
  show Wp xs 116 0 [vr 190, vi i] [] μ (putM f M) Q
  obtain ⟨w1, w2, w3, w4, w5⟩ := h.wf
  have q1 := cC_v (m77 (xs := xs) (f := putM f M) (μ := μ) i 0 (σ.2 2 - 1))
  rw [if_neg (by omega)] at q1
  simp (disch := first | omega | rfl) only [e116_0, e116_1, e116_2, e116_3, e116_4, e116_7, e116_8, e116_9, e116_10, e116_11, e116_14, e116_17, e116_18, e116_21, e116_22, e116_25, e116_26, e116_29, e116_32, e116_33, e116_36, e116_37, e116_40, e116_41, e116_42, e116_43, e116_44, WpV_some, WpH_some, ↓ite_t, ↓ite_f, M_f0, M_f1, M_f2, M_f3, M_f4, M_f5, M_f6, M_f7, M_f8, M_f9, M_f10, M_p0, M_p3, M_p6, M_p7, M_p10, M_g_0, M_g_1, M_g_2, M_g_3, M_g_4, M_g_5, M_s_0, M_s_1, M_s_2, M_s_3, M_s_4, M_s_5, mAr_same, mAr_mAr, mAr_1, mAr_h, mS_2, mS_same, mS_mS, mAr_mS, mh_1, mh_2, mh_h, mAr_01, mAr_02, mAr_03, mAr_04, mAr_05, mAr_10, mAr_12, mAr_13, mAr_14, mAr_15, mAr_20, mAr_21, mAr_23, mAr_24, mAr_25, mAr_30, mAr_31, mAr_32, mAr_34, mAr_35, mAr_40, mAr_41, mAr_42, mAr_43, mAr_45, mAr_50, mAr_51, mAr_52, mAr_53, mAr_54, mS_01, mS_02, mS_03, mS_10, mS_12, mS_13, mS_20, mS_21, mS_23, mS_30, mS_31, mS_32, Int.reduceToNat, h.n.2.2, q1, wrp_id, ne_eq, Int.reduceEq, not_true_eq_false, not_false_eq_true, ↓reduceIte]
  exact hQ
theorem m117 (h : rel σ (M.2.1 0)) (hs : M.1 1 = sc) (k : Int) (h0 : 0 ≤ k) (h9 : k ≤ 9) : Runs xs 117 [vr 190, vi k] μ (putM f M) (.inl (some (vi (cnt sc σ k.toNat)))) μ (putM f (mS M 0 0)) := Runs.iff fun Q hQ => by
  show Wp xs 117 0 [vr 190, vi k] [] μ (putM f M) Q
  have q1 := cC_v (m77 (xs := xs) (f := putM f M) (μ := μ) k 0 9)
  rw [if_pos ⟨h0, h9⟩] at q1
  have q3 := cI_v (m118 (xs := xs) (f := f) (M := mS M 0 0) (μ := μ) h hs k h0 h9) M_o h190
  simp (disch := first | omega | rfl) only [e117_0, e117_1, e117_2, e117_3, e117_5, e117_8, e117_11, e117_12, e117_15, e117_16, e117_19, e117_20, e117_23, e117_26, e117_27, e117_30, e117_31, e117_32, e117_35, WpV_some, WpH_some, ↓ite_t, ↓ite_f, M_f0, M_f1, M_f2, M_f3, M_f4, M_f5, M_f6, M_f7, M_f8, M_f9, M_f10, M_p0, M_p3, M_p6, M_p7, M_p10, M_g_0, M_g_1, M_g_2, M_g_3, M_g_4, M_g_5, M_s_0, M_s_1, M_s_2, M_s_3, M_s_4, M_s_5, mAr_same, mAr_mAr, mAr_1, mAr_h, mS_2, mS_same, mS_mS, mAr_mS, mh_1, mh_2, mh_h, mAr_01, mAr_02, mAr_03, mAr_04, mAr_05, mAr_10, mAr_12, mAr_13, mAr_14, mAr_15, mAr_20, mAr_21, mAr_23, mAr_24, mAr_25, mAr_30, mAr_31, mAr_32, mAr_34, mAr_35, mAr_40, mAr_41, mAr_42, mAr_43, mAr_45, mAr_50, mAr_51, mAr_52, mAr_53, mAr_54, mS_01, mS_02, mS_03, mS_10, mS_12, mS_13, mS_20, mS_21, mS_23, mS_30, mS_31, mS_32, q1, q3, ne_eq, Int.reduceEq, not_true_eq_false, not_false_eq_true, ↓reduceIte]
  exact hQ
theorem m117e (k : Int) (h : k < 0 ∨ 9 < k) : Runs xs 117 [vr 190, vi k] μ (putM f M) (.inl (some (vi 0))) μ (putM f (mS M 0 1)) := Runs.iff fun Q hQ => by
  show Wp xs 117 0 [vr 190, vi k] [] μ (putM f M) Q
  have q1 := cC_v (m77 (xs := xs) (f := putM f M) (μ := μ) k 0 9)
  rw [if_neg (by omega)] at q1
  simp (disch := first | omega | rfl) only [e117_0, e117_1, e117_2, e117_3, e117_5, e117_8, e117_11, e117_12, e117_15, e117_16, e117_19, e117_20, e117_23, e117_26, e117_27, e117_30, e117_31, e117_32, e117_35, WpV_some, WpH_some, ↓ite_t, ↓ite_f, M_f0, M_f1, M_f2, M_f3, M_f4, M_f5, M_f6, M_f7, M_f8, M_f9, M_f10, M_p0, M_p3, M_p6, M_p7, M_p10, M_g_0, M_g_1, M_g_2, M_g_3, M_g_4, M_g_5, M_s_0, M_s_1, M_s_2, M_s_3, M_s_4, M_s_5, mAr_same, mAr_mAr, mAr_1, mAr_h, mS_2, mS_same, mS_mS, mAr_mS, mh_1, mh_2, mh_h, mAr_01, mAr_02, mAr_03, mAr_04, mAr_05, mAr_10, mAr_12, mAr_13, mAr_14, mAr_15, mAr_20, mAr_21, mAr_23, mAr_24, mAr_25, mAr_30, mAr_31, mAr_32, mAr_34, mAr_35, mAr_40, mAr_41, mAr_42, mAr_43, mAr_45, mAr_50, mAr_51, mAr_52, mAr_53, mAr_54, mS_01, mS_02, mS_03, mS_10, mS_12, mS_13, mS_20, mS_21, mS_23, mS_30, mS_31, mS_32, q1, ne_eq, Int.reduceEq, not_true_eq_false, not_false_eq_true, ↓reduceIte]
  exact hQ
theorem m121 (h : rel σ (M.2.1 0)) : Runs xs 121 [vr 190] μ (putM f M) (.inl (some (vi (vic σ)))) μ (putM f (mS M 0 0)) := Runs.iff fun Q hQ => by
  show Wp xs 121 0 [vr 190] [] μ (putM f M) Q
  have q3 := cI_v (m122 (xs := xs) (f := f) (M := mS M 0 0) (μ := μ) (σ := σ) h) M_o h190
  simp (disch := first | omega | rfl) only [e121_0, e121_1, e121_2, e121_5, e121_6, e121_9, WpV_some, WpH_some, ↓ite_t, ↓ite_f, M_f0, M_f1, M_f2, M_f3, M_f4, M_f5, M_f6, M_f7, M_f8, M_f9, M_f10, M_p0, M_p3, M_p6, M_p7, M_p10, M_g_0, M_g_1, M_g_2, M_g_3, M_g_4, M_g_5, M_s_0, M_s_1, M_s_2, M_s_3, M_s_4, M_s_5, q3]
  exact hQ
theorem m123 (h : rel σ (M.2.1 0)) (r k : Int) (hr0 : 0 ≤ r) (hr : r ≤ 2) (h0 : 0 ≤ k) (h1 : k < 3) : ∃ M', sml M M' 0 ∧ Runs xs 123 [vr 190, vi r, vi k] μ (putM f M) (.inl (some (vi (byr (fn σ r) σ k.toNat)))) μ (putM f M') := by
  obtain ⟨M', hs, hr1⟩ := m124 (xs := xs) (f := f) (M := mS M 0 0) (μ := μ) (σ := σ) h r k (by omega) h0 h1
  refine ⟨M', hs.sml, Runs.iff fun Q hQ => ?_⟩
  show Wp xs 123 0 [vr 190, vi r, vi k] [] μ (putM f M) Q
  have q1 := cC_v (m77 (xs := xs) (f := putM f M) (μ := μ) r 0 2)
  rw [if_pos ⟨hr0, hr⟩] at q1
  have q2 := cC_v (m77 (xs := xs) (f := putM f M) (μ := μ) k 0 2)
  rw [if_pos (by omega)] at q2
  simp (disch := first | omega | rfl) only [e123_0, e123_1, e123_2, e123_3, e123_4, e123_7, e123_10, e123_11, e123_12, e123_13, e123_16, e123_19, e123_20, e123_23, e123_24, e123_27, e123_28, e123_31, e123_34, e123_35, e123_38, e123_39, e123_40, e123_41, e123_44, WpV_some, WpH_some, ↓ite_t, ↓ite_f, M_f0, M_f1, M_f2, M_f3, M_f4, M_f5, M_f6, M_f7, M_f8, M_f9, M_f10, M_p0, M_p3, M_p6, M_p7, M_p10, M_g_0, M_g_1, M_g_2, M_g_3, M_g_4, M_g_5, M_s_0, M_s_1, M_s_2, M_s_3, M_s_4, M_s_5, mAr_same, mAr_mAr, mAr_1, mAr_h, mS_2, mS_same, mS_mS, mAr_mS, mh_1, mh_2, mh_h, mAr_01, mAr_02, mAr_03, mAr_04, mAr_05, mAr_10, mAr_12, mAr_13, mAr_14, mAr_15, mAr_20, mAr_21, mAr_23, mAr_24, mAr_25, mAr_30, mAr_31, mAr_32, mAr_34, mAr_35, mAr_40, mAr_41, mAr_42, mAr_43, mAr_45, mAr_50, mAr_51, mAr_52, mAr_53, mAr_54, mS_01, mS_02, mS_03, mS_10, mS_12, mS_13, mS_20, mS_21, mS_23, mS_30, mS_31, mS_32, q1, q2, cI_v hr1 M_o h190, ne_eq, Int.reduceEq, not_true_eq_false, not_false_eq_true, ↓reduceIte]
  exact hQ
theorem m123e (r k : Int) (h : (r < 0 ∨ 2 < r) ∨ (k < 0 ∨ 3 ≤ k)) : Runs xs 123 [vr 190, vi r, vi k] μ (putM f M) (.inl (some (vi 0))) μ (putM f (mS M 0 1)) := Runs.iff fun Q hQ => by
  show Wp xs 123 0 [vr 190, vi r, vi k] [] μ (putM f M) Q
  have q1 := cC_v (m77 (xs := xs) (f := putM f M) (μ := μ) r 0 2)
  have q2 := cC_v (m77 (xs := xs) (f := putM f M) (μ := μ) k 0 2)
  by_cases c : r < 0 ∨ 2 < r
  · rw [if_neg (by omega)] at q1
    simp (disch := first | omega | rfl) only [e123_0, e123_1, e123_2, e123_3, e123_4, e123_7, e123_10, e123_11, e123_12, e123_13, e123_16, e123_19, e123_20, e123_23, e123_24, e123_27, e123_28, e123_31, e123_34, e123_35, e123_38, e123_39, e123_40, e123_41, e123_44, WpV_some, WpH_some, ↓ite_t, ↓ite_f, M_f0, M_f1, M_f2, M_f3, M_f4, M_f5, M_f6, M_f7, M_f8, M_f9, M_f10, M_p0, M_p3, M_p6, M_p7, M_p10, M_g_0, M_g_1, M_g_2, M_g_3, M_g_4, M_g_5, M_s_0, M_s_1, M_s_2, M_s_3, M_s_4, M_s_5, mAr_same, mAr_mAr, mAr_1, mAr_h, mS_2, mS_same, mS_mS, mAr_mS, mh_1, mh_2, mh_h, mAr_01, mAr_02, mAr_03, mAr_04, mAr_05, mAr_10, mAr_12, mAr_13, mAr_14, mAr_15, mAr_20, mAr_21, mAr_23, mAr_24, mAr_25, mAr_30, mAr_31, mAr_32, mAr_34, mAr_35, mAr_40, mAr_41, mAr_42, mAr_43, mAr_45, mAr_50, mAr_51, mAr_52, mAr_53, mAr_54, mS_01, mS_02, mS_03, mS_10, mS_12, mS_13, mS_20, mS_21, mS_23, mS_30, mS_31, mS_32, q1, ne_eq, Int.reduceEq, not_true_eq_false, not_false_eq_true, ↓reduceIte]
    exact hQ
  · rw [if_pos (by omega)] at q1
    rw [if_neg (by omega)] at q2
    simp (disch := first | omega | rfl) only [e123_0, e123_1, e123_2, e123_3, e123_4, e123_7, e123_10, e123_11, e123_12, e123_13, e123_16, e123_19, e123_20, e123_23, e123_24, e123_27, e123_28, e123_31, e123_34, e123_35, e123_38, e123_39, e123_40, e123_41, e123_44, WpV_some, WpH_some, ↓ite_t, ↓ite_f, M_f0, M_f1, M_f2, M_f3, M_f4, M_f5, M_f6, M_f7, M_f8, M_f9, M_f10, M_p0, M_p3, M_p6, M_p7, M_p10, M_g_0, M_g_1, M_g_2, M_g_3, M_g_4, M_g_5, M_s_0, M_s_1, M_s_2, M_s_3, M_s_4, M_s_5, mAr_same, mAr_mAr, mAr_1, mAr_h, mS_2, mS_same, mS_mS, mAr_mS, mh_1, mh_2, mh_h, mAr_01, mAr_02, mAr_03, mAr_04, mAr_05, mAr_10, mAr_12, mAr_13, mAr_14, mAr_15, mAr_20, mAr_21, mAr_23, mAr_24, mAr_25, mAr_30, mAr_31, mAr_32, mAr_34, mAr_35, mAr_40, mAr_41, mAr_42, mAr_43, mAr_45, mAr_50, mAr_51, mAr_52, mAr_53, mAr_54, mS_01, mS_02, mS_03, mS_10, mS_12, mS_13, mS_20, mS_21, mS_23, mS_30, mS_31, mS_32, q1, q2, ne_eq, Int.reduceEq, not_true_eq_false, not_false_eq_true, ↓reduceIte]
    exact hQ
theorem m128 (h : rel σ (M.2.1 0)) : ∃ M', sml M M' 0 ∧ Runs xs 128 [vr 190] μ (putM f M) (.inl (some (vi (rdO (fn σ 0) σ)))) μ (putM f M') := by
  obtain ⟨M', hs, hr1⟩ := m129 (xs := xs) (f := f) (M := mS M 0 0) (μ := μ) (σ := σ) h
  refine ⟨M', hs.sml, Runs.iff fun Q hQ => ?_⟩
  show Wp xs 128 0 [vr 190] [] μ (putM f M) Q
  simp (disch := first | omega | rfl) only [e128_0, e128_1, e128_2, e128_5, e128_6, e128_9, WpV_some, WpH_some, ↓ite_t, ↓ite_f, M_f0, M_f1, M_f2, M_f3, M_f4, M_f5, M_f6, M_f7, M_f8, M_f9, M_f10, M_p0, M_p3, M_p6, M_p7, M_p10, M_g_0, M_g_1, M_g_2, M_g_3, M_g_4, M_g_5, M_s_0, M_s_1, M_s_2, M_s_3, M_s_4, M_s_5, cI_v hr1 M_o h190]
  exact hQ
theorem m132 (h : rel σ (M.2.1 0)) (n : Int) (hn : 0 ≤ n) (τ : SG) : ∃ M', sml M M' 0 ∧ Runs xs 132 [vr 190, vi n] μ (putM f M) (.inl (some (vi (ffr σ n τ (σ.2 2).toNat (7 - (σ.2 2).toNat)).1))) μ (putM f M') := by
  obtain ⟨M', hs, hr1⟩ := m133 (xs := xs) (f := f) (M := mS M 0 0) (μ := μ) (σ := σ) h n τ
  refine ⟨M', hs.sml, Runs.iff fun Q hQ => ?_⟩
  show Wp xs 132 0 [vr 190, vi n] [] μ (putM f M) Q
  simp (disch := first | omega | rfl) only [e132_0, e132_1, e132_2, e132_5, e132_6, e132_9, e132_10, e132_13, e132_14, e132_17, e132_20, e132_21, e132_24, e132_25, e132_26, e132_29, WpV_some, WpH_some, ↓ite_t, ↓ite_f, M_f0, M_f1, M_f2, M_f3, M_f4, M_f5, M_f6, M_f7, M_f8, M_f9, M_f10, M_p0, M_p3, M_p6, M_p7, M_p10, M_g_0, M_g_1, M_g_2, M_g_3, M_g_4, M_g_5, M_s_0, M_s_1, M_s_2, M_s_3, M_s_4, M_s_5, mAr_same, mAr_mAr, mAr_1, mAr_h, mS_2, mS_same, mS_mS, mAr_mS, mh_1, mh_2, mh_h, mAr_01, mAr_02, mAr_03, mAr_04, mAr_05, mAr_10, mAr_12, mAr_13, mAr_14, mAr_15, mAr_20, mAr_21, mAr_23, mAr_24, mAr_25, mAr_30, mAr_31, mAr_32, mAr_34, mAr_35, mAr_40, mAr_41, mAr_42, mAr_43, mAr_45, mAr_50, mAr_51, mAr_52, mAr_53, mAr_54, mS_01, mS_02, mS_03, mS_10, mS_12, mS_13, mS_20, mS_21, mS_23, mS_30, mS_31, mS_32, cI_v hr1 M_o h190]
  exact hQ
theorem m132e (n : Int) (hn : n < 0) : Runs xs 132 [vr 190, vi n] μ (putM f M) (.inl (some (vi 0))) μ (putM f (mS M 0 1)) := Runs.iff fun Q hQ => by
  show Wp xs 132 0 [vr 190, vi n] [] μ (putM f M) Q
  simp (disch := first | omega | rfl) only [e132_0, e132_1, e132_2, e132_5, e132_6, e132_9, e132_10, e132_13, e132_14, e132_17, e132_20, e132_21, e132_24, e132_25, e132_26, e132_29, WpV_some, WpH_some, ↓ite_t, ↓ite_f, M_f0, M_f1, M_f2, M_f3, M_f4, M_f5, M_f6, M_f7, M_f8, M_f9, M_f10, M_p0, M_p3, M_p6, M_p7, M_p10, M_g_0, M_g_1, M_g_2, M_g_3, M_g_4, M_g_5, M_s_0, M_s_1, M_s_2, M_s_3, M_s_4, M_s_5, mAr_same, mAr_mAr, mAr_1, mAr_h, mS_2, mS_same, mS_mS, mAr_mS, mh_1, mh_2, mh_h, mAr_01, mAr_02, mAr_03, mAr_04, mAr_05, mAr_10, mAr_12, mAr_13, mAr_14, mAr_15, mAr_20, mAr_21, mAr_23, mAr_24, mAr_25, mAr_30, mAr_31, mAr_32, mAr_34, mAr_35, mAr_40, mAr_41, mAr_42, mAr_43, mAr_45, mAr_50, mAr_51, mAr_52, mAr_53, mAr_54, mS_01, mS_02, mS_03, mS_10, mS_12, mS_13, mS_20, mS_21, mS_23, mS_30, mS_31, mS_32]
  exact hQ
theorem m134 (h : rel σ (M.2.1 0)) (i : Int) (h0 : σ.2 1 ≤ i) (h1 : i < σ.2 0) : ∃ M', sml M M' 0 ∧ Runs xs 134 [vr 190, vi i] μ (putM f M) (.inl (some (vi (rdO (fn (tka σ i) 0) σ)))) μ (putM f M') := by
  obtain ⟨w1, w2, w3, w4, w5⟩ := h.wf
  obtain ⟨M', hs, hr1⟩ := m135 (xs := xs) (f := f) (M := mS M 0 0) (μ := μ) (σ := σ) h (i := i) (j := i.toNat) (by omega) h0 h1
  refine ⟨M', hs.sml, Runs.iff fun Q hQ => ?_⟩
  show Wp xs 134 0 [vr 190, vi i] [] μ (putM f M) Q
  have q1 := cI_v (m91 (xs := xs) (f := f) (M := M) (μ := μ) h.wM i) M_o h190
  rw [if_pos (by have := h.n; omega)] at q1
  simp (disch := first | omega | rfl) only [e134_0, e134_1, e134_2, e134_3, e134_6, e134_9, e134_10, e134_13, e134_14, e134_17, e134_18, e134_21, e134_24, e134_25, e134_28, e134_29, e134_30, e134_33, WpV_some, WpH_some, ↓ite_t, ↓ite_f, M_f0, M_f1, M_f2, M_f3, M_f4, M_f5, M_f6, M_f7, M_f8, M_f9, M_f10, M_p0, M_p3, M_p6, M_p7, M_p10, M_g_0, M_g_1, M_g_2, M_g_3, M_g_4, M_g_5, M_s_0, M_s_1, M_s_2, M_s_3, M_s_4, M_s_5, mAr_same, mAr_mAr, mAr_1, mAr_h, mS_2, mS_same, mS_mS, mAr_mS, mh_1, mh_2, mh_h, mAr_01, mAr_02, mAr_03, mAr_04, mAr_05, mAr_10, mAr_12, mAr_13, mAr_14, mAr_15, mAr_20, mAr_21, mAr_23, mAr_24, mAr_25, mAr_30, mAr_31, mAr_32, mAr_34, mAr_35, mAr_40, mAr_41, mAr_42, mAr_43, mAr_45, mAr_50, mAr_51, mAr_52, mAr_53, mAr_54, mS_01, mS_02, mS_03, mS_10, mS_12, mS_13, mS_20, mS_21, mS_23, mS_30, mS_31, mS_32, q1, cI_v hr1 M_o h190, ne_eq, Int.reduceEq, not_true_eq_false, not_false_eq_true, ↓reduceIte]
  exact hQ
theorem m134e (h : rel σ (M.2.1 0)) (i : Int) (hi : i < σ.2 1 ∨ σ.2 0 ≤ i) : Runs xs 134 [vr 190, vi i] μ (putM f M) (.inl (some (vi 0))) μ (putM f (mS M 0 1)) := Runs.iff fun Q hQ => by
  show Wp xs 134 0 [vr 190, vi i] [] μ (putM f M) Q
  have q1 := cI_v (m91 (xs := xs) (f := f) (M := M) (μ := μ) h.wM i) M_o h190
  rw [if_neg (by have := h.n; omega)] at q1
  simp (disch := first | omega | rfl) only [e134_0, e134_1, e134_2, e134_3, e134_6, e134_9, e134_10, e134_13, e134_14, e134_17, e134_18, e134_21, e134_24, e134_25, e134_28, e134_29, e134_30, e134_33, WpV_some, WpH_some, ↓ite_t, ↓ite_f, M_f0, M_f1, M_f2, M_f3, M_f4, M_f5, M_f6, M_f7, M_f8, M_f9, M_f10, M_p0, M_p3, M_p6, M_p7, M_p10, M_g_0, M_g_1, M_g_2, M_g_3, M_g_4, M_g_5, M_s_0, M_s_1, M_s_2, M_s_3, M_s_4, M_s_5, mAr_same, mAr_mAr, mAr_1, mAr_h, mS_2, mS_same, mS_mS, mAr_mS, mh_1, mh_2, mh_h, mAr_01, mAr_02, mAr_03, mAr_04, mAr_05, mAr_10, mAr_12, mAr_13, mAr_14, mAr_15, mAr_20, mAr_21, mAr_23, mAr_24, mAr_25, mAr_30, mAr_31, mAr_32, mAr_34, mAr_35, mAr_40, mAr_41, mAr_42, mAr_43, mAr_45, mAr_50, mAr_51, mAr_52, mAr_53, mAr_54, mS_01, mS_02, mS_03, mS_10, mS_12, mS_13, mS_20, mS_21, mS_23, mS_30, mS_31, mS_32, q1, ne_eq, Int.reduceEq, not_true_eq_false, not_false_eq_true, ↓reduceIte]
  exact hQ
theorem m136 (h : rel σ (M.2.1 0)) (τ : SG) : ∃ M', sml M M' 0 ∧ Runs xs 136 [vr 190] μ (putM f M) (.inl (some (vi (bp σ τ).1))) μ (putM f M') := by
  obtain ⟨M', hs, hr1⟩ := m137 (xs := xs) (f := f) (M := mS M 0 0) (μ := μ) (σ := σ) h τ
  refine ⟨M', hs.sml, Runs.iff fun Q hQ => ?_⟩
  show Wp xs 136 0 [vr 190] [] μ (putM f M) Q
  simp (disch := first | omega | rfl) only [e136_0, e136_1, e136_2, e136_5, e136_6, e136_9, WpV_some, WpH_some, ↓ite_t, ↓ite_f, M_f0, M_f1, M_f2, M_f3, M_f4, M_f5, M_f6, M_f7, M_f8, M_f9, M_f10, M_p0, M_p3, M_p6, M_p7, M_p10, M_g_0, M_g_1, M_g_2, M_g_3, M_g_4, M_g_5, M_s_0, M_s_1, M_s_2, M_s_3, M_s_4, M_s_5, cI_v hr1 M_o h190]
  exact hQ
theorem m138 (h : rel σ (M.2.1 0)) (hn : nn64 (shr (co (σ.1 2) 0 0 (σ.2 1).toNat) (σ.2 1)) = true) : Runs xs 138 [vr 190] μ (putM f M) (.inl (some (vd (shr (co (σ.1 2) 0 0 (σ.2 1).toNat) (σ.2 1))))) μ (putM f (mS M 0 0)) := Runs.iff fun Q hQ => by
  show Wp xs 138 0 [vr 190] [] μ (putM f M) Q
  have q3 := cI_v (m139 (xs := xs) (f := f) (M := mS M 0 0) (μ := μ) (σ := σ) h hn) M_o h190
  simp (disch := first | assumption | omega | rfl) only [e138_0, e138_1, e138_2, e138_5, e138_6, e138_9, WpV_some, WpH_some, ↓ite_t, ↓ite_f, M_f0, M_f1, M_f2, M_f3, M_f4, M_f5, M_f6, M_f7, M_f8, M_f9, M_f10, M_p0, M_p3, M_p6, M_p7, M_p10, M_g_0, M_g_1, M_g_2, M_g_3, M_g_4, M_g_5, M_s_0, M_s_1, M_s_2, M_s_3, M_s_4, M_s_5, q3]
  exact hQ
/-- a new model -/
def z0 : Nat → Int := fun j => if j = 2 then 3 else if 5 ≤ j ∧ j < 11 then -1 else 0
def M0 : MG := (fun _ => 0, (fun k => if k = 0 then z0 else fun _ => 0, 0))
theorem ini_loop : ∀ (d i : Nat) (M : MG), i + d = 6 → (Wp xs 73 66 [vr 190, vi i] [] μ (putM f (mAr M 0 (fun j => if 5 + i ≤ j ∧ j < 11 then M.2.1 0 j else z0 j))) Q = Q (.inl none) μ (putM f (mAr M 0 z0))) := by
  intro d
  induction d with
  | zero =>
    intro i M hi
    have e : (fun j => if 5 + i ≤ j ∧ j < 11 then M.2.1 0 j else z0 j) = z0 := by
      funext j
      rw [if_neg (by omega)]
    rw [e]
    simp (disch := first | omega | rfl) only [e73_0, e73_1, e73_4, e73_5, e73_8, e73_10, e73_13, e73_14, e73_17, e73_19, e73_22, e73_23, e73_26, e73_28, e73_31, e73_32, e73_34, e73_36, e73_39, e73_40, e73_43, e73_45, e73_48, e73_49, e73_52, e73_54, e73_57, e73_58, e73_61, e73_62, e73_63, e73_64, e73_65, e73_66, e73_67, e73_69, e73_72, e73_73, e73_76, e73_77, e73_78, e73_79, e73_80, e73_81, e73_84, e73_87, WpV_some, WpH_some, ↓ite_t, ↓ite_f, M_f0, M_f1, M_f2, M_f3, M_f4, M_f5, M_f6, M_f7, M_f8, M_f9, M_f10, M_p0, M_p3, M_p6, M_p7, M_p10, M_g_0, M_g_1, M_g_2, M_g_3, M_g_4, M_g_5, M_s_0, M_s_1, M_s_2, M_s_3, M_s_4, M_s_5]
  | succ d ih =>
    intro i M hi
    have q := ih (i + 1) M (by omega)
    simp only [Int.natCast_add, Int.cast_ofNat_Int] at q
    have e : fu (fun j => if 5 + i ≤ j ∧ j < 11 then M.2.1 0 j else z0 j) (5 + i) (-1) = fun j => if 5 + (i + 1) ≤ j ∧ j < 11 then M.2.1 0 j else z0 j := by
      funext j
      show (if j = 5 + i then (-1 : Int) else if 5 + i ≤ j ∧ j < 11 then M.2.1 0 j else z0 j) = _
      by_cases c : j = 5 + i
      · rw [if_pos c, if_neg (by omega)]
        unfold z0
        rw [if_neg (by omega), if_pos (by omega)]
      · rw [if_neg c]
        by_cases c2 : 5 + i ≤ j ∧ j < 11
        · rw [if_pos c2, if_pos (by omega)]
        · rw [if_neg c2, if_neg (by omega)]
    rw [e73_66]
    simp (disch := first | omega | rfl) only [e73_0, e73_1, e73_4, e73_5, e73_8, e73_10, e73_13, e73_14, e73_17, e73_19, e73_22, e73_23, e73_26, e73_28, e73_31, e73_32, e73_34, e73_36, e73_39, e73_40, e73_43, e73_45, e73_48, e73_49, e73_52, e73_54, e73_57, e73_58, e73_61, e73_62, e73_63, e73_64, e73_65, e73_67, e73_69, e73_72, e73_73, e73_76, e73_77, e73_78, e73_79, e73_80, e73_81, e73_84, e73_87, WpV_some, WpH_some, ↓ite_t, ↓ite_f, M_f0, M_f1, M_f2, M_f3, M_f4, M_f5, M_f6, M_f7, M_f8, M_f9, M_f10, M_p0, M_p3, M_p6, M_p7, M_p10, M_g_0, M_g_1, M_g_2, M_g_3, M_g_4, M_g_5, M_s_0, M_s_1, M_s_2, M_s_3, M_s_4, M_s_5, mAr_same, mAr_mAr, mAr_1, mAr_h, mS_2, mS_same, mS_mS, mAr_mS, mh_1, mh_2, mh_h, mAr_01, mAr_02, mAr_03, mAr_04, mAr_05, mAr_10, mAr_12, mAr_13, mAr_14, mAr_15, mAr_20, mAr_21, mAr_23, mAr_24, mAr_25, mAr_30, mAr_31, mAr_32, mAr_34, mAr_35, mAr_40, mAr_41, mAr_42, mAr_43, mAr_45, mAr_50, mAr_51, mAr_52, mAr_53, mAr_54, mS_01, mS_02, mS_03, mS_10, mS_12, mS_13, mS_20, mS_21, mS_23, mS_30, mS_31, mS_32, wrp_id, tn5, e, q]
end MZ
