/-! THE MODEL'S METHODS: the buffer -/
section MW
variable {xs : List Int} {f : AH} {M : MG} {μ : Mu} {y pc : Nat} {L st : List AV} {Q : Out → Mu → AH → Prop} {σ : SG} {T : TG}
theorem qT.cAE (hT : qT T M) {k : Nat} (hk : (k : Int) < T.2) : cA T k = M.2.1 3 k := by
  obtain ⟨⟨t0, t01, t02⟩, t2, t3⟩ := hT
  unfold cA
  rw [if_pos hk, rg_n _ (by omega), (t3 k hk).1]
theorem cA_out {i : Int} (h : i < 0 ∨ T.2 ≤ i) : cA T i = -1 := by
  unfold cA
  by_cases c : i < T.2
  · rw [if_pos c]; unfold rg; rw [if_neg (by omega)]
  · rw [if_neg c]
theorem pg_m : pgA (-1) = -1 := rfl
theorem ltr_0 {c : Int} (h : pgA c = -1) : ltr c = 0 := if_pos h
theorem ltr_1 {c : Int} (h : ¬ pgA c = -1) : ltr c = 1 := if_neg h
theorem dg_0 {c : Int} (h : ¬ (50 ≤ c ∧ c ≤ 57)) : dgA c = 0 := if_neg h
theorem dg_1 {c : Int} (h : 50 ≤ c ∧ c ≤ 57) : dgA c = 1 := if_pos h
theorem rb_loop (hT : qT T M) : ∀ (d k : Nat) (l2 : AV), (k : Int) + d = T.2 → (Wp xs 80 2 [vr 190, vi k, l2] [] μ (putM f M) Q = Q (.inl (some (vi (fwr T k d)))) μ (putM f M)) := by
  have hT0 := hT
  obtain ⟨⟨t0, t01, t02⟩, t2, t3⟩ := hT0
  intro d
  induction d with
  | zero =>
    intro k l2 hk
    simp (disch := first | omega | rfl) only [e80_0, e80_1, e80_2, e80_3, e80_4, e80_7, e80_10, e80_11, e80_14, e80_15, e80_18, e80_19, e80_20, e80_21, e80_22, e80_25, e80_28, e80_29, e80_32, e80_33, e80_34, e80_36, e80_38, e80_41, e80_44, e80_45, e80_48, e80_49, e80_50, e80_51, e80_54, e80_55, e80_56, e80_59, e80_62, e80_63, e80_66, e80_67, e80_68, e80_71, e80_74, e80_75, e80_78, WpV_some, WpH_some, ↓ite_t, ↓ite_f, M_f0, M_f1, M_f2, M_f3, M_f4, M_f5, M_f6, M_f7, M_f8, M_f9, M_f10, M_p0, M_p3, M_p6, M_p7, M_p10, M_g_0, M_g_1, M_g_2, M_g_3, M_g_4, M_g_5, M_s_0, M_s_1, M_s_2, M_s_3, M_s_4, M_s_5, t2, fwr]
  | succ d ih =>
    intro k l2 hk
    have q := fun l2 => ih (k + 1) l2 (by omega)
    simp only [Int.natCast_add, Int.cast_ofNat_Int] at q
    have q1 := cC_v (m81 (xs := xs) (f := putM f M) (μ := μ) (M.2.1 3 (k - 1)))
    have q2 := cC_v (m77 (xs := xs) (f := putM f M) (μ := μ) (M.2.1 3 k) 50 57)
    have q3 := cC_v (m81 (xs := xs) (f := putM f M) (μ := μ) (M.2.1 3 k))
    rw [e80_2]
    unfold fwr
    rw [hT.cAE (by omega)]
    by_cases c0 : k = 0
    · have c0' : ¬ 0 < (k : Int) := by omega
      have p1 : pgA (cA T ((k : Int) - 1)) = -1 := by rw [cA_out (Or.inl (by omega))]; rfl
      rw [p1]
      have e5 : ((k : Int) - 1).toNat = k - 1 := by omega
      by_cases c3 : pgA (M.2.1 3 k) = -1
      · rw [ltr_0 c3] at q3
        rw [if_pos c3, if_pos rfl, ite_self]
        simp (disch := first | omega | rfl) only [e80_0, e80_1, e80_3, e80_4, e80_7, e80_10, e80_11, e80_14, e80_15, e80_18, e80_19, e80_20, e80_21, e80_22, e80_25, e80_28, e80_29, e80_32, e80_33, e80_34, e80_36, e80_38, e80_41, e80_44, e80_45, e80_48, e80_49, e80_50, e80_51, e80_54, e80_55, e80_56, e80_59, e80_62, e80_63, e80_66, e80_67, e80_68, e80_71, e80_74, e80_75, e80_78, WpV_some, WpH_some, ↓ite_t, ↓ite_f, M_f0, M_f1, M_f2, M_f3, M_f4, M_f5, M_f6, M_f7, M_f8, M_f9, M_f10, M_p0, M_p3, M_p6, M_p7, M_p10, M_g_0, M_g_1, M_g_2, M_g_3, M_g_4, M_g_5, M_s_0, M_s_1, M_s_2, M_s_3, M_s_4, M_s_5, t2, Int.toNat_natCast, wrp_id, e5, q3, ne_eq, Int.reduceEq, not_true_eq_false, not_false_eq_true, ↓reduceIte, q]
      · rw [ltr_1 c3] at q3
        rw [if_neg c3]
        simp (disch := first | omega | rfl) only [e80_0, e80_1, e80_3, e80_4, e80_7, e80_10, e80_11, e80_14, e80_15, e80_18, e80_19, e80_20, e80_21, e80_22, e80_25, e80_28, e80_29, e80_32, e80_33, e80_34, e80_36, e80_38, e80_41, e80_44, e80_45, e80_48, e80_49, e80_50, e80_51, e80_54, e80_55, e80_56, e80_59, e80_62, e80_63, e80_66, e80_67, e80_68, e80_71, e80_74, e80_75, e80_78, WpV_some, WpH_some, ↓ite_t, ↓ite_f, M_f0, M_f1, M_f2, M_f3, M_f4, M_f5, M_f6, M_f7, M_f8, M_f9, M_f10, M_p0, M_p3, M_p6, M_p7, M_p10, M_g_0, M_g_1, M_g_2, M_g_3, M_g_4, M_g_5, M_s_0, M_s_1, M_s_2, M_s_3, M_s_4, M_s_5, t2, Int.toNat_natCast, wrp_id, e5, q3, ne_eq, Int.reduceEq, not_true_eq_false, not_false_eq_true, ↓reduceIte, q]
    · have e5 : ((k : Int) - 1).toNat = k - 1 := by omega
      have p1 : cA T ((k : Int) - 1) = M.2.1 3 (k - 1) := by
        have := hT.cAE (k := k - 1) (by omega)
        rw [← this]
        exact congrArg (cA T) (by omega)
      rw [p1]
      by_cases c3 : pgA (M.2.1 3 k) = -1
      · rw [ltr_0 c3] at q3
        rw [if_pos c3]
        by_cases c1 : pgA (M.2.1 3 (k - 1)) = -1
        · rw [ltr_0 c1] at q1
          rw [if_pos c1, ite_self]
          simp (disch := first | omega | rfl) only [e80_0, e80_1, e80_3, e80_4, e80_7, e80_10, e80_11, e80_14, e80_15, e80_18, e80_19, e80_20, e80_21, e80_22, e80_25, e80_28, e80_29, e80_32, e80_33, e80_34, e80_36, e80_38, e80_41, e80_44, e80_45, e80_48, e80_49, e80_50, e80_51, e80_54, e80_55, e80_56, e80_59, e80_62, e80_63, e80_66, e80_67, e80_68, e80_71, e80_74, e80_75, e80_78, WpV_some, WpH_some, ↓ite_t, ↓ite_f, M_f0, M_f1, M_f2, M_f3, M_f4, M_f5, M_f6, M_f7, M_f8, M_f9, M_f10, M_p0, M_p3, M_p6, M_p7, M_p10, M_g_0, M_g_1, M_g_2, M_g_3, M_g_4, M_g_5, M_s_0, M_s_1, M_s_2, M_s_3, M_s_4, M_s_5, t2, Int.toNat_natCast, wrp_id, e5, q1, q3, ne_eq, Int.reduceEq, not_true_eq_false, not_false_eq_true, ↓reduceIte, q]
        · rw [ltr_1 c1] at q1
          rw [if_neg c1]
          by_cases c2 : 50 ≤ M.2.1 3 k ∧ M.2.1 3 k ≤ 57
          · rw [if_pos c2] at q2
            rw [dg_1 c2, if_neg (by decide)]
            simp (disch := first | omega | rfl) only [e80_0, e80_1, e80_3, e80_4, e80_7, e80_10, e80_11, e80_14, e80_15, e80_18, e80_19, e80_20, e80_21, e80_22, e80_25, e80_28, e80_29, e80_32, e80_33, e80_34, e80_36, e80_38, e80_41, e80_44, e80_45, e80_48, e80_49, e80_50, e80_51, e80_54, e80_55, e80_56, e80_59, e80_62, e80_63, e80_66, e80_67, e80_68, e80_71, e80_74, e80_75, e80_78, WpV_some, WpH_some, ↓ite_t, ↓ite_f, M_f0, M_f1, M_f2, M_f3, M_f4, M_f5, M_f6, M_f7, M_f8, M_f9, M_f10, M_p0, M_p3, M_p6, M_p7, M_p10, M_g_0, M_g_1, M_g_2, M_g_3, M_g_4, M_g_5, M_s_0, M_s_1, M_s_2, M_s_3, M_s_4, M_s_5, t2, Int.toNat_natCast, wrp_id, e5, q1, q2, q3, ne_eq, Int.reduceEq, not_true_eq_false, not_false_eq_true, ↓reduceIte, q]
          · rw [if_neg c2] at q2
            rw [dg_0 c2, if_pos rfl]
            simp (disch := first | omega | rfl) only [e80_0, e80_1, e80_3, e80_4, e80_7, e80_10, e80_11, e80_14, e80_15, e80_18, e80_19, e80_20, e80_21, e80_22, e80_25, e80_28, e80_29, e80_32, e80_33, e80_34, e80_36, e80_38, e80_41, e80_44, e80_45, e80_48, e80_49, e80_50, e80_51, e80_54, e80_55, e80_56, e80_59, e80_62, e80_63, e80_66, e80_67, e80_68, e80_71, e80_74, e80_75, e80_78, WpV_some, WpH_some, ↓ite_t, ↓ite_f, M_f0, M_f1, M_f2, M_f3, M_f4, M_f5, M_f6, M_f7, M_f8, M_f9, M_f10, M_p0, M_p3, M_p6, M_p7, M_p10, M_g_0, M_g_1, M_g_2, M_g_3, M_g_4, M_g_5, M_s_0, M_s_1, M_s_2, M_s_3, M_s_4, M_s_5, t2, Int.toNat_natCast, wrp_id, e5, q1, q2, q3, ne_eq, Int.reduceEq, not_true_eq_false, not_false_eq_true, ↓reduceIte, q]
      · rw [ltr_1 c3] at q3
        rw [if_neg c3]
        by_cases c1 : pgA (M.2.1 3 (k - 1)) = -1
        · rw [ltr_0 c1] at q1
          simp (disch := first | omega | rfl) only [e80_0, e80_1, e80_3, e80_4, e80_7, e80_10, e80_11, e80_14, e80_15, e80_18, e80_19, e80_20, e80_21, e80_22, e80_25, e80_28, e80_29, e80_32, e80_33, e80_34, e80_36, e80_38, e80_41, e80_44, e80_45, e80_48, e80_49, e80_50, e80_51, e80_54, e80_55, e80_56, e80_59, e80_62, e80_63, e80_66, e80_67, e80_68, e80_71, e80_74, e80_75, e80_78, WpV_some, WpH_some, ↓ite_t, ↓ite_f, M_f0, M_f1, M_f2, M_f3, M_f4, M_f5, M_f6, M_f7, M_f8, M_f9, M_f10, M_p0, M_p3, M_p6, M_p7, M_p10, M_g_0, M_g_1, M_g_2, M_g_3, M_g_4, M_g_5, M_s_0, M_s_1, M_s_2, M_s_3, M_s_4, M_s_5, t2, Int.toNat_natCast, wrp_id, e5, q1, q3, ne_eq, Int.reduceEq, not_true_eq_false, not_false_eq_true, ↓reduceIte, q]
        · rw [ltr_1 c1] at q1
          by_cases c2 : 50 ≤ M.2.1 3 k ∧ M.2.1 3 k ≤ 57
          · rw [if_pos c2] at q2
            simp (disch := first | omega | rfl) only [e80_0, e80_1, e80_3, e80_4, e80_7, e80_10, e80_11, e80_14, e80_15, e80_18, e80_19, e80_20, e80_21, e80_22, e80_25, e80_28, e80_29, e80_32, e80_33, e80_34, e80_36, e80_38, e80_41, e80_44, e80_45, e80_48, e80_49, e80_50, e80_51, e80_54, e80_55, e80_56, e80_59, e80_62, e80_63, e80_66, e80_67, e80_68, e80_71, e80_74, e80_75, e80_78, WpV_some, WpH_some, ↓ite_t, ↓ite_f, M_f0, M_f1, M_f2, M_f3, M_f4, M_f5, M_f6, M_f7, M_f8, M_f9, M_f10, M_p0, M_p3, M_p6, M_p7, M_p10, M_g_0, M_g_1, M_g_2, M_g_3, M_g_4, M_g_5, M_s_0, M_s_1, M_s_2, M_s_3, M_s_4, M_s_5, t2, Int.toNat_natCast, wrp_id, e5, q1, q2, q3, ne_eq, Int.reduceEq, not_true_eq_false, not_false_eq_true, ↓reduceIte, q]
          · rw [if_neg c2] at q2
            simp (disch := first | omega | rfl) only [e80_0, e80_1, e80_3, e80_4, e80_7, e80_10, e80_11, e80_14, e80_15, e80_18, e80_19, e80_20, e80_21, e80_22, e80_25, e80_28, e80_29, e80_32, e80_33, e80_34, e80_36, e80_38, e80_41, e80_44, e80_45, e80_48, e80_49, e80_50, e80_51, e80_54, e80_55, e80_56, e80_59, e80_62, e80_63, e80_66, e80_67, e80_68, e80_71, e80_74, e80_75, e80_78, WpV_some, WpH_some, ↓ite_t, ↓ite_f, M_f0, M_f1, M_f2, M_f3, M_f4, M_f5, M_f6, M_f7, M_f8, M_f9, M_f10, M_p0, M_p3, M_p6, M_p7, M_p10, M_g_0, M_g_1, M_g_2, M_g_3, M_g_4, M_g_5, M_s_0, M_s_1, M_s_2, M_s_3, M_s_4, M_s_5, t2, Int.toNat_natCast, wrp_id, e5, q1, q2, q3, ne_eq, Int.reduceEq, not_true_eq_false, not_false_eq_true, ↓reduceIte, q]
theorem m80 (hT : qT T M) : Runs xs 80 [vr 190] μ (putM f M) (.inl (some (vi (fwr T 0 T.2.toNat)))) μ (putM f M) := Runs.iff fun Q hQ => by
  show Wp xs 80 0 [vr 190, vu, vu] [] μ (putM f M) Q
  have t0 := hT.1.1
  have q := rb_loop (xs := xs) (f := f) (μ := μ) (Q := Q) hT T.2.toNat 0 vu (by omega)
  simp only [Int.cast_ofNat_Int] at q
  simp (disch := first | omega | rfl) only [e80_0, e80_1, e80_3, e80_4, e80_7, e80_10, e80_11, e80_14, e80_15, e80_18, e80_19, e80_20, e80_21, e80_22, e80_25, e80_28, e80_29, e80_32, e80_33, e80_34, e80_36, e80_38, e80_41, e80_44, e80_45, e80_48, e80_49, e80_50, e80_51, e80_54, e80_55, e80_56, e80_59, e80_62, e80_63, e80_66, e80_67, e80_68, e80_71, e80_74, e80_75, e80_78, WpV_some, WpH_some, ↓ite_t, ↓ite_f, q]
  exact hQ
theorem m79 (hT : qT T M) : Runs xs 79 [vr 190] μ (putM f M) (.inl (some (vi (fwr T 0 T.2.toNat)))) μ (putM f (mS M 0 0)) := Runs.iff fun Q hQ => by
  show Wp xs 79 0 [vr 190] [] μ (putM f M) Q
  have hT2 : qT T (mS M 0 0) := hT
  simp (disch := first | omega | rfl) only [e79_0, e79_1, e79_2, e79_5, e79_6, e79_9, WpV_some, WpH_some, ↓ite_t, ↓ite_f, M_f0, M_f1, M_f2, M_f3, M_f4, M_f5, M_f6, M_f7, M_f8, M_f9, M_f10, M_p0, M_p3, M_p6, M_p7, M_p10, M_g_0, M_g_1, M_g_2, M_g_3, M_g_4, M_g_5, M_s_0, M_s_1, M_s_2, M_s_3, M_s_4, M_s_5, cI_v (m80 hT2) M_o h190]
  exact hQ
/-- a buffer that tells asks -/
def okT (T : TG) : Prop := ∀ k : Nat, (k : Int) < T.2 → pgA (cA T k) = -1 → dgA (cA T k) = 1
theorem fwr_r (T : TG) : ∀ (d i : Nat), (i : Int) + d = T.2 → fwr T i d ≤ T.2 := by
  intro d
  induction d with
  | zero => intro i hi; exact Int.le_refl _
  | succ d ih =>
    intro i hi
    have := ih (i + 1) (by omega)
    unfold fwr
    repeat' split
    all_goals omega
theorem fwr_ok (T : TG) : ∀ (d i : Nat), (i : Int) + d = T.2 → fwr T i d = T.2 → ∀ k : Nat, i ≤ k → (k : Int) < T.2 → pgA (cA T k) = -1 → dgA (cA T k) = 1 := by
  intro d
  induction d with
  | zero => intro i hi h k h1 h2; omega
  | succ d ih =>
    intro i hi h k h1 h2 h3
    unfold fwr at h
    by_cases c : pgA (cA T i) = -1
    · rw [if_pos c] at h
      by_cases c2 : dgA (cA T i) = 0
      · rw [if_pos c2] at h; omega
      · rw [if_neg c2] at h
        by_cases c3 : pgA (cA T ((i : Int) - 1)) = -1
        · rw [if_pos c3] at h; omega
        · rw [if_neg c3] at h
          by_cases c4 : k = i
          · subst c4
            unfold dgA at c2 ⊢
            split
            · rfl
            · rename_i x; rw [if_neg x] at c2; exact absurd rfl c2
          · exact ih (i + 1) (by omega) h k (by omega) h2 h3
    · rw [if_neg c] at h
      by_cases c4 : k = i
      · subst c4; exact absurd h3 c
      · exact ih (i + 1) (by omega) h k (by omega) h2 h3
theorem tn1 (k : Nat) : ((k : Int) + 1).toNat = k + 1 := by omega
theorem m84 (hT : qT T M) (hv : okT T) {k : Nat} (hk : (k : Int) < T.2) (hl : pgA (cA T k) ≠ -1) : Runs xs 84 [vr 190, vi k] μ (putM f M) (.inl (some (vi (tmA T k)))) μ (putM f M) := Runs.iff fun Q hQ => by
  show Wp xs 84 0 [vr 190, vi k] [] μ (putM f M) Q
  have hT0 := hT
  obtain ⟨⟨t0, t01, t02⟩, t2, t3⟩ := hT0
  unfold tmA at hQ
  rw [if_neg hl] at hQ
  by_cases c : (k : Int) + 1 < T.2
  · have e1 : cA T ((k : Int) + 1) = M.2.1 3 (k + 1) := by
      rw [← hT.cAE (k := k + 1) (by omega)]
      exact congrArg (cA T) (by omega)
    have t4 := t3 (k + 1) (by omega)
    have hv2 := hv (k + 1) (by omega)
    rw [hT.cAE (k := k + 1) (by omega)] at hv2
    rw [e1] at hQ
    have q1 := cC_v (m81 (xs := xs) (f := putM f M) (μ := μ) (M.2.1 3 (k + 1)))
    by_cases c2 : pgA (M.2.1 3 (k + 1)) = -1
    · rw [ltr_0 c2] at q1
      rw [if_pos (hv2 c2)] at hQ
      simp (disch := first | omega | rfl) only [e84_0, e84_1, e84_2, e84_3, e84_4, e84_7, e84_10, e84_11, e84_14, e84_15, e84_16, e84_17, e84_18, e84_21, e84_24, e84_25, e84_28, e84_29, e84_30, e84_31, e84_32, e84_34, e84_35, e84_38, e84_39, WpV_some, WpH_some, ↓ite_t, ↓ite_f, M_f0, M_f1, M_f2, M_f3, M_f4, M_f5, M_f6, M_f7, M_f8, M_f9, M_f10, M_p0, M_p3, M_p6, M_p7, M_p10, M_g_0, M_g_1, M_g_2, M_g_3, M_g_4, M_g_5, M_s_0, M_s_1, M_s_2, M_s_3, M_s_4, M_s_5, t2, tn1, wrp_id, q1]
      exact hQ
    · rw [ltr_1 c2] at q1
      have : ¬ dgA (M.2.1 3 (k + 1)) = 1 := by
        unfold dgA
        unfold pgA at c2
        split
        · rename_i x
          exfalso
          apply c2
          rw [if_neg (by omega), if_neg (by omega)]
        · decide
      rw [if_neg this] at hQ
      simp (disch := first | omega | rfl) only [e84_0, e84_1, e84_2, e84_3, e84_4, e84_7, e84_10, e84_11, e84_14, e84_15, e84_16, e84_17, e84_18, e84_21, e84_24, e84_25, e84_28, e84_29, e84_30, e84_31, e84_32, e84_34, e84_35, e84_38, e84_39, WpV_some, WpH_some, ↓ite_t, ↓ite_f, M_f0, M_f1, M_f2, M_f3, M_f4, M_f5, M_f6, M_f7, M_f8, M_f9, M_f10, M_p0, M_p3, M_p6, M_p7, M_p10, M_g_0, M_g_1, M_g_2, M_g_3, M_g_4, M_g_5, M_s_0, M_s_1, M_s_2, M_s_3, M_s_4, M_s_5, t2, tn1, wrp_id, q1, ne_eq, Int.reduceEq, not_true_eq_false, not_false_eq_true, ↓reduceIte]
      exact hQ
  · rw [cA_out (Or.inr (by omega)), if_neg (by decide)] at hQ
    simp (disch := first | omega | rfl) only [e84_0, e84_1, e84_2, e84_3, e84_4, e84_7, e84_10, e84_11, e84_14, e84_15, e84_16, e84_17, e84_18, e84_21, e84_24, e84_25, e84_28, e84_29, e84_30, e84_31, e84_32, e84_34, e84_35, e84_38, e84_39, WpV_some, WpH_some, ↓ite_t, ↓ite_f, M_f0, M_f1, M_f2, M_f3, M_f4, M_f5, M_f6, M_f7, M_f8, M_f9, M_f10, M_p0, M_p3, M_p6, M_p7, M_p10, M_g_0, M_g_1, M_g_2, M_g_3, M_g_4, M_g_5, M_s_0, M_s_1, M_s_2, M_s_3, M_s_4, M_s_5, t2, wrp_id]
    exact hQ
theorem at_loop (hT : qT T M) (hv : okT T) : ∀ (d k : Nat) (w : Int), (k : Int) + d = T.2 → 0 ≤ w → w ≤ 100 * k → (Wp xs 83 4 [vr 190, vi w, vi k] [] μ (putM f M) Q = Q (.inl (some (vi (w + tld T k d)))) μ (putM f M)) := by
  have hT0 := hT
  obtain ⟨⟨t0, t01, t02⟩, t2, t3⟩ := hT0
  intro d
  induction d with
  | zero =>
    intro k w hk h0 h1
    simp (disch := first | omega | rfl) only [e83_0, e83_1, e83_2, e83_3, e83_4, e83_5, e83_6, e83_9, e83_12, e83_13, e83_14, e83_17, e83_18, e83_19, e83_22, e83_25, e83_26, e83_27, e83_30, e83_33, e83_34, e83_35, e83_36, e83_39, e83_42, e83_43, WpV_some, WpH_some, ↓ite_t, ↓ite_f, M_f0, M_f1, M_f2, M_f3, M_f4, M_f5, M_f6, M_f7, M_f8, M_f9, M_f10, M_p0, M_p3, M_p6, M_p7, M_p10, M_g_0, M_g_1, M_g_2, M_g_3, M_g_4, M_g_5, M_s_0, M_s_1, M_s_2, M_s_3, M_s_4, M_s_5, t2, tld, Int.add_zero]
  | succ d ih =>
    intro k w hk h0 h1
    have q3 := cC_v (m81 (xs := xs) (f := putM f M) (μ := μ) (M.2.1 3 k))
    have e1 := hT.cAE (k := k) (by omega)
    rw [e83_4]
    unfold tld
    by_cases c : pgA (cA T k) = -1
    · have e2 : tmA T k = 0 := by unfold tmA; rw [if_pos c]
      rw [← e1, ltr_0 c, e1] at q3
      have q := ih (k + 1) w (by omega) (by omega) (by omega)
      simp only [Int.natCast_add, Int.cast_ofNat_Int] at q
      simp (disch := first | omega | rfl) only [e83_0, e83_1, e83_2, e83_3, e83_5, e83_6, e83_9, e83_12, e83_13, e83_14, e83_17, e83_18, e83_19, e83_22, e83_25, e83_26, e83_27, e83_30, e83_33, e83_34, e83_35, e83_36, e83_39, e83_42, e83_43, WpV_some, WpH_some, ↓ite_t, ↓ite_f, M_f0, M_f1, M_f2, M_f3, M_f4, M_f5, M_f6, M_f7, M_f8, M_f9, M_f10, M_p0, M_p3, M_p6, M_p7, M_p10, M_g_0, M_g_1, M_g_2, M_g_3, M_g_4, M_g_5, M_s_0, M_s_1, M_s_2, M_s_3, M_s_4, M_s_5, t2, Int.toNat_natCast, wrp_id, q3, e2, ne_eq, Int.reduceEq, not_true_eq_false, not_false_eq_true, ↓reduceIte, q, Int.zero_add, Int.add_zero]
    · have q4 := cI_v (m84 (xs := xs) (f := f) (M := M) (μ := μ) hT hv (k := k) (by omega) c) M_o h190
      have e2 : 0 ≤ tmA T k ∧ tmA T k ≤ 9 := by
        unfold tmA
        rw [if_neg c]
        unfold dgA
        by_cases y : 50 ≤ cA T ((k : Int) + 1) ∧ cA T ((k : Int) + 1) ≤ 57
        · rw [if_pos y, if_pos rfl]; omega
        · rw [if_neg y, if_neg (by decide)]; omega
      rw [← e1, ltr_1 c, e1] at q3
      have q := ih (k + 1) (w + tmA T k) (by omega) (by omega) (by omega)
      simp only [Int.natCast_add, Int.cast_ofNat_Int] at q
      simp (disch := first | omega | rfl) only [e83_0, e83_1, e83_2, e83_3, e83_5, e83_6, e83_9, e83_12, e83_13, e83_14, e83_17, e83_18, e83_19, e83_22, e83_25, e83_26, e83_27, e83_30, e83_33, e83_34, e83_35, e83_36, e83_39, e83_42, e83_43, WpV_some, WpH_some, ↓ite_t, ↓ite_f, M_f0, M_f1, M_f2, M_f3, M_f4, M_f5, M_f6, M_f7, M_f8, M_f9, M_f10, M_p0, M_p3, M_p6, M_p7, M_p10, M_g_0, M_g_1, M_g_2, M_g_3, M_g_4, M_g_5, M_s_0, M_s_1, M_s_2, M_s_3, M_s_4, M_s_5, t2, Int.toNat_natCast, wrp_id, q3, q4, ne_eq, Int.reduceEq, not_true_eq_false, not_false_eq_true, ↓reduceIte, q, Int.add_assoc]
theorem m83 (hT : qT T M) (hv : okT T) : Runs xs 83 [vr 190] μ (putM f M) (.inl (some (vi (tld T 0 T.2.toNat)))) μ (putM f M) := Runs.iff fun Q hQ => by
  show Wp xs 83 0 [vr 190, vu, vu] [] μ (putM f M) Q
  have t0 := hT.1.1
  have q := at_loop (xs := xs) (f := f) (μ := μ) (Q := Q) hT hv T.2.toNat 0 0 (by omega) (by omega) (by omega)
  simp only [Int.cast_ofNat_Int, Int.zero_add] at q
  simp (disch := first | omega | rfl) only [e83_0, e83_1, e83_2, e83_3, e83_5, e83_6, e83_9, e83_12, e83_13, e83_14, e83_17, e83_18, e83_19, e83_22, e83_25, e83_26, e83_27, e83_30, e83_33, e83_34, e83_35, e83_36, e83_39, e83_42, e83_43, WpV_some, WpH_some, ↓ite_t, ↓ite_f, q]
  exact hQ
theorem m76 (hT : qT T M) (c : Int) (h0 : 33 ≤ c) (h1 : c ≤ 126) (hl : T.2 < 40) : ∃ M', qT (apd T c) M' ∧ M'.2.1 0 = M.2.1 0 ∧ M'.2.1 1 = M.2.1 1 ∧ M'.1 1 = M.1 1 ∧ M'.1 0 = 0 ∧ Runs xs 76 [vr 190, vi c] μ (putM f M) (.inl (some (vi (T.2 + 1)))) μ (putM f M') := by
  have hT0 := hT
  obtain ⟨⟨t0, t01, t02⟩, t2, t3⟩ := hT0
  obtain ⟨n, hn⟩ : ∃ n : Nat, T.2 = n := ⟨T.2.toNat, by omega⟩
  refine ⟨mS (mAr (mS M 0 0) 3 (fu (M.2.1 3) n c)) 2 (n + 1), ⟨⟨?_, ?_, fun j => ?_⟩, ?_, fun i hi => ?_⟩, rfl, rfl, rfl, rfl, Runs.iff fun Q hQ => ?_⟩
  · show 0 ≤ T.2 + 1; omega
  · show T.2 + 1 ≤ 40; omega
  · show -1 ≤ rs 40 T.1 T.2 c j ∧ rs 40 T.1 T.2 c j ≤ 1000
    rw [hn, rs_n _ _ (by omega)]
    unfold fu
    split
    · omega
    · exact t02 j
  · show (n : Int) + 1 = T.2 + 1; omega
  · have hi : (i : Int) < T.2 + 1 := hi
    show fu (M.2.1 3) n c i = rs 40 T.1 T.2 c i ∧ 33 ≤ rs 40 T.1 T.2 c i ∧ rs 40 T.1 T.2 c i ≤ 126
    rw [hn, rs_n _ _ (by omega)]
    by_cases e : i = n
    · subst e; rw [fu_s, fu_s]; exact ⟨rfl, h0, h1⟩
    · rw [fu_n _ _ e, fu_n _ _ e]; exact t3 i (by omega)
  · show Wp xs 76 0 [vr 190, vi c] [] μ (putM f M) Q
    have q2 := cC_v (m77 (xs := xs) (f := putM f M) (μ := μ) c 33 126)
    rw [if_pos ⟨h0, h1⟩] at q2
    rw [hn] at t2 hQ
    simp (disch := first | omega | rfl) only [e76_0, e76_1, e76_2, e76_4, e76_6, e76_9, e76_12, e76_13, e76_16, e76_17, e76_20, e76_22, e76_25, e76_26, e76_29, e76_30, e76_33, e76_34, e76_37, e76_40, e76_41, e76_42, e76_43, e76_46, e76_47, e76_50, e76_51, e76_52, e76_53, e76_54, e76_57, e76_58, e76_59, e76_62, e76_63, e76_66, WpV_some, WpH_some, ↓ite_t, ↓ite_f, M_f0, M_f1, M_f2, M_f3, M_f4, M_f5, M_f6, M_f7, M_f8, M_f9, M_f10, M_p0, M_p3, M_p6, M_p7, M_p10, M_g_0, M_g_1, M_g_2, M_g_3, M_g_4, M_g_5, M_s_0, M_s_1, M_s_2, M_s_3, M_s_4, M_s_5, mAr_same, mAr_mAr, mAr_1, mAr_h, mS_2, mS_same, mS_mS, mAr_mS, mh_1, mh_2, mh_h, mAr_01, mAr_02, mAr_03, mAr_04, mAr_05, mAr_10, mAr_12, mAr_13, mAr_14, mAr_15, mAr_20, mAr_21, mAr_23, mAr_24, mAr_25, mAr_30, mAr_31, mAr_32, mAr_34, mAr_35, mAr_40, mAr_41, mAr_42, mAr_43, mAr_45, mAr_50, mAr_51, mAr_52, mAr_53, mAr_54, mS_01, mS_02, mS_03, mS_10, mS_12, mS_13, mS_20, mS_21, mS_23, mS_30, mS_31, mS_32, q2, t2, Int.toNat_natCast, wrp_id, ne_eq, Int.reduceEq, not_true_eq_false, not_false_eq_true, ↓reduceIte]
    exact hQ
theorem m76a (c : Int) (h : c < 33 ∨ 126 < c) : Runs xs 76 [vr 190, vi c] μ (putM f M) (.inl (some (vi 0))) μ (putM f (mS M 0 1)) := Runs.iff fun Q hQ => by
  show Wp xs 76 0 [vr 190, vi c] [] μ (putM f M) Q
  have q2 := cC_v (m77 (xs := xs) (f := putM f M) (μ := μ) c 33 126)
  rw [if_neg (by omega)] at q2
  simp (disch := first | omega | rfl) only [e76_0, e76_1, e76_2, e76_4, e76_6, e76_9, e76_12, e76_13, e76_16, e76_17, e76_20, e76_22, e76_25, e76_26, e76_29, e76_30, e76_33, e76_34, e76_37, e76_40, e76_41, e76_42, e76_43, e76_46, e76_47, e76_50, e76_51, e76_52, e76_53, e76_54, e76_57, e76_58, e76_59, e76_62, e76_63, e76_66, WpV_some, WpH_some, ↓ite_t, ↓ite_f, M_f0, M_f1, M_f2, M_f3, M_f4, M_f5, M_f6, M_f7, M_f8, M_f9, M_f10, M_p0, M_p3, M_p6, M_p7, M_p10, M_g_0, M_g_1, M_g_2, M_g_3, M_g_4, M_g_5, M_s_0, M_s_1, M_s_2, M_s_3, M_s_4, M_s_5, mAr_same, mAr_mAr, mAr_1, mAr_h, mS_2, mS_same, mS_mS, mAr_mS, mh_1, mh_2, mh_h, mAr_01, mAr_02, mAr_03, mAr_04, mAr_05, mAr_10, mAr_12, mAr_13, mAr_14, mAr_15, mAr_20, mAr_21, mAr_23, mAr_24, mAr_25, mAr_30, mAr_31, mAr_32, mAr_34, mAr_35, mAr_40, mAr_41, mAr_42, mAr_43, mAr_45, mAr_50, mAr_51, mAr_52, mAr_53, mAr_54, mS_01, mS_02, mS_03, mS_10, mS_12, mS_13, mS_20, mS_21, mS_23, mS_30, mS_31, mS_32, q2, ne_eq, Int.reduceEq, not_true_eq_false, not_false_eq_true, ↓reduceIte]
  exact hQ
theorem m76s (hT : qT T M) (c : Int) (h0 : 33 ≤ c) (h1 : c ≤ 126) (hl : 40 ≤ T.2) : Runs xs 76 [vr 190, vi c] μ (putM f M) (.inl (some (vi 0))) μ (putM f (mS M 0 2)) := Runs.iff fun Q hQ => by
  show Wp xs 76 0 [vr 190, vi c] [] μ (putM f M) Q
  obtain ⟨⟨t0, t01, t02⟩, t2, t3⟩ := hT
  have e : T.2 = 40 := by omega
  rw [e] at t2
  have q2 := cC_v (m77 (xs := xs) (f := putM f M) (μ := μ) c 33 126)
  rw [if_pos ⟨h0, h1⟩] at q2
  simp (disch := first | omega | rfl) only [e76_0, e76_1, e76_2, e76_4, e76_6, e76_9, e76_12, e76_13, e76_16, e76_17, e76_20, e76_22, e76_25, e76_26, e76_29, e76_30, e76_33, e76_34, e76_37, e76_40, e76_41, e76_42, e76_43, e76_46, e76_47, e76_50, e76_51, e76_52, e76_53, e76_54, e76_57, e76_58, e76_59, e76_62, e76_63, e76_66, WpV_some, WpH_some, ↓ite_t, ↓ite_f, M_f0, M_f1, M_f2, M_f3, M_f4, M_f5, M_f6, M_f7, M_f8, M_f9, M_f10, M_p0, M_p3, M_p6, M_p7, M_p10, M_g_0, M_g_1, M_g_2, M_g_3, M_g_4, M_g_5, M_s_0, M_s_1, M_s_2, M_s_3, M_s_4, M_s_5, mAr_same, mAr_mAr, mAr_1, mAr_h, mS_2, mS_same, mS_mS, mAr_mS, mh_1, mh_2, mh_h, mAr_01, mAr_02, mAr_03, mAr_04, mAr_05, mAr_10, mAr_12, mAr_13, mAr_14, mAr_15, mAr_20, mAr_21, mAr_23, mAr_24, mAr_25, mAr_30, mAr_31, mAr_32, mAr_34, mAr_35, mAr_40, mAr_41, mAr_42, mAr_43, mAr_45, mAr_50, mAr_51, mAr_52, mAr_53, mAr_54, mS_01, mS_02, mS_03, mS_10, mS_12, mS_13, mS_20, mS_21, mS_23, mS_30, mS_31, mS_32, q2, t2, ne_eq, Int.reduceEq, not_true_eq_false, not_false_eq_true, ↓reduceIte]
  exact hQ
end MW
