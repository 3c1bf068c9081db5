/-- the victim by a rule -/
def vbm (z : Nat → Int) (rule : Int) (i : Nat) (best : Int) (p : Nat) : Nat → Int
  | 0 => best
  | d + 1 => if fof z p (-1) 0 (z 2).toNat = -1 then vbm z rule i best (p + 1) d else if bt (z 3) p = 1 then vbm z rule i best (p + 1) d
    else if best = -1 then vbm z rule i p (p + 1) d else if wor z rule p i ≤ wor z rule best i then vbm z rule i best (p + 1) d else vbm z rule i p (p + 1) d
section MJ
variable {xs : List Int} {f : AH} {M : MG} {μ : Mu} {y pc : Nat} {L st : List AV} {Q : Out → Mu → AH → Prop}
theorem vbm_loop (hw : wfM M) (rule i : Int) (h0 : 0 ≤ i) (h1 : i ≤ 1000) : ∀ (d p : Nat) (best : Int) (l5 : AV), p + d = 8 → (Wp xs 99 5 [vr 190, vi rule, vi i, vi best, vi p, l5] [] μ (putM f M) Q = Q (.inl (some (vi (vbm (M.2.1 0) rule i.toNat best p d)))) μ (putM f M)) := by
  have hw0 := hw
  obtain ⟨w1, w2, w3, w4, w5⟩ := hw0
  intro d
  induction d with
  | zero =>
    intro p best l5 hp
    simp (disch := first | omega | rfl) only [e99_0, e99_1, e99_2, e99_3, e99_5, e99_7, e99_9, e99_12, e99_13, e99_15, e99_18, e99_19, e99_22, e99_23, e99_26, e99_27, e99_28, e99_30, e99_33, e99_36, e99_37, e99_40, e99_41, e99_43, e99_45, e99_48, e99_49, e99_50, e99_53, e99_54, e99_55, e99_57, e99_58, e99_61, e99_62, e99_63, e99_64, e99_65, e99_68, e99_71, e99_73, e99_76, e99_77, e99_78, e99_81, e99_84, e99_85, WpV_some, WpH_some, ↓ite_t, ↓ite_f, vbm]
  | succ d ih =>
    intro p best l5 hp
    have q := fun best l5 => ih (p + 1) best l5 (by omega)
    simp only [Int.natCast_add, Int.cast_ofNat_Int] at q
    have q1 := cC_v (m100 (xs := xs) (μ := μ) (f := putM f M) (M.2.1 0 3) p)
    rw [e99_5]
    unfold vbm
    by_cases c1 : fof (M.2.1 0) p (-1) 0 (M.2.1 0 2).toNat = -1
    · simp (disch := first | omega | rfl) only [e99_0, e99_1, e99_2, e99_3, e99_7, e99_9, e99_12, e99_13, e99_15, e99_18, e99_19, e99_22, e99_23, e99_26, e99_27, e99_28, e99_30, e99_33, e99_36, e99_37, e99_40, e99_41, e99_43, e99_45, e99_48, e99_49, e99_50, e99_53, e99_54, e99_55, e99_57, e99_58, e99_61, e99_62, e99_63, e99_64, e99_65, e99_68, e99_71, e99_73, e99_76, e99_77, e99_78, e99_81, e99_84, e99_85, WpV_some, WpH_some, ↓ite_t, ↓ite_f, M_f0, M_f1, M_f2, M_f3, M_f4, M_f5, M_f6, M_f7, M_f8, M_f9, M_f10, M_p0, M_p3, M_p6, M_p7, M_p10, M_g_0, M_g_1, M_g_2, M_g_3, M_g_4, M_g_5, M_s_0, M_s_1, M_s_2, M_s_3, M_s_4, M_s_5, cI_v (m97 hw _) M_o h190, wrp_id, Int.reduceToNat, c1, ne_eq, not_true_eq_false, ↓reduceIte, q]
    · by_cases c2 : bt (M.2.1 0 3) p = 1
      · rw [if_pos c2] at q1
        simp (disch := first | omega | rfl) only [e99_0, e99_1, e99_2, e99_3, e99_7, e99_9, e99_12, e99_13, e99_15, e99_18, e99_19, e99_22, e99_23, e99_26, e99_27, e99_28, e99_30, e99_33, e99_36, e99_37, e99_40, e99_41, e99_43, e99_45, e99_48, e99_49, e99_50, e99_53, e99_54, e99_55, e99_57, e99_58, e99_61, e99_62, e99_63, e99_64, e99_65, e99_68, e99_71, e99_73, e99_76, e99_77, e99_78, e99_81, e99_84, e99_85, WpV_some, WpH_some, ↓ite_t, ↓ite_f, M_f0, M_f1, M_f2, M_f3, M_f4, M_f5, M_f6, M_f7, M_f8, M_f9, M_f10, M_p0, M_p3, M_p6, M_p7, M_p10, M_g_0, M_g_1, M_g_2, M_g_3, M_g_4, M_g_5, M_s_0, M_s_1, M_s_2, M_s_3, M_s_4, M_s_5, cI_v (m97 hw _) M_o h190, q1, wrp_id, Int.reduceToNat, c1, c2, ne_eq, not_true_eq_false, not_false_eq_true, ↓reduceIte, q]
      · rw [if_neg c2] at q1
        by_cases c3 : best = -1
        · simp (disch := first | omega | rfl) only [e99_0, e99_1, e99_2, e99_3, e99_7, e99_9, e99_12, e99_13, e99_15, e99_18, e99_19, e99_22, e99_23, e99_26, e99_27, e99_28, e99_30, e99_33, e99_36, e99_37, e99_40, e99_41, e99_43, e99_45, e99_48, e99_49, e99_50, e99_53, e99_54, e99_55, e99_57, e99_58, e99_61, e99_62, e99_63, e99_64, e99_65, e99_68, e99_71, e99_73, e99_76, e99_77, e99_78, e99_81, e99_84, e99_85, WpV_some, WpH_some, ↓ite_t, ↓ite_f, M_f0, M_f1, M_f2, M_f3, M_f4, M_f5, M_f6, M_f7, M_f8, M_f9, M_f10, M_p0, M_p3, M_p6, M_p7, M_p10, M_g_0, M_g_1, M_g_2, M_g_3, M_g_4, M_g_5, M_s_0, M_s_1, M_s_2, M_s_3, M_s_4, M_s_5, cI_v (m97 hw _) M_o h190, q1, wrp_id, Int.reduceToNat, c1, c2, c3, ne_eq, not_true_eq_false, not_false_eq_true, ↓reduceIte, q]
        · by_cases c4 : wor (M.2.1 0) rule p i.toNat ≤ wor (M.2.1 0) rule best i.toNat
          · simp (disch := first | omega | rfl) only [e99_0, e99_1, e99_2, e99_3, e99_7, e99_9, e99_12, e99_13, e99_15, e99_18, e99_19, e99_22, e99_23, e99_26, e99_27, e99_28, e99_30, e99_33, e99_36, e99_37, e99_40, e99_41, e99_43, e99_45, e99_48, e99_49, e99_50, e99_53, e99_54, e99_55, e99_57, e99_58, e99_61, e99_62, e99_63, e99_64, e99_65, e99_68, e99_71, e99_73, e99_76, e99_77, e99_78, e99_81, e99_84, e99_85, WpV_some, WpH_some, ↓ite_t, ↓ite_f, M_f0, M_f1, M_f2, M_f3, M_f4, M_f5, M_f6, M_f7, M_f8, M_f9, M_f10, M_p0, M_p3, M_p6, M_p7, M_p10, M_g_0, M_g_1, M_g_2, M_g_3, M_g_4, M_g_5, M_s_0, M_s_1, M_s_2, M_s_3, M_s_4, M_s_5, cI_v (m97 hw _) M_o h190, cI_v (m101 hw _ _ i h0 h1) M_o h190, q1, wrp_id, Int.reduceToNat, c1, c2, c3, c4, ne_eq, not_true_eq_false, not_false_eq_true, ↓reduceIte, q]
          · simp (disch := first | omega | rfl) only [e99_0, e99_1, e99_2, e99_3, e99_7, e99_9, e99_12, e99_13, e99_15, e99_18, e99_19, e99_22, e99_23, e99_26, e99_27, e99_28, e99_30, e99_33, e99_36, e99_37, e99_40, e99_41, e99_43, e99_45, e99_48, e99_49, e99_50, e99_53, e99_54, e99_55, e99_57, e99_58, e99_61, e99_62, e99_63, e99_64, e99_65, e99_68, e99_71, e99_73, e99_76, e99_77, e99_78, e99_81, e99_84, e99_85, WpV_some, WpH_some, ↓ite_t, ↓ite_f, M_f0, M_f1, M_f2, M_f3, M_f4, M_f5, M_f6, M_f7, M_f8, M_f9, M_f10, M_p0, M_p3, M_p6, M_p7, M_p10, M_g_0, M_g_1, M_g_2, M_g_3, M_g_4, M_g_5, M_s_0, M_s_1, M_s_2, M_s_3, M_s_4, M_s_5, cI_v (m97 hw _) M_o h190, cI_v (m101 hw _ _ i h0 h1) M_o h190, q1, wrp_id, Int.reduceToNat, c1, c2, c3, c4, ne_eq, not_true_eq_false, not_false_eq_true, ↓reduceIte, q]
theorem m99 (hw : wfM M) (rule i : Int) (h0 : 0 ≤ i) (h1 : i ≤ 1000) : Runs xs 99 [vr 190, vi rule, vi i] μ (putM f M) (.inl (some (vi (vbm (M.2.1 0) rule i.toNat (-1) 0 8)))) μ (putM f M) := Runs.iff fun Q hQ => by
  show Wp xs 99 0 [vr 190, vi rule, vi i, vu, vu, vu] [] μ (putM f M) Q
  have q := vbm_loop (xs := xs) (f := f) (μ := μ) (Q := Q) hw rule i h0 h1 8 0 (-1) vu (by omega)
  simp only [Int.cast_ofNat_Int] at q
  simp (disch := first | omega | rfl) only [e99_0, e99_1, e99_2, e99_3, e99_7, e99_9, e99_12, e99_13, e99_15, e99_18, e99_19, e99_22, e99_23, e99_26, e99_27, e99_28, e99_30, e99_33, e99_36, e99_37, e99_40, e99_41, e99_43, e99_45, e99_48, e99_49, e99_50, e99_53, e99_54, e99_55, e99_57, e99_58, e99_61, e99_62, e99_63, e99_64, e99_65, e99_68, e99_71, e99_73, e99_76, e99_77, e99_78, e99_81, e99_84, e99_85, WpV_some, WpH_some, ↓ite_t, ↓ite_f, q]
  exact hQ
end MJ
