section MH
variable {xs : List Int} {f : AH} {M : MG} {μ : Mu} {y pc : Nat} {L st : List AV} {Q : Out → Mu → AH → Prop}
theorem lat_loop (hw : wfM M) (p rd : Int) : ∀ (d i : Nat) (r : Int), (i : Int) + d = M.2.1 0 1 → (Wp xs 103 5 [vr 190, vi p, vi rd, vi r, vi i] [] μ (putM f M) Q = Q (.inl (some (vi (lat (M.2.1 0) p rd r i d)))) μ (putM f M)) := by
  have hw0 := hw
  obtain ⟨w1, w2, w3, w4, w5⟩ := hw0
  intro d
  induction d with
  | zero =>
    intro i r hi
    simp (disch := first | omega | rfl) only [e103_0, e103_1, e103_2, e103_3, e103_5, e103_7, e103_8, e103_11, e103_12, e103_13, e103_16, e103_17, e103_19, e103_20, e103_23, e103_24, e103_27, e103_28, e103_31, e103_32, e103_34, e103_35, e103_38, e103_41, e103_43, e103_46, e103_47, e103_48, e103_51, e103_54, e103_55, WpV_some, WpH_some, ↓ite_t, ↓ite_f, M_f0, M_f1, M_f2, M_f3, M_f4, M_f5, M_f6, M_f7, M_f8, M_f9, M_f10, M_p0, M_p3, M_p6, M_p7, M_p10, M_g_0, M_g_1, M_g_2, M_g_3, M_g_4, M_g_5, M_s_0, M_s_1, M_s_2, M_s_3, M_s_4, M_s_5, Int.reduceToNat, lat]
  | succ d ih =>
    intro i r hi
    have q := fun r => ih (i + 1) r (by omega)
    have q2 := cI_v (m92 (xs := xs) (f := f) (M := M) (μ := μ) (i : Int) 0 (by omega) (by omega) (by omega) (by omega)) M_o h190
    have q3 := cI_v (m92 (xs := xs) (f := f) (M := M) (μ := μ) (i : Int) 2 (by omega) (by omega) (by omega) (by omega)) M_o h190
    rw [tn27] at q2
    rw [tn29] at q3
    simp only [Int.natCast_add, Int.cast_ofNat_Int] at q
    rw [e103_5]
    unfold lat
    by_cases c : M.2.1 0 (27 + 4 * i) = p
    · by_cases c2 : rd = 0
      · rw [if_pos ⟨c, Or.inl c2⟩]
        simp (disch := first | omega | rfl) only [e103_0, e103_1, e103_2, e103_3, e103_7, e103_8, e103_11, e103_12, e103_13, e103_16, e103_17, e103_19, e103_20, e103_23, e103_24, e103_27, e103_28, e103_31, e103_32, e103_34, e103_35, e103_38, e103_41, e103_43, e103_46, e103_47, e103_48, e103_51, e103_54, e103_55, WpV_some, WpH_some, ↓ite_t, ↓ite_f, M_f0, M_f1, M_f2, M_f3, M_f4, M_f5, M_f6, M_f7, M_f8, M_f9, M_f10, M_p0, M_p3, M_p6, M_p7, M_p10, M_g_0, M_g_1, M_g_2, M_g_3, M_g_4, M_g_5, M_s_0, M_s_1, M_s_2, M_s_3, M_s_4, M_s_5, q2, wrp_id, Int.reduceToNat, c, c2, ne_eq, not_true_eq_false, ↓reduceIte, q]
        rw [c2] at q
        simp only [q]
      · by_cases c3 : 0 < M.2.1 0 (29 + 4 * i)
        · rw [if_pos ⟨c, Or.inr c3⟩]
          simp (disch := first | omega | rfl) only [e103_0, e103_1, e103_2, e103_3, e103_7, e103_8, e103_11, e103_12, e103_13, e103_16, e103_17, e103_19, e103_20, e103_23, e103_24, e103_27, e103_28, e103_31, e103_32, e103_34, e103_35, e103_38, e103_41, e103_43, e103_46, e103_47, e103_48, e103_51, e103_54, e103_55, WpV_some, WpH_some, ↓ite_t, ↓ite_f, M_f0, M_f1, M_f2, M_f3, M_f4, M_f5, M_f6, M_f7, M_f8, M_f9, M_f10, M_p0, M_p3, M_p6, M_p7, M_p10, M_g_0, M_g_1, M_g_2, M_g_3, M_g_4, M_g_5, M_s_0, M_s_1, M_s_2, M_s_3, M_s_4, M_s_5, q2, q3, wrp_id, Int.reduceToNat, c, c2, c3, ne_eq, not_true_eq_false, ↓reduceIte, q]
        · rw [if_neg (by omega)]
          simp (disch := first | omega | rfl) only [e103_0, e103_1, e103_2, e103_3, e103_7, e103_8, e103_11, e103_12, e103_13, e103_16, e103_17, e103_19, e103_20, e103_23, e103_24, e103_27, e103_28, e103_31, e103_32, e103_34, e103_35, e103_38, e103_41, e103_43, e103_46, e103_47, e103_48, e103_51, e103_54, e103_55, WpV_some, WpH_some, ↓ite_t, ↓ite_f, M_f0, M_f1, M_f2, M_f3, M_f4, M_f5, M_f6, M_f7, M_f8, M_f9, M_f10, M_p0, M_p3, M_p6, M_p7, M_p10, M_g_0, M_g_1, M_g_2, M_g_3, M_g_4, M_g_5, M_s_0, M_s_1, M_s_2, M_s_3, M_s_4, M_s_5, q2, q3, wrp_id, Int.reduceToNat, c, c2, c3, ne_eq, not_true_eq_false, ↓reduceIte, q]
    · rw [if_neg (fun e => c e.1)]
      simp (disch := first | omega | rfl) only [e103_0, e103_1, e103_2, e103_3, e103_7, e103_8, e103_11, e103_12, e103_13, e103_16, e103_17, e103_19, e103_20, e103_23, e103_24, e103_27, e103_28, e103_31, e103_32, e103_34, e103_35, e103_38, e103_41, e103_43, e103_46, e103_47, e103_48, e103_51, e103_54, e103_55, WpV_some, WpH_some, ↓ite_t, ↓ite_f, M_f0, M_f1, M_f2, M_f3, M_f4, M_f5, M_f6, M_f7, M_f8, M_f9, M_f10, M_p0, M_p3, M_p6, M_p7, M_p10, M_g_0, M_g_1, M_g_2, M_g_3, M_g_4, M_g_5, M_s_0, M_s_1, M_s_2, M_s_3, M_s_4, M_s_5, q2, wrp_id, Int.reduceToNat, c, ne_eq, not_false_eq_true, ↓reduceIte, q]
theorem m103 (hw : wfM M) (p rd : Int) : Runs xs 103 [vr 190, vi p, vi rd] μ (putM f M) (.inl (some (vi (lat (M.2.1 0) p rd (-1) 0 (M.2.1 0 1).toNat)))) μ (putM f M) := Runs.iff fun Q hQ => by
  show Wp xs 103 0 [vr 190, vi p, vi rd, vu, vu] [] μ (putM f M) Q
  have hw0 := hw
  obtain ⟨w1, w2, w3, w4, w5⟩ := hw0
  have q := lat_loop (xs := xs) (f := f) (μ := μ) (Q := Q) hw p rd (M.2.1 0 1).toNat 0 (-1) (by omega)
  simp only [Int.cast_ofNat_Int] at q
  simp (disch := first | omega | rfl) only [e103_0, e103_1, e103_2, e103_3, e103_7, e103_8, e103_11, e103_12, e103_13, e103_16, e103_17, e103_19, e103_20, e103_23, e103_24, e103_27, e103_28, e103_31, e103_32, e103_34, e103_35, e103_38, e103_41, e103_43, e103_46, e103_47, e103_48, e103_51, e103_54, e103_55, WpV_some, WpH_some, ↓ite_t, ↓ite_f, q]
  exact hQ
end MH
