def wor (z : Nat → Int) (rule p : Int) (i : Nat) : Int := if rule = 0 then usf z p 80 i ((z 0).toNat - i) else wrp (-(lat z p (if rule = 2 then 1 else 0) (-1) 0 (z 1).toNat))
section MI
variable {xs : List Int} {f : AH} {M : MG} {μ : Mu} {y pc : Nat} {L st : List AV} {Q : Out → Mu → AH → Prop}
theorem m101 (hw : wfM M) (rule p i : Int) (h0 : 0 ≤ i) (h1 : i ≤ 1000) : Runs xs 101 [vr 190, vi rule, vi p, vi i] μ (putM f M) (.inl (some (vi (wor (M.2.1 0) rule p i.toNat)))) μ (putM f M) := Runs.iff fun Q hQ => by
  show Wp xs 101 0 [vr 190, vi rule, vi p, vi i] [] μ (putM f M) Q
  unfold wor at hQ
  by_cases c : rule = 0
  · rw [if_pos c] at hQ
    simp (disch := first | omega | rfl) only [e101_0, e101_1, e101_4, e101_5, e101_6, e101_7, e101_10, e101_13, e101_14, e101_15, e101_16, e101_17, e101_20, e101_21, e101_24, e101_25, e101_28, e101_29, WpV_some, WpH_some, ↓ite_t, ↓ite_f, cI_v (m102 hw p i h0 h1) M_o h190, c, ne_eq, not_true_eq_false, ↓reduceIte]
    exact hQ
  · rw [if_neg c] at hQ
    by_cases c2 : rule = 2
    · rw [if_pos c2] at hQ
      simp (disch := first | omega | rfl) only [e101_0, e101_1, e101_4, e101_5, e101_6, e101_7, e101_10, e101_13, e101_14, e101_15, e101_16, e101_17, e101_20, e101_21, e101_24, e101_25, e101_28, e101_29, WpV_some, WpH_some, ↓ite_t, ↓ite_f, cI_v (m103 hw p 1) M_o h190, c, c2, ne_eq, not_true_eq_false, not_false_eq_true, ↓reduceIte]
      exact hQ
    · rw [if_neg c2] at hQ
      simp (disch := first | omega | rfl) only [e101_0, e101_1, e101_4, e101_5, e101_6, e101_7, e101_10, e101_13, e101_14, e101_15, e101_16, e101_17, e101_20, e101_21, e101_24, e101_25, e101_28, e101_29, WpV_some, WpH_some, ↓ite_t, ↓ite_f, cI_v (m103 hw p 0) M_o h190, c, c2, ne_eq, not_true_eq_false, not_false_eq_true, ↓reduceIte]
      exact hQ
theorem m91 (hw : wfM M) (i : Int) : Runs xs 91 [vr 190, vi i] μ (putM f M) (.inl (some (vi (if M.2.1 0 1 ≤ i ∧ i ≤ M.2.1 0 0 - 1 then 1 else 0)))) μ (putM f M) := Runs.iff fun Q hQ => by
  show Wp xs 91 0 [vr 190, vi i] [] μ (putM f M) Q
  have hw0 := hw
  obtain ⟨w1, w2, w3, w4, w5⟩ := hw0
  have q := cC_v (m77 (xs := xs) (μ := μ) (f := putM f M) i (M.2.1 0 1) (M.2.1 0 0 - 1))
  by_cases c : M.2.1 0 1 ≤ i ∧ i ≤ M.2.1 0 0 - 1
  · rw [if_pos c] at hQ q
    simp (disch := first | omega | rfl) only [e91_0, e91_1, e91_2, e91_5, e91_6, e91_7, e91_8, e91_11, e91_12, e91_13, e91_14, e91_15, e91_18, WpV_some, WpH_some, ↓ite_t, ↓ite_f, M_f0, M_f1, M_f2, M_f3, M_f4, M_f5, M_f6, M_f7, M_f8, M_f9, M_f10, M_p0, M_p3, M_p6, M_p7, M_p10, M_g_0, M_g_1, M_g_2, M_g_3, M_g_4, M_g_5, M_s_0, M_s_1, M_s_2, M_s_3, M_s_4, M_s_5, wrp_id, Int.reduceToNat, q]
    exact hQ
  · rw [if_neg c] at hQ q
    simp (disch := first | omega | rfl) only [e91_0, e91_1, e91_2, e91_5, e91_6, e91_7, e91_8, e91_11, e91_12, e91_13, e91_14, e91_15, e91_18, WpV_some, WpH_some, ↓ite_t, ↓ite_f, M_f0, M_f1, M_f2, M_f3, M_f4, M_f5, M_f6, M_f7, M_f8, M_f9, M_f10, M_p0, M_p3, M_p6, M_p7, M_p10, M_g_0, M_g_1, M_g_2, M_g_3, M_g_4, M_g_5, M_s_0, M_s_1, M_s_2, M_s_3, M_s_4, M_s_5, wrp_id, Int.reduceToNat, q]
    exact hQ
end MI
