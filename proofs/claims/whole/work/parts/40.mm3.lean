def bts (v w : Int) (k : Nat) : Nat → Int
  | 0 => w
  | d + 1 => bts v (wrp (w + bt v k)) (k + 1) d
section MG2
variable {xs : List Int} {f : AH} {M : MG} {μ : Mu} {y pc : Nat} {L st : List AV} {Q : Out → Mu → AH → Prop}
theorem bts_loop (v : Int) : ∀ (d k : Nat) (w : Int), k + d = 8 → (Wp xs 106 4 [vi v, vi w, vi k] [] μ f Q = Q (.inl (some (vi (bts v w k d)))) μ f) := by
  intro d
  induction d with
  | zero =>
    intro k w hk
    simp (disch := first | omega | rfl) only [e106_0, e106_1, e106_2, e106_3, e106_4, e106_5, e106_7, e106_10, e106_11, e106_12, e106_13, e106_14, e106_15, e106_16, e106_17, e106_18, e106_21, e106_24, e106_25, WpV_some, WpH_some, ↓ite_t, ↓ite_f, bts]
  | succ d ih =>
    intro k w hk
    have q := fun w => ih (k + 1) w (by omega)
    simp only [Int.natCast_add, Int.cast_ofNat_Int] at q
    rw [e106_4]
    simp (disch := first | omega | rfl) only [e106_0, e106_1, e106_2, e106_3, e106_5, e106_7, e106_10, e106_11, e106_12, e106_13, e106_14, e106_15, e106_16, e106_17, e106_18, e106_21, e106_24, e106_25, WpV_some, WpH_some, ↓ite_t, ↓ite_f, wrp_id, q, bts, bt]
theorem m106 (v : Int) : Runs xs 106 [vi v] μ f (.inl (some (vi (bts v 0 0 8)))) μ f := Runs.iff fun Q hQ => by
  show Wp xs 106 0 [vi v, vu, vu] [] μ f Q
  have q := bts_loop (xs := xs) (f := f) (μ := μ) (Q := Q) v 8 0 0 (by omega)
  simp only [Int.cast_ofNat_Int] at q
  simp (disch := first | omega | rfl) only [e106_0, e106_1, e106_2, e106_3, e106_5, e106_7, e106_10, e106_11, e106_12, e106_13, e106_14, e106_15, e106_16, e106_17, e106_18, e106_21, e106_24, e106_25, WpV_some, WpH_some, ↓ite_t, ↓ite_f, q]
  exact hQ
theorem tn27 (i : Nat) : (27 + 4 * (i : Int) + 0).toNat = 27 + 4 * i := by omega
theorem tn29 (i : Nat) : (27 + 4 * (i : Int) + 2).toNat = 29 + 4 * i := by omega
theorem usf_loop (hw : wfM M) (p : Int) (i : Nat) : ∀ (d : Nat) (r : Int), (i : Int) + d ≤ M.2.1 0 0 → (Wp xs 102 13 [vr 190, vi p, vi i, vi r, vi ((i : Int) + d - 1)] [] μ (putM f M) Q = Q (.inl (some (vi (usf (M.2.1 0) p r i d)))) μ (putM f M)) := by
  have hw0 := hw
  obtain ⟨w1, w2, w3, w4, w5⟩ := hw0
  intro d
  induction d with
  | zero =>
    intro r hi
    simp (disch := first | omega | rfl) only [e102_0, e102_2, e102_3, e102_4, e102_7, e102_8, e102_9, e102_10, e102_11, e102_13, e102_15, e102_16, e102_19, e102_20, e102_22, e102_23, e102_26, e102_27, e102_30, e102_32, e102_35, e102_36, e102_37, e102_40, e102_43, e102_44, WpV_some, WpH_some, ↓ite_t, ↓ite_f, usf]
  | succ d ih =>
    intro r hi
    have q := fun r => ih r (by omega)
    have e : (i : Int) + (d + 1 : Nat) - 1 = (i + d : Nat) := by omega
    have e2 : ((i + d : Nat) : Int) + -1 = i + d - 1 := by omega
    have q2 := cI_v (m92 (xs := xs) (f := f) (M := M) (μ := μ) ((i + d : Nat) : Int) 0 (by omega) (by omega) (by omega) (by omega)) M_o h190
    rw [tn27] at q2
    rw [e, e102_13]
    by_cases c : M.2.1 0 (27 + 4 * (i + d)) = p
    · simp (disch := first | omega | rfl) only [e102_0, e102_2, e102_3, e102_4, e102_7, e102_8, e102_9, e102_10, e102_11, e102_15, e102_16, e102_19, e102_20, e102_22, e102_23, e102_26, e102_27, e102_30, e102_32, e102_35, e102_36, e102_37, e102_40, e102_43, e102_44, WpV_some, WpH_some, ↓ite_t, ↓ite_f, q2, wrp_id, c, ne_eq, not_true_eq_false, ↓reduceIte, e2, q, usf]
    · simp (disch := first | omega | rfl) only [e102_0, e102_2, e102_3, e102_4, e102_7, e102_8, e102_9, e102_10, e102_11, e102_15, e102_16, e102_19, e102_20, e102_22, e102_23, e102_26, e102_27, e102_30, e102_32, e102_35, e102_36, e102_37, e102_40, e102_43, e102_44, WpV_some, WpH_some, ↓ite_t, ↓ite_f, q2, wrp_id, c, ne_eq, not_false_eq_true, ↓reduceIte, e2, q, usf]
theorem m102 (hw : wfM M) (p i : Int) (h0 : 0 ≤ i) (h1 : i ≤ 1000) : Runs xs 102 [vr 190, vi p, vi i] μ (putM f M) (.inl (some (vi (usf (M.2.1 0) p 80 i.toNat ((M.2.1 0 0).toNat - i.toNat))))) μ (putM f M) := Runs.iff fun Q hQ => by
  show Wp xs 102 0 [vr 190, vi p, vi i, vu, vu] [] μ (putM f M) Q
  have hw0 := hw
  obtain ⟨w1, w2, w3, w4, w5⟩ := hw0
  by_cases c : i ≤ M.2.1 0 0
  · have q := usf_loop (xs := xs) (f := f) (μ := μ) (Q := Q) hw p i.toNat ((M.2.1 0 0).toNat - i.toNat) 80 (by omega)
    have e : (i.toNat : Int) + ((M.2.1 0 0).toNat - i.toNat : Nat) - 1 = M.2.1 0 0 - 1 := by omega
    rw [e, Int.toNat_of_nonneg h0] at q
    simp (disch := first | omega | rfl) only [e102_0, e102_2, e102_3, e102_4, e102_7, e102_8, e102_9, e102_10, e102_11, e102_15, e102_16, e102_19, e102_20, e102_22, e102_23, e102_26, e102_27, e102_30, e102_32, e102_35, e102_36, e102_37, e102_40, e102_43, e102_44, WpV_some, WpH_some, ↓ite_t, ↓ite_f, M_f0, M_f1, M_f2, M_f3, M_f4, M_f5, M_f6, M_f7, M_f8, M_f9, M_f10, M_p0, M_p3, M_p6, M_p7, M_p10, M_g_0, M_g_1, M_g_2, M_g_3, M_g_4, M_g_5, M_s_0, M_s_1, M_s_2, M_s_3, M_s_4, M_s_5, wrp_id, Int.reduceToNat, q]
    exact hQ
  · rw [show (M.2.1 0 0).toNat - i.toNat = 0 by omega] at hQ
    simp (disch := first | omega | rfl) only [e102_0, e102_2, e102_3, e102_4, e102_7, e102_8, e102_9, e102_10, e102_11, e102_13, e102_15, e102_16, e102_19, e102_20, e102_22, e102_23, e102_26, e102_27, e102_30, e102_32, e102_35, e102_36, e102_37, e102_40, e102_43, e102_44, WpV_some, WpH_some, ↓ite_t, ↓ite_f, M_f0, M_f1, M_f2, M_f3, M_f4, M_f5, M_f6, M_f7, M_f8, M_f9, M_f10, M_p0, M_p3, M_p6, M_p7, M_p10, M_g_0, M_g_1, M_g_2, M_g_3, M_g_4, M_g_5, M_s_0, M_s_1, M_s_2, M_s_3, M_s_4, M_s_5, wrp_id, Int.reduceToNat]
    exact hQ
end MG2
