/-! THE MODEL'S METHODS: searches -/
def wfM (M : MG) : Prop := 0 ≤ M.2.1 0 1 ∧ M.2.1 0 1 ≤ M.2.1 0 0 ∧ M.2.1 0 0 ≤ 80 ∧ 1 ≤ M.2.1 0 2 ∧ M.2.1 0 2 ≤ 6
def bt (v k : Int) : Int := iAnd (iShr v k) 1
def fof (z : Nat → Int) (p r : Int) (i : Nat) : Nat → Int
  | 0 => r
  | d + 1 => fof z p (if z (5 + i) = p then (i : Int) else r) (i + 1) d
def emf (z : Nat → Int) (r : Int) : Nat → Int
  | 0 => r
  | d + 1 => emf z (if z (5 + d) = -1 then (d : Int) else r) d
def usf (z : Nat → Int) (p r : Int) (i : Nat) : Nat → Int
  | 0 => r
  | d + 1 => usf z p (if z (27 + 4 * (i + d)) = p then ((i + d : Nat) : Int) else r) i d
def lat (z : Nat → Int) (p rd r : Int) (i : Nat) : Nat → Int
  | 0 => r
  | d + 1 => lat z p rd (if z (27 + 4 * i) = p ∧ (rd = 0 ∨ 0 < z (29 + 4 * i)) then (i : Int) else r) (i + 1) d
section MF
variable {xs : List Int} {f : AH} {M : MG} {μ : Mu} {y pc : Nat} {L st : List AV} {Q : Out → Mu → AH → Prop}
theorem tn5 (i : Nat) : (5 + (i : Int)).toNat = 5 + i := by omega
theorem fof_loop (hw : wfM M) (p : Int) : ∀ (d i : Nat) (r : Int), (i : Int) + d = M.2.1 0 2 → (Wp xs 97 4 [vr 190, vi p, vi r, vi i] [] μ (putM f M) Q = Q (.inl (some (vi (fof (M.2.1 0) p r i d)))) μ (putM f M)) := by
  have hw0 := hw
  obtain ⟨w1, w2, w3, w4, w5⟩ := hw0
  intro d
  induction d with
  | zero =>
    intro i r hi
    simp (disch := first | omega | rfl) only [e97_0, e97_1, e97_2, e97_3, e97_4, e97_5, e97_6, e97_9, e97_10, e97_11, e97_14, e97_15, e97_18, e97_19, e97_20, e97_21, e97_22, e97_23, e97_26, e97_27, e97_30, e97_31, e97_32, e97_35, e97_38, e97_39, WpV_some, WpH_some, ↓ite_t, ↓ite_f, M_f0, M_f1, M_f2, M_f3, M_f4, M_f5, M_f6, M_f7, M_f8, M_f9, M_f10, M_p0, M_p3, M_p6, M_p7, M_p10, M_g_0, M_g_1, M_g_2, M_g_3, M_g_4, M_g_5, M_s_0, M_s_1, M_s_2, M_s_3, M_s_4, M_s_5, fof, Int.reduceToNat]
  | succ d ih =>
    intro i r hi
    have q := fun r => ih (i + 1) r (by omega)
    simp only [Int.natCast_add, Int.cast_ofNat_Int] at q
    rw [e97_4]
    by_cases c : M.2.1 0 (5 + i) = p
    · simp (disch := first | omega | rfl) only [e97_0, e97_1, e97_2, e97_3, e97_5, e97_6, e97_9, e97_10, e97_11, e97_14, e97_15, e97_18, e97_19, e97_20, e97_21, e97_22, e97_23, e97_26, e97_27, e97_30, e97_31, e97_32, e97_35, e97_38, e97_39, WpV_some, WpH_some, ↓ite_t, ↓ite_f, M_f0, M_f1, M_f2, M_f3, M_f4, M_f5, M_f6, M_f7, M_f8, M_f9, M_f10, M_p0, M_p3, M_p6, M_p7, M_p10, M_g_0, M_g_1, M_g_2, M_g_3, M_g_4, M_g_5, M_s_0, M_s_1, M_s_2, M_s_3, M_s_4, M_s_5, wrp_id, Int.reduceToNat, tn5, c, ne_eq, not_true_eq_false, ↓reduceIte, q, fof]
    · simp (disch := first | omega | rfl) only [e97_0, e97_1, e97_2, e97_3, e97_5, e97_6, e97_9, e97_10, e97_11, e97_14, e97_15, e97_18, e97_19, e97_20, e97_21, e97_22, e97_23, e97_26, e97_27, e97_30, e97_31, e97_32, e97_35, e97_38, e97_39, WpV_some, WpH_some, ↓ite_t, ↓ite_f, M_f0, M_f1, M_f2, M_f3, M_f4, M_f5, M_f6, M_f7, M_f8, M_f9, M_f10, M_p0, M_p3, M_p6, M_p7, M_p10, M_g_0, M_g_1, M_g_2, M_g_3, M_g_4, M_g_5, M_s_0, M_s_1, M_s_2, M_s_3, M_s_4, M_s_5, wrp_id, Int.reduceToNat, tn5, c, ne_eq, not_false_eq_true, ↓reduceIte, q, fof]
theorem m97 (hw : wfM M) (p : Int) : Runs xs 97 [vr 190, vi p] μ (putM f M) (.inl (some (vi (fof (M.2.1 0) p (-1) 0 (M.2.1 0 2).toNat)))) μ (putM f M) := Runs.iff fun Q hQ => by
  show Wp xs 97 0 [vr 190, vi p, vu, vu] [] μ (putM f M) Q
  have q := fof_loop (xs := xs) (f := f) (μ := μ) (Q := Q) hw p (M.2.1 0 2).toNat 0 (-1) (by obtain ⟨w1, w2, w3, w4, w5⟩ := hw; omega)
  simp only [Int.cast_ofNat_Int] at q
  simp (disch := first | omega | rfl) only [e97_0, e97_1, e97_2, e97_3, e97_5, e97_6, e97_9, e97_10, e97_11, e97_14, e97_15, e97_18, e97_19, e97_20, e97_21, e97_22, e97_23, e97_26, e97_27, e97_30, e97_31, e97_32, e97_35, e97_38, e97_39, WpV_some, WpH_some, ↓ite_t, ↓ite_f, q]
  exact hQ
theorem emf_loop (hw : wfM M) : ∀ (d : Nat) (r : Int), (d : Int) ≤ M.2.1 0 2 → (Wp xs 98 11 [vr 190, vi r, vi ((d : Int) - 1)] [] μ (putM f M) Q = Q (.inl (some (vi (emf (M.2.1 0) r d)))) μ (putM f M)) := by
  have hw0 := hw
  obtain ⟨w1, w2, w3, w4, w5⟩ := hw0
  intro d
  induction d with
  | zero =>
    intro r hi
    simp (disch := first | omega | rfl) only [e98_0, e98_1, e98_2, e98_3, e98_6, e98_7, e98_8, e98_9, e98_10, e98_11, e98_12, e98_15, e98_16, e98_19, e98_20, e98_21, e98_22, e98_23, e98_24, e98_27, e98_28, e98_31, e98_32, e98_33, e98_36, e98_39, e98_40, WpV_some, WpH_some, ↓ite_t, ↓ite_f, emf]
  | succ d ih =>
    intro r hi
    have q := fun r => ih r (by omega)
    have e : ((d + 1 : Nat) : Int) - 1 = d := by omega
    have e2 : (d : Int) + -1 = d - 1 := by omega
    rw [e, e98_11]
    by_cases c : M.2.1 0 (5 + d) = -1
    · simp (disch := first | omega | rfl) only [e98_0, e98_1, e98_2, e98_3, e98_6, e98_7, e98_8, e98_9, e98_10, e98_12, e98_15, e98_16, e98_19, e98_20, e98_21, e98_22, e98_23, e98_24, e98_27, e98_28, e98_31, e98_32, e98_33, e98_36, e98_39, e98_40, WpV_some, WpH_some, ↓ite_t, ↓ite_f, M_f0, M_f1, M_f2, M_f3, M_f4, M_f5, M_f6, M_f7, M_f8, M_f9, M_f10, M_p0, M_p3, M_p6, M_p7, M_p10, M_g_0, M_g_1, M_g_2, M_g_3, M_g_4, M_g_5, M_s_0, M_s_1, M_s_2, M_s_3, M_s_4, M_s_5, wrp_id, Int.reduceToNat, tn5, c, ne_eq, not_true_eq_false, ↓reduceIte, e2, q, emf]
    · simp (disch := first | omega | rfl) only [e98_0, e98_1, e98_2, e98_3, e98_6, e98_7, e98_8, e98_9, e98_10, e98_12, e98_15, e98_16, e98_19, e98_20, e98_21, e98_22, e98_23, e98_24, e98_27, e98_28, e98_31, e98_32, e98_33, e98_36, e98_39, e98_40, WpV_some, WpH_some, ↓ite_t, ↓ite_f, M_f0, M_f1, M_f2, M_f3, M_f4, M_f5, M_f6, M_f7, M_f8, M_f9, M_f10, M_p0, M_p3, M_p6, M_p7, M_p10, M_g_0, M_g_1, M_g_2, M_g_3, M_g_4, M_g_5, M_s_0, M_s_1, M_s_2, M_s_3, M_s_4, M_s_5, wrp_id, Int.reduceToNat, tn5, c, ne_eq, not_false_eq_true, ↓reduceIte, e2, q, emf]
theorem m98 (hw : wfM M) : Runs xs 98 [vr 190] μ (putM f M) (.inl (some (vi (emf (M.2.1 0) (-1) (M.2.1 0 2).toNat)))) μ (putM f M) := Runs.iff fun Q hQ => by
  show Wp xs 98 0 [vr 190, vu, vu] [] μ (putM f M) Q
  have hw0 := hw
  obtain ⟨w1, w2, w3, w4, w5⟩ := hw0
  have q := emf_loop (xs := xs) (f := f) (μ := μ) (Q := Q) hw (M.2.1 0 2).toNat (-1) (by omega)
  rw [Int.toNat_of_nonneg (by omega)] at q
  simp (disch := first | omega | rfl) only [e98_0, e98_1, e98_2, e98_3, e98_6, e98_7, e98_8, e98_9, e98_10, e98_12, e98_15, e98_16, e98_19, e98_20, e98_21, e98_22, e98_23, e98_24, e98_27, e98_28, e98_31, e98_32, e98_33, e98_36, e98_39, e98_40, WpV_some, WpH_some, ↓ite_t, ↓ite_f, M_f0, M_f1, M_f2, M_f3, M_f4, M_f5, M_f6, M_f7, M_f8, M_f9, M_f10, M_p0, M_p3, M_p6, M_p7, M_p10, M_g_0, M_g_1, M_g_2, M_g_3, M_g_4, M_g_5, M_s_0, M_s_1, M_s_2, M_s_3, M_s_4, M_s_5, wrp_id, Int.reduceToNat, q]
  exact hQ
theorem m100 (v k : Int) : Runs xs 100 [vi v, vi k] μ f (.inl (some (vi (if bt v k = 1 then 1 else 0)))) μ f := Runs.iff fun Q hQ => by
  show Wp xs 100 0 [vi v, vi k] [] μ f Q
  unfold bt at hQ
  by_cases c : iAnd (iShr v k) 1 = 1
  · rw [if_pos c] at hQ
    simp (disch := first | omega | rfl) only [e100_0, e100_1, e100_2, e100_3, e100_4, e100_5, e100_6, e100_9, e100_10, e100_13, e100_14, WpV_some, WpH_some, ↓ite_t, ↓ite_f, c, ne_eq, not_true_eq_false, ↓reduceIte]
    exact hQ
  · rw [if_neg c] at hQ
    simp (disch := first | omega | rfl) only [e100_0, e100_1, e100_2, e100_3, e100_4, e100_5, e100_6, e100_9, e100_10, e100_13, e100_14, WpV_some, WpH_some, ↓ite_t, ↓ite_f, c, ne_eq, not_false_eq_true, ↓reduceIte]
    exact hQ
end MF
