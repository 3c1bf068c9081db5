/-! THE MODEL'S METHODS: small ones -/
def zz (M : MG) (i : Nat) : Int := M.2.1 0 i
def b1 (p : Prop) [Decidable p] : Int := if p then 1 else 0
section ME
variable {xs : List Int} {f : AH} {M : MG} {μ : Mu} {y pc : Nat} {L st : List AV} {Q : Out → Mu → AH → Prop}
theorem m77 (a l h : Int) : Runs xs 77 [vi a, vi l, vi h] μ f (.inl (some (vi (if l ≤ a ∧ a ≤ h then 1 else 0)))) μ f := Runs.iff fun Q hQ => by
  show Wp xs 77 0 [vi a, vi l, vi h] [] μ f Q
  by_cases c1 : l ≤ a
  · by_cases c2 : a ≤ h
    · rw [if_pos ⟨c1, c2⟩] at hQ
      simp (disch := first | omega | rfl) only [e77_0, e77_1, e77_2, e77_5, e77_6, e77_7, e77_10, e77_11, e77_14, e77_15, WpV_some, WpH_some, ↓ite_t, ↓ite_f]
      exact hQ
    · rw [if_neg (fun e => c2 e.2)] at hQ
      simp (disch := first | omega | rfl) only [e77_0, e77_1, e77_2, e77_5, e77_6, e77_7, e77_10, e77_11, e77_14, e77_15, WpV_some, WpH_some, ↓ite_t, ↓ite_f]
      exact hQ
  · rw [if_neg (fun e => c1 e.1)] at hQ
    simp (disch := first | omega | rfl) only [e77_0, e77_1, e77_2, e77_5, e77_6, e77_7, e77_10, e77_11, e77_14, e77_15, WpV_some, WpH_some, ↓ite_t, ↓ite_f]
    exact hQ
theorem m89 (p : Int) : Runs xs 89 [vi p] μ f (.inl (some (vi (if 0 ≤ p ∧ p ≤ 7 then 1 else 0)))) μ f := Runs.iff fun Q hQ => by
  show Wp xs 89 0 [vi p] [] μ f Q
  by_cases c : 0 ≤ p ∧ p ≤ 7
  · have q := cC_v (m77 (xs := xs) (μ := μ) (f := f) p 0 7)
    rw [if_pos c] at hQ q
    simp (disch := first | omega | rfl) only [e89_0, e89_1, e89_2, e89_4, e89_7, WpV_some, WpH_some, ↓ite_t, ↓ite_f, q]
    exact hQ
  · have q := cC_v (m77 (xs := xs) (μ := μ) (f := f) p 0 7)
    rw [if_neg c] at hQ q
    simp (disch := first | omega | rfl) only [e89_0, e89_1, e89_2, e89_4, e89_7, WpV_some, WpH_some, ↓ite_t, ↓ite_f, q]
    exact hQ
theorem m74 : Runs xs 74 [vr 190] μ (putM f M) (.inl (some (vi (M.1 0)))) μ (putM f M) := Runs.iff fun Q hQ => by
  show Wp xs 74 0 [vr 190] [] μ (putM f M) Q
  simp (disch := first | omega | rfl) only [e74_0, e74_1, e74_4, WpV_some, WpH_some, ↓ite_t, ↓ite_f, M_f0, M_f1, M_f2, M_f3, M_f4, M_f5, M_f6, M_f7, M_f8, M_f9, M_f10, M_p0, M_p3, M_p6, M_p7, M_p10, M_g_0, M_g_1, M_g_2, M_g_3, M_g_4, M_g_5, M_s_0, M_s_1, M_s_2, M_s_3, M_s_4, M_s_5]
  exact hQ
def ltr (c : Int) : Int := if pgA c = -1 then 0 else 1
theorem pgA_n (c : Int) : pgA c = -1 ↔ ¬ (97 ≤ c ∧ c ≤ 104) ∧ ¬ (65 ≤ c ∧ c ≤ 72) := by
  unfold pgA
  split
  · omega
  · split <;> omega
theorem m81 (c : Int) : Runs xs 81 [vi c] μ f (.inl (some (vi (ltr c)))) μ f := Runs.iff fun Q hQ => by
  show Wp xs 81 0 [vi c] [] μ f Q
  have q1 := cC_v (m77 (xs := xs) (μ := μ) (f := f) c 97 104)
  have q2 := cC_v (m77 (xs := xs) (μ := μ) (f := f) c 65 72)
  unfold ltr at hQ
  by_cases c1 : 97 ≤ c ∧ c ≤ 104
  · rw [if_neg (by rw [pgA_n]; omega)] at hQ
    rw [if_pos c1] at q1
    simp (disch := first | omega | rfl) only [e81_0, e81_1, e81_3, e81_5, e81_8, e81_11, e81_12, e81_14, e81_16, e81_19, e81_22, e81_23, e81_26, e81_27, WpV_some, WpH_some, ↓ite_t, ↓ite_f, q1]
    exact hQ
  · rw [if_neg c1] at q1
    by_cases c2 : 65 ≤ c ∧ c ≤ 72
    · rw [if_neg (by rw [pgA_n]; omega)] at hQ
      rw [if_pos c2] at q2
      simp (disch := first | omega | rfl) only [e81_0, e81_1, e81_3, e81_5, e81_8, e81_11, e81_12, e81_14, e81_16, e81_19, e81_22, e81_23, e81_26, e81_27, WpV_some, WpH_some, ↓ite_t, ↓ite_f, q1, q2]
      exact hQ
    · rw [if_pos (by rw [pgA_n]; omega)] at hQ
      rw [if_neg c2] at q2
      simp (disch := first | omega | rfl) only [e81_0, e81_1, e81_3, e81_5, e81_8, e81_11, e81_12, e81_14, e81_16, e81_19, e81_22, e81_23, e81_26, e81_27, WpV_some, WpH_some, ↓ite_t, ↓ite_f, q1, q2]
      exact hQ
theorem m92 (i k : Int) (h0 : 0 ≤ i) (h1 : i < 80) (k0 : 0 ≤ k) (k1 : k < 4) : Runs xs 92 [vr 190, vi i, vi k] μ (putM f M) (.inl (some (vi (M.2.1 0 (27 + 4 * i + k).toNat)))) μ (putM f M) := Runs.iff fun Q hQ => by
  show Wp xs 92 0 [vr 190, vi i, vi k] [] μ (putM f M) Q
  simp (disch := first | omega | rfl) only [e92_0, e92_1, e92_4, e92_6, e92_7, e92_8, e92_9, e92_10, e92_11, e92_12, e92_13, WpV_some, WpH_some, ↓ite_t, ↓ite_f, M_f0, M_f1, M_f2, M_f3, M_f4, M_f5, M_f6, M_f7, M_f8, M_f9, M_f10, M_p0, M_p3, M_p6, M_p7, M_p10, M_g_0, M_g_1, M_g_2, M_g_3, M_g_4, M_g_5, M_s_0, M_s_1, M_s_2, M_s_3, M_s_4, M_s_5, wrp_id]
  exact hQ
theorem m87 (i k v : Int) (h0 : 0 ≤ i) (h1 : i < 80) (k0 : 0 ≤ k) (k1 : k < 4) : Runs xs 87 [vr 190, vi i, vi k, vi v] μ (putM f M) (.inl none) μ (putM f (mAr M 0 (fu (M.2.1 0) (27 + 4 * i + k).toNat v))) := Runs.iff fun Q hQ => by
  show Wp xs 87 0 [vr 190, vi i, vi k, vi v] [] μ (putM f M) Q
  simp (disch := first | omega | rfl) only [e87_0, e87_1, e87_4, e87_6, e87_7, e87_8, e87_9, e87_10, e87_11, e87_12, e87_13, e87_14, WpV_some, WpH_some, ↓ite_t, ↓ite_f, M_f0, M_f1, M_f2, M_f3, M_f4, M_f5, M_f6, M_f7, M_f8, M_f9, M_f10, M_p0, M_p3, M_p6, M_p7, M_p10, M_g_0, M_g_1, M_g_2, M_g_3, M_g_4, M_g_5, M_s_0, M_s_1, M_s_2, M_s_3, M_s_4, M_s_5, wrp_id]
  exact hQ
theorem m78 : Runs xs 78 [vr 190] μ (putM f M) (.inl (some (vi (M.1 2)))) μ (putM f (mS (mS M 0 0) 2 0)) := Runs.iff fun Q hQ => by
  show Wp xs 78 0 [vr 190, vu] [] μ (putM f M) Q
  simp (disch := first | omega | rfl) only [e78_0, e78_1, e78_2, e78_5, e78_6, e78_9, e78_10, e78_11, e78_12, e78_15, e78_16, WpV_some, WpH_some, ↓ite_t, ↓ite_f, M_f0, M_f1, M_f2, M_f3, M_f4, M_f5, M_f6, M_f7, M_f8, M_f9, M_f10, M_p0, M_p3, M_p6, M_p7, M_p10, M_g_0, M_g_1, M_g_2, M_g_3, M_g_4, M_g_5, M_s_0, M_s_1, M_s_2, M_s_3, M_s_4, M_s_5, mS_1, Nat.reduceEqDiff, ↓reduceIte]
  exact hQ
end ME
