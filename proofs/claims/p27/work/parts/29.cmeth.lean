/-! THE METHODS OF PlannedPages -/
theorem h2 : (2 : Nat) ≠ 0 := by decide
theorem h1' : (1 : Nat) ≠ 0 := by decide
theorem h25 : (25 : Nat) ≠ 0 := by decide
theorem h187 : (187 : Nat) ≠ 0 := by decide
def fin (τ : SG) (rule : Int) : Nat → SG
  | 0 => τ
  | d + 1 => fin (dnx τ rule) rule d
def fn (τ : SG) (rule : Int) : SG := fin τ rule (τ.2 0 - τ.2 1).toNat
def rdO (τ σ : SG) : Int := wrp (sm 0 (τ.1 9) 0 8 - sm 0 (σ.1 9) 0 8)
def wbO (τ σ : SG) : Int := wrp (sm 0 (τ.1 10) 0 8 - sm 0 (σ.1 10) 0 8)
theorem wbk_2 (σ : SG) (p : Int) : (wbk σ p).2 = σ.2 := by unfold wbk; split <;> rfl
theorem tko_2 (σ : SG) (p : Int) : (tko σ p).2 = σ.2 := by unfold tko; rw [sR_2, wbk_2]
theorem rdi_2 (σ : SG) (fr p : Int) : (rdi σ fr p).2 = σ.2 := rfl
theorem mkd_2 (σ : SG) (p why v : Int) (j : Nat) : (mkd σ p why v).2 j = if j = 1 then wrp (σ.2 1 + 1) else σ.2 j := by
  unfold mkd
  rw [sS_2, sR_2, sR_2, sR_2]
  split
  · rfl
  · split <;> rfl
theorem dnx_2 (σ : SG) (rule : Int) (j : Nat) : (dnx σ rule).2 j = if j = 1 ∧ σ.2 1 < σ.2 0 then wrp (σ.2 1 + 1) else σ.2 j := by
  unfold dnx
  by_cases c : σ.2 0 ≤ σ.2 1
  · rw [if_pos c, if_neg (by omega)]
  · have hc : σ.2 1 < σ.2 0 := by omega
    rw [if_neg c]
    simp only [hc, and_true]
    split
    · rw [mkd_2]
    · split
      · rw [mkd_2, rdi_2]
      · rw [mkd_2, rdi_2, tko_2]
theorem wf_dnx {σ : SG} (h : wfS σ) (rule : Int) : wfS (dnx σ rule) := by
  obtain ⟨w1, w2, w3, w4, w5⟩ := h
  have e0 := dnx_2 σ rule 0
  have e1 := dnx_2 σ rule 1
  have e2 := dnx_2 σ rule 2
  rw [if_neg (by omega)] at e0 e2
  unfold wfS
  rw [e0, e1, e2]
  split
  · rw [wrp_id (by omega) (by omega)]; omega
  · omega
theorem wf_fin (rule : Int) : ∀ (d : Nat) (σ : SG), wfS σ → wfS (fin σ rule d) := by
  intro d
  induction d with
  | zero => intro σ h; exact h
  | succ d ih => intro σ h; exact ih _ (wf_dnx h rule)
section CM
variable {xs : List Int} {f : AH} {V : VG} {sc : Int} {T : TG} {τ σ : SG} {μ : Mu} {y pc : Nat} {L st : List AV} {Q : Out → Mu → AH → Prop}
theorem fin_loop (rule : Int) : ∀ (d : Nat) (τ : SG), wfS τ → d ≤ 1000 → (Wp xs 48 8 [vr 1, vi rule, vi d] [] μ (PP f sc T τ σ) Q = Q (.inl (some (vi (rdO (fin τ rule d) σ)))) μ (PP f sc T (fin τ rule d) σ)) := by
  intro d
  induction d with
  | zero =>
    intro τ hw hd
    simp (disch := first | omega | rfl) only [e48_0, e48_1, e48_4, e48_7, e48_8, e48_9, e48_12, e48_13, e48_16, e48_17, e48_20, e48_23, e48_26, e48_27, e48_30, e48_33, e48_36, e48_37, e48_40, e48_43, e48_46, e48_47, WpV_some, WpH_some, ↓ite_t, ↓ite_f, P_f0, P_f1, P_f2, P_f3, P_f4, P_n0, P_n1, P_n2, P_n3, P_n4, P_n5, P_n6, P_n7, P_n8, P_n9, P_n10, P_n11, P_n12, P_n13, P_t0, P_t1, P_t2, P_t3, P_t4, P_t5, P_t6, P_t7, P_t8, P_t9, P_t10, P_t11, P_t12, P_t13, P_x0, P_x1, N_get_0, N_get_1, N_get_2, N_get_3, N_get_4, N_get_5, N_get_6, N_get_7, N_get_9, N_get_10, N_sm_5, N_sm_6, N_sm_9, N_sm_10, T_sm_9, T_sm_10, N_set_6, T_set_6, N_sw_0, N_sw_1, N_co_0, X_set, fin, rdO]
  | succ d ih =>
    intro τ hw hd
    have q := ih (dnx τ rule) (wf_dnx hw rule) (by omega)
    have e : wrp (((d + 1 : Nat) : Int) + -1) = d := by rw [wrp_id (by omega) (by omega)]; omega
    rw [e48_8]
    simp (disch := first | omega | rfl) only [e48_0, e48_1, e48_4, e48_7, e48_9, e48_12, e48_13, e48_16, e48_17, e48_20, e48_23, e48_26, e48_27, e48_30, e48_33, e48_36, e48_37, e48_40, e48_43, e48_46, e48_47, WpV_some, WpH_some, ↓ite_t, ↓ite_f, P_f0, P_f1, P_f2, P_f3, P_f4, P_n0, P_n1, P_n2, P_n3, P_n4, P_n5, P_n6, P_n7, P_n8, P_n9, P_n10, P_n11, P_n12, P_n13, P_t0, P_t1, P_t2, P_t3, P_t4, P_t5, P_t6, P_t7, P_t8, P_t9, P_t10, P_t11, P_t12, P_t13, P_x0, P_x1, cI_n (Rt (m19 h25 hw rule)) P_ot h25, e, q, fin]
theorem m48 (hw : wfS τ) (rule : Int) : Runs xs 48 [vr 1, vi rule] μ (PP f sc T τ σ) (.inl (some (vi (rdO (fn τ rule) σ)))) μ (PP f sc T (fn τ rule) σ) := Runs.iff fun Q hQ => by
  show Wp xs 48 0 [vr 1, vi rule, vu] [] μ (PP f sc T τ σ) Q
  have hw0 := hw
  obtain ⟨w1, w2, w3, w4, w5⟩ := hw0
  have q := fin_loop (xs := xs) (f := f) (sc := sc) (T := T) (σ := σ) (μ := μ) (Q := Q) rule (τ.2 0 - τ.2 1).toNat τ hw (by omega)
  rw [Int.toNat_of_nonneg (by omega)] at q
  simp (disch := first | omega | rfl) only [e48_0, e48_1, e48_4, e48_7, e48_9, e48_12, e48_13, e48_16, e48_17, e48_20, e48_23, e48_26, e48_27, e48_30, e48_33, e48_36, e48_37, e48_40, e48_43, e48_46, e48_47, WpV_some, WpH_some, ↓ite_t, ↓ite_f, P_f0, P_f1, P_f2, P_f3, P_f4, P_n0, P_n1, P_n2, P_n3, P_n4, P_n5, P_n6, P_n7, P_n8, P_n9, P_n10, P_n11, P_n12, P_n13, P_t0, P_t1, P_t2, P_t3, P_t4, P_t5, P_t6, P_t7, P_t8, P_t9, P_t10, P_t11, P_t12, P_t13, P_x0, P_x1, cI_v (Rt (m14 h25 hw)) P_ot h25, q]
  exact hQ
theorem m47 (hw : wfS σ) : Runs xs 47 [vr 1] μ (PP f sc T τ σ) (.inl (some (vi (rdO (fn σ 0) σ)))) μ (PP f sc T (fn σ 0) σ) := Runs.iff fun Q hQ => by
  show Wp xs 47 0 [vr 1] [] μ (PP f sc T τ σ) Q
  simp (disch := first | omega | rfl) only [e47_0, e47_1, e47_4, e47_5, e47_8, e47_11, e47_12, e47_13, e47_16, WpV_some, WpH_some, ↓ite_t, ↓ite_f, P_f0, P_f1, P_f2, P_f3, P_f4, P_n0, P_n1, P_n2, P_n3, P_n4, P_n5, P_n6, P_n7, P_n8, P_n9, P_n10, P_n11, P_n12, P_n13, P_t0, P_t1, P_t2, P_t3, P_t4, P_t5, P_t6, P_t7, P_t8, P_t9, P_t10, P_t11, P_t12, P_t13, P_x0, P_x1, cI_n m12t P_ot h25, cI_v (m48 hw 0) P_o h1']
  exact hQ
def wba (σ : SG) (p : Nat) : Nat → SG
  | 0 => σ
  | d + 1 => wba (wbk σ p) (p + 1) d
theorem wba_loop (w : Int) : ∀ (d p : Nat) (σ : SG), p + d = 8 → (Wp xs 41 17 [vr 1, vi w, vi p] [] μ (PP f sc T τ σ) Q = Q (.inl (some (vi (wrp (sm 0 ((wba σ p d).1 10) 0 8 - w))))) μ (PP f sc T τ (wba σ p d))) := by
  intro d
  induction d with
  | zero =>
    intro p σ hp
    simp (disch := first | omega | rfl) only [e41_0, e41_1, e41_4, e41_5, e41_8, e41_11, e41_14, e41_15, e41_16, e41_17, e41_18, e41_20, e41_23, e41_24, e41_27, e41_28, e41_31, e41_34, e41_37, e41_38, e41_41, e41_44, e41_47, e41_48, e41_49, WpV_some, WpH_some, ↓ite_t, ↓ite_f, P_f0, P_f1, P_f2, P_f3, P_f4, P_n0, P_n1, P_n2, P_n3, P_n4, P_n5, P_n6, P_n7, P_n8, P_n9, P_n10, P_n11, P_n12, P_n13, P_t0, P_t1, P_t2, P_t3, P_t4, P_t5, P_t6, P_t7, P_t8, P_t9, P_t10, P_t11, P_t12, P_t13, P_x0, P_x1, N_get_0, N_get_1, N_get_2, N_get_3, N_get_4, N_get_5, N_get_6, N_get_7, N_get_9, N_get_10, N_sm_5, N_sm_6, N_sm_9, N_sm_10, T_sm_9, T_sm_10, N_set_6, T_set_6, N_sw_0, N_sw_1, N_co_0, X_set, wba]
  | succ d ih =>
    intro p σ hp
    have q := ih (p + 1) (wbk σ p) (by omega)
    simp only [Int.natCast_add, Int.cast_ofNat_Int] at q
    rw [e41_17]
    simp (disch := first | omega | rfl) only [e41_0, e41_1, e41_4, e41_5, e41_8, e41_11, e41_14, e41_15, e41_16, e41_18, e41_20, e41_23, e41_24, e41_27, e41_28, e41_31, e41_34, e41_37, e41_38, e41_41, e41_44, e41_47, e41_48, e41_49, WpV_some, WpH_some, ↓ite_t, ↓ite_f, P_f0, P_f1, P_f2, P_f3, P_f4, P_n0, P_n1, P_n2, P_n3, P_n4, P_n5, P_n6, P_n7, P_n8, P_n9, P_n10, P_n11, P_n12, P_n13, P_t0, P_t1, P_t2, P_t3, P_t4, P_t5, P_t6, P_t7, P_t8, P_t9, P_t10, P_t11, P_t12, P_t13, P_x0, P_x1, cI_n (Rn (m13 h2 _)) P_on h2, wrp_id, q, wba]
theorem m41 (hV : wfV V) (h0 : 0 ≤ sc) (h6 : sc ≤ 6) : Runs xs 41 [vr 1] μ (PP (putV f V) sc T τ σ) (.inl (some (vi (wbO (wba σ 0 8) σ)))) μ (PP (putV f (svV V sc σ)) (svC sc) T τ (wba σ 0 8)) := Runs.iff fun Q hQ => by
  show Wp xs 41 0 [vr 1, vu, vu] [] μ (PP (putV f V) sc T τ σ) Q
  have q := wba_loop (xs := xs) (f := putV f (svV V sc σ)) (sc := svC sc) (T := T) (τ := τ) (μ := μ) (Q := Q) (sm 0 (σ.1 10) 0 8) 8 0 σ (by omega)
  simp only [Int.cast_ofNat_Int] at q
  simp (disch := first | omega | rfl) only [e41_0, e41_1, e41_4, e41_5, e41_8, e41_11, e41_14, e41_15, e41_16, e41_18, e41_20, e41_23, e41_24, e41_27, e41_28, e41_31, e41_34, e41_37, e41_38, e41_41, e41_44, e41_47, e41_48, e41_49, WpV_some, WpH_some, ↓ite_t, ↓ite_f, P_f0, P_f1, P_f2, P_f3, P_f4, P_n0, P_n1, P_n2, P_n3, P_n4, P_n5, P_n6, P_n7, P_n8, P_n9, P_n10, P_n11, P_n12, P_n13, P_t0, P_t1, P_t2, P_t3, P_t4, P_t5, P_t6, P_t7, P_t8, P_t9, P_t10, P_t11, P_t12, P_t13, P_x0, P_x1, N_get_0, N_get_1, N_get_2, N_get_3, N_get_4, N_get_5, N_get_6, N_get_7, N_get_9, N_get_10, N_sm_5, N_sm_6, N_sm_9, N_sm_10, T_sm_9, T_sm_10, N_set_6, T_set_6, N_sw_0, N_sw_1, N_co_0, X_set, cI_n (m42 hV h0 h6) P_o h1', q]
  exact hQ
theorem m44 : Runs xs 44 [vr 1] μ (PP f sc T τ σ) (.inl (some (vi T.2))) μ (PP f sc (T.1, 0) τ σ) := Runs.iff fun Q hQ => by
  show Wp xs 44 0 [vr 1, vu] [] μ (PP f sc T τ σ) Q
  simp (disch := first | omega | rfl) only [e44_0, e44_1, e44_4, e44_7, e44_8, e44_9, e44_12, e44_13, e44_16, e44_17, WpV_some, WpH_some, ↓ite_t, ↓ite_f, P_f0, P_f1, P_f2, P_f3, P_f4, P_n0, P_n1, P_n2, P_n3, P_n4, P_n5, P_n6, P_n7, P_n8, P_n9, P_n10, P_n11, P_n12, P_n13, P_t0, P_t1, P_t2, P_t3, P_t4, P_t5, P_t6, P_t7, P_t8, P_t9, P_t10, P_t11, P_t12, P_t13, P_x0, P_x1, P_xp]
  exact hQ
def vic (σ : SG) : Int := if σ.2 0 - σ.2 1 = 0 then -1 else if lef (σ.1 4) 0 (σ.2 2).toNat = -1 then vb σ 0 (σ.2 1 + 1).toNat (-1) 0 0 8 else -1
theorem m46 (hw : wfS σ) : Runs xs 46 [vr 1] μ (PP f sc T τ σ) (.inl (some (vi (vic σ)))) μ (PP f sc T τ σ) := Runs.iff fun Q hQ => by
  show Wp xs 46 0 [vr 1] [] μ (PP f sc T τ σ) Q
  have hw0 := hw
  obtain ⟨w1, w2, w3, w4, w5⟩ := hw0
  unfold vic at hQ
  by_cases c1 : σ.2 0 - σ.2 1 = 0
  · rw [if_pos c1] at hQ
    simp (disch := first | omega | rfl) only [e46_0, e46_1, e46_4, e46_7, e46_10, e46_11, e46_14, e46_17, e46_18, e46_21, e46_22, e46_23, e46_24, e46_27, e46_28, e46_29, e46_32, e46_35, e46_36, e46_37, e46_40, WpV_some, WpH_some, ↓ite_t, ↓ite_f, P_f0, P_f1, P_f2, P_f3, P_f4, P_n0, P_n1, P_n2, P_n3, P_n4, P_n5, P_n6, P_n7, P_n8, P_n9, P_n10, P_n11, P_n12, P_n13, P_t0, P_t1, P_t2, P_t3, P_t4, P_t5, P_t6, P_t7, P_t8, P_t9, P_t10, P_t11, P_t12, P_t13, P_x0, P_x1, cI_v (Rn (m14 h2 hw)) P_on h2]
    exact hQ
  · rw [if_neg c1] at hQ
    by_cases c2 : lef (σ.1 4) 0 (σ.2 2).toNat = -1
    · rw [if_pos c2] at hQ
      simp (disch := first | omega | rfl) only [e46_0, e46_1, e46_4, e46_7, e46_10, e46_11, e46_14, e46_17, e46_18, e46_21, e46_22, e46_23, e46_24, e46_27, e46_28, e46_29, e46_32, e46_35, e46_36, e46_37, e46_40, WpV_some, WpH_some, ↓ite_t, ↓ite_f, P_f0, P_f1, P_f2, P_f3, P_f4, P_n0, P_n1, P_n2, P_n3, P_n4, P_n5, P_n6, P_n7, P_n8, P_n9, P_n10, P_n11, P_n12, P_n13, P_t0, P_t1, P_t2, P_t3, P_t4, P_t5, P_t6, P_t7, P_t8, P_t9, P_t10, P_t11, P_t12, P_t13, P_x0, P_x1, cI_v (Rn (m14 h2 hw)) P_on h2, cI_v (Rn (m15 h2 hw)) P_on h2, wrp_id, c2, ↓reduceIte, cI_v (Rn (m17 h2 hw 0 (σ.2 1 + 1) (by omega) (by omega))) P_on h2]
      exact hQ
    · rw [if_neg c2] at hQ
      simp (disch := first | omega | rfl) only [e46_0, e46_1, e46_4, e46_7, e46_10, e46_11, e46_14, e46_17, e46_18, e46_21, e46_22, e46_23, e46_24, e46_27, e46_28, e46_29, e46_32, e46_35, e46_36, e46_37, e46_40, WpV_some, WpH_some, ↓ite_t, ↓ite_f, P_f0, P_f1, P_f2, P_f3, P_f4, P_n0, P_n1, P_n2, P_n3, P_n4, P_n5, P_n6, P_n7, P_n8, P_n9, P_n10, P_n11, P_n12, P_n13, P_t0, P_t1, P_t2, P_t3, P_t4, P_t5, P_t6, P_t7, P_t8, P_t9, P_t10, P_t11, P_t12, P_t13, P_x0, P_x1, cI_v (Rn (m14 h2 hw)) P_on h2, cI_v (Rn (m15 h2 hw)) P_on h2, wrp_id, c2, ↓reduceIte]
      exact hQ
def cnt (sc : Int) (σ : SG) (k : Nat) : Int := match k with
  | 0 => σ.2 0
  | 1 => σ.2 1
  | 2 => σ.2 2
  | 3 => 8 - co (σ.1 4) (-1) 0 8
  | 4 => sm 0 (σ.1 6) 0 8
  | 5 => co (σ.1 2) 0 0 (σ.2 1).toNat
  | 6 => sm 0 (σ.1 9) 0 8
  | 7 => sm 0 (σ.1 10) 0 8
  | 8 => sm 0 (σ.1 5) 0 8
  | _ => sc
theorem m52 (hw : wfS σ) (k : Int) (h0 : 0 ≤ k) (h9 : k ≤ 9) : Runs xs 52 [vr 1, vi k] μ (PP f sc T τ σ) (.inl (some (vi (cnt sc σ k.toNat)))) μ (PP f sc T τ σ) := Runs.iff fun Q hQ => by
  show Wp xs 52 0 [vr 1, vi k] [] μ (PP f sc T τ σ) Q
  have hk : k = 0 ∨ k = 1 ∨ k = 2 ∨ k = 3 ∨ k = 4 ∨ k = 5 ∨ k = 6 ∨ k = 7 ∨ k = 8 ∨ k = 9 := by omega
  rcases hk with rfl | rfl | rfl | rfl | rfl | rfl | rfl | rfl | rfl | rfl <;> (simp (disch := first | omega | rfl) only [e52_0, e52_56, e52_57, e52_60, e52_63, e52_64, e52_65, e52_68, e52_71, e52_72, e52_73, e52_76, e52_79, e52_80, e52_81, e52_84, e52_87, e52_88, e52_89, e52_92, e52_95, e52_96, e52_97, e52_100, e52_103, e52_104, e52_105, e52_108, e52_111, e52_114, e52_115, e52_116, e52_119, e52_122, e52_125, e52_126, e52_127, e52_130, e52_133, e52_136, e52_137, e52_138, e52_141, e52_142, WpV_some, WpH_some, ↓ite_t, ↓ite_f, P_f0, P_f1, P_f2, P_f3, P_f4, P_n0, P_n1, P_n2, P_n3, P_n4, P_n5, P_n6, P_n7, P_n8, P_n9, P_n10, P_n11, P_n12, P_n13, P_t0, P_t1, P_t2, P_t3, P_t4, P_t5, P_t6, P_t7, P_t8, P_t9, P_t10, P_t11, P_t12, P_t13, P_x0, P_x1, N_get_0, N_get_1, N_get_2, N_get_3, N_get_4, N_get_5, N_get_6, N_get_7, N_get_9, N_get_10, N_sm_5, N_sm_6, N_sm_9, N_sm_10, T_sm_9, T_sm_10, N_set_6, T_set_6, N_sw_0, N_sw_1, N_co_0, X_set, e52_1_0, e52_1_1, e52_1_2, e52_1_3, e52_1_4, e52_1_5, e52_1_6, e52_1_7, e52_1_8, e52_1_9, cI_v (Rn (m26 h2)) P_on h2, cI_v (Rn (m24 h2)) P_on h2, cI_v (Rn (m25 h2 hw)) P_on h2]; exact hQ)
theorem m52e (k : Int) (h : k < 0 ∨ 9 < k) : Runs xs 52 [vr 1, vi k] μ (PP f sc T τ σ) (.inr 0) (bump μ) (PP f sc T τ σ) := Runs.iff fun Q hQ => by
  show Wp xs 52 0 [vr 1, vi k] [] μ (PP f sc T τ σ) Q
  simp (disch := first | assumption | omega | rfl) only [e52_0, e52_56, e52_57, e52_60, e52_63, e52_64, e52_65, e52_68, e52_71, e52_72, e52_73, e52_76, e52_79, e52_80, e52_81, e52_84, e52_87, e52_88, e52_89, e52_92, e52_95, e52_96, e52_97, e52_100, e52_103, e52_104, e52_105, e52_108, e52_111, e52_114, e52_115, e52_116, e52_119, e52_122, e52_125, e52_126, e52_127, e52_130, e52_133, e52_136, e52_137, e52_138, e52_141, e52_142, WpV_some, WpH_some, ↓ite_t, ↓ite_f, P_f0, P_f1, P_f2, P_f3, P_f4, P_n0, P_n1, P_n2, P_n3, P_n4, P_n5, P_n6, P_n7, P_n8, P_n9, P_n10, P_n11, P_n12, P_n13, P_t0, P_t1, P_t2, P_t3, P_t4, P_t5, P_t6, P_t7, P_t8, P_t9, P_t10, P_t11, P_t12, P_t13, P_x0, P_x1, e52_1_d]
  exact hQ
def askv (σ : SG) (i : Int) (k : Nat) : Int := match k with
  | 0 => rg 80 (σ.1 0) i
  | 1 => rg 80 (σ.1 1) i
  | 2 => if i < σ.2 1 then rg 80 (σ.1 2) i else -1
  | _ => if i < σ.2 1 then rg 80 (σ.1 3) i else -1
theorem m54 (i k : Int) (h0 : 0 ≤ i) (h1 : i < σ.2 0) (hk0 : 0 ≤ k) (hk : k ≤ 3) : Runs xs 54 [vr 1, vi i, vi k] μ (PP f sc T τ σ) (.inl (some (vi (askv σ i k.toNat)))) μ (PP f sc T τ σ) := Runs.iff fun Q hQ => by
  show Wp xs 54 0 [vr 1, vi i, vi k] [] μ (PP f sc T τ σ) Q
  have hk : k = 0 ∨ k = 1 ∨ k = 2 ∨ k = 3 := by omega
  by_cases hd : i < σ.2 1
  · rcases hk with rfl | rfl | rfl | rfl
    · simp (disch := first | omega | rfl) only [e54_0, e54_1, e54_4, e54_5, e54_6, e54_9, e54_12, e54_15, e54_25, e54_56, e54_57, e54_60, e54_63, e54_64, e54_67, e54_68, e54_69, e54_72, e54_75, e54_76, e54_79, e54_80, e54_81, e54_82, e54_85, e54_88, e54_91, e54_92, e54_95, e54_98, e54_99, e54_102, e54_105, e54_106, e54_107, e54_108, e54_109, e54_112, e54_115, e54_118, e54_119, e54_122, e54_125, e54_126, e54_129, e54_132, e54_133, e54_134, WpV_some, WpH_some, ↓ite_t, ↓ite_f, P_f0, P_f1, P_f2, P_f3, P_f4, P_n0, P_n1, P_n2, P_n3, P_n4, P_n5, P_n6, P_n7, P_n8, P_n9, P_n10, P_n11, P_n12, P_n13, P_t0, P_t1, P_t2, P_t3, P_t4, P_t5, P_t6, P_t7, P_t8, P_t9, P_t10, P_t11, P_t12, P_t13, P_x0, P_x1, N_get_0, N_get_1, N_get_2, N_get_3, N_get_4, N_get_5, N_get_6, N_get_7, N_get_9, N_get_10, N_sm_5, N_sm_6, N_sm_9, N_sm_10, T_sm_9, T_sm_10, N_set_6, T_set_6, N_sw_0, N_sw_1, N_co_0, X_set, e54_26_0]; exact hQ
    · simp (disch := first | omega | rfl) only [e54_0, e54_1, e54_4, e54_5, e54_6, e54_9, e54_12, e54_15, e54_25, e54_56, e54_57, e54_60, e54_63, e54_64, e54_67, e54_68, e54_69, e54_72, e54_75, e54_76, e54_79, e54_80, e54_81, e54_82, e54_85, e54_88, e54_91, e54_92, e54_95, e54_98, e54_99, e54_102, e54_105, e54_106, e54_107, e54_108, e54_109, e54_112, e54_115, e54_118, e54_119, e54_122, e54_125, e54_126, e54_129, e54_132, e54_133, e54_134, WpV_some, WpH_some, ↓ite_t, ↓ite_f, P_f0, P_f1, P_f2, P_f3, P_f4, P_n0, P_n1, P_n2, P_n3, P_n4, P_n5, P_n6, P_n7, P_n8, P_n9, P_n10, P_n11, P_n12, P_n13, P_t0, P_t1, P_t2, P_t3, P_t4, P_t5, P_t6, P_t7, P_t8, P_t9, P_t10, P_t11, P_t12, P_t13, P_x0, P_x1, N_get_0, N_get_1, N_get_2, N_get_3, N_get_4, N_get_5, N_get_6, N_get_7, N_get_9, N_get_10, N_sm_5, N_sm_6, N_sm_9, N_sm_10, T_sm_9, T_sm_10, N_set_6, T_set_6, N_sw_0, N_sw_1, N_co_0, X_set, e54_26_1]; exact hQ
    · have hQ : Q (.inl (some (vi (if i < σ.2 1 then rg 80 (σ.1 2) i else -1)))) μ (PP f sc T τ σ) := hQ
      rw [if_pos hd] at hQ
      simp (disch := first | omega | rfl) only [e54_0, e54_1, e54_4, e54_5, e54_6, e54_9, e54_12, e54_15, e54_25, e54_56, e54_57, e54_60, e54_63, e54_64, e54_67, e54_68, e54_69, e54_72, e54_75, e54_76, e54_79, e54_80, e54_81, e54_82, e54_85, e54_88, e54_91, e54_92, e54_95, e54_98, e54_99, e54_102, e54_105, e54_106, e54_107, e54_108, e54_109, e54_112, e54_115, e54_118, e54_119, e54_122, e54_125, e54_126, e54_129, e54_132, e54_133, e54_134, WpV_some, WpH_some, ↓ite_t, ↓ite_f, P_f0, P_f1, P_f2, P_f3, P_f4, P_n0, P_n1, P_n2, P_n3, P_n4, P_n5, P_n6, P_n7, P_n8, P_n9, P_n10, P_n11, P_n12, P_n13, P_t0, P_t1, P_t2, P_t3, P_t4, P_t5, P_t6, P_t7, P_t8, P_t9, P_t10, P_t11, P_t12, P_t13, P_x0, P_x1, N_get_0, N_get_1, N_get_2, N_get_3, N_get_4, N_get_5, N_get_6, N_get_7, N_get_9, N_get_10, N_sm_5, N_sm_6, N_sm_9, N_sm_10, T_sm_9, T_sm_10, N_set_6, T_set_6, N_sw_0, N_sw_1, N_co_0, X_set, e54_26_2]; exact hQ
    · have hQ : Q (.inl (some (vi (if i < σ.2 1 then rg 80 (σ.1 3) i else -1)))) μ (PP f sc T τ σ) := hQ
      rw [if_pos hd] at hQ
      simp (disch := first | omega | rfl) only [e54_0, e54_1, e54_4, e54_5, e54_6, e54_9, e54_12, e54_15, e54_25, e54_56, e54_57, e54_60, e54_63, e54_64, e54_67, e54_68, e54_69, e54_72, e54_75, e54_76, e54_79, e54_80, e54_81, e54_82, e54_85, e54_88, e54_91, e54_92, e54_95, e54_98, e54_99, e54_102, e54_105, e54_106, e54_107, e54_108, e54_109, e54_112, e54_115, e54_118, e54_119, e54_122, e54_125, e54_126, e54_129, e54_132, e54_133, e54_134, WpV_some, WpH_some, ↓ite_t, ↓ite_f, P_f0, P_f1, P_f2, P_f3, P_f4, P_n0, P_n1, P_n2, P_n3, P_n4, P_n5, P_n6, P_n7, P_n8, P_n9, P_n10, P_n11, P_n12, P_n13, P_t0, P_t1, P_t2, P_t3, P_t4, P_t5, P_t6, P_t7, P_t8, P_t9, P_t10, P_t11, P_t12, P_t13, P_x0, P_x1, N_get_0, N_get_1, N_get_2, N_get_3, N_get_4, N_get_5, N_get_6, N_get_7, N_get_9, N_get_10, N_sm_5, N_sm_6, N_sm_9, N_sm_10, T_sm_9, T_sm_10, N_set_6, T_set_6, N_sw_0, N_sw_1, N_co_0, X_set, e54_26_3]; exact hQ
  · rcases hk with rfl | rfl | rfl | rfl
    · simp (disch := first | omega | rfl) only [e54_0, e54_1, e54_4, e54_5, e54_6, e54_9, e54_12, e54_15, e54_25, e54_56, e54_57, e54_60, e54_63, e54_64, e54_67, e54_68, e54_69, e54_72, e54_75, e54_76, e54_79, e54_80, e54_81, e54_82, e54_85, e54_88, e54_91, e54_92, e54_95, e54_98, e54_99, e54_102, e54_105, e54_106, e54_107, e54_108, e54_109, e54_112, e54_115, e54_118, e54_119, e54_122, e54_125, e54_126, e54_129, e54_132, e54_133, e54_134, WpV_some, WpH_some, ↓ite_t, ↓ite_f, P_f0, P_f1, P_f2, P_f3, P_f4, P_n0, P_n1, P_n2, P_n3, P_n4, P_n5, P_n6, P_n7, P_n8, P_n9, P_n10, P_n11, P_n12, P_n13, P_t0, P_t1, P_t2, P_t3, P_t4, P_t5, P_t6, P_t7, P_t8, P_t9, P_t10, P_t11, P_t12, P_t13, P_x0, P_x1, N_get_0, N_get_1, N_get_2, N_get_3, N_get_4, N_get_5, N_get_6, N_get_7, N_get_9, N_get_10, N_sm_5, N_sm_6, N_sm_9, N_sm_10, T_sm_9, T_sm_10, N_set_6, T_set_6, N_sw_0, N_sw_1, N_co_0, X_set, e54_26_0]; exact hQ
    · simp (disch := first | omega | rfl) only [e54_0, e54_1, e54_4, e54_5, e54_6, e54_9, e54_12, e54_15, e54_25, e54_56, e54_57, e54_60, e54_63, e54_64, e54_67, e54_68, e54_69, e54_72, e54_75, e54_76, e54_79, e54_80, e54_81, e54_82, e54_85, e54_88, e54_91, e54_92, e54_95, e54_98, e54_99, e54_102, e54_105, e54_106, e54_107, e54_108, e54_109, e54_112, e54_115, e54_118, e54_119, e54_122, e54_125, e54_126, e54_129, e54_132, e54_133, e54_134, WpV_some, WpH_some, ↓ite_t, ↓ite_f, P_f0, P_f1, P_f2, P_f3, P_f4, P_n0, P_n1, P_n2, P_n3, P_n4, P_n5, P_n6, P_n7, P_n8, P_n9, P_n10, P_n11, P_n12, P_n13, P_t0, P_t1, P_t2, P_t3, P_t4, P_t5, P_t6, P_t7, P_t8, P_t9, P_t10, P_t11, P_t12, P_t13, P_x0, P_x1, N_get_0, N_get_1, N_get_2, N_get_3, N_get_4, N_get_5, N_get_6, N_get_7, N_get_9, N_get_10, N_sm_5, N_sm_6, N_sm_9, N_sm_10, T_sm_9, T_sm_10, N_set_6, T_set_6, N_sw_0, N_sw_1, N_co_0, X_set, e54_26_1]; exact hQ
    · have hQ : Q (.inl (some (vi (if i < σ.2 1 then rg 80 (σ.1 2) i else -1)))) μ (PP f sc T τ σ) := hQ
      rw [if_neg hd] at hQ
      simp (disch := first | omega | rfl) only [e54_0, e54_1, e54_4, e54_5, e54_6, e54_9, e54_12, e54_15, e54_25, e54_56, e54_57, e54_60, e54_63, e54_64, e54_67, e54_68, e54_69, e54_72, e54_75, e54_76, e54_79, e54_80, e54_81, e54_82, e54_85, e54_88, e54_91, e54_92, e54_95, e54_98, e54_99, e54_102, e54_105, e54_106, e54_107, e54_108, e54_109, e54_112, e54_115, e54_118, e54_119, e54_122, e54_125, e54_126, e54_129, e54_132, e54_133, e54_134, WpV_some, WpH_some, ↓ite_t, ↓ite_f, P_f0, P_f1, P_f2, P_f3, P_f4, P_n0, P_n1, P_n2, P_n3, P_n4, P_n5, P_n6, P_n7, P_n8, P_n9, P_n10, P_n11, P_n12, P_n13, P_t0, P_t1, P_t2, P_t3, P_t4, P_t5, P_t6, P_t7, P_t8, P_t9, P_t10, P_t11, P_t12, P_t13, P_x0, P_x1, N_get_0, N_get_1, N_get_2, N_get_3, N_get_4, N_get_5, N_get_6, N_get_7, N_get_9, N_get_10, N_sm_5, N_sm_6, N_sm_9, N_sm_10, T_sm_9, T_sm_10, N_set_6, T_set_6, N_sw_0, N_sw_1, N_co_0, X_set, e54_26_2]; exact hQ
    · have hQ : Q (.inl (some (vi (if i < σ.2 1 then rg 80 (σ.1 3) i else -1)))) μ (PP f sc T τ σ) := hQ
      rw [if_neg hd] at hQ
      simp (disch := first | omega | rfl) only [e54_0, e54_1, e54_4, e54_5, e54_6, e54_9, e54_12, e54_15, e54_25, e54_56, e54_57, e54_60, e54_63, e54_64, e54_67, e54_68, e54_69, e54_72, e54_75, e54_76, e54_79, e54_80, e54_81, e54_82, e54_85, e54_88, e54_91, e54_92, e54_95, e54_98, e54_99, e54_102, e54_105, e54_106, e54_107, e54_108, e54_109, e54_112, e54_115, e54_118, e54_119, e54_122, e54_125, e54_126, e54_129, e54_132, e54_133, e54_134, WpV_some, WpH_some, ↓ite_t, ↓ite_f, P_f0, P_f1, P_f2, P_f3, P_f4, P_n0, P_n1, P_n2, P_n3, P_n4, P_n5, P_n6, P_n7, P_n8, P_n9, P_n10, P_n11, P_n12, P_n13, P_t0, P_t1, P_t2, P_t3, P_t4, P_t5, P_t6, P_t7, P_t8, P_t9, P_t10, P_t11, P_t12, P_t13, P_x0, P_x1, N_get_0, N_get_1, N_get_2, N_get_3, N_get_4, N_get_5, N_get_6, N_get_7, N_get_9, N_get_10, N_sm_5, N_sm_6, N_sm_9, N_sm_10, T_sm_9, T_sm_10, N_set_6, T_set_6, N_sw_0, N_sw_1, N_co_0, X_set, e54_26_3]; exact hQ
theorem m54b (i k : Int) (h : i < 0 ∨ σ.2 0 ≤ i) : Runs xs 54 [vr 1, vi i, vi k] μ (PP f sc T τ σ) (.inr 2) (bump μ) (PP f sc T τ σ) := Runs.iff fun Q hQ => by
  show Wp xs 54 0 [vr 1, vi i, vi k] [] μ (PP f sc T τ σ) Q
  by_cases h0 : i < 0
  · simp (disch := first | assumption | omega | rfl) only [e54_0, e54_1, e54_4, e54_5, e54_6, e54_9, e54_12, e54_15, e54_25, e54_56, e54_57, e54_60, e54_63, e54_64, e54_67, e54_68, e54_69, e54_72, e54_75, e54_76, e54_79, e54_80, e54_81, e54_82, e54_85, e54_88, e54_91, e54_92, e54_95, e54_98, e54_99, e54_102, e54_105, e54_106, e54_107, e54_108, e54_109, e54_112, e54_115, e54_118, e54_119, e54_122, e54_125, e54_126, e54_129, e54_132, e54_133, e54_134, WpV_some, WpH_some, ↓ite_t, ↓ite_f, P_f0, P_f1, P_f2, P_f3, P_f4, P_n0, P_n1, P_n2, P_n3, P_n4, P_n5, P_n6, P_n7, P_n8, P_n9, P_n10, P_n11, P_n12, P_n13, P_t0, P_t1, P_t2, P_t3, P_t4, P_t5, P_t6, P_t7, P_t8, P_t9, P_t10, P_t11, P_t12, P_t13, P_x0, P_x1]
    exact hQ
  · simp (disch := first | assumption | omega | rfl) only [e54_0, e54_1, e54_4, e54_5, e54_6, e54_9, e54_12, e54_15, e54_25, e54_56, e54_57, e54_60, e54_63, e54_64, e54_67, e54_68, e54_69, e54_72, e54_75, e54_76, e54_79, e54_80, e54_81, e54_82, e54_85, e54_88, e54_91, e54_92, e54_95, e54_98, e54_99, e54_102, e54_105, e54_106, e54_107, e54_108, e54_109, e54_112, e54_115, e54_118, e54_119, e54_122, e54_125, e54_126, e54_129, e54_132, e54_133, e54_134, WpV_some, WpH_some, ↓ite_t, ↓ite_f, P_f0, P_f1, P_f2, P_f3, P_f4, P_n0, P_n1, P_n2, P_n3, P_n4, P_n5, P_n6, P_n7, P_n8, P_n9, P_n10, P_n11, P_n12, P_n13, P_t0, P_t1, P_t2, P_t3, P_t4, P_t5, P_t6, P_t7, P_t8, P_t9, P_t10, P_t11, P_t12, P_t13, P_x0, P_x1]
    exact hQ
theorem m54a (i k : Int) (h0 : 0 ≤ i) (h1 : i < σ.2 0) (h : k < 0 ∨ 3 < k) : Runs xs 54 [vr 1, vi i, vi k] μ (PP f sc T τ σ) (.inr 0) (bump μ) (PP f sc T τ σ) := Runs.iff fun Q hQ => by
  show Wp xs 54 0 [vr 1, vi i, vi k] [] μ (PP f sc T τ σ) Q
  simp (disch := first | assumption | omega | rfl) only [e54_0, e54_1, e54_4, e54_5, e54_6, e54_9, e54_12, e54_15, e54_25, e54_56, e54_57, e54_60, e54_63, e54_64, e54_67, e54_68, e54_69, e54_72, e54_75, e54_76, e54_79, e54_80, e54_81, e54_82, e54_85, e54_88, e54_91, e54_92, e54_95, e54_98, e54_99, e54_102, e54_105, e54_106, e54_107, e54_108, e54_109, e54_112, e54_115, e54_118, e54_119, e54_122, e54_125, e54_126, e54_129, e54_132, e54_133, e54_134, WpV_some, WpH_some, ↓ite_t, ↓ite_f, P_f0, P_f1, P_f2, P_f3, P_f4, P_n0, P_n1, P_n2, P_n3, P_n4, P_n5, P_n6, P_n7, P_n8, P_n9, P_n10, P_n11, P_n12, P_n13, P_t0, P_t1, P_t2, P_t3, P_t4, P_t5, P_t6, P_t7, P_t8, P_t9, P_t10, P_t11, P_t12, P_t13, P_x0, P_x1, e54_26_d]
  exact hQ
theorem m56 (p : Int) (h0 : 0 ≤ p) (h1 : p < 8) : Runs xs 56 [vi p] μ f (.inl none) μ f := Runs.iff fun Q hQ => by
  show Wp xs 56 0 [vi p] [] μ f Q
  simp (disch := first | assumption | omega | rfl) only [e56_0, e56_1, e56_4, e56_5, e56_7, e56_10, e56_21, WpV_some, WpH_some, ↓ite_t, ↓ite_f]
  exact hQ
theorem m56e (p : Int) (h : p < 0 ∨ 8 ≤ p) : Runs xs 56 [vi p] μ f (.inr 0) (bump μ) f := Runs.iff fun Q hQ => by
  show Wp xs 56 0 [vi p] [] μ f Q
  by_cases h0 : p < 0
  · simp (disch := first | assumption | omega | rfl) only [e56_0, e56_1, e56_4, e56_5, e56_7, e56_10, e56_21, WpV_some, WpH_some, ↓ite_t, ↓ite_f]
    exact hQ
  · simp (disch := first | assumption | omega | rfl) only [e56_0, e56_1, e56_4, e56_5, e56_7, e56_10, e56_21, WpV_some, WpH_some, ↓ite_t, ↓ite_f]
    exact hQ
def pgv (σ : SG) (p : Int) (k : Nat) : Int := match k with
  | 0 => rg 8 (σ.1 4) p
  | 1 => rg 8 (σ.1 5) p
  | 2 => rg 8 (σ.1 6) p
  | 3 => nxu σ p (σ.2 1).toNat
  | 4 => rg 8 (σ.1 7) p
  | 5 => rg 8 (σ.1 9) p
  | 6 => rg 8 (σ.1 10) p
  | _ => co (σ.1 0) p (σ.2 1).toNat (min (σ.2 0).toNat 80 - (σ.2 1).toNat)
theorem m55 (hw : wfS σ) (p k : Int) (h0 : 0 ≤ p) (h1 : p < 8) (hk0 : 0 ≤ k) (hk : k ≤ 7) : Runs xs 55 [vr 1, vi p, vi k] μ (PP f sc T τ σ) (.inl (some (vi (pgv σ p k.toNat)))) μ (PP f sc T τ σ) := Runs.iff fun Q hQ => by
  show Wp xs 55 0 [vr 1, vi p, vi k] [] μ (PP f sc T τ σ) Q
  have hw0 := hw
  obtain ⟨w1, w2, w3, w4, w5⟩ := hw0
  have hk : k = 0 ∨ k = 1 ∨ k = 2 ∨ k = 3 ∨ k = 4 ∨ k = 5 ∨ k = 6 ∨ k = 7 := by omega
  rcases hk with rfl | rfl | rfl | rfl | rfl | rfl | rfl | rfl <;> (simp (disch := first | omega | rfl) only [e55_0, e55_1, e55_4, e55_52, e55_53, e55_56, e55_59, e55_60, e55_63, e55_64, e55_65, e55_68, e55_71, e55_72, e55_75, e55_76, e55_77, e55_80, e55_83, e55_84, e55_87, e55_88, e55_89, e55_92, e55_93, e55_94, e55_97, e55_100, e55_103, e55_104, e55_105, e55_108, e55_111, e55_112, e55_115, e55_116, e55_117, e55_120, e55_123, e55_124, e55_127, e55_128, e55_129, e55_132, e55_135, e55_136, e55_139, e55_140, e55_141, e55_144, e55_147, e55_148, e55_149, e55_152, e55_155, e55_156, e55_159, e55_162, e55_165, e55_166, WpV_some, WpH_some, ↓ite_t, ↓ite_f, P_f0, P_f1, P_f2, P_f3, P_f4, P_n0, P_n1, P_n2, P_n3, P_n4, P_n5, P_n6, P_n7, P_n8, P_n9, P_n10, P_n11, P_n12, P_n13, P_t0, P_t1, P_t2, P_t3, P_t4, P_t5, P_t6, P_t7, P_t8, P_t9, P_t10, P_t11, P_t12, P_t13, P_x0, P_x1, N_get_0, N_get_1, N_get_2, N_get_3, N_get_4, N_get_5, N_get_6, N_get_7, N_get_9, N_get_10, N_sm_5, N_sm_6, N_sm_9, N_sm_10, T_sm_9, T_sm_10, N_set_6, T_set_6, N_sw_0, N_sw_1, N_co_0, X_set, e55_5_0, e55_5_1, e55_5_2, e55_5_3, e55_5_4, e55_5_5, e55_5_6, e55_5_7, cC_n (m56 p h0 h1), cI_v (Rn (m18 h2 hw p (σ.2 1) (by omega) (by omega))) P_on h2]; exact hQ)
theorem m55p (p k : Int) (h : p < 0 ∨ 8 ≤ p) : Runs xs 55 [vr 1, vi p, vi k] μ (PP f sc T τ σ) (.inr 0) (bump μ) (PP f sc T τ σ) := Runs.iff fun Q hQ => by
  show Wp xs 55 0 [vr 1, vi p, vi k] [] μ (PP f sc T τ σ) Q
  simp (disch := first | assumption | omega | rfl) only [e55_0, e55_1, e55_4, e55_52, e55_53, e55_56, e55_59, e55_60, e55_63, e55_64, e55_65, e55_68, e55_71, e55_72, e55_75, e55_76, e55_77, e55_80, e55_83, e55_84, e55_87, e55_88, e55_89, e55_92, e55_93, e55_94, e55_97, e55_100, e55_103, e55_104, e55_105, e55_108, e55_111, e55_112, e55_115, e55_116, e55_117, e55_120, e55_123, e55_124, e55_127, e55_128, e55_129, e55_132, e55_135, e55_136, e55_139, e55_140, e55_141, e55_144, e55_147, e55_148, e55_149, e55_152, e55_155, e55_156, e55_159, e55_162, e55_165, e55_166, WpV_some, WpH_some, ↓ite_t, ↓ite_f, P_f0, P_f1, P_f2, P_f3, P_f4, P_n0, P_n1, P_n2, P_n3, P_n4, P_n5, P_n6, P_n7, P_n8, P_n9, P_n10, P_n11, P_n12, P_n13, P_t0, P_t1, P_t2, P_t3, P_t4, P_t5, P_t6, P_t7, P_t8, P_t9, P_t10, P_t11, P_t12, P_t13, P_x0, P_x1, cC_e (m56e p h)]
  rw [WpK_up (by decide) (by decide)]
  exact hQ
theorem m55e (p k : Int) (h0 : 0 ≤ p) (h1 : p < 8) (h : k < 0 ∨ 7 < k) : Runs xs 55 [vr 1, vi p, vi k] μ (PP f sc T τ σ) (.inr 0) (bump μ) (PP f sc T τ σ) := Runs.iff fun Q hQ => by
  show Wp xs 55 0 [vr 1, vi p, vi k] [] μ (PP f sc T τ σ) Q
  simp (disch := first | assumption | omega | rfl) only [e55_0, e55_1, e55_4, e55_52, e55_53, e55_56, e55_59, e55_60, e55_63, e55_64, e55_65, e55_68, e55_71, e55_72, e55_75, e55_76, e55_77, e55_80, e55_83, e55_84, e55_87, e55_88, e55_89, e55_92, e55_93, e55_94, e55_97, e55_100, e55_103, e55_104, e55_105, e55_108, e55_111, e55_112, e55_115, e55_116, e55_117, e55_120, e55_123, e55_124, e55_127, e55_128, e55_129, e55_132, e55_135, e55_136, e55_139, e55_140, e55_141, e55_144, e55_147, e55_148, e55_149, e55_152, e55_155, e55_156, e55_159, e55_162, e55_165, e55_166, WpV_some, WpH_some, ↓ite_t, ↓ite_f, P_f0, P_f1, P_f2, P_f3, P_f4, P_n0, P_n1, P_n2, P_n3, P_n4, P_n5, P_n6, P_n7, P_n8, P_n9, P_n10, P_n11, P_n12, P_n13, P_t0, P_t1, P_t2, P_t3, P_t4, P_t5, P_t6, P_t7, P_t8, P_t9, P_t10, P_t11, P_t12, P_t13, P_x0, P_x1, cC_n (m56 p h0 h1), e55_5_d]
  exact hQ
end CM
