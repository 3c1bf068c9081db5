section CN
variable {xs : List Int} {f : AH} {V : VG} {sc : Int} {T : TG} {τ σ : SG} {μ : Mu} {y pc : Nat} {L st : List AV} {Q : Out → Mu → AH → Prop}
theorem m60 (i : Int) (h0 : σ.2 1 ≤ i) (h1 : i < σ.2 0) : Runs xs 60 [vr 1, vi i] μ (PP f sc T τ σ) (.inl none) μ (PP f sc T τ σ) := Runs.iff fun Q hQ => by
  show Wp xs 60 0 [vr 1, vi i] [] μ (PP f sc T τ σ) Q
  simp (disch := first | assumption | omega | rfl) only [e60_0, e60_1, e60_2, e60_5, e60_8, e60_11, e60_12, e60_13, e60_16, e60_19, e60_22, e60_33, WpV_some, WpH_some, ↓ite_t, ↓ite_f, P_f0, P_f1, P_f2, P_f3, P_f4, P_n0, P_n1, P_n2, P_n3, P_n4, P_n5, P_n6, P_n7, P_n8, P_n9, P_n10, P_n11, P_n12, P_n13, P_t0, P_t1, P_t2, P_t3, P_t4, P_t5, P_t6, P_t7, P_t8, P_t9, P_t10, P_t11, P_t12, P_t13, P_x0, P_x1]
  exact hQ
theorem m60e (i : Int) (h : i < σ.2 1 ∨ σ.2 0 ≤ i) : Runs xs 60 [vr 1, vi i] μ (PP f sc T τ σ) (.inr 2) (bump μ) (PP f sc T τ σ) := Runs.iff fun Q hQ => by
  show Wp xs 60 0 [vr 1, vi i] [] μ (PP f sc T τ σ) Q
  by_cases h0 : i < σ.2 1
  · simp (disch := first | assumption | omega | rfl) only [e60_0, e60_1, e60_2, e60_5, e60_8, e60_11, e60_12, e60_13, e60_16, e60_19, e60_22, e60_33, WpV_some, WpH_some, ↓ite_t, ↓ite_f, P_f0, P_f1, P_f2, P_f3, P_f4, P_n0, P_n1, P_n2, P_n3, P_n4, P_n5, P_n6, P_n7, P_n8, P_n9, P_n10, P_n11, P_n12, P_n13, P_t0, P_t1, P_t2, P_t3, P_t4, P_t5, P_t6, P_t7, P_t8, P_t9, P_t10, P_t11, P_t12, P_t13, P_x0, P_x1]
    exact hQ
  · simp (disch := first | assumption | omega | rfl) only [e60_0, e60_1, e60_2, e60_5, e60_8, e60_11, e60_12, e60_13, e60_16, e60_19, e60_22, e60_33, WpV_some, WpH_some, ↓ite_t, ↓ite_f, P_f0, P_f1, P_f2, P_f3, P_f4, P_n0, P_n1, P_n2, P_n3, P_n4, P_n5, P_n6, P_n7, P_n8, P_n9, P_n10, P_n11, P_n12, P_n13, P_t0, P_t1, P_t2, P_t3, P_t4, P_t5, P_t6, P_t7, P_t8, P_t9, P_t10, P_t11, P_t12, P_t13, P_x0, P_x1]
    exact hQ
def byr (τ σ : SG) (k : Nat) : Int := match k with
  | 0 => rdO τ σ
  | 1 => wbO τ σ
  | _ => frd (τ.1 2) (σ.2 1).toNat ((τ.2 1).toNat - (σ.2 1).toNat)
theorem m57 (hw : wfS σ) (r k : Int) (hr0 : 0 ≤ r) (hr : r ≤ 2) (h0 : 0 ≤ k) (h1 : k < 3) : Runs xs 57 [vr 1, vi r, vi k] μ (PP f sc T τ σ) (.inl (some (vi (byr (fn σ r) σ k.toNat)))) μ (PP f sc T (fn σ r) σ) := Runs.iff fun Q hQ => by
  show Wp xs 57 0 [vr 1, vi r, vi k, vu] [] μ (PP f sc T τ σ) Q
  have hw0 := hw
  obtain ⟨w1, w2, w3, w4, w5⟩ := hw0
  have hwn : wfS (fn σ r) := wf_fin r _ σ hw
  have hk : k = 0 ∨ k = 1 ∨ k = 2 := by omega
  rcases hk with rfl | rfl | rfl <;> (simp (disch := first | omega | rfl) only [e57_0, e57_1, e57_4, e57_5, e57_6, e57_9, e57_19, e57_20, e57_23, e57_24, e57_25, e57_28, e57_38, e57_39, e57_42, e57_43, e57_46, e57_49, e57_50, e57_51, e57_54, e57_55, e57_56, e57_59, e57_60, e57_61, e57_62, e57_63, e57_66, e57_67, e57_70, e57_73, e57_76, e57_77, e57_80, e57_83, e57_86, e57_87, e57_90, e57_91, e57_94, e57_95, e57_98, e57_101, e57_104, WpV_some, WpH_some, ↓ite_t, ↓ite_f, P_f0, P_f1, P_f2, P_f3, P_f4, P_n0, P_n1, P_n2, P_n3, P_n4, P_n5, P_n6, P_n7, P_n8, P_n9, P_n10, P_n11, P_n12, P_n13, P_t0, P_t1, P_t2, P_t3, P_t4, P_t5, P_t6, P_t7, P_t8, P_t9, P_t10, P_t11, P_t12, P_t13, P_x0, P_x1, N_get_0, N_get_1, N_get_2, N_get_3, N_get_4, N_get_5, N_get_6, N_get_7, N_get_9, N_get_10, N_sm_5, N_sm_6, N_sm_9, N_sm_10, T_sm_9, T_sm_10, N_set_6, T_set_6, N_sw_0, N_sw_1, N_co_0, X_set, cI_n m12t P_ot h25, cI_v (m48 hw r) P_o h1', cI_v (Rt (m27 h25 hwn (σ.2 1) (by omega) (by omega))) P_ot h25]; exact hQ)
theorem m57r (r k : Int) (h : r < 0 ∨ 2 < r) : Runs xs 57 [vr 1, vi r, vi k] μ (PP f sc T τ σ) (.inr 0) (bump μ) (PP f sc T τ σ) := Runs.iff fun Q hQ => by
  show Wp xs 57 0 [vr 1, vi r, vi k, vu] [] μ (PP f sc T τ σ) Q
  by_cases h0 : r < 0
  · simp (disch := first | assumption | omega | rfl) only [e57_0, e57_1, e57_4, e57_5, e57_6, e57_9, e57_19, e57_20, e57_23, e57_24, e57_25, e57_28, e57_38, e57_39, e57_42, e57_43, e57_46, e57_49, e57_50, e57_51, e57_54, e57_55, e57_56, e57_59, e57_60, e57_61, e57_62, e57_63, e57_66, e57_67, e57_70, e57_73, e57_76, e57_77, e57_80, e57_83, e57_86, e57_87, e57_90, e57_91, e57_94, e57_95, e57_98, e57_101, e57_104, WpV_some, WpH_some, ↓ite_t, ↓ite_f]
    exact hQ
  · simp (disch := first | assumption | omega | rfl) only [e57_0, e57_1, e57_4, e57_5, e57_6, e57_9, e57_19, e57_20, e57_23, e57_24, e57_25, e57_28, e57_38, e57_39, e57_42, e57_43, e57_46, e57_49, e57_50, e57_51, e57_54, e57_55, e57_56, e57_59, e57_60, e57_61, e57_62, e57_63, e57_66, e57_67, e57_70, e57_73, e57_76, e57_77, e57_80, e57_83, e57_86, e57_87, e57_90, e57_91, e57_94, e57_95, e57_98, e57_101, e57_104, WpV_some, WpH_some, ↓ite_t, ↓ite_f]
    exact hQ
theorem m57k (r k : Int) (hr0 : 0 ≤ r) (hr : r ≤ 2) (h : k < 0 ∨ 3 ≤ k) : Runs xs 57 [vr 1, vi r, vi k] μ (PP f sc T τ σ) (.inr 0) (bump μ) (PP f sc T τ σ) := Runs.iff fun Q hQ => by
  show Wp xs 57 0 [vr 1, vi r, vi k, vu] [] μ (PP f sc T τ σ) Q
  by_cases h0 : k < 0
  · simp (disch := first | assumption | omega | rfl) only [e57_0, e57_1, e57_4, e57_5, e57_6, e57_9, e57_19, e57_20, e57_23, e57_24, e57_25, e57_28, e57_38, e57_39, e57_42, e57_43, e57_46, e57_49, e57_50, e57_51, e57_54, e57_55, e57_56, e57_59, e57_60, e57_61, e57_62, e57_63, e57_66, e57_67, e57_70, e57_73, e57_76, e57_77, e57_80, e57_83, e57_86, e57_87, e57_90, e57_91, e57_94, e57_95, e57_98, e57_101, e57_104, WpV_some, WpH_some, ↓ite_t, ↓ite_f]
    exact hQ
  · simp (disch := first | assumption | omega | rfl) only [e57_0, e57_1, e57_4, e57_5, e57_6, e57_9, e57_19, e57_20, e57_23, e57_24, e57_25, e57_28, e57_38, e57_39, e57_42, e57_43, e57_46, e57_49, e57_50, e57_51, e57_54, e57_55, e57_56, e57_59, e57_60, e57_61, e57_62, e57_63, e57_66, e57_67, e57_70, e57_73, e57_76, e57_77, e57_80, e57_83, e57_86, e57_87, e57_90, e57_91, e57_94, e57_95, e57_98, e57_101, e57_104, WpV_some, WpH_some, ↓ite_t, ↓ite_f]
    exact hQ
/-- frames for: the least count, from k on -/
theorem wf_tka {p : Int} (hw : wfS σ) (h : σ.2 1 < σ.2 0) : wfS (tka σ p) := by
  obtain ⟨w1, w2, w3, w4, w5⟩ := hw
  unfold wfS tka
  rw [sS_2, sS_2, sS_2, sR_2, sR_2, if_pos rfl, if_neg (by omega), if_neg (by omega)]
  omega
/-- the best page to pin -/
theorem m72 (i : Int) (h0 : 0 ≤ i) (h1 : i < σ.2 2) : Runs xs 72 [vr 1, vi i] μ (PP f sc T τ σ) (.inl (some (vi (fo (σ.1 4) i 0 8)))) μ (PP f sc T τ σ) := Runs.iff fun Q hQ => by
  show Wp xs 72 0 [vr 1, vi i] [] μ (PP f sc T τ σ) Q
  simp (disch := first | assumption | omega | rfl) only [e72_0, e72_1, e72_4, e72_5, e72_6, e72_9, e72_12, e72_15, e72_25, e72_26, e72_29, e72_30, e72_33, WpV_some, WpH_some, ↓ite_t, ↓ite_f, P_f0, P_f1, P_f2, P_f3, P_f4, P_n0, P_n1, P_n2, P_n3, P_n4, P_n5, P_n6, P_n7, P_n8, P_n9, P_n10, P_n11, P_n12, P_n13, P_t0, P_t1, P_t2, P_t3, P_t4, P_t5, P_t6, P_t7, P_t8, P_t9, P_t10, P_t11, P_t12, P_t13, P_x0, P_x1, cI_v (Rn (m16 h2 i)) P_on h2]
  exact hQ
theorem m72e (i : Int) (h : i < 0 ∨ σ.2 2 ≤ i) : Runs xs 72 [vr 1, vi i] μ (PP f sc T τ σ) (.inr 2) (bump μ) (PP f sc T τ σ) := Runs.iff fun Q hQ => by
  show Wp xs 72 0 [vr 1, vi i] [] μ (PP f sc T τ σ) Q
  by_cases h0 : i < 0
  · simp (disch := first | assumption | omega | rfl) only [e72_0, e72_1, e72_4, e72_5, e72_6, e72_9, e72_12, e72_15, e72_25, e72_26, e72_29, e72_30, e72_33, WpV_some, WpH_some, ↓ite_t, ↓ite_f, P_f0, P_f1, P_f2, P_f3, P_f4, P_n0, P_n1, P_n2, P_n3, P_n4, P_n5, P_n6, P_n7, P_n8, P_n9, P_n10, P_n11, P_n12, P_n13, P_t0, P_t1, P_t2, P_t3, P_t4, P_t5, P_t6, P_t7, P_t8, P_t9, P_t10, P_t11, P_t12, P_t13, P_x0, P_x1]
    exact hQ
  · simp (disch := first | assumption | omega | rfl) only [e72_0, e72_1, e72_4, e72_5, e72_6, e72_9, e72_12, e72_15, e72_25, e72_26, e72_29, e72_30, e72_33, WpV_some, WpH_some, ↓ite_t, ↓ite_f, P_f0, P_f1, P_f2, P_f3, P_f4, P_n0, P_n1, P_n2, P_n3, P_n4, P_n5, P_n6, P_n7, P_n8, P_n9, P_n10, P_n11, P_n12, P_n13, P_t0, P_t1, P_t2, P_t3, P_t4, P_t5, P_t6, P_t7, P_t8, P_t9, P_t10, P_t11, P_t12, P_t13, P_x0, P_x1]
    exact hQ
/-! the acts -/
theorem wf_pta {p pg wr : Int} (hw : wfS σ) (h : σ.2 0 < 80) : wfS (pta σ p pg wr) := by
  obtain ⟨w1, w2, w3, w4, w5⟩ := hw
  unfold wfS pta
  rw [sS_2, sS_2, sS_2, sR_2, sR_2, if_pos rfl, if_neg (by omega), if_neg (by omega)]
  omega
def ptn (σ : SG) (pg wr : Int) : Nat → SG
  | 0 => σ
  | d + 1 => ptn (pta σ (σ.2 0) pg wr) pg wr d
theorem pta_0 (σ : SG) (p pg wr : Int) : (pta σ p pg wr).2 0 = σ.2 0 + 1 := by unfold pta; rw [sS_2, if_pos rfl]
theorem ptn_0 (pg wr : Int) : ∀ (d : Nat) (σ : SG), (ptn σ pg wr d).2 0 = σ.2 0 + d := by
  intro d
  induction d with
  | zero => intro σ; simp [ptn]
  | succ d ih => intro σ; unfold ptn; rw [ih, pta_0]; omega
theorem wf_ptn (pg wr : Int) : ∀ (d : Nat) (σ : SG), wfS σ → σ.2 0 + d ≤ 80 → wfS (ptn σ pg wr d) := by
  intro d
  induction d with
  | zero => intro σ h _; exact h
  | succ d ih => intro σ h h2; exact ih _ (wf_pta h (by omega)) (by rw [pta_0]; omega)
def exn (T : TG) (σ : SG) (i : Nat) : Nat → SG
  | 0 => σ
  | d + 1 => exn T (ptn σ (pgA (cA T i)) (wrA (cA T i)) (tmA T i).toNat) (i + 1) d
theorem ptn_loop (hT : wfT T) (i : Nat) (hi : i ≤ 1000) : ∀ (d : Nat) (σ : SG), wfS σ → σ.2 0 + d ≤ 80 → (Wp xs 62 76 [vr 1, vi i, vi d] [] μ (PP f sc T τ σ) Q = Wp xs 62 56 [vr 1, vi ((i : Int) + 1), vi 0] [] μ (PP f sc T τ (ptn σ (pgA (cA T i)) (wrA (cA T i)) d)) Q) := by
  intro d
  induction d with
  | zero =>
    intro σ hw hs
    simp (disch := first | omega | rfl) only [e62_0, e62_1, e62_4, e62_7, e62_10, e62_20, e62_21, e62_24, e62_27, e62_28, e62_31, e62_34, e62_35, e62_37, e62_40, e62_50, e62_51, e62_54, e62_55, e62_57, e62_58, e62_61, e62_64, e62_67, e62_68, e62_71, e62_72, e62_75, e62_76, e62_77, e62_80, e62_81, e62_84, e62_85, e62_88, e62_91, e62_92, e62_95, e62_96, e62_99, e62_100, e62_103, e62_104, e62_107, e62_110, e62_113, e62_116, e62_119, e62_122, e62_123, e62_126, e62_127, e62_130, e62_131, e62_134, e62_137, WpV_some, WpH_some, ↓ite_t, ↓ite_f, P_f0, P_f1, P_f2, P_f3, P_f4, P_n0, P_n1, P_n2, P_n3, P_n4, P_n5, P_n6, P_n7, P_n8, P_n9, P_n10, P_n11, P_n12, P_n13, P_t0, P_t1, P_t2, P_t3, P_t4, P_t5, P_t6, P_t7, P_t8, P_t9, P_t10, P_t11, P_t12, P_t13, P_x0, P_x1, wrp_id, ptn, Int.cast_ofNat_Int]
  | succ d ih =>
    intro σ hw hs
    have hw0 := hw
    obtain ⟨w1, w2, w3, w4, w5⟩ := hw0
    have q := ih (pta σ (σ.2 0) (pgA (cA T i)) (wrA (cA T i))) (wf_pta hw (by omega)) (by rw [pta_0]; omega)
    have e : wrp (((d + 1 : Nat) : Int) + -1) = d := by rw [wrp_id (by omega) (by omega)]; omega
    rw [e62_76]
    simp (disch := first | omega | rfl) only [e62_0, e62_1, e62_4, e62_7, e62_10, e62_20, e62_21, e62_24, e62_27, e62_28, e62_31, e62_34, e62_35, e62_37, e62_40, e62_50, e62_51, e62_54, e62_55, e62_57, e62_58, e62_61, e62_64, e62_67, e62_68, e62_71, e62_72, e62_75, e62_77, e62_80, e62_81, e62_84, e62_85, e62_88, e62_91, e62_92, e62_95, e62_96, e62_99, e62_100, e62_103, e62_104, e62_107, e62_110, e62_113, e62_116, e62_119, e62_122, e62_123, e62_126, e62_127, e62_130, e62_131, e62_134, e62_137, WpV_some, WpH_some, ↓ite_t, ↓ite_f, P_f0, P_f1, P_f2, P_f3, P_f4, P_n0, P_n1, P_n2, P_n3, P_n4, P_n5, P_n6, P_n7, P_n8, P_n9, P_n10, P_n11, P_n12, P_n13, P_t0, P_t1, P_t2, P_t3, P_t4, P_t5, P_t6, P_t7, P_t8, P_t9, P_t10, P_t11, P_t12, P_t13, P_x0, P_x1, cI_v (Rx (m33 h187 hT i)) P_ox h187, cI_v (Rx (m39 h187 i)) P_ox h187, cI_n (Rn (m29 h2 hw (σ.2 0) (pgA (cA T i)) (wrA (cA T i)) (by omega) (by omega))) P_on h2, e, q, ptn]
theorem tld_nn (T : TG) : ∀ (d i : Nat), 0 ≤ tld T i d := by
  intro d
  induction d with
  | zero => intro i; exact Int.le_refl 0
  | succ d ih =>
    intro i
    have h1 := tmA_r T i
    have h2 := ih (i + 1)
    unfold tld
    omega
theorem exn_loop (hT : wfT T) : ∀ (d i : Nat) (σ : SG) (l2 : AV), (i : Int) + d = T.2 → wfS σ → σ.2 0 + tld T i d ≤ 80 → (Wp xs 62 56 [vr 1, vi i, l2] [] μ (PP f sc T τ σ) Q = Q (.inl (some (vi ((exn T σ i d).2 0)))) μ (PP f sc (T.1, 0) τ (exn T σ i d))) := by
  have hT0 := hT
  obtain ⟨t1, t2, t3⟩ := hT0
  intro d
  induction d with
  | zero =>
    intro i σ l2 hi hw hs
    simp (disch := first | omega | rfl) only [e62_0, e62_1, e62_4, e62_7, e62_10, e62_20, e62_21, e62_24, e62_27, e62_28, e62_31, e62_34, e62_35, e62_37, e62_40, e62_50, e62_51, e62_54, e62_55, e62_56, e62_57, e62_58, e62_61, e62_64, e62_67, e62_68, e62_71, e62_72, e62_75, e62_76, e62_77, e62_80, e62_81, e62_84, e62_85, e62_88, e62_91, e62_92, e62_95, e62_96, e62_99, e62_100, e62_103, e62_104, e62_107, e62_110, e62_113, e62_116, e62_119, e62_122, e62_123, e62_126, e62_127, e62_130, e62_131, e62_134, e62_137, WpV_some, WpH_some, ↓ite_t, ↓ite_f, P_f0, P_f1, P_f2, P_f3, P_f4, P_n0, P_n1, P_n2, P_n3, P_n4, P_n5, P_n6, P_n7, P_n8, P_n9, P_n10, P_n11, P_n12, P_n13, P_t0, P_t1, P_t2, P_t3, P_t4, P_t5, P_t6, P_t7, P_t8, P_t9, P_t10, P_t11, P_t12, P_t13, P_x0, P_x1, P_xp, exn]
  | succ d ih =>
    intro i σ l2 hi hw hs
    have hr := tmA_r T i
    have ht := tld_nn T d (i + 1)
    unfold tld at hs
    have q := ih (i + 1) (ptn σ (pgA (cA T i)) (wrA (cA T i)) (tmA T i).toNat) (vi 0) (by omega) (wf_ptn _ _ _ σ hw (by omega)) (by rw [ptn_0]; omega)
    simp only [Int.natCast_add, Int.cast_ofNat_Int] at q
    have q2 := ptn_loop (xs := xs) (f := f) (sc := sc) (τ := τ) (μ := μ) (Q := Q) hT i (by omega) (tmA T i).toNat σ hw (by omega)
    rw [Int.toNat_of_nonneg (by omega)] at q2
    rw [e62_56]
    simp (disch := first | omega | rfl) only [e62_0, e62_1, e62_4, e62_7, e62_10, e62_20, e62_21, e62_24, e62_27, e62_28, e62_31, e62_34, e62_35, e62_37, e62_40, e62_50, e62_51, e62_54, e62_55, e62_57, e62_58, e62_61, e62_64, e62_67, e62_68, e62_71, e62_72, e62_75, e62_77, e62_80, e62_81, e62_84, e62_85, e62_88, e62_91, e62_92, e62_95, e62_96, e62_99, e62_100, e62_103, e62_104, e62_107, e62_110, e62_113, e62_116, e62_119, e62_122, e62_123, e62_126, e62_127, e62_130, e62_131, e62_134, e62_137, WpV_some, WpH_some, ↓ite_t, ↓ite_f, P_f0, P_f1, P_f2, P_f3, P_f4, P_n0, P_n1, P_n2, P_n3, P_n4, P_n5, P_n6, P_n7, P_n8, P_n9, P_n10, P_n11, P_n12, P_n13, P_t0, P_t1, P_t2, P_t3, P_t4, P_t5, P_t6, P_t7, P_t8, P_t9, P_t10, P_t11, P_t12, P_t13, P_x0, P_x1, cI_v (Rx (m38 h187 hT i (by omega) (by omega))) P_ox h187, q2, q, exn]
end CN
