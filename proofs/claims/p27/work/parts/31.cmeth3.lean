section CQ
variable {xs : List Int} {f : AH} {V : VG} {sc : Int} {T : TG} {τ σ : SG} {μ : Mu} {y pc : Nat} {L st : List AV} {Q : Out → Mu → AH → Prop}
def tlA (T : TG) : Prop := 0 < T.2 ∧ fwr T 0 T.2.toNat = T.2
theorem m62 (hw : wfS σ) (hT : wfT T) (hV : wfV V) (h0 : 0 ≤ sc) (h6 : sc ≤ 6) (ha : 0 < T.2 ∧ fwr T 0 T.2.toNat = T.2) (hs : σ.2 0 + tld T 0 T.2.toNat ≤ 80) : Runs xs 62 [vr 1] μ (PP (putV f V) sc T τ σ) (.inl (some (vi ((exn T σ 0 T.2.toNat).2 0)))) μ (PP (putV f (svV V sc σ)) (svC sc) (T.1, 0) τ (exn T σ 0 T.2.toNat)) := Runs.iff fun Q hQ => by
  show Wp xs 62 0 [vr 1, vu, vu] [] μ (PP (putV f V) sc T τ σ) Q
  have hw0 := hw
  obtain ⟨w1, w2, w3, w4, w5⟩ := hw0
  have ht := tld_nn T T.2.toNat 0
  have q0 := cI_v (Rx (f := putV f V) (sc := sc) (τ := τ) (σ := σ) (m36 (xs := xs) (f := putS (putS (aup (putV f V) 1 (c1 sc)) 25 τ) 2 σ) (μ := μ) h187 hT)) P_ox h187
  rw [if_pos ha] at q0
  have q := exn_loop (xs := xs) (f := putV f (svV V sc σ)) (sc := svC sc) (τ := τ) (μ := μ) (Q := Q) hT T.2.toNat 0 σ vu (by obtain ⟨t1, t2, t3⟩ := hT; omega) hw hs
  simp only [Int.cast_ofNat_Int] at q
  simp (disch := first | omega | rfl) only [e62_0, e62_1, e62_4, e62_7, e62_10, e62_20, e62_21, e62_24, e62_27, e62_28, e62_31, e62_34, e62_35, e62_37, e62_40, e62_50, e62_51, e62_54, e62_55, e62_57, e62_58, e62_61, e62_64, e62_67, e62_68, e62_71, e62_72, e62_75, e62_77, e62_80, e62_81, e62_84, e62_85, e62_88, e62_91, e62_92, e62_95, e62_96, e62_99, e62_100, e62_103, e62_104, e62_107, e62_110, e62_113, e62_116, e62_119, e62_122, e62_123, e62_126, e62_127, e62_130, e62_131, e62_134, e62_137, WpV_some, WpH_some, ↓ite_t, ↓ite_f, P_f0, P_f1, P_f2, P_f3, P_f4, P_n0, P_n1, P_n2, P_n3, P_n4, P_n5, P_n6, P_n7, P_n8, P_n9, P_n10, P_n11, P_n12, P_n13, P_t0, P_t1, P_t2, P_t3, P_t4, P_t5, P_t6, P_t7, P_t8, P_t9, P_t10, P_t11, P_t12, P_t13, P_x0, P_x1, q0, cI_v (Rx (m37 h187 hT)) P_ox h187, wrp_id, cI_n (m42 hV h0 h6) P_o h1', q]
  exact hQ
theorem m62a (hT : wfT T) (ha : ¬ (0 < T.2 ∧ fwr T 0 T.2.toNat = T.2)) : Runs xs 62 [vr 1] μ (PP f sc T τ σ) (.inr 0) (bump μ) (PP f sc T τ σ) := Runs.iff fun Q hQ => by
  show Wp xs 62 0 [vr 1, vu, vu] [] μ (PP f sc T τ σ) Q
  have q0 := cI_v (Rx (f := f) (sc := sc) (τ := τ) (σ := σ) (m36 (xs := xs) (f := putS (putS (aup f 1 (c1 sc)) 25 τ) 2 σ) (μ := μ) h187 hT)) P_ox h187
  rw [if_neg ha] at q0
  simp (disch := first | omega | rfl) only [e62_0, e62_1, e62_4, e62_7, e62_10, e62_20, e62_21, e62_24, e62_27, e62_28, e62_31, e62_34, e62_35, e62_37, e62_40, e62_50, e62_51, e62_54, e62_55, e62_57, e62_58, e62_61, e62_64, e62_67, e62_68, e62_71, e62_72, e62_75, e62_77, e62_80, e62_81, e62_84, e62_85, e62_88, e62_91, e62_92, e62_95, e62_96, e62_99, e62_100, e62_103, e62_104, e62_107, e62_110, e62_113, e62_116, e62_119, e62_122, e62_123, e62_126, e62_127, e62_130, e62_131, e62_134, e62_137, WpV_some, WpH_some, ↓ite_t, ↓ite_f, P_f0, P_f1, P_f2, P_f3, P_f4, P_n0, P_n1, P_n2, P_n3, P_n4, P_n5, P_n6, P_n7, P_n8, P_n9, P_n10, P_n11, P_n12, P_n13, P_t0, P_t1, P_t2, P_t3, P_t4, P_t5, P_t6, P_t7, P_t8, P_t9, P_t10, P_t11, P_t12, P_t13, P_x0, P_x1, q0]
  exact hQ
theorem tld_le (T : TG) : ∀ (d i : Nat), tld T i d ≤ 9 * d := by
  intro d
  induction d with
  | zero => intro i; exact Int.le_refl 0
  | succ d ih =>
    intro i
    have h1 := tmA_r T i
    have h2 := ih (i + 1)
    unfold tld
    omega
theorem m62s (hw : wfS σ) (hT : wfT T) (ha : 0 < T.2 ∧ fwr T 0 T.2.toNat = T.2) (hs : 80 < σ.2 0 + tld T 0 T.2.toNat) : Runs xs 62 [vr 1] μ (PP f sc T τ σ) (.inr 1) (bump μ) (PP f sc T τ σ) := Runs.iff fun Q hQ => by
  show Wp xs 62 0 [vr 1, vu, vu] [] μ (PP f sc T τ σ) Q
  have hw0 := hw
  obtain ⟨w1, w2, w3, w4, w5⟩ := hw0
  have hT0 := hT
  obtain ⟨t1, t2, t3⟩ := hT0
  have ht := tld_le T T.2.toNat 0
  have q0 := cI_v (Rx (f := f) (sc := sc) (τ := τ) (σ := σ) (m36 (xs := xs) (f := putS (putS (aup f 1 (c1 sc)) 25 τ) 2 σ) (μ := μ) h187 hT)) P_ox h187
  rw [if_pos ha] at q0
  simp (disch := first | omega | rfl) only [e62_0, e62_1, e62_4, e62_7, e62_10, e62_20, e62_21, e62_24, e62_27, e62_28, e62_31, e62_34, e62_35, e62_37, e62_40, e62_50, e62_51, e62_54, e62_55, e62_57, e62_58, e62_61, e62_64, e62_67, e62_68, e62_71, e62_72, e62_75, e62_77, e62_80, e62_81, e62_84, e62_85, e62_88, e62_91, e62_92, e62_95, e62_96, e62_99, e62_100, e62_103, e62_104, e62_107, e62_110, e62_113, e62_116, e62_119, e62_122, e62_123, e62_126, e62_127, e62_130, e62_131, e62_134, e62_137, WpV_some, WpH_some, ↓ite_t, ↓ite_f, P_f0, P_f1, P_f2, P_f3, P_f4, P_n0, P_n1, P_n2, P_n3, P_n4, P_n5, P_n6, P_n7, P_n8, P_n9, P_n10, P_n11, P_n12, P_n13, P_t0, P_t1, P_t2, P_t3, P_t4, P_t5, P_t6, P_t7, P_t8, P_t9, P_t10, P_t11, P_t12, P_t13, P_x0, P_x1, q0, cI_v (Rx (m37 h187 hT)) P_ox h187, wrp_id]
  exact hQ
theorem m63 (hw : wfS σ) (hV : wfV V) (h0 : 0 ≤ sc) (h6 : sc ≤ 6) (i p w : Int) (hi0 : σ.2 1 ≤ i) (hi1 : i ≤ σ.2 0) (hp0 : 0 ≤ p) (hp1 : p < 8) (hs : σ.2 0 < 80) : Runs xs 63 [vr 1, vi i, vi p, vi w] μ (PP (putV f V) sc T τ σ) (.inl (some (vi (σ.2 0 + 1 - σ.2 1)))) μ (PP (putV f (svV V sc σ)) (svC sc) T τ (pta σ i p (if w = 0 then 0 else 1))) := Runs.iff fun Q hQ => by
  show Wp xs 63 0 [vr 1, vi i, vi p, vi w] [] μ (PP (putV f V) sc T τ σ) Q
  have hw0 := hw
  obtain ⟨w1, w2, w3, w4, w5⟩ := hw0
  have e0 : ∀ w, (pta σ i p w).2 0 = σ.2 0 + 1 := fun w => pta_0 σ i p w
  have e1 : ∀ w, (pta σ i p w).2 1 = σ.2 1 := fun w => by unfold pta; rw [sS_2, if_neg (by omega)]; rfl
  by_cases c : w = 0
  · rw [if_pos c] at hQ
    have q := cI_v (Rn (f := putV f (svV V sc σ)) (sc := svC sc) (T := T) (τ := τ) (m14 (xs := xs) (μ := μ) (f := putS (putT (aup (putV f (svV V sc σ)) 1 (c1 (svC sc))) 187 T) 25 τ) h2 (wf_pta (p := i) (pg := p) (wr := 0) hw hs))) P_on h2
    rw [e0, e1] at q
    simp (disch := first | omega | rfl) only [e63_0, e63_1, e63_2, e63_5, e63_8, e63_11, e63_12, e63_13, e63_16, e63_19, e63_22, e63_32, e63_33, e63_36, e63_37, e63_40, e63_43, e63_45, e63_48, e63_58, e63_59, e63_62, e63_63, e63_66, e63_67, e63_68, e63_69, e63_72, e63_73, e63_76, e63_77, e63_80, e63_81, e63_84, e63_87, WpV_some, WpH_some, ↓ite_t, ↓ite_f, P_f0, P_f1, P_f2, P_f3, P_f4, P_n0, P_n1, P_n2, P_n3, P_n4, P_n5, P_n6, P_n7, P_n8, P_n9, P_n10, P_n11, P_n12, P_n13, P_t0, P_t1, P_t2, P_t3, P_t4, P_t5, P_t6, P_t7, P_t8, P_t9, P_t10, P_t11, P_t12, P_t13, P_x0, P_x1, cC_n (m56 p hp0 hp1), cI_n (m42 hV h0 h6) P_o h1', c, ↓reduceIte, cI_n (Rn (m29 h2 hw i p 0 (by omega) (by omega))) P_on h2, q]
    exact hQ
  · rw [if_neg c] at hQ
    have q := cI_v (Rn (f := putV f (svV V sc σ)) (sc := svC sc) (T := T) (τ := τ) (m14 (xs := xs) (μ := μ) (f := putS (putT (aup (putV f (svV V sc σ)) 1 (c1 (svC sc))) 187 T) 25 τ) h2 (wf_pta (p := i) (pg := p) (wr := 1) hw hs))) P_on h2
    rw [e0, e1] at q
    simp (disch := first | omega | rfl) only [e63_0, e63_1, e63_2, e63_5, e63_8, e63_11, e63_12, e63_13, e63_16, e63_19, e63_22, e63_32, e63_33, e63_36, e63_37, e63_40, e63_43, e63_45, e63_48, e63_58, e63_59, e63_62, e63_63, e63_66, e63_67, e63_68, e63_69, e63_72, e63_73, e63_76, e63_77, e63_80, e63_81, e63_84, e63_87, WpV_some, WpH_some, ↓ite_t, ↓ite_f, P_f0, P_f1, P_f2, P_f3, P_f4, P_n0, P_n1, P_n2, P_n3, P_n4, P_n5, P_n6, P_n7, P_n8, P_n9, P_n10, P_n11, P_n12, P_n13, P_t0, P_t1, P_t2, P_t3, P_t4, P_t5, P_t6, P_t7, P_t8, P_t9, P_t10, P_t11, P_t12, P_t13, P_x0, P_x1, cC_n (m56 p hp0 hp1), cI_n (m42 hV h0 h6) P_o h1', c, ↓reduceIte, cI_n (Rn (m29 h2 hw i p 1 (by omega) (by omega))) P_on h2, q]
    exact hQ
theorem m63i (i p w : Int) (h : i < σ.2 1 ∨ σ.2 0 < i) : Runs xs 63 [vr 1, vi i, vi p, vi w] μ (PP f sc T τ σ) (.inr 2) (bump μ) (PP f sc T τ σ) := Runs.iff fun Q hQ => by
  show Wp xs 63 0 [vr 1, vi i, vi p, vi w] [] μ (PP f sc T τ σ) Q
  by_cases c : i < σ.2 1
  · simp (disch := first | omega | rfl) only [e63_0, e63_1, e63_2, e63_5, e63_8, e63_11, e63_12, e63_13, e63_16, e63_19, e63_22, e63_32, e63_33, e63_36, e63_37, e63_40, e63_43, e63_45, e63_48, e63_58, e63_59, e63_62, e63_63, e63_66, e63_67, e63_68, e63_69, e63_72, e63_73, e63_76, e63_77, e63_80, e63_81, e63_84, e63_87, WpV_some, WpH_some, ↓ite_t, ↓ite_f, P_f0, P_f1, P_f2, P_f3, P_f4, P_n0, P_n1, P_n2, P_n3, P_n4, P_n5, P_n6, P_n7, P_n8, P_n9, P_n10, P_n11, P_n12, P_n13, P_t0, P_t1, P_t2, P_t3, P_t4, P_t5, P_t6, P_t7, P_t8, P_t9, P_t10, P_t11, P_t12, P_t13, P_x0, P_x1]
    exact hQ
  · simp (disch := first | omega | rfl) only [e63_0, e63_1, e63_2, e63_5, e63_8, e63_11, e63_12, e63_13, e63_16, e63_19, e63_22, e63_32, e63_33, e63_36, e63_37, e63_40, e63_43, e63_45, e63_48, e63_58, e63_59, e63_62, e63_63, e63_66, e63_67, e63_68, e63_69, e63_72, e63_73, e63_76, e63_77, e63_80, e63_81, e63_84, e63_87, WpV_some, WpH_some, ↓ite_t, ↓ite_f, P_f0, P_f1, P_f2, P_f3, P_f4, P_n0, P_n1, P_n2, P_n3, P_n4, P_n5, P_n6, P_n7, P_n8, P_n9, P_n10, P_n11, P_n12, P_n13, P_t0, P_t1, P_t2, P_t3, P_t4, P_t5, P_t6, P_t7, P_t8, P_t9, P_t10, P_t11, P_t12, P_t13, P_x0, P_x1]
    exact hQ
theorem m63p (i p w : Int) (hi0 : σ.2 1 ≤ i) (hi1 : i ≤ σ.2 0) (h : p < 0 ∨ 8 ≤ p) : Runs xs 63 [vr 1, vi i, vi p, vi w] μ (PP f sc T τ σ) (.inr 0) (bump μ) (PP f sc T τ σ) := Runs.iff fun Q hQ => by
  show Wp xs 63 0 [vr 1, vi i, vi p, vi w] [] μ (PP f sc T τ σ) Q
  simp (disch := first | omega | rfl) only [e63_0, e63_1, e63_2, e63_5, e63_8, e63_11, e63_12, e63_13, e63_16, e63_19, e63_22, e63_32, e63_33, e63_36, e63_37, e63_40, e63_43, e63_45, e63_48, e63_58, e63_59, e63_62, e63_63, e63_66, e63_67, e63_68, e63_69, e63_72, e63_73, e63_76, e63_77, e63_80, e63_81, e63_84, e63_87, WpV_some, WpH_some, ↓ite_t, ↓ite_f, P_f0, P_f1, P_f2, P_f3, P_f4, P_n0, P_n1, P_n2, P_n3, P_n4, P_n5, P_n6, P_n7, P_n8, P_n9, P_n10, P_n11, P_n12, P_n13, P_t0, P_t1, P_t2, P_t3, P_t4, P_t5, P_t6, P_t7, P_t8, P_t9, P_t10, P_t11, P_t12, P_t13, P_x0, P_x1, cC_e (m56e p h)]
  rw [WpK_up (by decide) (by decide)]
  exact hQ
theorem m63s (i p w : Int) (hi0 : σ.2 1 ≤ i) (hi1 : i ≤ σ.2 0) (hp0 : 0 ≤ p) (hp1 : p < 8) (hs : 80 ≤ σ.2 0) : Runs xs 63 [vr 1, vi i, vi p, vi w] μ (PP f sc T τ σ) (.inr 1) (bump μ) (PP f sc T τ σ) := Runs.iff fun Q hQ => by
  show Wp xs 63 0 [vr 1, vi i, vi p, vi w] [] μ (PP f sc T τ σ) Q
  simp (disch := first | omega | rfl) only [e63_0, e63_1, e63_2, e63_5, e63_8, e63_11, e63_12, e63_13, e63_16, e63_19, e63_22, e63_32, e63_33, e63_36, e63_37, e63_40, e63_43, e63_45, e63_48, e63_58, e63_59, e63_62, e63_63, e63_66, e63_67, e63_68, e63_69, e63_72, e63_73, e63_76, e63_77, e63_80, e63_81, e63_84, e63_87, WpV_some, WpH_some, ↓ite_t, ↓ite_f, P_f0, P_f1, P_f2, P_f3, P_f4, P_n0, P_n1, P_n2, P_n3, P_n4, P_n5, P_n6, P_n7, P_n8, P_n9, P_n10, P_n11, P_n12, P_n13, P_t0, P_t1, P_t2, P_t3, P_t4, P_t5, P_t6, P_t7, P_t8, P_t9, P_t10, P_t11, P_t12, P_t13, P_x0, P_x1, cC_n (m56 p hp0 hp1)]
  exact hQ
theorem m64 (hw : wfS σ) (hV : wfV V) (h0 : 0 ≤ sc) (h6 : sc ≤ 6) (i : Int) (hi0 : σ.2 1 ≤ i) (hi1 : i < σ.2 0) : Runs xs 64 [vr 1, vi i] μ (PP (putV f V) sc T τ σ) (.inl (some (vi (rg 80 (σ.1 0) i)))) μ (PP (putV f (svV V sc σ)) (svC sc) T τ (tka σ i)) := Runs.iff fun Q hQ => by
  show Wp xs 64 0 [vr 1, vi i, vu] [] μ (PP (putV f V) sc T τ σ) Q
  have hw0 := hw
  obtain ⟨w1, w2, w3, w4, w5⟩ := hw0
  simp (disch := first | omega | rfl) only [e64_0, e64_1, e64_2, e64_5, e64_6, e64_9, e64_10, e64_13, e64_16, e64_17, e64_20, e64_21, e64_22, e64_25, e64_26, e64_29, e64_30, WpV_some, WpH_some, ↓ite_t, ↓ite_f, P_f0, P_f1, P_f2, P_f3, P_f4, P_n0, P_n1, P_n2, P_n3, P_n4, P_n5, P_n6, P_n7, P_n8, P_n9, P_n10, P_n11, P_n12, P_n13, P_t0, P_t1, P_t2, P_t3, P_t4, P_t5, P_t6, P_t7, P_t8, P_t9, P_t10, P_t11, P_t12, P_t13, P_x0, P_x1, N_get_0, N_get_1, N_get_2, N_get_3, N_get_4, N_get_5, N_get_6, N_get_7, N_get_9, N_get_10, N_sm_5, N_sm_6, N_sm_9, N_sm_10, T_sm_9, T_sm_10, N_set_6, T_set_6, N_sw_0, N_sw_1, N_co_0, X_set, cI_n (m60 i hi0 hi1) P_o h1', cI_n (m42 hV h0 h6) P_o h1', cI_n (Rn (m28 h2 hw i (by omega) (by omega))) P_on h2]
  exact hQ
theorem m64e (i : Int) (h : i < σ.2 1 ∨ σ.2 0 ≤ i) : Runs xs 64 [vr 1, vi i] μ (PP f sc T τ σ) (.inr 2) (bump μ) (PP f sc T τ σ) := Runs.iff fun Q hQ => by
  show Wp xs 64 0 [vr 1, vi i, vu] [] μ (PP f sc T τ σ) Q
  simp (disch := first | omega | rfl) only [e64_0, e64_1, e64_2, e64_5, e64_6, e64_9, e64_10, e64_13, e64_16, e64_17, e64_20, e64_21, e64_22, e64_25, e64_26, e64_29, e64_30, WpV_some, WpH_some, ↓ite_t, ↓ite_f, cI_e (m60e i h) P_o h1']
  rw [WpK_up (by decide) (by decide)]
  exact hQ
def swp (σ : SG) (i j : Int) : SG := sR (sR σ 0 (rs 80 (rs 80 (σ.1 0) i (rg 80 (σ.1 0) j)) j (rg 80 (σ.1 0) i))) 1 (rs 80 (rs 80 (σ.1 1) i (rg 80 (σ.1 1) j)) j (rg 80 (σ.1 1) i))
theorem m65 (hV : wfV V) (h0 : 0 ≤ sc) (h6 : sc ≤ 6) (i j : Int) (hi0 : σ.2 1 ≤ i) (hi1 : i < σ.2 0) (hj0 : σ.2 1 ≤ j) (hj1 : j < σ.2 0) : Runs xs 65 [vr 1, vi i, vi j] μ (PP (putV f V) sc T τ σ) (.inl (some (vi (rg 80 ((swp σ i j).1 0) i)))) μ (PP (putV f (svV V sc σ)) (svC sc) T τ (swp σ i j)) := Runs.iff fun Q hQ => by
  show Wp xs 65 0 [vr 1, vi i, vi j] [] μ (PP (putV f V) sc T τ σ) Q
  simp (disch := first | omega | rfl) only [e65_0, e65_1, e65_2, e65_5, e65_6, e65_7, e65_10, e65_11, e65_14, e65_15, e65_18, e65_21, e65_22, e65_23, e65_26, e65_27, e65_30, e65_33, e65_34, e65_35, e65_38, e65_39, e65_42, e65_45, e65_46, e65_49, WpV_some, WpH_some, ↓ite_t, ↓ite_f, P_f0, P_f1, P_f2, P_f3, P_f4, P_n0, P_n1, P_n2, P_n3, P_n4, P_n5, P_n6, P_n7, P_n8, P_n9, P_n10, P_n11, P_n12, P_n13, P_t0, P_t1, P_t2, P_t3, P_t4, P_t5, P_t6, P_t7, P_t8, P_t9, P_t10, P_t11, P_t12, P_t13, P_x0, P_x1, N_get_0, N_get_1, N_get_2, N_get_3, N_get_4, N_get_5, N_get_6, N_get_7, N_get_9, N_get_10, N_sm_5, N_sm_6, N_sm_9, N_sm_10, T_sm_9, T_sm_10, N_set_6, T_set_6, N_sw_0, N_sw_1, N_co_0, X_set, cI_n (m60 i hi0 hi1) P_o h1', cI_n (m60 j hj0 hj1) P_o h1', cI_n (m42 hV h0 h6) P_o h1', sR_1, Nat.reduceEqDiff, ↓reduceIte]
  exact hQ
theorem m65i (i j : Int) (h : i < σ.2 1 ∨ σ.2 0 ≤ i) : Runs xs 65 [vr 1, vi i, vi j] μ (PP f sc T τ σ) (.inr 2) (bump μ) (PP f sc T τ σ) := Runs.iff fun Q hQ => by
  show Wp xs 65 0 [vr 1, vi i, vi j] [] μ (PP f sc T τ σ) Q
  simp (disch := first | omega | rfl) only [e65_0, e65_1, e65_2, e65_5, e65_6, e65_7, e65_10, e65_11, e65_14, e65_15, e65_18, e65_21, e65_22, e65_23, e65_26, e65_27, e65_30, e65_33, e65_34, e65_35, e65_38, e65_39, e65_42, e65_45, e65_46, e65_49, WpV_some, WpH_some, ↓ite_t, ↓ite_f, cI_e (m60e i h) P_o h1']
  rw [WpK_up (by decide) (by decide)]
  exact hQ
theorem m65j (i j : Int) (hi0 : σ.2 1 ≤ i) (hi1 : i < σ.2 0) (h : j < σ.2 1 ∨ σ.2 0 ≤ j) : Runs xs 65 [vr 1, vi i, vi j] μ (PP f sc T τ σ) (.inr 2) (bump μ) (PP f sc T τ σ) := Runs.iff fun Q hQ => by
  show Wp xs 65 0 [vr 1, vi i, vi j] [] μ (PP f sc T τ σ) Q
  simp (disch := first | omega | rfl) only [e65_0, e65_1, e65_2, e65_5, e65_6, e65_7, e65_10, e65_11, e65_14, e65_15, e65_18, e65_21, e65_22, e65_23, e65_26, e65_27, e65_30, e65_33, e65_34, e65_35, e65_38, e65_39, e65_42, e65_45, e65_46, e65_49, WpV_some, WpH_some, ↓ite_t, ↓ite_f, cI_n (m60 i hi0 hi1) P_o h1', cI_e (m60e j h) P_o h1']
  rw [WpK_up (by decide) (by decide)]
  exact hQ
theorem fin_s (rule : Int) : ∀ (d : Nat) (σ : SG), fin σ rule (d + 1) = dnx (fin σ rule d) rule := by
  intro d
  induction d with
  | zero => intro σ; rfl
  | succ d ih => intro σ; show fin (dnx σ rule) rule (d + 1) = _; rw [ih]; rfl
theorem go_loop (n w : Int) (hn : n ≤ 1000) : ∀ (d i : Nat) (σ : SG), wfS σ → (i : Int) + d = n → (Wp xs 66 38 [vr 1, vi n, vi w, vi i] [] μ (PP f sc T τ σ) Q = Q (.inl (some (vi (wrp (sm 0 ((fin σ 0 d).1 9) 0 8 - w))))) μ (PP f sc T τ (fin σ 0 d))) := by
  intro d
  induction d with
  | zero =>
    intro i σ hw hi
    simp (disch := first | omega | rfl) only [e66_0, e66_1, e66_2, e66_5, e66_6, e66_8, e66_11, e66_21, e66_22, e66_25, e66_26, e66_29, e66_32, e66_35, e66_36, e66_37, e66_38, e66_39, e66_40, e66_43, e66_44, e66_47, e66_48, e66_51, e66_54, e66_57, e66_58, e66_61, e66_64, e66_67, e66_68, e66_69, WpV_some, WpH_some, ↓ite_t, ↓ite_f, P_f0, P_f1, P_f2, P_f3, P_f4, P_n0, P_n1, P_n2, P_n3, P_n4, P_n5, P_n6, P_n7, P_n8, P_n9, P_n10, P_n11, P_n12, P_n13, P_t0, P_t1, P_t2, P_t3, P_t4, P_t5, P_t6, P_t7, P_t8, P_t9, P_t10, P_t11, P_t12, P_t13, P_x0, P_x1, N_get_0, N_get_1, N_get_2, N_get_3, N_get_4, N_get_5, N_get_6, N_get_7, N_get_9, N_get_10, N_sm_5, N_sm_6, N_sm_9, N_sm_10, T_sm_9, T_sm_10, N_set_6, T_set_6, N_sw_0, N_sw_1, N_co_0, X_set, fin]
  | succ d ih =>
    intro i σ hw hi
    have q := ih (i + 1) (dnx σ 0) (wf_dnx hw 0) (by omega)
    simp only [Int.natCast_add, Int.cast_ofNat_Int] at q
    rw [e66_38]
    simp (disch := first | omega | rfl) only [e66_0, e66_1, e66_2, e66_5, e66_6, e66_8, e66_11, e66_21, e66_22, e66_25, e66_26, e66_29, e66_32, e66_35, e66_36, e66_37, e66_39, e66_40, e66_43, e66_44, e66_47, e66_48, e66_51, e66_54, e66_57, e66_58, e66_61, e66_64, e66_67, e66_68, e66_69, WpV_some, WpH_some, ↓ite_t, ↓ite_f, P_f0, P_f1, P_f2, P_f3, P_f4, P_n0, P_n1, P_n2, P_n3, P_n4, P_n5, P_n6, P_n7, P_n8, P_n9, P_n10, P_n11, P_n12, P_n13, P_t0, P_t1, P_t2, P_t3, P_t4, P_t5, P_t6, P_t7, P_t8, P_t9, P_t10, P_t11, P_t12, P_t13, P_x0, P_x1, cI_n (Rn (m19 h2 hw 0)) P_on h2, wrp_id, q, fin]
theorem m66 (hw : wfS σ) (hV : wfV V) (h0 : 0 ≤ sc) (h6 : sc ≤ 6) (n : Int) (hn0 : 1 ≤ n) (hn1 : n ≤ 80) : Runs xs 66 [vr 1, vi n] μ (PP (putV f V) sc T τ σ) (.inl (some (vi (rdO (fin σ 0 n.toNat) σ)))) μ (PP (putV f (svV V sc σ)) (svC sc) T τ (fin σ 0 n.toNat)) := Runs.iff fun Q hQ => by
  show Wp xs 66 0 [vr 1, vi n, vu, vu] [] μ (PP (putV f V) sc T τ σ) Q
  have q := go_loop (xs := xs) (f := putV f (svV V sc σ)) (sc := svC sc) (T := T) (τ := τ) (μ := μ) (Q := Q) n (sm 0 (σ.1 9) 0 8) (by omega) n.toNat 0 σ hw (by omega)
  simp only [Int.cast_ofNat_Int] at q
  simp (disch := first | omega | rfl) only [e66_0, e66_1, e66_2, e66_5, e66_6, e66_8, e66_11, e66_21, e66_22, e66_25, e66_26, e66_29, e66_32, e66_35, e66_36, e66_37, e66_39, e66_40, e66_43, e66_44, e66_47, e66_48, e66_51, e66_54, e66_57, e66_58, e66_61, e66_64, e66_67, e66_68, e66_69, WpV_some, WpH_some, ↓ite_t, ↓ite_f, P_f0, P_f1, P_f2, P_f3, P_f4, P_n0, P_n1, P_n2, P_n3, P_n4, P_n5, P_n6, P_n7, P_n8, P_n9, P_n10, P_n11, P_n12, P_n13, P_t0, P_t1, P_t2, P_t3, P_t4, P_t5, P_t6, P_t7, P_t8, P_t9, P_t10, P_t11, P_t12, P_t13, P_x0, P_x1, N_get_0, N_get_1, N_get_2, N_get_3, N_get_4, N_get_5, N_get_6, N_get_7, N_get_9, N_get_10, N_sm_5, N_sm_6, N_sm_9, N_sm_10, T_sm_9, T_sm_10, N_set_6, T_set_6, N_sw_0, N_sw_1, N_co_0, X_set, cI_n (m42 hV h0 h6) P_o h1', q]
  exact hQ
theorem m66e (n : Int) (h : n < 1 ∨ 80 < n) : Runs xs 66 [vr 1, vi n] μ (PP f sc T τ σ) (.inr 0) (bump μ) (PP f sc T τ σ) := Runs.iff fun Q hQ => by
  show Wp xs 66 0 [vr 1, vi n, vu, vu] [] μ (PP f sc T τ σ) Q
  by_cases c : n < 1
  · simp (disch := first | omega | rfl) only [e66_0, e66_1, e66_2, e66_5, e66_6, e66_8, e66_11, e66_21, e66_22, e66_25, e66_26, e66_29, e66_32, e66_35, e66_36, e66_37, e66_39, e66_40, e66_43, e66_44, e66_47, e66_48, e66_51, e66_54, e66_57, e66_58, e66_61, e66_64, e66_67, e66_68, e66_69, WpV_some, WpH_some, ↓ite_t, ↓ite_f]
    exact hQ
  · simp (disch := first | omega | rfl) only [e66_0, e66_1, e66_2, e66_5, e66_6, e66_8, e66_11, e66_21, e66_22, e66_25, e66_26, e66_29, e66_32, e66_35, e66_36, e66_37, e66_39, e66_40, e66_43, e66_44, e66_47, e66_48, e66_51, e66_54, e66_57, e66_58, e66_61, e66_64, e66_67, e66_68, e66_69, WpV_some, WpH_some, ↓ite_t, ↓ite_f]
    exact hQ
def pnd (σ : SG) (p : Int) : SG := sR σ 6 (rs 8 (σ.1 6) p (if rg 8 (σ.1 6) p = 0 then 1 else 0))
theorem m67 (hw : wfS σ) (hV : wfV V) (h0 : 0 ≤ sc) (h6 : sc ≤ 6) (p : Int) (hp0 : 0 ≤ p) (hp1 : p < 8) (hc : rg 8 (σ.1 6) p = 0 → sm 0 (σ.1 6) 0 8 < σ.2 2 - 1) : Runs xs 67 [vr 1, vi p] μ (PP (putV f V) sc T τ σ) (.inl (some (vi (sm 0 ((pnd σ p).1 6) 0 8)))) μ (PP (putV f (svV V sc σ)) (svC sc) T τ (pnd σ p)) := Runs.iff fun Q hQ => by
  show Wp xs 67 0 [vr 1, vi p, vu] [] μ (PP (putV f V) sc T τ σ) Q
  unfold pnd at hQ
  by_cases c : rg 8 (σ.1 6) p = 0
  · rw [if_pos c] at hQ
    have hc := hc c
    simp (disch := first | omega | rfl) only [e67_0, e67_1, e67_4, e67_5, e67_8, e67_11, e67_12, e67_15, e67_18, e67_19, e67_22, e67_23, e67_24, e67_25, e67_28, e67_29, e67_32, e67_35, e67_38, e67_48, e67_49, e67_52, e67_53, e67_56, e67_59, e67_60, e67_61, e67_64, e67_65, e67_68, e67_69, e67_72, e67_73, e67_76, e67_79, WpV_some, WpH_some, ↓ite_t, ↓ite_f, P_f0, P_f1, P_f2, P_f3, P_f4, P_n0, P_n1, P_n2, P_n3, P_n4, P_n5, P_n6, P_n7, P_n8, P_n9, P_n10, P_n11, P_n12, P_n13, P_t0, P_t1, P_t2, P_t3, P_t4, P_t5, P_t6, P_t7, P_t8, P_t9, P_t10, P_t11, P_t12, P_t13, P_x0, P_x1, N_get_0, N_get_1, N_get_2, N_get_3, N_get_4, N_get_5, N_get_6, N_get_7, N_get_9, N_get_10, N_sm_5, N_sm_6, N_sm_9, N_sm_10, T_sm_9, T_sm_10, N_set_6, T_set_6, N_sw_0, N_sw_1, N_co_0, X_set, cC_n (m56 p hp0 hp1), cI_v (Rn (m23 h2 hw)) P_on h2, cI_n (m42 hV h0 h6) P_o h1', cI_v (Rn (m24 h2)) P_on h2, c, ne_eq, not_true_eq_false, ↓reduceIte]
    exact hQ
  · rw [if_neg c] at hQ
    simp (disch := first | omega | rfl) only [e67_0, e67_1, e67_4, e67_5, e67_8, e67_11, e67_12, e67_15, e67_18, e67_19, e67_22, e67_23, e67_24, e67_25, e67_28, e67_29, e67_32, e67_35, e67_38, e67_48, e67_49, e67_52, e67_53, e67_56, e67_59, e67_60, e67_61, e67_64, e67_65, e67_68, e67_69, e67_72, e67_73, e67_76, e67_79, WpV_some, WpH_some, ↓ite_t, ↓ite_f, P_f0, P_f1, P_f2, P_f3, P_f4, P_n0, P_n1, P_n2, P_n3, P_n4, P_n5, P_n6, P_n7, P_n8, P_n9, P_n10, P_n11, P_n12, P_n13, P_t0, P_t1, P_t2, P_t3, P_t4, P_t5, P_t6, P_t7, P_t8, P_t9, P_t10, P_t11, P_t12, P_t13, P_x0, P_x1, N_get_0, N_get_1, N_get_2, N_get_3, N_get_4, N_get_5, N_get_6, N_get_7, N_get_9, N_get_10, N_sm_5, N_sm_6, N_sm_9, N_sm_10, T_sm_9, T_sm_10, N_set_6, T_set_6, N_sw_0, N_sw_1, N_co_0, X_set, cC_n (m56 p hp0 hp1), cI_n (m42 hV h0 h6) P_o h1', cI_v (Rn (m24 h2)) P_on h2, c, ne_eq, not_false_eq_true, ↓reduceIte]
    exact hQ
theorem m67p (p : Int) (h : p < 0 ∨ 8 ≤ p) : Runs xs 67 [vr 1, vi p] μ (PP f sc T τ σ) (.inr 0) (bump μ) (PP f sc T τ σ) := Runs.iff fun Q hQ => by
  show Wp xs 67 0 [vr 1, vi p, vu] [] μ (PP f sc T τ σ) Q
  simp (disch := first | omega | rfl) only [e67_0, e67_1, e67_4, e67_5, e67_8, e67_11, e67_12, e67_15, e67_18, e67_19, e67_22, e67_23, e67_24, e67_25, e67_28, e67_29, e67_32, e67_35, e67_38, e67_48, e67_49, e67_52, e67_53, e67_56, e67_59, e67_60, e67_61, e67_64, e67_65, e67_68, e67_69, e67_72, e67_73, e67_76, e67_79, WpV_some, WpH_some, ↓ite_t, ↓ite_f, cC_e (m56e p h)]
  rw [WpK_up (by decide) (by decide)]
  exact hQ
theorem m67s (hw : wfS σ) (p : Int) (hp0 : 0 ≤ p) (hp1 : p < 8) (c : rg 8 (σ.1 6) p = 0) (hc : ¬ sm 0 (σ.1 6) 0 8 < σ.2 2 - 1) : Runs xs 67 [vr 1, vi p] μ (PP f sc T τ σ) (.inr 1) (bump μ) (PP f sc T τ σ) := Runs.iff fun Q hQ => by
  show Wp xs 67 0 [vr 1, vi p, vu] [] μ (PP f sc T τ σ) Q
  simp (disch := first | omega | rfl) only [e67_0, e67_1, e67_4, e67_5, e67_8, e67_11, e67_12, e67_15, e67_18, e67_19, e67_22, e67_23, e67_24, e67_25, e67_28, e67_29, e67_32, e67_35, e67_38, e67_48, e67_49, e67_52, e67_53, e67_56, e67_59, e67_60, e67_61, e67_64, e67_65, e67_68, e67_69, e67_72, e67_73, e67_76, e67_79, WpV_some, WpH_some, ↓ite_t, ↓ite_f, P_f0, P_f1, P_f2, P_f3, P_f4, P_n0, P_n1, P_n2, P_n3, P_n4, P_n5, P_n6, P_n7, P_n8, P_n9, P_n10, P_n11, P_n12, P_n13, P_t0, P_t1, P_t2, P_t3, P_t4, P_t5, P_t6, P_t7, P_t8, P_t9, P_t10, P_t11, P_t12, P_t13, P_x0, P_x1, N_get_0, N_get_1, N_get_2, N_get_3, N_get_4, N_get_5, N_get_6, N_get_7, N_get_9, N_get_10, N_sm_5, N_sm_6, N_sm_9, N_sm_10, T_sm_9, T_sm_10, N_set_6, T_set_6, N_sw_0, N_sw_1, N_co_0, X_set, cC_n (m56 p hp0 hp1), cI_v (Rn (m23 h2 hw)) P_on h2, c, ne_eq, not_true_eq_false, ↓reduceIte]
  exact hQ
/-- frames: pages taken out until n are left -/
def frl (n : Int) (σ : SG) (i : Nat) : Nat → SG × Int
  | 0 => (σ, (i : Int))
  | d + 1 => if 8 - co (σ.1 4) (-1) 0 8 ≤ n then (σ, (i : Int)) else frl n (tko σ (vb σ 0 (σ.2 1).toNat (-1) 0 0 8)) (i + 1) d
def frs (n : Int) (σ : SG) : SG × Int := ((fun q : SG × Int => (sS (if n < q.1.2 2 then mvd q.1 0 0 (q.1.2 2).toNat else q.1) 2 n, q.2)) (frl n σ 0 6))
theorem wf_tko {p : Int} (hw : wfS σ) : wfS (tko σ p) := by unfold wfS; rw [tko_2]; exact hw
theorem frl_loop (n : Int) : ∀ (d i : Nat) (σ : SG), wfS σ → i + d = 6 → (Wp xs 68 50 [vr 1, vi n, vi i] [] μ (PP f sc T τ σ) Q = Wp xs 68 95 [vr 1, vi n, vi (frl n σ i d).2] [] μ (PP f sc T τ (frl n σ i d).1) Q) := by
  intro d
  induction d with
  | zero =>
    intro i σ hw hi
    have hi : i = 6 := by omega
    subst hi
    simp (disch := first | omega | rfl) only [e68_50, e68_51, e68_53, WpV_some, WpH_some, ↓ite_t, ↓ite_f, frl]
  | succ d ih =>
    intro i σ hw hi
    have hw0 := hw
    obtain ⟨w1, w2, w3, w4, w5⟩ := hw0
    have q := ih (i + 1) (tko σ (vb σ 0 (σ.2 1).toNat (-1) 0 0 8)) (wf_tko hw) (by omega)
    simp only [Int.natCast_add, Int.cast_ofNat_Int] at q
    rw [e68_50]
    by_cases c : 8 - co (σ.1 4) (-1) 0 8 ≤ n
    · simp (disch := first | omega | rfl) only [e68_51, e68_53, e68_56, e68_57, e68_60, e68_63, e68_64, WpV_some, WpH_some, ↓ite_t, ↓ite_f, P_f0, P_f1, P_f2, P_f3, P_f4, P_n0, P_n1, P_n2, P_n3, P_n4, P_n5, P_n6, P_n7, P_n8, P_n9, P_n10, P_n11, P_n12, P_n13, P_t0, P_t1, P_t2, P_t3, P_t4, P_t5, P_t6, P_t7, P_t8, P_t9, P_t10, P_t11, P_t12, P_t13, P_x0, P_x1, cI_v (Rn (m26 h2)) P_on h2, frl, c, ↓reduceIte]
    · simp (disch := first | omega | rfl) only [e68_51, e68_53, e68_56, e68_57, e68_60, e68_63, e68_64, e68_67, e68_68, e68_71, e68_72, e68_75, e68_76, e68_77, e68_80, e68_83, e68_86, e68_89, e68_92, WpV_some, WpH_some, ↓ite_t, ↓ite_f, P_f0, P_f1, P_f2, P_f3, P_f4, P_n0, P_n1, P_n2, P_n3, P_n4, P_n5, P_n6, P_n7, P_n8, P_n9, P_n10, P_n11, P_n12, P_n13, P_t0, P_t1, P_t2, P_t3, P_t4, P_t5, P_t6, P_t7, P_t8, P_t9, P_t10, P_t11, P_t12, P_t13, P_x0, P_x1, cI_v (Rn (m26 h2)) P_on h2, cI_v (Rn (m17 h2 hw 0 (σ.2 1) (by omega) (by omega))) P_on h2, cI_n (Rn (m20 h2 _)) P_on h2, wrp_id, q, frl, c, ↓reduceIte]
theorem frl_2 (n : Int) : ∀ (d i : Nat) (σ : SG), (frl n σ i d).1.2 = σ.2 := by
  intro d
  induction d with
  | zero => intro i σ; rfl
  | succ d ih =>
    intro i σ
    unfold frl
    split
    · rfl
    · rw [ih, tko_2]
theorem m68 (hw : wfS σ) (hV : wfV V) (h0 : 0 ≤ sc) (h6 : sc ≤ 6) (n : Int) (hn0 : 1 ≤ n) (hn1 : n ≤ 6) (hp : sm 0 (σ.1 6) 0 8 ≤ n - 1) : Runs xs 68 [vr 1, vi n] μ (PP (putV f V) sc T τ σ) (.inl (some (vi (frs n σ).2))) μ (PP (putV f (svV V sc σ)) (svC sc) T τ (frs n σ).1) := Runs.iff fun Q hQ => by
  show Wp xs 68 0 [vr 1, vi n, vu] [] μ (PP (putV f V) sc T τ σ) Q
  have q := frl_loop (xs := xs) (f := putV f (svV V sc σ)) (sc := svC sc) (T := T) (τ := τ) (μ := μ) (Q := Q) n 6 0 σ hw (by omega)
  have e2 := frl_2 n 6 0 σ
  have hw2 : wfS (frl n σ 0 6).1 := by unfold wfS; rw [e2]; exact hw
  simp only [Int.cast_ofNat_Int] at q
  simp (disch := first | omega | rfl) only [e68_0, e68_1, e68_2, e68_5, e68_6, e68_8, e68_11, e68_21, e68_22, e68_25, e68_28, e68_29, e68_30, e68_31, e68_34, e68_44, e68_45, e68_48, e68_49, e68_51, e68_53, e68_56, e68_57, e68_60, e68_63, e68_64, e68_67, e68_68, e68_71, e68_72, e68_75, e68_76, e68_77, e68_80, e68_83, e68_86, e68_89, e68_92, e68_96, e68_97, e68_100, e68_103, e68_106, e68_107, e68_110, e68_113, e68_114, e68_117, e68_118, e68_121, e68_122, WpV_some, WpH_some, ↓ite_t, ↓ite_f, P_f0, P_f1, P_f2, P_f3, P_f4, P_n0, P_n1, P_n2, P_n3, P_n4, P_n5, P_n6, P_n7, P_n8, P_n9, P_n10, P_n11, P_n12, P_n13, P_t0, P_t1, P_t2, P_t3, P_t4, P_t5, P_t6, P_t7, P_t8, P_t9, P_t10, P_t11, P_t12, P_t13, P_x0, P_x1, cI_v (Rn (m24 h2)) P_on h2, cI_n (m42 hV h0 h6) P_o h1', wrp_id, q]
  unfold frs at hQ
  dsimp only at hQ
  generalize frl n σ 0 6 = r at hQ e2 hw2 ⊢
  by_cases c : n < r.1.2 2
  · rw [if_pos c] at hQ
    simp (disch := first | omega | rfl) only [e68_0, e68_1, e68_2, e68_5, e68_6, e68_8, e68_11, e68_21, e68_22, e68_25, e68_28, e68_29, e68_30, e68_31, e68_34, e68_44, e68_45, e68_48, e68_49, e68_51, e68_53, e68_56, e68_57, e68_60, e68_63, e68_64, e68_67, e68_68, e68_71, e68_72, e68_75, e68_76, e68_77, e68_80, e68_83, e68_86, e68_89, e68_92, e68_95, e68_96, e68_97, e68_100, e68_103, e68_106, e68_107, e68_110, e68_113, e68_114, e68_117, e68_118, e68_121, e68_122, WpV_some, WpH_some, ↓ite_t, ↓ite_f, P_f0, P_f1, P_f2, P_f3, P_f4, P_n0, P_n1, P_n2, P_n3, P_n4, P_n5, P_n6, P_n7, P_n8, P_n9, P_n10, P_n11, P_n12, P_n13, P_t0, P_t1, P_t2, P_t3, P_t4, P_t5, P_t6, P_t7, P_t8, P_t9, P_t10, P_t11, P_t12, P_t13, P_x0, P_x1, cI_n (Rn (m30 h2 hw2)) P_on h2, P_np2]
    exact hQ
  · rw [if_neg c] at hQ
    simp (disch := first | omega | rfl) only [e68_0, e68_1, e68_2, e68_5, e68_6, e68_8, e68_11, e68_21, e68_22, e68_25, e68_28, e68_29, e68_30, e68_31, e68_34, e68_44, e68_45, e68_48, e68_49, e68_51, e68_53, e68_56, e68_57, e68_60, e68_63, e68_64, e68_67, e68_68, e68_71, e68_72, e68_75, e68_76, e68_77, e68_80, e68_83, e68_86, e68_89, e68_92, e68_95, e68_96, e68_97, e68_100, e68_103, e68_106, e68_107, e68_110, e68_113, e68_114, e68_117, e68_118, e68_121, e68_122, WpV_some, WpH_some, ↓ite_t, ↓ite_f, P_f0, P_f1, P_f2, P_f3, P_f4, P_n0, P_n1, P_n2, P_n3, P_n4, P_n5, P_n6, P_n7, P_n8, P_n9, P_n10, P_n11, P_n12, P_n13, P_t0, P_t1, P_t2, P_t3, P_t4, P_t5, P_t6, P_t7, P_t8, P_t9, P_t10, P_t11, P_t12, P_t13, P_x0, P_x1, P_np2]
    exact hQ
theorem m68a (n : Int) (h : n < 1 ∨ 6 < n) : Runs xs 68 [vr 1, vi n] μ (PP f sc T τ σ) (.inr 0) (bump μ) (PP f sc T τ σ) := Runs.iff fun Q hQ => by
  show Wp xs 68 0 [vr 1, vi n, vu] [] μ (PP f sc T τ σ) Q
  by_cases c : n < 1
  · simp (disch := first | omega | rfl) only [e68_0, e68_1, e68_2, e68_5, e68_6, e68_8, e68_11, e68_21, e68_22, e68_25, e68_28, e68_29, e68_30, e68_31, e68_34, e68_44, e68_45, e68_48, e68_49, e68_51, e68_53, e68_56, e68_57, e68_60, e68_63, e68_64, e68_67, e68_68, e68_71, e68_72, e68_75, e68_76, e68_77, e68_80, e68_83, e68_86, e68_89, e68_92, e68_95, e68_96, e68_97, e68_100, e68_103, e68_106, e68_107, e68_110, e68_113, e68_114, e68_117, e68_118, e68_121, e68_122, WpV_some, WpH_some, ↓ite_t, ↓ite_f]
    exact hQ
  · simp (disch := first | omega | rfl) only [e68_0, e68_1, e68_2, e68_5, e68_6, e68_8, e68_11, e68_21, e68_22, e68_25, e68_28, e68_29, e68_30, e68_31, e68_34, e68_44, e68_45, e68_48, e68_49, e68_51, e68_53, e68_56, e68_57, e68_60, e68_63, e68_64, e68_67, e68_68, e68_71, e68_72, e68_75, e68_76, e68_77, e68_80, e68_83, e68_86, e68_89, e68_92, e68_95, e68_96, e68_97, e68_100, e68_103, e68_106, e68_107, e68_110, e68_113, e68_114, e68_117, e68_118, e68_121, e68_122, WpV_some, WpH_some, ↓ite_t, ↓ite_f]
    exact hQ
theorem m68s (n : Int) (hn0 : 1 ≤ n) (hn1 : n ≤ 6) (hp : n - 1 < sm 0 (σ.1 6) 0 8) : Runs xs 68 [vr 1, vi n] μ (PP f sc T τ σ) (.inr 1) (bump μ) (PP f sc T τ σ) := Runs.iff fun Q hQ => by
  show Wp xs 68 0 [vr 1, vi n, vu] [] μ (PP f sc T τ σ) Q
  simp (disch := first | omega | rfl) only [e68_0, e68_1, e68_2, e68_5, e68_6, e68_8, e68_11, e68_21, e68_22, e68_25, e68_28, e68_29, e68_30, e68_31, e68_34, e68_44, e68_45, e68_48, e68_49, e68_51, e68_53, e68_56, e68_57, e68_60, e68_63, e68_64, e68_67, e68_68, e68_71, e68_72, e68_75, e68_76, e68_77, e68_80, e68_83, e68_86, e68_89, e68_92, e68_95, e68_96, e68_97, e68_100, e68_103, e68_106, e68_107, e68_110, e68_113, e68_114, e68_117, e68_118, e68_121, e68_122, WpV_some, WpH_some, ↓ite_t, ↓ite_f, P_f0, P_f1, P_f2, P_f3, P_f4, P_n0, P_n1, P_n2, P_n3, P_n4, P_n5, P_n6, P_n7, P_n8, P_n9, P_n10, P_n11, P_n12, P_n13, P_t0, P_t1, P_t2, P_t3, P_t4, P_t5, P_t6, P_t7, P_t8, P_t9, P_t10, P_t11, P_t12, P_t13, P_x0, P_x1, cI_v (Rn (m24 h2)) P_on h2, wrp_id]
  exact hQ
def apd (T : TG) (c : Int) : TG := (rs 40 T.1 T.2 c, T.2 + 1)
theorem m69 (hT : wfT T) (c : Int) (h0 : 33 ≤ c) (h1 : c ≤ 126) (hl : T.2 < 40) : Runs xs 69 [vr 1, vi c] μ (PP f sc T τ σ) (.inl (some (vi (T.2 + 1)))) μ (PP f sc (apd T c) τ σ) := Runs.iff fun Q hQ => by
  show Wp xs 69 0 [vr 1, vi c] [] μ (PP f sc T τ σ) Q
  obtain ⟨t1, t2, t3⟩ := hT
  simp (disch := first | omega | rfl) only [e69_0, e69_1, e69_3, e69_6, e69_7, e69_9, e69_12, e69_22, e69_23, e69_26, e69_29, e69_31, e69_34, e69_44, e69_45, e69_48, e69_51, e69_52, e69_55, e69_58, e69_59, e69_62, e69_63, e69_66, e69_67, e69_70, e69_71, e69_72, e69_75, e69_76, e69_79, e69_82, WpV_some, WpH_some, ↓ite_t, ↓ite_f, P_f0, P_f1, P_f2, P_f3, P_f4, P_n0, P_n1, P_n2, P_n3, P_n4, P_n5, P_n6, P_n7, P_n8, P_n9, P_n10, P_n11, P_n12, P_n13, P_t0, P_t1, P_t2, P_t3, P_t4, P_t5, P_t6, P_t7, P_t8, P_t9, P_t10, P_t11, P_t12, P_t13, P_x0, P_x1, N_get_0, N_get_1, N_get_2, N_get_3, N_get_4, N_get_5, N_get_6, N_get_7, N_get_9, N_get_10, N_sm_5, N_sm_6, N_sm_9, N_sm_10, T_sm_9, T_sm_10, N_set_6, T_set_6, N_sw_0, N_sw_1, N_co_0, X_set, P_xp, wrp_id]
  exact hQ
theorem m69a (c : Int) (h : c < 33 ∨ 126 < c) : Runs xs 69 [vr 1, vi c] μ (PP f sc T τ σ) (.inr 0) (bump μ) (PP f sc T τ σ) := Runs.iff fun Q hQ => by
  show Wp xs 69 0 [vr 1, vi c] [] μ (PP f sc T τ σ) Q
  by_cases c1 : c < 33
  · simp (disch := first | omega | rfl) only [e69_0, e69_1, e69_3, e69_6, e69_7, e69_9, e69_12, e69_22, e69_23, e69_26, e69_29, e69_31, e69_34, e69_44, e69_45, e69_48, e69_51, e69_52, e69_55, e69_58, e69_59, e69_62, e69_63, e69_66, e69_67, e69_70, e69_71, e69_72, e69_75, e69_76, e69_79, e69_82, WpV_some, WpH_some, ↓ite_t, ↓ite_f]
    exact hQ
  · simp (disch := first | omega | rfl) only [e69_0, e69_1, e69_3, e69_6, e69_7, e69_9, e69_12, e69_22, e69_23, e69_26, e69_29, e69_31, e69_34, e69_44, e69_45, e69_48, e69_51, e69_52, e69_55, e69_58, e69_59, e69_62, e69_63, e69_66, e69_67, e69_70, e69_71, e69_72, e69_75, e69_76, e69_79, e69_82, WpV_some, WpH_some, ↓ite_t, ↓ite_f]
    exact hQ
theorem m69s (c : Int) (h0 : 33 ≤ c) (h1 : c ≤ 126) (hl : 40 ≤ T.2) : Runs xs 69 [vr 1, vi c] μ (PP f sc T τ σ) (.inr 1) (bump μ) (PP f sc T τ σ) := Runs.iff fun Q hQ => by
  show Wp xs 69 0 [vr 1, vi c] [] μ (PP f sc T τ σ) Q
  simp (disch := first | omega | rfl) only [e69_0, e69_1, e69_3, e69_6, e69_7, e69_9, e69_12, e69_22, e69_23, e69_26, e69_29, e69_31, e69_34, e69_44, e69_45, e69_48, e69_51, e69_52, e69_55, e69_58, e69_59, e69_62, e69_63, e69_66, e69_67, e69_70, e69_71, e69_72, e69_75, e69_76, e69_79, e69_82, WpV_some, WpH_some, ↓ite_t, ↓ite_f, P_f0, P_f1, P_f2, P_f3, P_f4, P_n0, P_n1, P_n2, P_n3, P_n4, P_n5, P_n6, P_n7, P_n8, P_n9, P_n10, P_n11, P_n12, P_n13, P_t0, P_t1, P_t2, P_t3, P_t4, P_t5, P_t6, P_t7, P_t8, P_t9, P_t10, P_t11, P_t12, P_t13, P_x0, P_x1]
  exact hQ
end CQ
