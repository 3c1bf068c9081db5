/-! THE LAW'S victim AND done -/
theorem lw_1 (s : SG) : (lw s).1 = lF s := rfl
theorem lw_2 (s : SG) : (lw s).2.1 = lR s := rfl
theorem lw_3 (s : SG) : (lw s).2.2 = lT s := rfl
theorem lT_0 (s : SG) : lT s 0 = s.2 2 := rfl
theorem lT_1 (s : SG) : lT s 1 = s.2 1 := rfl
theorem lT_2 (s : SG) : lT s 2 = co (s.1 2) 0 0 (s.2 1).toNat := rfl
theorem cn_0 (sc : Int) (σ : SG) : cnt sc σ 0 = σ.2 0 := rfl
theorem cn_1 (sc : Int) (σ : SG) : cnt sc σ 1 = σ.2 1 := rfl
theorem cn_2 (sc : Int) (σ : SG) : cnt sc σ 2 = σ.2 2 := rfl
theorem cn_3 (sc : Int) (σ : SG) : cnt sc σ 3 = 8 - co (σ.1 4) (-1) 0 8 := rfl
theorem cn_4 (sc : Int) (σ : SG) : cnt sc σ 4 = sm 0 (σ.1 6) 0 8 := rfl
theorem cn_5 (sc : Int) (σ : SG) : cnt sc σ 5 = co (σ.1 2) 0 0 (σ.2 1).toNat := rfl
theorem cn_6 (sc : Int) (σ : SG) : cnt sc σ 6 = sm 0 (σ.1 9) 0 8 := rfl
theorem cn_7 (sc : Int) (σ : SG) : cnt sc σ 7 = sm 0 (σ.1 10) 0 8 := rfl
theorem cn_8 (sc : Int) (σ : SG) : cnt sc σ 8 = sm 0 (σ.1 5) 0 8 := rfl
theorem tnA (p : Nat) : (8 * (1 + 3) + (p : Int)).toNat = 32 + p := by omega
theorem tnB (p : Nat) : (8 * (2 + 3) + (p : Int)).toNat = 40 + p := by omega
theorem nxu_ext {s σ : SG} (e0 : σ.1 0 = s.1 0) (en : σ.2 0 = s.2 0) (p : Int) (i : Nat) : nxu σ p i = nxu s p i := by unfold nxu; rw [e0, en]
section LV
variable {xs : List Int} {f : AH} {a : Nat} {X : LG} {sc : Int} {T : TG} {τ σ s : SG} {μ : Mu} {y pc : Nat} {L st : List AV} {Q : Out → Mu → AH → Prop}
theorem vw_age (h : ks s) (hw : wfS σ) (e0 : σ.1 0 = s.1 0) (en : σ.2 0 = s.2 0) (ha : 190 ≤ a) {rule : Int} (hr : rule = 0 ∨ rule = 1 ∨ rule = 2) {i d : Nat} (hi : i ≤ 1000) (hd : d < 8) (best most : Int) (l9 l10 : AV) : Wp xs 78 15 [vr 1, vr a, vr (a + 1), vr (a + 2), vi rule, vi i, vi best, vi most, vi d, l9, l10] [] μ (PP (putL f a (lw s)) sc T τ σ) Q = Wp xs 78 44 [vr 1, vr a, vr (a + 1), vr (a + 2), vi rule, vi i, vi best, vi most, vi d, l9, l10] [vi (age s rule i d)] μ (PP (putL f a (lw s)) sc T τ σ) Q := by
  unfold age
  rw [rg_n _ hd, rg_n _ hd]
  have hL := h.L d hd
  rcases hr with rfl | rfl | rfl
  · simp (disch := first | omega | rfl) only [e78_15, e78_17, e78_20, e78_21, e78_23, e78_25, e78_28, WpV_some, WpH_some, ↓ite_t, ↓ite_f, cC_v (m77 hw (d : Int) i hi), nxu_ext e0 en, ne_eq, not_true_eq_false, ↓reduceIte]
  · have c : (1 : Int) ≠ 0 := by decide
    simp (disch := first | omega | rfl) only [e78_15, e78_17, e78_31, e78_32, e78_34, e78_36, e78_37, e78_38, e78_39, e78_41, e78_42, e78_43, WpV_some, WpH_some, ↓ite_t, ↓ite_f, L_g1 ha, wrp_id, tnA, lw_2, lR_7, c, ↓reduceIte]
  · have c : (2 : Int) ≠ 0 := by decide
    simp (disch := first | omega | rfl) only [e78_15, e78_17, e78_31, e78_32, e78_34, e78_36, e78_37, e78_38, e78_39, e78_41, e78_42, e78_43, WpV_some, WpH_some, ↓ite_t, ↓ite_f, L_g1 ha, wrp_id, tnB, lw_2, lR_8, c, (by decide : ¬ (2 : Int) = 1), ↓reduceIte]
theorem vw_loop (h : ks s) (hw : wfS σ) (e0 : σ.1 0 = s.1 0) (en : σ.2 0 = s.2 0) (ha : 190 ≤ a) {rule : Int} (hr : rule = 0 ∨ rule = 1 ∨ rule = 2) {i : Nat} (hi : i ≤ 1000) : ∀ (d : Nat) (best most : Int) (l9 l10 : AV), d ≤ 8 → (Wp xs 78 10 [vr 1, vr a, vr (a + 1), vr (a + 2), vi rule, vi i, vi best, vi most, vi ((d : Int) - 1), l9, l10] [] μ (PP (putL f a (lw s)) sc T τ σ) Q = Q (.inl (some (vi (vlw s rule i best most d)))) μ (PP (putL f a (lw s)) sc T τ σ)) := by
  intro d
  induction d with
  | zero =>
    intro best most l9 l10 hd
    simp (disch := first | omega | rfl) only [e78_10, e78_12, e78_119, e78_121, WpV_some, WpH_some, ↓ite_t, ↓ite_f, vlw]
  | succ d ih =>
    intro best most l9 l10 hd
    have hd8 : d < 8 := by omega
    have e : ((d + 1 : Nat) : Int) - 1 = d := by omega
    have e2 : wrp ((d : Int) + -1) = (d : Int) - 1 := by rw [wrp_id (by omega) (by omega)]; omega
    have k := vw_age (xs := xs) (f := f) (sc := sc) (T := T) (τ := τ) (μ := μ) (Q := Q) h hw e0 en ha hr hi hd8 best most l9 l10
    have q1 := ih d (age s rule i d) (vi (age s rule i d)) (vi 1) (by omega)
    have q0 := ih best most (vi (age s rule i d)) (vi 0) (by omega)
    have fr := cC_v (m76s (xs := xs) (f := f) (sc := sc) (T := T) (τ := τ) (σ := σ) (μ := μ) h ha hd8)
    rw [e, e78_10, e78_12, if_neg (by omega), k]
    have no : ¬ ((0 ≤ s.1 4 d ∧ s.1 6 d = 0) ∧ (best < 0 ∨ most ≤ age s rule i d)) → vlw s rule i best most (d + 1) = vlw s rule i best most d := fun x => by rw [vlw, if_neg x]
    have ye : ((0 ≤ s.1 4 d ∧ s.1 6 d = 0) ∧ (best < 0 ∨ most ≤ age s rule i d)) → vlw s rule i best most (d + 1) = vlw s rule i d (age s rule i d) d := fun x => by rw [vlw, if_pos x]
    by_cases c1 : s.1 4 d < 0
    · rw [no fun x => by omega]
      simp (disch := first | omega | rfl) only [e78_0, e78_1, e78_3, e78_4, e78_6, e78_8, e78_17, e78_20, e78_21, e78_23, e78_25, e78_28, e78_31, e78_32, e78_34, e78_36, e78_37, e78_38, e78_39, e78_41, e78_42, e78_43, e78_44, e78_46, e78_47, e78_48, e78_50, e78_53, e78_56, e78_57, e78_59, e78_61, e78_62, e78_63, e78_66, e78_68, e78_71, e78_73, e78_75, e78_78, e78_79, e78_82, e78_83, e78_85, e78_87, e78_90, e78_92, e78_95, e78_97, e78_99, e78_101, e78_104, e78_106, e78_109, e78_111, e78_113, e78_116, e78_119, e78_121, WpV_some, WpH_some, ↓ite_t, ↓ite_f, fr, e2, c1, ne_eq, not_true_eq_false, ↓reduceIte]
      exact q0
    · by_cases c2 : s.1 6 d = 0
      · have c2' : ¬ (s.1 6 d ≠ 0) := fun x => x c2
        have one : (1 : Int) ≠ 0 := by decide
        by_cases c3 : best < 0
        · rw [ye ⟨⟨by omega, c2⟩, Or.inl c3⟩]
          simp (disch := first | omega | rfl) only [e78_0, e78_1, e78_3, e78_4, e78_6, e78_8, e78_17, e78_20, e78_21, e78_23, e78_25, e78_28, e78_31, e78_32, e78_34, e78_36, e78_37, e78_38, e78_39, e78_41, e78_42, e78_43, e78_44, e78_46, e78_47, e78_48, e78_50, e78_53, e78_56, e78_57, e78_59, e78_61, e78_62, e78_63, e78_66, e78_68, e78_71, e78_73, e78_75, e78_78, e78_79, e78_82, e78_83, e78_85, e78_87, e78_90, e78_92, e78_95, e78_97, e78_99, e78_101, e78_104, e78_106, e78_109, e78_111, e78_113, e78_116, e78_119, e78_121, WpV_some, WpH_some, ↓ite_t, ↓ite_f, fr, e2, c1, c2', c3, L_g1 ha, wrp_id, tn8, lw_2, lR_6, ne_eq, Int.reduceEq, not_true_eq_false, ↓reduceIte]
          exact q1
        · by_cases c4 : age s rule i d < most
          · rw [no fun x => by omega]
            simp (disch := first | omega | rfl) only [e78_0, e78_1, e78_3, e78_4, e78_6, e78_8, e78_17, e78_20, e78_21, e78_23, e78_25, e78_28, e78_31, e78_32, e78_34, e78_36, e78_37, e78_38, e78_39, e78_41, e78_42, e78_43, e78_44, e78_46, e78_47, e78_48, e78_50, e78_53, e78_56, e78_57, e78_59, e78_61, e78_62, e78_63, e78_66, e78_68, e78_71, e78_73, e78_75, e78_78, e78_79, e78_82, e78_83, e78_85, e78_87, e78_90, e78_92, e78_95, e78_97, e78_99, e78_101, e78_104, e78_106, e78_109, e78_111, e78_113, e78_116, e78_119, e78_121, WpV_some, WpH_some, ↓ite_t, ↓ite_f, fr, e2, c1, c2', c3, c4, L_g1 ha, wrp_id, tn8, lw_2, lR_6, ne_eq, not_true_eq_false, ↓reduceIte]
            exact q0
          · rw [ye ⟨⟨by omega, c2⟩, Or.inr (by omega)⟩]
            simp (disch := first | omega | rfl) only [e78_0, e78_1, e78_3, e78_4, e78_6, e78_8, e78_17, e78_20, e78_21, e78_23, e78_25, e78_28, e78_31, e78_32, e78_34, e78_36, e78_37, e78_38, e78_39, e78_41, e78_42, e78_43, e78_44, e78_46, e78_47, e78_48, e78_50, e78_53, e78_56, e78_57, e78_59, e78_61, e78_62, e78_63, e78_66, e78_68, e78_71, e78_73, e78_75, e78_78, e78_79, e78_82, e78_83, e78_85, e78_87, e78_90, e78_92, e78_95, e78_97, e78_99, e78_101, e78_104, e78_106, e78_109, e78_111, e78_113, e78_116, e78_119, e78_121, WpV_some, WpH_some, ↓ite_t, ↓ite_f, fr, e2, c1, c2', c3, c4, L_g1 ha, wrp_id, tn8, lw_2, lR_6, ne_eq, Int.reduceEq, not_true_eq_false, ↓reduceIte]
            exact q1
      · rw [no fun x => c2 x.1.2]
        have c2' : s.1 6 d ≠ 0 := c2
        simp (disch := first | omega | rfl) only [e78_0, e78_1, e78_3, e78_4, e78_6, e78_8, e78_17, e78_20, e78_21, e78_23, e78_25, e78_28, e78_31, e78_32, e78_34, e78_36, e78_37, e78_38, e78_39, e78_41, e78_42, e78_43, e78_44, e78_46, e78_47, e78_48, e78_50, e78_53, e78_56, e78_57, e78_59, e78_61, e78_62, e78_63, e78_66, e78_68, e78_71, e78_73, e78_75, e78_78, e78_79, e78_82, e78_83, e78_85, e78_87, e78_90, e78_92, e78_95, e78_97, e78_99, e78_101, e78_104, e78_106, e78_109, e78_111, e78_113, e78_116, e78_119, e78_121, WpV_some, WpH_some, ↓ite_t, ↓ite_f, fr, e2, c1, c2', L_g1 ha, wrp_id, tn8, lw_2, lR_6, ne_eq, not_true_eq_false, ↓reduceIte]
        exact q0
theorem m78 (h : ks s) (hw : wfS σ) (e0 : σ.1 0 = s.1 0) (en : σ.2 0 = s.2 0) (ha : 190 ≤ a) {rule : Int} (hr : rule = 0 ∨ rule = 1 ∨ rule = 2) {i : Nat} (hi : i ≤ 1000) : Runs xs 78 [vr 1, vr a, vr (a + 1), vr (a + 2), vi rule, vi i] μ (PP (putL f a (lw s)) sc T τ σ) (.inl (some (vi (vb s rule i (-1) 0 0 8)))) μ (PP (putL f a (lw s)) sc T τ σ) := Runs.iff fun Q hQ => by
  show Wp xs 78 0 [vr 1, vr a, vr (a + 1), vr (a + 2), vi rule, vi i, vu, vu, vu, vu, vu] [] μ (PP (putL f a (lw s)) sc T τ σ) Q
  have q := vw_loop (xs := xs) (f := f) (sc := sc) (T := T) (τ := τ) (μ := μ) (Q := Q) h hw e0 en ha hr hi 8 (-1) 0 vu vu (Nat.le_refl _)
  rw [vlw_vb h, show ((8 : Nat) : Int) - 1 = 7 by decide] at q
  simp (disch := first | omega | rfl) only [e78_0, e78_1, e78_3, e78_4, e78_6, e78_8, WpV_some, WpH_some, ↓ite_t, ↓ite_f]
  exact q ▸ hQ
end LV
