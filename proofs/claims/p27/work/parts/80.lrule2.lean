/-! THE LAW'S rule: what it compares -/
theorem by_0 (τ σ : SG) : byr τ σ 0 = rdO τ σ := rfl
theorem by_1 (τ σ : SG) : byr τ σ 1 = wbO τ σ := rfl
theorem by_2 (τ σ : SG) : byr τ σ 2 = frd (τ.1 2) (σ.2 1).toNat ((τ.2 1).toNat - (σ.2 1).toNat) := rfl
theorem frd_r (g : Nat → Int) : ∀ (d i : Nat), frd g i d = -1 ∨ 0 ≤ frd g i d := by
  intro d
  induction d with
  | zero => intro i; exact Or.inl rfl
  | succ d ih =>
    intro i
    unfold frd
    split
    · exact ih _
    · exact Or.inr (by omega)
theorem frd_snoc (g : Nat → Int) : ∀ (d i : Nat), frd g i (d + 1) = if frd g i d = -1 then (if g (i + d) = 0 then -1 else ((i + d : Nat) : Int)) else frd g i d := by
  intro d
  induction d with
  | zero => intro i; simp [frd]
  | succ d ih =>
    intro i
    rw [frd]
    by_cases c : g i = 0
    · rw [if_pos c, ih (i + 1)]
      have e : frd g i (d + 1) = frd g (i + 1) d := by rw [frd, if_pos c]
      rw [e, show i + 1 + d = i + (d + 1) by omega]
    · rw [if_neg c]
      have e : frd g i (d + 1) = i := by rw [frd, if_neg c]
      rw [e, if_neg (by omega)]
theorem frd_ext {g g' : Nat → Int} : ∀ (d i : Nat), (∀ j, i ≤ j → j < i + d → g j = g' j) → frd g i d = frd g' i d := by
  intro d
  induction d with
  | zero => intro i h; rfl
  | succ d ih =>
    intro i h
    unfold frd
    rw [h i (Nat.le_refl _) (by omega), ih (i + 1) (fun j h1 h2 => h j (by omega) (by omega))]
theorem fin_21 (rule : Int) : ∀ (d : Nat) (s : SG), ks s → s.2 1 + d ≤ s.2 0 → (fin s rule d).2 1 = s.2 1 + d ∧ (fin s rule d).2 0 = s.2 0 := by
  intro d
  induction d with
  | zero => intro s h hd; exact ⟨by show s.2 1 = s.2 1 + 0; omega, rfl⟩
  | succ d ih =>
    intro s h hd
    have d21 := dnx_21 h.wf (by omega) rule
    have d20 := dnx_2o (σ := s) rule (j := 0) (by decide)
    have := ih (dnx s rule) (h.dnxK rule) (by omega)
    show (fin (dnx s rule) rule d).2 1 = _ ∧ (fin (dnx s rule) rule d).2 0 = _
    exact ⟨by omega, by omega⟩
theorem frst_q (rule : Int) : ∀ (d : Nat) (s : SG) (i0 k : Nat) (first : Int), ks s → s.2 1 + d ≤ s.2 0 → s.2 1 = ((i0 + k : Nat) : Int) → first = frd (s.1 2) i0 k → frst s rule first d = frd ((fin s rule d).1 2) i0 (k + d) := by
  intro d
  induction d with
  | zero => intro s i0 k first h hd hk e; exact e
  | succ d ih =>
    intro s i0 k first h hd hk e
    have hds : s.2 1 < s.2 0 := by omega
    obtain ⟨⟨t0, t1⟩, -, -, why, hw, hy⟩ := dnx_cnt h hds rule
    have d21 := dnx_21 h.wf hds rule
    have d20 := dnx_2o (σ := s) rule (j := 0) (by decide)
    show frst (dnx s rule) rule (if 0 < tdl s rule ∧ first < 0 then s.2 1 else first) d = frd ((fin (dnx s rule) rule d).1 2) i0 (k + (d + 1))
    rw [show k + (d + 1) = (k + 1) + d by omega]
    refine ih (dnx s rule) i0 (k + 1) _ (h.dnxK rule) (by omega) (by omega) ?_
    have hA : (s.2 1).toNat = i0 + k := by omega
    rw [frd_snoc, hw, hA, frd_ext (g' := s.1 2) k i0 (fun j h1 h2 => fu_n _ _ (by omega)), ← e, fu_s]
    have r := frd_r (s.1 2) k i0
    rw [← e] at r
    by_cases c : first = -1
    · rw [if_pos c]
      by_cases c2 : why = 0
      · have c3 := hy.mp c2
        rw [if_pos c2, if_neg (by omega), c]
      · have c3 : tdl s rule ≠ 0 := fun x => c2 (hy.mpr x)
        rw [if_neg c2, if_pos ⟨by omega, by omega⟩, hk]
    · rw [if_neg c, if_neg (by omega)]
section LRV
variable {xs : List Int} {f : AH} {a c : Nat} {X Y : LG} {sc : Int} {T : TG} {τ σ s : SG} {μ : Mu} {y pc : Nat} {L st : List AV} {Q : Out → Mu → AH → Prop}
theorem ks.s9 (h : ks σ) : sm 0 (σ.1 9) 0 8 = sm8 (σ.1 9) ∧ 0 ≤ sm8 (σ.1 9) ∧ sm8 (σ.1 9) ≤ 640 := by
  obtain ⟨w1, w2, w3, w4, w5⟩ := h.wf
  have k : ∀ p, p < 8 → 0 ≤ σ.1 9 p ∧ σ.1 9 p ≤ 80 := fun p hp => by have := h.N p hp; omega
  have e := sm8_r k
  exact ⟨sm_8 fun p hp => by have := k p hp; omega, e.1, by omega⟩
theorem ks.s10 (h : ks σ) : sm 0 (σ.1 10) 0 8 = sm8 (σ.1 10) ∧ 0 ≤ sm8 (σ.1 10) ∧ sm8 (σ.1 10) ≤ 640 := by
  obtain ⟨w1, w2, w3, w4, w5⟩ := h.wf
  have k : ∀ p, p < 8 → 0 ≤ σ.1 10 p ∧ σ.1 10 p ≤ 80 := fun p hp => by
    have := h.N p hp
    have := h.ch p hp
    omega
  have e := sm8_r k
  exact ⟨sm_8 fun p hp => by have := k p hp; omega, e.1, by omega⟩
theorem rdO_q (h : ks σ) (h2 : ks s) : rdO s σ = sm8 (s.1 9) - sm8 (σ.1 9) := by
  have e1 := h.s9
  have e2 := h2.s9
  unfold rdO
  rw [e1.1, e2.1, wrp_id (by omega) (by omega)]
theorem wbO_q (h : ks σ) (h2 : ks s) : wbO s σ = sm8 (s.1 10) - sm8 (σ.1 10) := by
  have e1 := h.s10
  have e2 := h2.s10
  unfold wbO
  rw [e1.1, e2.1, wrp_id (by omega) (by omega)]
theorem m81 (h : ks σ) (ha : 190 ≤ a) (hac : a + 3 ≤ μ.1 + 1) {rule : Int} (hr : rule = 0 ∨ rule = 1 ∨ rule = 2) : Runs xs 81 [vr 1, vr a, vr (a + 1), vr (a + 2), vi rule] μ (PP (putL f a (lw σ)) sc T τ σ) (.inl (some (vi 1))) (μ.1 + 3, (μ.2.1 + 3, μ.2.2 + 57)) (PP (putL (putL f (μ.1 + 1) (lw (fn σ rule))) a (lw σ)) sc T (fn σ 0) σ) := Runs.iff fun Q hQ => by
  show Wp xs 81 0 [vr 1, vr a, vr (a + 1), vr (a + 2), vi rule, vu, vu, vu, vu, vu, vu, vu, vu] [] μ (PP (putL f a (lw σ)) sc T τ σ) Q
  obtain ⟨w1, w2, w3, w4, w5⟩ := id h.wf
  rw [putL_comm _ _ _ (by omega)] at hQ
  generalize hc : μ.1 + 1 = c at hac hQ
  rw [ru_new ha hc.symm hac]
  have kc := ru_copy (xs := xs) (f := f) (X := lw σ) (sc := sc) (T := T) (τ := τ) (σ := σ) (μ := (μ.1 + 3, (μ.2.1 + 3, μ.2.2 + 57))) (Q := Q) ha hac rule 48 0 rfl
  have ez : cpL (lw σ) 0 = z0L := by
    unfold cpL z0L
    simp only [Nat.not_lt_zero, ↓reduceIte]
  rw [ez] at kc
  have kc : Wp xs 81 20 [vr 1, vr a, vr (a + 1), vr (a + 2), vi rule, vr c, vr (c + 1), vr (c + 2), vi 0, vu, vu, vu, vu] [] (μ.1 + 3, (μ.2.1 + 3, μ.2.2 + 57)) (PP (putL (putL f a (lw σ)) c z0L) sc T τ σ) Q = _ := kc
  rw [kc]
  simp (disch := first | omega | rfl) only [e81_70, e81_71, e81_73, e81_74, e81_76, e81_77, WpV_some, WpH_some, ↓ite_t, ↓ite_f]
  obtain ⟨d, hd⟩ : ∃ d : Nat, d = (σ.2 0 - σ.2 1).toNat := ⟨_, rfl⟩
  have hfn : ∀ r, fn σ r = fin σ r d := fun r => by unfold fn; rw [hd]
  refine ru_loop ha hac h.wf hr d σ 0 (-1) 0 vu vu h rfl rfl rfl (by omega) (by omega) (by omega) (by omega) (by omega) (fun l11 l12 => ?_)

  have hK := ks.finK rule d σ h
  have hK0 := ks.finK 0 d σ h
  have f21 := fin_21 rule d σ h (by omega)
  have fq := frst_q rule d σ (σ.2 1).toNat 0 (-1) h (by omega) (by omega) rfl
  rw [Nat.zero_add] at fq
  rw [← hfn rule] at hK fq f21 ⊢
  rw [← hfn 0] at hK0
  have few := fewest h rule
  have b0 : byr (fn σ rule) σ 0 = 0 + (sm8 ((fn σ rule).1 9) - sm8 (σ.1 9)) := by rw [by_0, rdO_q h hK]; omega
  have b1 : byr (fn σ rule) σ 1 = 0 + (sm8 ((fn σ rule).1 10) - sm8 (σ.1 10)) := by rw [by_1, wbO_q h hK]; omega
  have b2 : byr (fn σ rule) σ 2 = frst σ rule (-1) d := by
    rw [by_2, fq, show ((fn σ rule).2 1).toNat - (σ.2 1).toNat = d by omega]
  have b3 := rdO_q h hK0
  have c3 : ¬ 0 + (sm8 ((fn σ rule).1 9) - sm8 (σ.1 9)) < sm8 ((fn σ 0).1 9) - sm8 (σ.1 9) := by omega
  by_cases cr : 0 < rule
  · simp (disch := first | omega | rfl) only [e81_0, e81_2, e81_4, e81_6, e81_8, e81_10, e81_12, e81_13, e81_15, e81_17, e81_18, e81_22, e81_24, e81_27, e81_29, e81_31, e81_32, e81_34, e81_35, e81_36, e81_38, e81_40, e81_42, e81_43, e81_44, e81_46, e81_48, e81_49, e81_50, e81_51, e81_53, e81_55, e81_56, e81_57, e81_58, e81_60, e81_61, e81_62, e81_63, e81_64, e81_67, e81_70, e81_71, e81_73, e81_74, e81_76, e81_77, e81_81, e81_82, e81_83, e81_84, e81_85, e81_88, e81_91, e81_93, e81_94, e81_95, e81_97, e81_98, e81_100, e81_102, e81_104, e81_106, e81_109, e81_111, e81_113, e81_116, e81_118, e81_121, e81_123, e81_126, e81_128, e81_130, e81_132, e81_134, e81_137, e81_138, e81_141, e81_142, e81_143, e81_145, e81_147, e81_149, e81_151, e81_154, e81_156, e81_158, e81_159, e81_160, e81_163, e81_164, e81_167, e81_168, e81_169, e81_171, e81_174, e81_175, e81_177, e81_178, e81_181, e81_183, e81_186, e81_187, e81_189, e81_190, e81_193, e81_195, e81_198, e81_199, e81_201, e81_202, e81_205, e81_207, e81_210, e81_211, e81_214, e81_216, e81_219, e81_221, e81_224, e81_225, e81_228, e81_230, e81_233, e81_234, e81_237, e81_238, WpV_some, WpH_some, ↓ite_t, ↓ite_f, cI_v (m57 (σ := σ) h.wf rule 0 (by omega) (by omega) (by omega) (by omega)) P_o h1', cI_v (m57 (σ := σ) h.wf rule 1 (by omega) (by omega) (by omega) (by omega)) P_o h1', cI_v (m57 (σ := σ) h.wf rule 2 (by omega) (by omega) (by omega) (by omega)) P_o h1', cI_v (m47 (σ := σ) h.wf) P_o h1', Int.reduceToNat, b0, b1, b2, b3, c3, cr, ne_eq, not_true_eq_false, ↓reduceIte]
    exact hQ
  · have r0 : rule = 0 := by omega
    subst r0
    have c4 : 0 + (sm8 ((fn σ 0).1 9) - sm8 (σ.1 9)) = sm8 ((fn σ 0).1 9) - sm8 (σ.1 9) := by omega
    rw [c4] at b0 c3 ⊢
    simp (disch := first | omega | rfl) only [e81_0, e81_2, e81_4, e81_6, e81_8, e81_10, e81_12, e81_13, e81_15, e81_17, e81_18, e81_22, e81_24, e81_27, e81_29, e81_31, e81_32, e81_34, e81_35, e81_36, e81_38, e81_40, e81_42, e81_43, e81_44, e81_46, e81_48, e81_49, e81_50, e81_51, e81_53, e81_55, e81_56, e81_57, e81_58, e81_60, e81_61, e81_62, e81_63, e81_64, e81_67, e81_70, e81_71, e81_73, e81_74, e81_76, e81_77, e81_81, e81_82, e81_83, e81_84, e81_85, e81_88, e81_91, e81_93, e81_94, e81_95, e81_97, e81_98, e81_100, e81_102, e81_104, e81_106, e81_109, e81_111, e81_113, e81_116, e81_118, e81_121, e81_123, e81_126, e81_128, e81_130, e81_132, e81_134, e81_137, e81_138, e81_141, e81_142, e81_143, e81_145, e81_147, e81_149, e81_151, e81_154, e81_156, e81_158, e81_159, e81_160, e81_163, e81_164, e81_167, e81_168, e81_169, e81_171, e81_174, e81_175, e81_177, e81_178, e81_181, e81_183, e81_186, e81_187, e81_189, e81_190, e81_193, e81_195, e81_198, e81_199, e81_201, e81_202, e81_205, e81_207, e81_210, e81_211, e81_214, e81_216, e81_219, e81_221, e81_224, e81_225, e81_228, e81_230, e81_233, e81_234, e81_237, e81_238, WpV_some, WpH_some, ↓ite_t, ↓ite_f, cI_v (m57 (σ := σ) h.wf 0 0 (by omega) (by omega) (by omega) (by omega)) P_o h1', cI_v (m57 (σ := σ) h.wf 0 1 (by omega) (by omega) (by omega) (by omega)) P_o h1', cI_v (m57 (σ := σ) h.wf 0 2 (by omega) (by omega) (by omega) (by omega)) P_o h1', cI_v (m47 (σ := σ) h.wf) P_o h1', Int.reduceToNat, b0, b1, b2, b3, c3, cr, ne_eq, not_true_eq_false, ↓reduceIte]
    exact hQ
end LRV
