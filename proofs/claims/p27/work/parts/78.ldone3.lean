/-! THE LAW'S done: its contract -/
theorem tn_n (p : Nat) : ((p : Int)).toNat = p := Int.toNat_natCast p
section LE
variable {xs : List Int} {f : AH} {a : Nat} {X : LG} {sc : Int} {T : TG} {τ σ s : SG} {μ : Mu} {y pc : Nat} {L st : List AV} {Q : Out → Mu → AH → Prop}
theorem dt_176 (hw : wfS σ) (ha : 190 ≤ a) {p A : Nat} (hp : p < 8) (hA : (A : Int) < σ.2 0) (hX : X.2.2 1 = A) (rule ta told : Int) (l9 : AV) : Wp xs 79 176 [vr 1, vr a, vr (a + 1), vr (a + 2), vi rule, vi A, vi p, vi ta, vi told, l9] [] μ (PP (putL f a X) sc T τ σ) Q = Q (.inl (some (vi told))) μ (PP (putL f a (tlX X p A (σ.1 1 A))) sc T τ σ) := by
  obtain ⟨w1, w2, w3, w4, w5⟩ := id hw
  have k := fun g : AH => cI_v (m54 (xs := xs) (f := g) (sc := sc) (T := T) (τ := τ) (σ := σ) (μ := μ) (A : Int) 1 (by omega) hA (by omega) (by omega)) P_o h1'
  rw [askv_1 (by omega)] at k
  unfold tlX
  by_cases c : σ.1 1 A = 1
  · have c2 : ¬ (σ.1 1 A ≠ 1) := fun x => x c
    simp (disch := first | omega | rfl) only [e79_0, e79_1, e79_2, e79_3, e79_5, e79_6, e79_8, e79_9, e79_12, e79_14, e79_15, e79_16, e79_18, e79_21, e79_23, e79_24, e79_26, e79_28, e79_31, e79_32, e79_33, e79_34, e79_35, e79_36, e79_40, e79_43, e79_44, e79_46, e79_47, e79_50, e79_52, e79_55, e79_57, e79_59, e79_62, e79_65, e79_66, e79_68, e79_70, e79_73, e79_74, e79_75, e79_76, e79_77, e79_79, e79_81, e79_82, e79_83, e79_86, e79_88, e79_89, e79_90, e79_92, e79_95, e79_97, e79_99, e79_101, e79_102, e79_104, e79_105, e79_106, e79_108, e79_109, e79_110, e79_113, e79_114, e79_117, e79_118, e79_119, e79_121, e79_122, e79_124, e79_126, e79_127, e79_128, e79_129, e79_130, e79_132, e79_133, e79_134, e79_135, e79_136, e79_138, e79_139, e79_140, e79_141, e79_143, e79_145, e79_146, e79_147, e79_149, e79_151, e79_152, e79_153, e79_154, e79_155, e79_156, e79_157, e79_158, e79_160, e79_162, e79_163, e79_165, e79_166, e79_169, e79_170, e79_171, e79_172, e79_173, e79_174, e79_175, e79_176, e79_177, e79_179, e79_180, e79_182, e79_183, e79_186, e79_187, e79_190, e79_191, e79_194, e79_195, e79_197, e79_198, e79_199, e79_200, e79_202, e79_204, e79_205, e79_207, e79_208, e79_209, e79_210, e79_211, e79_212, e79_213, e79_214, e79_215, e79_217, WpV_some, WpH_some, ↓ite_t, ↓ite_f, k, c, c2, L_g1 ha, L_g2 ha, L_p1 ha, L_p2 ha, wrp_id, tn_n, tn32, hX, ne_eq, not_true_eq_false, Int.reduceToNat, ↓reduceIte]
  · have c2 : σ.1 1 A ≠ 1 := c
    simp (disch := first | omega | rfl) only [e79_0, e79_1, e79_2, e79_3, e79_5, e79_6, e79_8, e79_9, e79_12, e79_14, e79_15, e79_16, e79_18, e79_21, e79_23, e79_24, e79_26, e79_28, e79_31, e79_32, e79_33, e79_34, e79_35, e79_36, e79_40, e79_43, e79_44, e79_46, e79_47, e79_50, e79_52, e79_55, e79_57, e79_59, e79_62, e79_65, e79_66, e79_68, e79_70, e79_73, e79_74, e79_75, e79_76, e79_77, e79_79, e79_81, e79_82, e79_83, e79_86, e79_88, e79_89, e79_90, e79_92, e79_95, e79_97, e79_99, e79_101, e79_102, e79_104, e79_105, e79_106, e79_108, e79_109, e79_110, e79_113, e79_114, e79_117, e79_118, e79_119, e79_121, e79_122, e79_124, e79_126, e79_127, e79_128, e79_129, e79_130, e79_132, e79_133, e79_134, e79_135, e79_136, e79_138, e79_139, e79_140, e79_141, e79_143, e79_145, e79_146, e79_147, e79_149, e79_151, e79_152, e79_153, e79_154, e79_155, e79_156, e79_157, e79_158, e79_160, e79_162, e79_163, e79_165, e79_166, e79_169, e79_170, e79_171, e79_172, e79_173, e79_174, e79_175, e79_176, e79_177, e79_179, e79_180, e79_182, e79_183, e79_186, e79_187, e79_190, e79_191, e79_194, e79_195, e79_197, e79_198, e79_199, e79_200, e79_202, e79_204, e79_205, e79_207, e79_208, e79_209, e79_210, e79_211, e79_212, e79_213, e79_214, e79_215, e79_217, WpV_some, WpH_some, ↓ite_t, ↓ite_f, k, c, c2, L_g1 ha, L_g2 ha, L_p1 ha, L_p2 ha, wrp_id, tn_n, tn32, hX, Int.reduceToNat, ↓reduceIte]
theorem dt_140 (ha : 190 ≤ a) {p A fr : Nat} (hp : p < 8) (hf : fr < 6) (h9 : 0 ≤ X.2.1 (16 + p) ∧ X.2.1 (16 + p) ≤ 1000) (rule told : Int) (l9 : AV) : Wp xs 79 140 [vr 1, vr a, vr (a + 1), vr (a + 2), vi rule, vi A, vi p, vi fr, vi told, l9] [] μ (PP (putL f a X) sc T τ σ) Q = Wp xs 79 176 [vr 1, vr a, vr (a + 1), vr (a + 2), vi rule, vi A, vi p, vi fr, vi told, l9] [] μ (PP (putL f a (rdX X fr p A)) sc T τ σ) Q := by
  unfold rdX
  simp (disch := first | omega | rfl) only [e79_0, e79_1, e79_2, e79_3, e79_5, e79_6, e79_8, e79_9, e79_12, e79_14, e79_15, e79_16, e79_18, e79_21, e79_23, e79_24, e79_26, e79_28, e79_31, e79_32, e79_33, e79_34, e79_35, e79_36, e79_40, e79_43, e79_44, e79_46, e79_47, e79_50, e79_52, e79_55, e79_57, e79_59, e79_62, e79_65, e79_66, e79_68, e79_70, e79_73, e79_74, e79_75, e79_76, e79_77, e79_79, e79_81, e79_82, e79_83, e79_86, e79_88, e79_89, e79_90, e79_92, e79_95, e79_97, e79_99, e79_101, e79_102, e79_104, e79_105, e79_106, e79_108, e79_109, e79_110, e79_113, e79_114, e79_117, e79_118, e79_119, e79_121, e79_122, e79_124, e79_126, e79_127, e79_128, e79_129, e79_130, e79_132, e79_133, e79_134, e79_135, e79_136, e79_138, e79_139, e79_140, e79_141, e79_143, e79_145, e79_146, e79_147, e79_149, e79_151, e79_152, e79_153, e79_154, e79_155, e79_156, e79_157, e79_158, e79_160, e79_162, e79_163, e79_165, e79_166, e79_169, e79_170, e79_171, e79_172, e79_173, e79_174, e79_175, e79_177, e79_179, e79_180, e79_182, e79_183, e79_186, e79_187, e79_190, e79_191, e79_194, e79_195, e79_197, e79_198, e79_199, e79_200, e79_202, e79_204, e79_205, e79_207, e79_208, e79_209, e79_210, e79_211, e79_212, e79_213, e79_214, e79_215, e79_217, WpV_some, WpH_some, ↓ite_t, ↓ite_f, L_g1 ha, L_p0 ha, L_p1 ha, wrp_id, tn_n, tn16, tn40]
theorem dt_38 (ha : 190 ≤ a) (rule A p told : Int) : ∀ (d : Nat) (r : Int), d ≤ 6 → (Wp xs 79 38 [vr 1, vr a, vr (a + 1), vr (a + 2), vi rule, vi A, vi p, vi r, vi told, vi ((d : Int) - 1)] [] μ (PP (putL f a X) sc T τ σ) Q = Wp xs 79 65 [vr 1, vr a, vr (a + 1), vr (a + 2), vi rule, vi A, vi p, vi (efl X.1 r d), vi told, vi (-1)] [] μ (PP (putL f a X) sc T τ σ) Q) := by
  intro d
  induction d with
  | zero =>
    intro r hd
    rw [show ((0 : Nat) : Int) - 1 = -1 by decide]
    simp (disch := first | omega | rfl) only [e79_38, e79_40, WpV_some, WpH_some, ↓ite_t, ↓ite_f, efl]
  | succ d ih =>
    intro r hd
    have e : ((d + 1 : Nat) : Int) - 1 = d := by omega
    have e2 : wrp ((d : Int) + -1) = (d : Int) - 1 := by rw [wrp_id (by omega) (by omega)]; omega
    have q := ih (if X.1 d < 0 then (d : Int) else r) (by omega)
    rw [e, e79_38, e79_40, if_neg (by omega)]
    unfold efl
    by_cases c : X.1 d < 0
    · have c2 : ¬ (0 ≤ X.1 d) := by omega
      rw [if_pos c] at q ⊢
      simp (disch := first | omega | rfl) only [e79_43, e79_44, e79_46, e79_47, e79_50, e79_52, e79_55, e79_57, e79_59, e79_62, WpV_some, WpH_some, ↓ite_t, ↓ite_f, L_g0 ha, tn_n, c2, e2, q, ↓reduceIte]
    · have c2 : 0 ≤ X.1 d := by omega
      rw [if_neg c] at q ⊢
      simp (disch := first | omega | rfl) only [e79_43, e79_44, e79_46, e79_47, e79_50, e79_52, e79_55, e79_57, e79_59, e79_62, WpV_some, WpH_some, ↓ite_t, ↓ite_f, L_g0 ha, tn_n, c2, e2, q, ↓reduceIte]
theorem m79 (h : ks s) (hd : s.2 1 < s.2 0) (hw : wfS σ) (e0 : σ.1 0 = s.1 0) (e1 : σ.1 1 = s.1 1) (en : σ.2 0 = s.2 0) (ha : 190 ≤ a) {rule : Int} (hr : rule = 0 ∨ rule = 1 ∨ rule = 2) : Runs xs 79 [vr 1, vr a, vr (a + 1), vr (a + 2), vi rule] μ (PP (putL f a (lw s)) sc T τ σ) (.inl (some (vi (tdl s rule)))) μ (PP (putL f a (lw (dnx s rule))) sc T τ σ) := Runs.iff fun Q hQ => by
  show Wp xs 79 0 [vr 1, vr a, vr (a + 1), vr (a + 2), vi rule, vu, vu, vu, vu, vu] [] μ (PP (putL f a (lw s)) sc T τ σ) Q
  obtain ⟨w1, w2, w3, w4, w5⟩ := id h.wf
  obtain ⟨A, p, hA, hA8, hpA, hp, e1', e2⟩ := h.page hd
  have hF := h.F.1 p hp
  have hN := h.N p hp
  have k0 := fun g : AH => cI_v (m54 (xs := xs) (f := g) (sc := sc) (T := T) (τ := τ) (σ := σ) (μ := μ) (A : Int) 0 (by omega) (by omega) (by omega) (by omega)) P_o h1'
  rw [askv_0 (by omega), e0, hpA] at k0
  have k1 := cC_v (m76s (xs := xs) (f := f) (sc := sc) (T := T) (τ := τ) (σ := σ) (μ := μ) h ha hp)
  by_cases c : s.1 4 p = -1
  · -- a read
    have c1 : ¬ (0 ≤ s.1 4 p) := by omega
    have kl := dt_38 (xs := xs) (f := f) (X := lw s) (sc := sc) (T := T) (τ := τ) (σ := σ) (μ := μ) (Q := Q) ha rule A p 0 (s.2 2).toNat (s.1 4 p) (by omega)
    rw [Int.toNat_of_nonneg (by omega), lw_1, efl_q, c] at kl
    rcases lef_is (s.1 4) (s.2 2).toNat 0 with hl | ⟨fr, hl, k2, k3, k4⟩
    · -- with a victim
      obtain ⟨b, hb8, hb, hb4, hb6, -⟩ := h.vicE rule (s.2 1 + 1).toNat hl
      have hFb := h.F.1 b hb8
      have hNb := h.N b hb8
      have hcb := h.ch b hb8
      obtain ⟨fb, hfb⟩ : ∃ fb : Nat, s.1 4 b = (fb : Int) := ⟨(s.1 4 b).toNat, by omega⟩
      rw [if_pos hl] at kl
      rw [tdl_vic e1' c hl hb, dn_vic hd hp e2 c hl hb hb8, hfb] at hQ
      have kv := cC_v (m78 (xs := xs) (f := f) (sc := sc) (T := T) (τ := τ) (σ := σ) (μ := μ) h hw e0 en ha hr (i := A + 1) (by omega))
      rw [show (s.2 1 + 1).toNat = A + 1 by omega] at hb
      rw [hb] at kv
      simp only [Int.natCast_add, Int.cast_ofNat_Int] at kv
      have kf := cC_v (m76s (xs := xs) (f := f) (sc := sc) (T := T) (τ := τ) (σ := σ) (μ := μ) h ha hb8)
      rw [hfb] at kf
      have evR := ev_eq (X := lw s) h hb8 (fun i _ => rfl)
      have ht := h.tkoK hb8
      have hNt := ht.N p hp
      have hdt : (tko s b).2 1 = (A : Int) := by rw [tko_2]; exact hA
      have x9 : (evX (lw s) b).2.1 (16 + p) = (tko s b).1 9 p := by rw [evR _ (by omega), lR_9 _ hp]
      have k140 := fun told : Int => dt_140 (xs := xs) (f := f) (X := evX (lw s) b) (sc := sc) (T := T) (τ := τ) (σ := σ) (μ := μ) (Q := Q) ha (p := p) (A := A) (fr := fb) hp (by omega) (by rw [x9]; omega) rule told (vi b)
      have k176 := fun told : Int => dt_176 (xs := xs) (f := f) (X := rdX (evX (lw s) b) fb p A) (sc := sc) (T := T) (τ := τ) (σ := σ) (μ := μ) (Q := Q) hw ha (p := p) (A := A) hp (by omega) hA rule fb told (vi b)
      have hF4 : ks_F (s.2 2) ((tko s b).1 4) := by have := ht.F; rw [tko_2] at this; exact this
      have hfo : fo ((tko s b).1 4) fb 0 8 = -1 := fo_tko h hb8 hfb
      have hmt : (tko s b).1 4 p = -1 := by
        rw [tko_4 s hb8]; unfold fu; split
        · rfl
        · exact c
      have rq := rd_eq (s := tko s b) (X := evX (lw s) b) (by rw [tko_2]; exact hF4) (p := p) (A := A) (fr := fb) hp hdt (by omega) hmt hfo (fun i hi hne => by
        show fo (s.1 4) i 0 8 = fo ((tko s b).1 4) i 0 8
        rw [tko_4 s hb8, fo_out h.F hb8 hfb, if_neg hne]) evR
      have hw1 : (rdi (tko s b) fb p).1 1 = s.1 1 := by rw [rdi_o _ _ _ (by decide) (by decide) (by decide), tko_o _ _ (by decide) (by decide) (by decide)]
      have fin := tl_eq (s := rdi (tko s b) fb p) (X := rdX (evX (lw s) b) fb p A) hp hA8 (by rw [rdi_2]; exact hdt) (if s.1 5 b = 1 then 3 else 2) b rq.1 rq.2 (by rw [rdi_2, tko_2]; rfl) (by
        rw [if_neg (by split <;> omega), rdi_o _ _ _ (by decide) (by decide) (by decide), tko_o _ _ (by decide) (by decide) (by decide)]
        show co (s.1 2) 0 0 (s.2 1).toNat = _
        rw [hA, Int.toNat_natCast]; omega)
      rw [hw1, ← e1] at fin
      have hv0 : ¬ (0 : Int) ≤ -1 := by decide
      have evP : PP (putL f a ((lw s).1, (fu (fu (lR s) (24 + b) (s.1 10 b + s.1 5 b)) b 0, (lw s).2.2))) sc T τ σ = PP (putL f a (evX (lw s) b)) sc T τ σ := by
        unfold evX
        rw [lw_2, lR_10 s hb8, lR_5 s hb8]
      by_cases cb : s.1 5 b = 1
      · have cb2 : ¬ (s.1 5 b ≠ 1) := fun x => x cb
        rw [if_pos cb] at hQ fin
        simp (disch := first | omega | rfl) only [e79_0, e79_1, e79_2, e79_3, e79_5, e79_6, e79_8, e79_9, e79_12, e79_14, e79_15, e79_16, e79_18, e79_21, e79_23, e79_24, e79_26, e79_28, e79_31, e79_32, e79_33, e79_34, e79_35, e79_36, e79_40, e79_43, e79_44, e79_46, e79_47, e79_50, e79_52, e79_55, e79_57, e79_59, e79_62, e79_66, e79_68, e79_70, e79_73, e79_74, e79_75, e79_76, e79_77, e79_79, e79_81, e79_82, e79_83, e79_86, e79_88, e79_89, e79_90, e79_92, e79_95, e79_97, e79_99, e79_101, e79_102, e79_104, e79_105, e79_106, e79_108, e79_109, e79_110, e79_113, e79_114, e79_117, e79_118, e79_119, e79_121, e79_122, e79_124, e79_126, e79_127, e79_128, e79_129, e79_130, e79_132, e79_133, e79_134, e79_135, e79_136, e79_138, e79_139, e79_141, e79_143, e79_145, e79_146, e79_147, e79_149, e79_151, e79_152, e79_153, e79_154, e79_155, e79_156, e79_157, e79_158, e79_160, e79_162, e79_163, e79_165, e79_166, e79_169, e79_170, e79_171, e79_172, e79_173, e79_174, e79_175, e79_177, e79_179, e79_180, e79_182, e79_183, e79_186, e79_187, e79_190, e79_191, e79_194, e79_195, e79_197, e79_198, e79_199, e79_200, e79_202, e79_204, e79_205, e79_207, e79_208, e79_209, e79_210, e79_211, e79_212, e79_213, e79_214, e79_215, e79_217, WpV_some, WpH_some, ↓ite_t, ↓ite_f, L_g2 ha, lw_3, lT_0, lT_1, hA, k0, k1, c1, c, kl, Int.reduceToNat, wrp_id, ↓reduceIte]
        simp (disch := first | omega | rfl) only [e79_0, e79_1, e79_2, e79_3, e79_5, e79_6, e79_8, e79_9, e79_12, e79_14, e79_15, e79_16, e79_18, e79_21, e79_23, e79_24, e79_26, e79_28, e79_31, e79_32, e79_33, e79_34, e79_35, e79_36, e79_40, e79_43, e79_44, e79_46, e79_47, e79_50, e79_52, e79_55, e79_57, e79_59, e79_62, e79_65, e79_66, e79_68, e79_70, e79_73, e79_74, e79_75, e79_76, e79_77, e79_79, e79_81, e79_82, e79_83, e79_86, e79_88, e79_89, e79_90, e79_92, e79_95, e79_97, e79_99, e79_101, e79_102, e79_104, e79_105, e79_106, e79_108, e79_109, e79_110, e79_113, e79_114, e79_117, e79_118, e79_119, e79_121, e79_122, e79_124, e79_126, e79_127, e79_128, e79_129, e79_130, e79_132, e79_133, e79_134, e79_135, e79_136, e79_138, e79_139, e79_141, e79_143, e79_145, e79_146, e79_147, e79_149, e79_151, e79_152, e79_153, e79_154, e79_155, e79_156, e79_157, e79_158, e79_160, e79_162, e79_163, e79_165, e79_166, e79_169, e79_170, e79_171, e79_172, e79_173, e79_174, e79_175, e79_177, e79_179, e79_180, e79_182, e79_183, e79_186, e79_187, e79_190, e79_191, e79_194, e79_195, e79_197, e79_198, e79_199, e79_200, e79_202, e79_204, e79_205, e79_207, e79_208, e79_209, e79_210, e79_211, e79_212, e79_213, e79_214, e79_215, e79_217, WpV_some, WpH_some, ↓ite_t, ↓ite_f, L_g1 ha, L_p1 ha, kv, kf, lw_2, lR_5, lR_10, tn_n, tn24, cb2, hv0, wrp_id, ↓reduceIte, fu_n]
        rw [evP, k140, k176, fin.put]
        exact hQ
      · have cb2 : s.1 5 b ≠ 1 := cb
        rw [if_neg cb] at hQ fin
        simp (disch := first | omega | rfl) only [e79_0, e79_1, e79_2, e79_3, e79_5, e79_6, e79_8, e79_9, e79_12, e79_14, e79_15, e79_16, e79_18, e79_21, e79_23, e79_24, e79_26, e79_28, e79_31, e79_32, e79_33, e79_34, e79_35, e79_36, e79_40, e79_43, e79_44, e79_46, e79_47, e79_50, e79_52, e79_55, e79_57, e79_59, e79_62, e79_66, e79_68, e79_70, e79_73, e79_74, e79_75, e79_76, e79_77, e79_79, e79_81, e79_82, e79_83, e79_86, e79_88, e79_89, e79_90, e79_92, e79_95, e79_97, e79_99, e79_101, e79_102, e79_104, e79_105, e79_106, e79_108, e79_109, e79_110, e79_113, e79_114, e79_117, e79_118, e79_119, e79_121, e79_122, e79_124, e79_126, e79_127, e79_128, e79_129, e79_130, e79_132, e79_133, e79_134, e79_135, e79_136, e79_138, e79_139, e79_141, e79_143, e79_145, e79_146, e79_147, e79_149, e79_151, e79_152, e79_153, e79_154, e79_155, e79_156, e79_157, e79_158, e79_160, e79_162, e79_163, e79_165, e79_166, e79_169, e79_170, e79_171, e79_172, e79_173, e79_174, e79_175, e79_177, e79_179, e79_180, e79_182, e79_183, e79_186, e79_187, e79_190, e79_191, e79_194, e79_195, e79_197, e79_198, e79_199, e79_200, e79_202, e79_204, e79_205, e79_207, e79_208, e79_209, e79_210, e79_211, e79_212, e79_213, e79_214, e79_215, e79_217, WpV_some, WpH_some, ↓ite_t, ↓ite_f, L_g2 ha, lw_3, lT_0, lT_1, hA, k0, k1, c1, c, kl, Int.reduceToNat, wrp_id, ↓reduceIte]
        simp (disch := first | omega | rfl) only [e79_0, e79_1, e79_2, e79_3, e79_5, e79_6, e79_8, e79_9, e79_12, e79_14, e79_15, e79_16, e79_18, e79_21, e79_23, e79_24, e79_26, e79_28, e79_31, e79_32, e79_33, e79_34, e79_35, e79_36, e79_40, e79_43, e79_44, e79_46, e79_47, e79_50, e79_52, e79_55, e79_57, e79_59, e79_62, e79_65, e79_66, e79_68, e79_70, e79_73, e79_74, e79_75, e79_76, e79_77, e79_79, e79_81, e79_82, e79_83, e79_86, e79_88, e79_89, e79_90, e79_92, e79_95, e79_97, e79_99, e79_101, e79_102, e79_104, e79_105, e79_106, e79_108, e79_109, e79_110, e79_113, e79_114, e79_117, e79_118, e79_119, e79_121, e79_122, e79_124, e79_126, e79_127, e79_128, e79_129, e79_130, e79_132, e79_133, e79_134, e79_135, e79_136, e79_138, e79_139, e79_141, e79_143, e79_145, e79_146, e79_147, e79_149, e79_151, e79_152, e79_153, e79_154, e79_155, e79_156, e79_157, e79_158, e79_160, e79_162, e79_163, e79_165, e79_166, e79_169, e79_170, e79_171, e79_172, e79_173, e79_174, e79_175, e79_177, e79_179, e79_180, e79_182, e79_183, e79_186, e79_187, e79_190, e79_191, e79_194, e79_195, e79_197, e79_198, e79_199, e79_200, e79_202, e79_204, e79_205, e79_207, e79_208, e79_209, e79_210, e79_211, e79_212, e79_213, e79_214, e79_215, e79_217, WpV_some, WpH_some, ↓ite_t, ↓ite_f, L_g1 ha, L_p1 ha, kv, kf, lw_2, lR_5, lR_10, tn_n, tn24, cb2, hv0, wrp_id, ↓reduceIte, fu_n]
        rw [evP, k140, k176, fin.put]
        exact hQ
    · -- into an empty frame
      rw [if_neg (by omega), hl] at kl
      rw [tdl_emp e1' c hl, dn_emp hd hp e2 c hl] at hQ
      have x9 : (lw s).2.1 (16 + p) = s.1 9 p := by rw [lw_2, lR_9 _ hp]
      have k140 := dt_140 (xs := xs) (f := f) (X := lw s) (sc := sc) (T := T) (τ := τ) (σ := σ) (μ := μ) (Q := Q) ha (p := p) (A := A) (fr := fr) hp (by omega) (by rw [x9]; omega) rule 1 (vi (-1))
      have k176 := dt_176 (xs := xs) (f := f) (X := rdX (lw s) fr p A) (sc := sc) (T := T) (τ := τ) (σ := σ) (μ := μ) (Q := Q) hw ha (p := p) (A := A) hp (by omega) hA rule fr 1 (vi (-1))
      have rq := rd_eq (s := s) (X := lw s) h.F (p := p) (A := A) (fr := fr) hp hA (by omega) c k4 (fun i _ _ => rfl) (fun i _ => rfl)
      have hw1 : (rdi s fr p).1 1 = s.1 1 := by rw [rdi_o _ _ _ (by decide) (by decide) (by decide)]
      have fin := tl_eq (s := rdi s fr p) (X := rdX (lw s) fr p A) hp hA8 (by rw [rdi_2]; exact hA) 1 (-1) rq.1 rq.2 (by rw [rdi_2]; rfl) (by
        rw [if_neg (by decide), rdi_o _ _ _ (by decide) (by decide) (by decide)]
        show co (s.1 2) 0 0 (s.2 1).toNat = _
        rw [hA, Int.toNat_natCast]; omega)
      rw [hw1, ← e1] at fin
      have hv1 : (0 : Int) ≤ fr := by omega
      simp (disch := first | omega | rfl) only [e79_0, e79_1, e79_2, e79_3, e79_5, e79_6, e79_8, e79_9, e79_12, e79_14, e79_15, e79_16, e79_18, e79_21, e79_23, e79_24, e79_26, e79_28, e79_31, e79_32, e79_33, e79_34, e79_35, e79_36, e79_40, e79_43, e79_44, e79_46, e79_47, e79_50, e79_52, e79_55, e79_57, e79_59, e79_62, e79_66, e79_68, e79_70, e79_73, e79_74, e79_75, e79_76, e79_77, e79_79, e79_81, e79_82, e79_83, e79_86, e79_88, e79_89, e79_90, e79_92, e79_95, e79_97, e79_99, e79_101, e79_102, e79_104, e79_105, e79_106, e79_108, e79_109, e79_110, e79_113, e79_114, e79_117, e79_118, e79_119, e79_121, e79_122, e79_124, e79_126, e79_127, e79_128, e79_129, e79_130, e79_132, e79_133, e79_134, e79_135, e79_136, e79_138, e79_139, e79_141, e79_143, e79_145, e79_146, e79_147, e79_149, e79_151, e79_152, e79_153, e79_154, e79_155, e79_156, e79_157, e79_158, e79_160, e79_162, e79_163, e79_165, e79_166, e79_169, e79_170, e79_171, e79_172, e79_173, e79_174, e79_175, e79_177, e79_179, e79_180, e79_182, e79_183, e79_186, e79_187, e79_190, e79_191, e79_194, e79_195, e79_197, e79_198, e79_199, e79_200, e79_202, e79_204, e79_205, e79_207, e79_208, e79_209, e79_210, e79_211, e79_212, e79_213, e79_214, e79_215, e79_217, WpV_some, WpH_some, ↓ite_t, ↓ite_f, L_g2 ha, lw_3, lT_0, lT_1, hA, k0, k1, c1, c, kl, Int.reduceToNat, wrp_id, ↓reduceIte]
      rw [e79_65, e79_66, e79_68, e79_70, if_pos hv1, k140, k176, fin.put]
      exact hQ
  · -- a hit
    have c1 : 0 ≤ s.1 4 p := by omega
    rw [tdl_hit e1' c, dn_hit hd hp e2 c] at hQ
    have k176 := dt_176 (xs := xs) (f := f) (X := htX (lw s)) (sc := sc) (T := T) (τ := τ) (σ := σ) (μ := μ) (Q := Q) hw ha (p := p) (A := A) hp (by omega) hA rule (s.1 4 p) 0 vu
    have fin := tl_eq (s := s) (X := htX (lw s)) hp hA8 hA 0 (-1) (fun i _ => rfl) (fun i _ => rfl) rfl (by
      show fu (lT s) 2 (lT s 2 + 1) 2 = _
      rw [fu_s, lT_2, hA, Int.toNat_natCast]; rfl)
    rw [← e1] at fin
    have hco := co_le (s.1 2) 0 (s.2 1).toNat 0
    have htP : PP (putL f a ((lw s).1, ((lw s).2.1, fu (lT s) 2 (lT s 2 + 1)))) sc T τ σ = PP (putL f a (htX (lw s))) sc T τ σ := rfl
    have hb2 : wrp (lT s 2 + 1) = lT s 2 + 1 := by rw [lT_2, wrp_id (by omega) (by omega)]
    simp (disch := first | omega | rfl) only [e79_0, e79_1, e79_2, e79_3, e79_5, e79_6, e79_8, e79_9, e79_12, e79_14, e79_15, e79_16, e79_18, e79_21, e79_23, e79_24, e79_26, e79_28, e79_31, e79_32, e79_33, e79_34, e79_35, e79_36, e79_40, e79_43, e79_44, e79_46, e79_47, e79_50, e79_52, e79_55, e79_57, e79_59, e79_62, e79_66, e79_68, e79_70, e79_73, e79_74, e79_75, e79_76, e79_77, e79_79, e79_81, e79_82, e79_83, e79_86, e79_88, e79_89, e79_90, e79_92, e79_95, e79_97, e79_99, e79_101, e79_102, e79_104, e79_105, e79_106, e79_108, e79_109, e79_110, e79_113, e79_114, e79_117, e79_118, e79_119, e79_121, e79_122, e79_124, e79_126, e79_127, e79_128, e79_129, e79_130, e79_132, e79_133, e79_134, e79_135, e79_136, e79_138, e79_139, e79_141, e79_143, e79_145, e79_146, e79_147, e79_149, e79_151, e79_152, e79_153, e79_154, e79_155, e79_156, e79_157, e79_158, e79_160, e79_162, e79_163, e79_165, e79_166, e79_169, e79_170, e79_171, e79_172, e79_173, e79_174, e79_175, e79_177, e79_179, e79_180, e79_182, e79_183, e79_186, e79_187, e79_190, e79_191, e79_194, e79_195, e79_197, e79_198, e79_199, e79_200, e79_202, e79_204, e79_205, e79_207, e79_208, e79_209, e79_210, e79_211, e79_212, e79_213, e79_214, e79_215, e79_217, WpV_some, WpH_some, ↓ite_t, ↓ite_f, L_g2 ha, L_p2 ha, lw_3, lT_0, lT_1, hA, k0, k1, c1, Int.reduceToNat, hb2, ↓reduceIte]
    rw [htP, k176, fin.put]
    exact hQ
end LE
