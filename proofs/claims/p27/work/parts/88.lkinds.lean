/-! THE LAW: its calls at its own addresses; plans typed; asks done -/
section LK
variable {xs : List Int} {f : AH} {X Y : LG} {V V' : VG} {sc sc' : Int} {T T' : TG} {τ τ' σ σ' s : SG} {μ : Mu} {y pc : Nat} {L st : List AV} {Q : Out → Mu → AH → Prop}
theorem G_g0 {i : Int} (h0 : 0 ≤ i) (h1 : i < 6) : gI xs y (PP (putL f 190 X) sc T τ σ) 190 i = some (vi (X.1 i.toNat)) := L_g0 (Nat.le_refl _) h0 h1
theorem G_g1 {i : Int} (h0 : 0 ≤ i) (h1 : i < 48) : gI xs y (PP (putL f 190 X) sc T τ σ) 191 i = some (vi (X.2.1 i.toNat)) := L_g1 (a := 190) (Nat.le_refl _) h0 h1
theorem G_g2 {i : Int} (h0 : 0 ≤ i) (h1 : i < 3) : gI xs y (PP (putL f 190 X) sc T τ σ) 192 i = some (vi (X.2.2 i.toNat)) := L_g2 (a := 190) (Nat.le_refl _) h0 h1
theorem G_p0 {i x : Int} (h0 : 0 ≤ i) (h1 : i < 6) : pi (PP (putL f 190 X) sc T τ σ) 190 i x = some (PP (putL f 190 (fu X.1 i.toNat x, X.2)) sc T τ σ) := L_p0 (Nat.le_refl _) h0 h1
theorem G_p1 {i x : Int} (h0 : 0 ≤ i) (h1 : i < 48) : pi (PP (putL f 190 X) sc T τ σ) 191 i x = some (PP (putL f 190 (X.1, (fu X.2.1 i.toNat x, X.2.2))) sc T τ σ) := L_p1 (a := 190) (Nat.le_refl _) h0 h1
theorem G_p2 {i x : Int} (h0 : 0 ≤ i) (h1 : i < 3) : pi (PP (putL f 190 X) sc T τ σ) 192 i x = some (PP (putL f 190 (X.1, (X.2.1, fu X.2.2 i.toNat x))) sc T τ σ) := L_p2 (a := 190) (Nat.le_refl _) h0 h1
theorem n79 (h : ks s) (hd : s.2 1 < s.2 0) (hw : wfS σ) (e0 : σ.1 0 = s.1 0) (e1 : σ.1 1 = s.1 1) (en : σ.2 0 = s.2 0) : Runs xs 79 [vr 1, vr 190, vr 191, vr 192, vi 0] μ (PP (putL f 190 (lw s)) sc T τ σ) (.inl (some (vi (tdl s 0)))) μ (PP (putL f 190 (lw (dnx s 0))) sc T τ σ) := m79 (a := 190) h hd hw e0 e1 en (Nat.le_refl _) (Or.inl rfl)
theorem n80 (h : ks σ) : Runs xs 80 [vr 1, vr 190, vr 191, vr 192] μ (PP (putL f 190 (lw σ)) sc T τ σ) (.inl (some (vi 1))) μ (PP (putL f 190 (lw σ)) sc T τ σ) := m80 (a := 190) h (Nat.le_refl _)
theorem n81 (h : ks σ) (hm : 192 ≤ μ.1) {rule : Int} (hr : rule = 0 ∨ rule = 1 ∨ rule = 2) : Runs xs 81 [vr 1, vr 190, vr 191, vr 192, vi rule] μ (PP (putL (putV f V) 190 (lw σ)) sc T τ σ) (.inl (some (vi 1))) (μ.1 + 3, (μ.2.1 + 3, μ.2.2 + 57)) (PP (putL (putV (putL f (μ.1 + 1) (lw (fn σ rule))) V) 190 (lw σ)) sc T (fn σ 0) σ) := by
  have q := m81 (xs := xs) (f := putV f V) (a := 190) (sc := sc) (T := T) (τ := τ) (μ := μ) h (Nat.le_refl _) (by omega) hr
  rw [putL_V f V (lw (fn σ rule)) (by omega)] at q
  exact q
theorem n82 (h : ks σ) {n : Int} (hn1 : 1 ≤ n) (hn6 : n ≤ 6) (hp : sm8 (σ.1 6) ≤ n - 1) : Runs xs 82 [vr 1, vr 190, vr 191, vr 192, vi n] μ (PP (putL f 190 (lw σ)) sc T τ σ) (.inl (some (vi (frs n σ).2))) μ (PP (putL f 190 (lw (frs n σ).1)) sc T τ σ) := m82 (a := 190) h (Nat.le_refl _) hn1 hn6 hp
theorem sv_run {as : List AV} {o : Out} (h : Runs xs y as μ (PP (putV (putL f 190 X) V) sc T τ σ) o μ (PP (putV (putL f 190 X) V') sc' T' τ' σ')) : Runs xs y as μ (PP (putL (putV f V) 190 X) sc T τ σ) o μ (PP (putL (putV f V') 190 X) sc' T' τ' σ') := by
  rw [putL_V _ _ _ (Nat.le_refl _), putL_V _ _ _ (Nat.le_refl _)]
  exact h
/-- where each call of the law comes out -/
def ND (xs : List Int) (k hv kd al lf : Int) (μ : Mu) (Q : Out → Mu → AH → Prop) : Prop := ∀ (f : AH) (V : VG) (sc : Int) (T : TG) (τ σ : SG), ks σ → wfV V → 0 ≤ sc → sc ≤ 6 → wfT T → ∀ l11 l12 l13 l14 : AV, Wp xs 0 940 [vr 0, vr 1, vr 190, vr 191, vr 192, vi k, vi hv, vi kd, vi al, vi lf, vi 1, l11, l12, l13, l14] [] μ (PP (putL (putV f V) 190 (lw σ)) sc T τ σ) Q
theorem kd_ext (h : ks σ) (hV : wfV V) (h0 : 0 ≤ sc) (h6 : sc ≤ 6) (hT : wfT T) {k hv kd : Int} (hk : kd < 4) (l11 l12 l13 l14 : AV) (hN : ND xs k hv kd (σ.2 0) (σ.2 0 - σ.2 1) μ Q) : Wp xs 0 114 [vr 0, vr 1, vr 190, vr 191, vr 192, vi k, vi hv, vi kd, vi (σ.2 0), vi (σ.2 0 - σ.2 1), vi 1, l11, l12, l13, l14] [] μ (PP (putL (putV f V) 190 (lw σ)) sc T τ σ) Q := by
  obtain ⟨w1, w2, w3, w4, w5⟩ := id h.wf
  have r1 := lwv_r (iShr hv 25) (n := 6) (by decide) (by decide)
  have r2 := lwv_r (iShr hv 22) (n := 6) (by decide) (by decide)
  obtain ⟨T', m', hT', hv', hm, m1, m54, hr⟩ := m75 (xs := xs) (f := putL (putV f V) 190 (lw σ)) (sc := sc) (τ := τ) (σ := σ) (μ := μ) hT (iShr hv 4) (n := 1 + lwv (iShr hv 25) 6) (pgs := 3 + lwv (iShr hv 22) 6) (by omega) (by omega) (by omega) (by omega)
  have c : ¬ 4 ≤ kd := by omega
  by_cases c2 : 80 < m' + σ.2 0
  · simp (disch := first | omega | rfl) only [e0_114, e0_116, e0_117, e0_120, e0_121, e0_123, e0_124, e0_125, e0_126, e0_128, e0_130, e0_131, e0_133, e0_136, e0_137, e0_138, e0_140, e0_142, e0_143, e0_145, e0_148, e0_149, e0_152, e0_154, e0_156, e0_158, e0_159, e0_161, e0_164, e0_165, e0_168, e0_170, e0_172, e0_173, e0_176, e0_177, e0_180, e0_181, e0_183, WpV_some, WpH_some, ↓ite_t, ↓ite_f, cC_v (m74 (iShr hv 25) (n := 6) (by decide)), cC_v (m74 (iShr hv 22) (n := 6) (by decide)), cC_v hr, wrp_id, c, c2, ↓reduceIte]
    exact hN f V sc T' τ σ h hV h0 h6 hT' _ _ _ _
  · obtain ⟨x1, x2, x3⟩ := exn_ks T' T'.2.toNat 0 σ h (by omega)
    have q := cI_v (sv_run (xs := xs) (X := lw σ) (m62 (xs := xs) (f := putL f 190 (lw σ)) (V := V) (sc := sc) (T := T') (τ := τ) (σ := σ) (μ := μ) h.wf hT' hV h0 h6 hv' (by omega))) P_o h1'
    rw [x3, hm] at q
    have e : σ.2 0 + m' = m' + σ.2 0 := by omega
    simp (disch := first | omega | rfl) only [e0_114, e0_116, e0_117, e0_120, e0_121, e0_123, e0_124, e0_125, e0_126, e0_128, e0_130, e0_131, e0_133, e0_136, e0_137, e0_138, e0_140, e0_142, e0_143, e0_145, e0_148, e0_149, e0_152, e0_154, e0_156, e0_158, e0_159, e0_161, e0_164, e0_165, e0_168, e0_170, e0_172, e0_173, e0_176, e0_177, e0_180, e0_181, e0_183, WpV_some, WpH_some, ↓ite_t, ↓ite_f, cC_v (m74 (iShr hv 25) (n := 6) (by decide)), cC_v (m74 (iShr hv 22) (n := 6) (by decide)), cC_v hr, q, wrp_id, c, c2, ne_eq, not_true_eq_false, ↓reduceIte]
    rw [← x2.lwE]
    exact hN f (svV V sc σ) (svC sc) (T'.1, 0) τ _ x1 (wfV_sv hV) (svC_r h0 h6).1 (svC_r h0 h6).2 ⟨Int.le_refl 0, by show (0 : Int) ≤ 40; omega, hT'.2.2⟩ _ _ _ _
theorem go_216 (hw : wfS σ) {k hv kd lf n : Int} (hn : n ≤ 100) : ∀ (d i : Nat) (s : SG) (rd : Int) (l14 : AV), (i : Int) + d = n → ks s → σ.1 0 = s.1 0 → σ.1 1 = s.1 1 → σ.2 0 = s.2 0 → 0 ≤ rd → rd ≤ i → (∀ l13 l14 : AV, Wp xs 0 260 [vr 0, vr 1, vr 190, vr 191, vr 192, vi k, vi hv, vi kd, vi (σ.2 0), vi lf, vi 1, vi n, vi (rd + (sm8 ((fin s 0 d).1 9) - sm8 (s.1 9))), l13, l14] [] μ (PP (putL f 190 (lw (fin s 0 d))) sc T τ σ) Q) → Wp xs 0 216 [vr 0, vr 1, vr 190, vr 191, vr 192, vi k, vi hv, vi kd, vi (σ.2 0), vi lf, vi 1, vi n, vi rd, vi i, l14] [] μ (PP (putL f 190 (lw s)) sc T τ σ) Q := by
  intro d
  induction d with
  | zero =>
    intro i s rd l14 hi h e0 e1 en r0 r1 hQ
    have q := hQ (vi i) l14
    rw [show fin s 0 0 = s from rfl, show rd + (sm8 (s.1 9) - sm8 (s.1 9)) = rd by omega] at q
    have c : n ≤ (i : Int) := by omega
    simp (disch := first | omega | rfl) only [e0_216, e0_218, e0_220, WpV_some, WpH_some, ↓ite_t, ↓ite_f, c, ↓reduceIte]
    exact q
  | succ d ih =>
    intro i s rd l14 hi h e0 e1 en r0 r1 hQ
    have c : ¬ n ≤ (i : Int) := by omega
    rw [e0_216]
    by_cases hds : s.2 1 < s.2 0
    · obtain ⟨⟨t0, t1⟩, k9, -, -⟩ := dnx_cnt h hds 0
      have d20 := dnx_2o (σ := s) 0 (j := 0) (by decide)
      have c2 : ¬ σ.2 0 ≤ s.2 1 := by omega
      have kd := cC_v (n79 (xs := xs) (f := f) (sc := sc) (T := T) (τ := τ) (σ := σ) (μ := μ) h hds hw e0 e1 en)
      have q := ih (i + 1) (dnx s 0) (rd + if 0 < tdl s 0 then 1 else 0) l14 (by omega) (h.dnxK 0) (by rw [dnx_o _ _ (by omega)]; exact e0) (by rw [dnx_o _ _ (by omega)]; exact e1) (by rw [d20]; exact en) (by split <;> omega) (by split <;> omega) (fun l13 l14 => by
        have q := hQ l13 l14
        rw [show fin s 0 (d + 1) = fin (dnx s 0) 0 d from rfl] at q
        rw [k9, show rd + (if 0 < tdl s 0 then 1 else 0) + (sm8 ((fin (dnx s 0) 0 d).1 9) - (sm8 (s.1 9) + if 0 < tdl s 0 then 1 else 0)) = rd + (sm8 ((fin (dnx s 0) 0 d).1 9) - sm8 (s.1 9)) by omega]
        exact q)
      simp only [Int.natCast_add, Int.cast_ofNat_Int] at q
      by_cases z : 0 < tdl s 0
      · have z2 : ¬ tdl s 0 ≤ 0 := by omega
        rw [if_pos z] at q
        simp (disch := first | omega | rfl) only [e0_218, e0_220, e0_223, e0_225, e0_226, e0_227, e0_229, e0_232, e0_234, e0_235, e0_236, e0_237, e0_239, e0_240, e0_243, e0_246, e0_247, e0_250, e0_251, e0_252, e0_254, e0_257, WpV_some, WpH_some, ↓ite_t, ↓ite_f, G_g2, lw_3, lT_1, Int.reduceToNat, kd, c, c2, z2, wrp_id, ↓reduceIte]
        exact q
      · have z2 : tdl s 0 ≤ 0 := by omega
        rw [if_neg z, Int.add_zero] at q
        simp (disch := first | omega | rfl) only [e0_218, e0_220, e0_223, e0_225, e0_226, e0_227, e0_229, e0_232, e0_234, e0_235, e0_236, e0_237, e0_239, e0_240, e0_243, e0_246, e0_247, e0_250, e0_251, e0_252, e0_254, e0_257, WpV_some, WpH_some, ↓ite_t, ↓ite_f, G_g2, lw_3, lT_1, Int.reduceToNat, kd, c, c2, z2, wrp_id, Int.add_zero, ↓reduceIte]
        exact q
    · have c2 : σ.2 0 ≤ s.2 1 := by omega
      have q := hQ (vi i) l14
      rw [fin_no 0 (d + 1) s (by omega), show rd + (sm8 (s.1 9) - sm8 (s.1 9)) = rd by omega] at q
      simp (disch := first | omega | rfl) only [e0_218, e0_220, e0_223, e0_225, e0_226, e0_227, e0_229, WpV_some, WpH_some, ↓ite_t, ↓ite_f, G_g2, lw_3, lT_1, Int.reduceToNat, c, c2, ↓reduceIte]
      exact q
theorem kd_go (h : ks σ) (hV : wfV V) (h0 : 0 ≤ sc) (h6 : sc ≤ 6) (hT : wfT T) {k hv kd : Int} (hk : 4 ≤ kd) (hk9 : kd < 9) (hl : σ.2 1 < σ.2 0) (l11 l12 l13 l14 : AV) (hN : ND xs k hv kd (σ.2 0) (σ.2 0 - σ.2 1) μ Q) : Wp xs 0 114 [vr 0, vr 1, vr 190, vr 191, vr 192, vi k, vi hv, vi kd, vi (σ.2 0), vi (σ.2 0 - σ.2 1), vi 1, l11, l12, l13, l14] [] μ (PP (putL (putV f V) 190 (lw σ)) sc T τ σ) Q := by
  obtain ⟨w1, w2, w3, w4, w5⟩ := id h.wf
  have r1 := lwv_r (iShr hv 4) (n := 5) (by decide) (by decide)
  have c1 : ¬ 9 ≤ kd := by omega
  have c2 : ¬ σ.2 0 - σ.2 1 ≤ 0 := by omega
  generalize hn : 1 + lwv (iShr hv 4) 5 = n
  have nr : 1 ≤ n ∧ n ≤ 5 := by omega
  simp (disch := first | omega | rfl) only [e0_114, e0_116, e0_117, e0_186, e0_188, e0_190, e0_193, e0_195, e0_198, e0_199, e0_201, e0_202, e0_203, e0_204, e0_207, e0_208, e0_210, e0_211, e0_213, e0_214, WpV_some, WpH_some, ↓ite_t, ↓ite_f, cC_v (m74 (iShr hv 4) (n := 5) (by decide)), hn, wrp_id, hk, c1, c2, ↓reduceIte]
  refine go_216 h.wf (by omega) n.toNat 0 σ 0 l14 (by omega) h rfl rfl rfl (by omega) (by omega) (fun l13 l14 => ?_)
  have hK := ks.finK 0 n.toNat σ h
  have q := cI_v (sv_run (xs := xs) (X := lw (fin σ 0 n.toNat)) (m66 (xs := xs) (f := putL f 190 (lw (fin σ 0 n.toNat))) (V := V) (sc := sc) (T := T) (τ := τ) (σ := σ) (μ := μ) h.wf hV h0 h6 n (by omega) (by omega))) P_o h1'
  rw [rdO_q h hK] at q
  simp (disch := first | omega | rfl) only [e0_260, e0_261, e0_263, e0_266, e0_268, e0_271, e0_272, e0_275, e0_276, e0_278, WpV_some, WpH_some, ↓ite_t, ↓ite_f, q, Int.zero_add, ne_eq, not_true_eq_false, ↓reduceIte]
  exact hN f (svV V sc σ) (svC sc) T τ _ hK (wfV_sv hV) (svC_r h0 h6).1 (svC_r h0 h6).2 hT _ _ _ _
end LK
