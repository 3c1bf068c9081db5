/-! THE LAW'S type: its contract -/
theorem let_ok {c p : Int} (hc : c = 65 ∨ c = 97) (h0 : 0 ≤ p) (h1 : p < 8) : pgA (c + p) ≠ -1 ∧ dgA (c + p) = 0 := by
  unfold pgA dgA
  rcases hc with rfl | rfl
  · rw [if_neg (by omega), if_pos (by omega), if_neg (by omega)]
    exact ⟨by omega, rfl⟩
  · rw [if_pos (by omega), if_neg (by omega)]
    exact ⟨by omega, rfl⟩
section LTY
variable {xs : List Int} {f : AH} {sc : Int} {τ σ s : SG} {μ : Mu} {y pc : Nat} {L st : List AV}
theorem ty_loop (hv : Int) {n pgs : Int} (hn : n ≤ 6) (hp0 : 3 ≤ pgs) (hp1 : pgs ≤ 8) : ∀ (d k : Nat) (T : TG) (m : Int) (l6 l7 l8 : AV), (k : Int) + d = n → txt_ok T m k → ∃ (T' : TG) (m' : Int), txt_ok T' m' n.toNat ∧ ∀ Q : Out → Mu → AH → Prop, (Wp xs 75 11 [vr 1, vi hv, vi n, vi pgs, vi m, vi k, l6, l7, l8] [] μ (PP f sc T τ σ) Q = Q (.inl (some (vi m'))) μ (PP f sc T' τ σ)) := by
  intro d
  induction d with
  | zero =>
    intro k T m l6 l7 l8 hk hT
    have e : n.toNat = k := by omega
    have c : n ≤ (k : Int) := by omega
    refine ⟨T, m, by rw [e]; exact hT, fun Q => ?_⟩
    simp (disch := first | omega | rfl) only [e75_11, e75_13, e75_14, e75_118, e75_120, WpV_some, WpH_some, ↓ite_t, ↓ite_f, c, ↓reduceIte]
  | succ d ih =>
    intro k T m l6 l7 l8 hk hT
    have c : ¬ n ≤ (k : Int) := by omega
    have hk6 : k < 6 := by omega
    obtain ⟨hw, h1, h2, h3, h4, h5, h6⟩ := id hT
    generalize hg : iShr hv (3 * (k : Int)) = g
    have rp := lwv_r g (n := pgs) (by omega) (by omega)
    have kp := cC_v (m74 (xs := xs) (g := PP f sc T τ σ) (μ := μ) g (n := pgs) (by omega))
    have r6 := lwv_r (iShr g 5) (n := 6) (by decide) (by decide)
    have k6 := cC_v (m74 (xs := xs) (g := PP f sc T τ σ) (μ := μ) (iShr g 5) (n := 6) (by decide))
    have r8 := lwv_r (iShr g 7) (n := 8) (by decide) (by decide)
    have k8 := cC_v (m74 (xs := xs) (g := PP f sc T τ σ) (μ := μ) (iShr g 7) (n := 8) (by decide))
    have r3 := lwv_r (iShr g 4) (n := 3) (by decide) (by decide)
    have k3 := cC_v (m74 (xs := xs) (g := PP f sc T τ σ) (μ := μ) (iShr g 4) (n := 3) (by decide))
    -- the letter's case
    obtain ⟨cs, hcs, hcs2⟩ : ∃ cs : Int, (cs = 65 ∨ cs = 97) ∧ ((lwv (iShr g 4) 3 ≠ 0 ∧ cs = 97) ∨ (¬ lwv (iShr g 4) 3 ≠ 0 ∧ cs = 65)) := by
      by_cases x : lwv (iShr g 4) 3 ≠ 0
      · exact ⟨97, Or.inr rfl, Or.inl ⟨x, rfl⟩⟩
      · exact ⟨65, Or.inl rfl, Or.inr ⟨x, rfl⟩⟩
    obtain ⟨l1, l2⟩ := let_ok hcs rp.1 (by omega)
    have cr : 33 ≤ cs + lwv g pgs ∧ cs + lwv g pgs ≤ 126 := by rcases hcs with rfl | rfl <;> omega
    have ka := cI_v (m69 (xs := xs) (f := f) (sc := sc) (τ := τ) (σ := σ) (μ := μ) hw (cs + lwv g pgs) cr.1 cr.2 (by omega)) P_o h1'
    by_cases x6 : lwv (iShr g 5) 6 ≠ 0
    · -- once
      obtain ⟨q1, -⟩ := txt_1 hT (by omega) cr.1 cr.2 l1 l2
      obtain ⟨T', m', i1, i2⟩ := ih (k + 1) (apd T (cs + lwv g pgs)) (m + 1) (vi g) (vi (lwv g pgs)) (vi 1) (by omega) q1
      refine ⟨T', m', i1, fun Q => ?_⟩
      have q := i2 Q
      simp only [Int.natCast_add, Int.cast_ofNat_Int] at q
      rw [← q, e75_11]
      rcases hcs2 with ⟨y1, rfl⟩ | ⟨y1, rfl⟩
      · simp (disch := first | omega | rfl) only [e75_0, e75_1, e75_4, e75_5, e75_6, e75_8, e75_9, e75_13, e75_14, e75_17, e75_18, e75_19, e75_21, e75_22, e75_23, e75_25, e75_27, e75_28, e75_31, e75_33, e75_35, e75_36, e75_37, e75_39, e75_42, e75_45, e75_46, e75_48, e75_50, e75_51, e75_53, e75_56, e75_57, e75_60, e75_61, e75_63, e75_64, e75_66, e75_67, e75_68, e75_69, e75_72, e75_75, e75_77, e75_80, e75_82, e75_84, e75_85, e75_88, e75_89, e75_91, e75_92, e75_95, e75_96, e75_98, e75_100, e75_101, e75_104, e75_105, e75_107, e75_109, e75_110, e75_112, e75_115, e75_118, e75_120, WpV_some, WpH_some, ↓ite_t, ↓ite_f, c, hg, kp, k6, k3, ka, x6, y1, wrp_id, Int.le_refl, ne_eq, not_false_eq_true, ↓reduceIte]
      · simp (disch := first | omega | rfl) only [e75_0, e75_1, e75_4, e75_5, e75_6, e75_8, e75_9, e75_13, e75_14, e75_17, e75_18, e75_19, e75_21, e75_22, e75_23, e75_25, e75_27, e75_28, e75_31, e75_33, e75_35, e75_36, e75_37, e75_39, e75_42, e75_45, e75_46, e75_48, e75_50, e75_51, e75_53, e75_56, e75_57, e75_60, e75_61, e75_63, e75_64, e75_66, e75_67, e75_68, e75_69, e75_72, e75_75, e75_77, e75_80, e75_82, e75_84, e75_85, e75_88, e75_89, e75_91, e75_92, e75_95, e75_96, e75_98, e75_100, e75_101, e75_104, e75_105, e75_107, e75_109, e75_110, e75_112, e75_115, e75_118, e75_120, WpV_some, WpH_some, ↓ite_t, ↓ite_f, c, hg, kp, k6, k3, ka, x6, y1, wrp_id, Int.le_refl, ↓reduceIte]
    · -- several times
      have q1 := txt_2 hT (by omega) cr.1 cr.2 l1 l2 (w := 2 + lwv (iShr g 7) 8) (by omega) (by omega)
      have hw2 : wfT (apd T (cs + lwv g pgs)) := wf_apd hw (by omega) (by omega) (by omega)
      have e1 : (apd T (cs + lwv g pgs)).2 = T.2 + 1 := rfl
      have kb := cI_v (m69 (xs := xs) (f := f) (sc := sc) (τ := τ) (σ := σ) (μ := μ) hw2 (48 + (2 + lwv (iShr g 7) 8)) (by omega) (by omega) (by rw [e1]; omega)) P_o h1'
      obtain ⟨T', m', i1, i2⟩ := ih (k + 1) (apd (apd T (cs + lwv g pgs)) (48 + (2 + lwv (iShr g 7) 8))) (m + (2 + lwv (iShr g 7) 8)) (vi g) (vi (lwv g pgs)) (vi (2 + lwv (iShr g 7) 8)) (by omega) q1
      refine ⟨T', m', i1, fun Q => ?_⟩
      have q := i2 Q
      simp only [Int.natCast_add, Int.cast_ofNat_Int] at q
      rw [← q, e75_11]
      have c1 : ¬ (2 + lwv (iShr g 7) 8 ≤ 1) := by omega
      rcases hcs2 with ⟨y1, rfl⟩ | ⟨y1, rfl⟩
      · simp (disch := first | omega | rfl) only [e75_0, e75_1, e75_4, e75_5, e75_6, e75_8, e75_9, e75_13, e75_14, e75_17, e75_18, e75_19, e75_21, e75_22, e75_23, e75_25, e75_27, e75_28, e75_31, e75_33, e75_35, e75_36, e75_37, e75_39, e75_42, e75_45, e75_46, e75_48, e75_50, e75_51, e75_53, e75_56, e75_57, e75_60, e75_61, e75_63, e75_64, e75_66, e75_67, e75_68, e75_69, e75_72, e75_75, e75_77, e75_80, e75_82, e75_84, e75_85, e75_88, e75_89, e75_91, e75_92, e75_95, e75_96, e75_98, e75_100, e75_101, e75_104, e75_105, e75_107, e75_109, e75_110, e75_112, e75_115, e75_118, e75_120, WpV_some, WpH_some, ↓ite_t, ↓ite_f, c, c1, hg, kp, k6, k8, k3, ka, kb, x6, y1, wrp_id, ↓reduceIte]
      · simp (disch := first | omega | rfl) only [e75_0, e75_1, e75_4, e75_5, e75_6, e75_8, e75_9, e75_13, e75_14, e75_17, e75_18, e75_19, e75_21, e75_22, e75_23, e75_25, e75_27, e75_28, e75_31, e75_33, e75_35, e75_36, e75_37, e75_39, e75_42, e75_45, e75_46, e75_48, e75_50, e75_51, e75_53, e75_56, e75_57, e75_60, e75_61, e75_63, e75_64, e75_66, e75_67, e75_68, e75_69, e75_72, e75_75, e75_77, e75_80, e75_82, e75_84, e75_85, e75_88, e75_89, e75_91, e75_92, e75_95, e75_96, e75_98, e75_100, e75_101, e75_104, e75_105, e75_107, e75_109, e75_110, e75_112, e75_115, e75_118, e75_120, WpV_some, WpH_some, ↓ite_t, ↓ite_f, c, c1, hg, kp, k6, k8, k3, ka, kb, x6, y1, wrp_id, ↓reduceIte]
theorem m75 {T : TG} (hT : wfT T) (hv : Int) {n pgs : Int} (hn0 : 1 ≤ n) (hn : n ≤ 6) (hp0 : 3 ≤ pgs) (hp1 : pgs ≤ 8) : ∃ (T' : TG) (m' : Int), wfT T' ∧ (0 < T'.2 ∧ fwr T' 0 T'.2.toNat = T'.2) ∧ tld T' 0 T'.2.toNat = m' ∧ 1 ≤ m' ∧ m' ≤ 54 ∧ Runs xs 75 [vr 1, vi hv, vi n, vi pgs] μ (PP f sc T τ σ) (.inl (some (vi m'))) μ (PP f sc T' τ σ) := by
  obtain ⟨T', m', ⟨h0, h1, h2, h3, h4, h5, h6⟩, i2⟩ := ty_loop (xs := xs) (f := f) (sc := sc) (τ := τ) (σ := σ) (μ := μ) hv hn hp0 hp1 n.toNat 0 (T.1, 0) 0 vu vu vu (by omega) (txt_0 T.1 hT.2.2)
  obtain ⟨t1, t2, t3⟩ := id h0
  refine ⟨T', m', h0, ⟨by omega, fwr_q _ _ (by omega) (fun j _ hj => h3 j (by omega))⟩, h4, by omega, by omega, Runs.iff fun Q hQ => ?_⟩
  show Wp xs 75 0 [vr 1, vi hv, vi n, vi pgs, vu, vu, vu, vu, vu] [] μ (PP f sc T τ σ) Q
  have q := i2 Q
  simp only [Int.cast_ofNat_Int] at q
  simp (disch := first | omega | rfl) only [e75_0, e75_1, e75_4, e75_5, e75_6, e75_8, e75_9, WpV_some, WpH_some, ↓ite_t, ↓ite_f, cI_v (m44 (xs := xs)) P_o h1']
  exact q ▸ hQ
end LTY
