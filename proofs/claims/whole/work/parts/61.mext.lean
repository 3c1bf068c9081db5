/-! THE MODEL'S METHODS: frames, extend -/
section MY
variable {xs : List Int} {f : AH} {M : MG} {μ : Mu} {y pc : Nat} {L st : List AV} {Q : Out → Mu → AH → Prop} {σ : SG} {T : TG} {V : VG} {sc : Int} {z : Nat → Int}
theorem cnt_tko (σ : SG) {b : Nat} (hb : b < 8) (hf : σ.1 4 b ≠ -1) : sm8 (fun p => if (tko σ b).1 4 p = -1 then (0 : Int) else 1) = sm8 (fun p => if σ.1 4 p = -1 then (0 : Int) else 1) - 1 := by
  have e : (fun p => if (tko σ b).1 4 p = -1 then (0 : Int) else 1) = fu (fun p => if σ.1 4 p = -1 then (0 : Int) else 1) b 0 := by
    funext p
    rw [tko_4 σ hb]
    by_cases c : p = b
    · subst c; rw [fu_s, fu_s, if_pos rfl]
    · rw [fu_n _ _ c, fu_n _ _ c]
  rw [e, sm8_fu _ hb]
  rw [if_neg hf]
  omega
theorem frM_loop (n : Int) (hn1 : 1 ≤ n) : ∀ (d i : Nat) (σ : SG) (M : MG), i + d = 6 → rel σ (M.2.1 0) → sm8 (σ.1 6) ≤ n - 1 → sm8 (fun p => if σ.1 4 p = -1 then (0 : Int) else 1) ≤ d → ∃ zz, rel (frl n σ i d).1 zz ∧ sm8 (fun p => if (frl n σ i d).1.1 4 p = -1 then (0 : Int) else 1) ≤ n ∧ (frl n σ i d).1.1 6 = σ.1 6 ∧ ∀ Q, (Wp xs 107 53 [vr 190, vi n, vi i] [] μ (putM f M) Q = Wp xs 107 86 [vr 190, vi n, vi (frl n σ i d).2] [] μ (putM f (mAr M 0 zz)) Q) := by
  intro d
  induction d with
  | zero =>
    intro i σ M hi h hp hc
    have b3 := h.infB
    rw [co_8] at b3
    refine ⟨M.2.1 0, h, ?_, rfl, fun Q => ?_⟩
    · show sm8 (fun p => if σ.1 4 p = -1 then (0 : Int) else 1) ≤ n
      omega
    · rw [mAr_self]
      simp (disch := first | omega | rfl) only [e107_53, e107_54, e107_57, e107_60, e107_61, WpV_some, WpH_some, ↓ite_t, ↓ite_f, cI_v (m108 h.wM) M_o h190, cC_v (m106 _), b3, frl]
  | succ d ih =>
    intro i σ M hi h hp hc
    obtain ⟨w1, w2, w3, w4, w5⟩ := h.wf
    obtain ⟨n0, n1, n2⟩ := h.n
    have b3 := h.infB
    rw [co_8] at b3
    unfold frl
    rw [co_8]
    by_cases c : sm8 (fun p => if σ.1 4 p = -1 then (0 : Int) else 1) ≤ n
    · rw [if_pos c]
      refine ⟨M.2.1 0, h, c, rfl, fun Q => ?_⟩
      rw [mAr_self]
      simp (disch := first | omega | rfl) only [e107_53, e107_54, e107_57, e107_60, e107_61, WpV_some, WpH_some, ↓ite_t, ↓ite_f, cI_v (m108 h.wM) M_o h190, cC_v (m106 _), b3]
    · rw [if_neg c]
      obtain ⟨b, hb8, hb, hb4, hb6, -⟩ := h.vicG 0 (σ.2 1).toNat (by omega)
      have h1 := h.evict hb8 hb4
      have ec := cnt_tko σ hb8 hb4
      have e6 : (tko σ b).1 6 = σ.1 6 := tko_o _ _ (by decide) (by decide) (by decide)
      have q7 := cI_v (m99 (xs := xs) (f := f) (M := M) (μ := μ) h.wM 0 (σ.2 1) (by omega) (by omega)) M_o h190
      rw [h.vbE 0 _ (Or.inl rfl), hb] at q7
      have q8 := cI_v (m104 (xs := xs) (f := f) (M := M) (μ := μ) h (p := (b : Nat)) rfl hb8 hb4) M_o h190
      rw [hb]
      obtain ⟨zz, i1, i2, i3, i4⟩ := ih (i + 1) (tko σ b) (mAr M 0 (gos (M.2.1 0) b)) (by omega) (by rw [mAr_same]; exact h1) (by rw [e6]; exact hp) (by omega)
      refine ⟨zz, i1, i2, by rw [i3, e6], fun Q => ?_⟩
      have q := i4 Q
      simp only [Int.natCast_add, Int.cast_ofNat_Int, mAr_mAr] at q
      rw [e107_53]
      simp (disch := first | omega | rfl) only [e107_54, e107_57, e107_60, e107_61, e107_64, e107_65, e107_66, e107_67, e107_68, e107_71, e107_72, e107_73, e107_76, e107_79, e107_80, e107_83, WpV_some, WpH_some, ↓ite_t, ↓ite_f, M_f0, M_f1, M_f2, M_f3, M_f4, M_f5, M_f6, M_f7, M_f8, M_f9, M_f10, M_p0, M_p3, M_p6, M_p7, M_p10, M_g_0, M_g_1, M_g_2, M_g_3, M_g_4, M_g_5, M_s_0, M_s_1, M_s_2, M_s_3, M_s_4, M_s_5, Int.reduceToNat, n1, cI_v (m108 h.wM) M_o h190, cC_v (m106 _), b3, q7, q8, wrp_id, q]
theorem m107 (h : inv σ T V sc M) (n : Int) (hn0 : 1 ≤ n) (hn1 : n ≤ 6) (hp : sm 0 (σ.1 6) 0 8 ≤ n - 1) : ∃ M', inv (frs n σ).1 T (svV V sc σ) (svC sc) M' ∧ M'.1 0 = 0 ∧ Runs xs 107 [vr 190, vi n] μ (putM f M) (.inl (some (vi (frs n σ).2))) μ (putM f M') := by
  have h0 : inv σ T V sc (mS M 0 0) := h
  obtain ⟨g1, g2, g3, g4, g5, g6⟩ := h0.save
  obtain ⟨e1, e2, e3, e4⟩ := svM_2 (mS M 0 0)
  obtain ⟨n0, n1, n2⟩ := h.1.n
  obtain ⟨w1, w2, w3, w4, w5⟩ := h.1.wf
  have qs := cI_n (h0.m85E (xs := xs) (f := f) (μ := μ)) M_o h190
  rw [h.1.pin.s8] at hp
  have hcnt : sm8 (fun p => if σ.1 4 p = -1 then (0 : Int) else 1) ≤ (6 : Nat) := by
    obtain ⟨S, s1, s2, s3⟩ := h.1.infE
    have := set_le h.1 (S := S) ⟨s1, s3⟩
    have e := sm8_ext s3
    omega
  have b1 := h.1.pin.btsE
  have q1 := cC_v (m77 (xs := xs) (f := putM f M) (μ := μ) n 1 6)
  rw [if_pos ⟨hn0, hn1⟩] at q1
  generalize svM (mS M 0 0) = M1 at *
  obtain ⟨zz, i1, i2, i3, i4⟩ := frM_loop (xs := xs) (f := f) (μ := μ) n hn0 6 0 σ M1 rfl g1 hp hcnt
  have f2 := frl_2 n 6 0 σ
  obtain ⟨k, rfl⟩ : ∃ k : Nat, n = k := ⟨n.toNat, by omega⟩
  have z2 : zz 2 = σ.2 2 := by rw [i1.n.2.2, f2]
  have hz : ∃ zz', rel (frs k σ).1 zz' ∧ ∀ Q, Wp xs 107 86 [vr 190, vi k, vi (frl k σ 0 6).2] [] μ (putM f (mAr M1 0 zz)) Q = Q (.inl (some (vi (frs k σ).2))) μ (putM f (mAr M1 0 zz')) := by
    unfold frs
    dsimp only
    rw [f2]
    generalize frl k σ 0 6 = r at i1 i2 i3 i4 f2 ⊢
    by_cases c : (k : Int) < σ.2 2
    · rw [if_pos c]
      have hl := i1.less (k := k) (by omega) (by rw [f2]; exact c) i2 (by rw [i3]; exact hp)
      rw [f2] at hl
      refine ⟨_, hl, fun Q => ?_⟩
      have q9 := cI_n (m109 (xs := xs) (f := f) (M := mAr M1 0 zz) (μ := μ) (σ := r.1) (by rw [mAr_same]; exact i1)) M_o h190
      simp only [mAr_same, mAr_mAr] at q9
      simp (disch := first | omega | rfl) only [e107_86, e107_87, e107_88, e107_91, e107_92, e107_93, e107_96, e107_97, e107_100, e107_101, e107_104, e107_105, e107_106, e107_107, e107_108, WpV_some, WpH_some, ↓ite_t, ↓ite_f, M_f0, M_f1, M_f2, M_f3, M_f4, M_f5, M_f6, M_f7, M_f8, M_f9, M_f10, M_p0, M_p3, M_p6, M_p7, M_p10, M_g_0, M_g_1, M_g_2, M_g_3, M_g_4, M_g_5, M_s_0, M_s_1, M_s_2, M_s_3, M_s_4, M_s_5, mAr_same, mAr_mAr, mAr_1, mAr_h, mS_2, mS_same, mS_mS, mAr_mS, mh_1, mh_2, mh_h, mAr_01, mAr_02, mAr_03, mAr_04, mAr_05, mAr_10, mAr_12, mAr_13, mAr_14, mAr_15, mAr_20, mAr_21, mAr_23, mAr_24, mAr_25, mAr_30, mAr_31, mAr_32, mAr_34, mAr_35, mAr_40, mAr_41, mAr_42, mAr_43, mAr_45, mAr_50, mAr_51, mAr_52, mAr_53, mAr_54, mS_01, mS_02, mS_03, mS_10, mS_12, mS_13, mS_20, mS_21, mS_23, mS_30, mS_31, mS_32, Int.reduceToNat, z2, q9]
    · rw [if_neg c]
      have hl := i1.up (k := k) (by rw [f2]; omega) (by omega)
      refine ⟨_, hl, fun Q => ?_⟩
      simp (disch := first | omega | rfl) only [e107_86, e107_87, e107_88, e107_91, e107_92, e107_93, e107_96, e107_97, e107_100, e107_101, e107_104, e107_105, e107_106, e107_107, e107_108, WpV_some, WpH_some, ↓ite_t, ↓ite_f, M_f0, M_f1, M_f2, M_f3, M_f4, M_f5, M_f6, M_f7, M_f8, M_f9, M_f10, M_p0, M_p3, M_p6, M_p7, M_p10, M_g_0, M_g_1, M_g_2, M_g_3, M_g_4, M_g_5, M_s_0, M_s_1, M_s_2, M_s_3, M_s_4, M_s_5, mAr_same, mAr_mAr, mAr_1, mAr_h, mS_2, mS_same, mS_mS, mAr_mS, mh_1, mh_2, mh_h, mAr_01, mAr_02, mAr_03, mAr_04, mAr_05, mAr_10, mAr_12, mAr_13, mAr_14, mAr_15, mAr_20, mAr_21, mAr_23, mAr_24, mAr_25, mAr_30, mAr_31, mAr_32, mAr_34, mAr_35, mAr_40, mAr_41, mAr_42, mAr_43, mAr_45, mAr_50, mAr_51, mAr_52, mAr_53, mAr_54, mS_01, mS_02, mS_03, mS_10, mS_12, mS_13, mS_20, mS_21, mS_23, mS_30, mS_31, mS_32, Int.reduceToNat, z2]
  obtain ⟨zz', hz1, hz2⟩ := hz
  refine ⟨mAr M1 0 zz', ⟨by rw [mAr_same]; exact hz1, g2, g3, g4, g5, g6⟩, e3, Runs.iff fun Q hQ => ?_⟩
  show Wp xs 107 0 [vr 190, vi k, vu] [] μ (putM f M) Q
  have q := i4 Q
  simp only [Int.cast_ofNat_Int] at q
  simp (disch := first | omega | rfl) only [e107_0, e107_1, e107_2, e107_3, e107_5, e107_8, e107_11, e107_12, e107_15, e107_16, e107_19, e107_20, e107_21, e107_24, e107_25, e107_26, e107_27, e107_30, e107_31, e107_34, e107_35, e107_38, e107_39, e107_42, e107_45, e107_46, e107_47, e107_48, e107_51, e107_52, e107_54, e107_57, e107_60, e107_61, e107_64, e107_65, e107_66, e107_67, e107_68, e107_71, e107_72, e107_73, e107_76, e107_79, e107_80, e107_83, e107_87, e107_88, e107_91, e107_92, e107_93, e107_96, e107_97, e107_100, e107_101, e107_104, e107_105, e107_106, e107_107, e107_108, WpV_some, WpH_some, ↓ite_t, ↓ite_f, M_f0, M_f1, M_f2, M_f3, M_f4, M_f5, M_f6, M_f7, M_f8, M_f9, M_f10, M_p0, M_p3, M_p6, M_p7, M_p10, M_g_0, M_g_1, M_g_2, M_g_3, M_g_4, M_g_5, M_s_0, M_s_1, M_s_2, M_s_3, M_s_4, M_s_5, mAr_same, mAr_mAr, mAr_1, mAr_h, mS_2, mS_same, mS_mS, mAr_mS, mh_1, mh_2, mh_h, mAr_01, mAr_02, mAr_03, mAr_04, mAr_05, mAr_10, mAr_12, mAr_13, mAr_14, mAr_15, mAr_20, mAr_21, mAr_23, mAr_24, mAr_25, mAr_30, mAr_31, mAr_32, mAr_34, mAr_35, mAr_40, mAr_41, mAr_42, mAr_43, mAr_45, mAr_50, mAr_51, mAr_52, mAr_53, mAr_54, mS_01, mS_02, mS_03, mS_10, mS_12, mS_13, mS_20, mS_21, mS_23, mS_30, mS_31, mS_32, Int.reduceToNat, q1, cC_v (m106 _), b1, wrp_id, qs, ne_eq, Int.reduceEq, not_true_eq_false, not_false_eq_true, ↓reduceIte]
  rw [q, hz2]
  exact hQ
theorem m107a (n : Int) (hn : n < 1 ∨ 6 < n) : Runs xs 107 [vr 190, vi n] μ (putM f M) (.inl (some (vi 0))) μ (putM f (mS M 0 1)) := Runs.iff fun Q hQ => by
  show Wp xs 107 0 [vr 190, vi n, vu] [] μ (putM f M) Q
  have q1 := cC_v (m77 (xs := xs) (f := putM f M) (μ := μ) n 1 6)
  rw [if_neg (by omega)] at q1
  simp (disch := first | omega | rfl) only [e107_0, e107_1, e107_2, e107_3, e107_5, e107_8, e107_11, e107_12, e107_15, e107_16, e107_19, e107_20, e107_21, e107_24, e107_25, e107_26, e107_27, e107_30, e107_31, e107_34, e107_35, e107_38, e107_39, e107_42, e107_45, e107_46, e107_47, e107_48, e107_51, e107_52, e107_54, e107_57, e107_60, e107_61, e107_64, e107_65, e107_66, e107_67, e107_68, e107_71, e107_72, e107_73, e107_76, e107_79, e107_80, e107_83, e107_87, e107_88, e107_91, e107_92, e107_93, e107_96, e107_97, e107_100, e107_101, e107_104, e107_105, e107_106, e107_107, e107_108, WpV_some, WpH_some, ↓ite_t, ↓ite_f, M_f0, M_f1, M_f2, M_f3, M_f4, M_f5, M_f6, M_f7, M_f8, M_f9, M_f10, M_p0, M_p3, M_p6, M_p7, M_p10, M_g_0, M_g_1, M_g_2, M_g_3, M_g_4, M_g_5, M_s_0, M_s_1, M_s_2, M_s_3, M_s_4, M_s_5, mAr_same, mAr_mAr, mAr_1, mAr_h, mS_2, mS_same, mS_mS, mAr_mS, mh_1, mh_2, mh_h, mAr_01, mAr_02, mAr_03, mAr_04, mAr_05, mAr_10, mAr_12, mAr_13, mAr_14, mAr_15, mAr_20, mAr_21, mAr_23, mAr_24, mAr_25, mAr_30, mAr_31, mAr_32, mAr_34, mAr_35, mAr_40, mAr_41, mAr_42, mAr_43, mAr_45, mAr_50, mAr_51, mAr_52, mAr_53, mAr_54, mS_01, mS_02, mS_03, mS_10, mS_12, mS_13, mS_20, mS_21, mS_23, mS_30, mS_31, mS_32, q1, ne_eq, Int.reduceEq, not_true_eq_false, not_false_eq_true, ↓reduceIte]
  exact hQ
theorem m107s (h : inv σ T V sc M) (n : Int) (hn0 : 1 ≤ n) (hn1 : n ≤ 6) (hp : n - 1 < sm 0 (σ.1 6) 0 8) : Runs xs 107 [vr 190, vi n] μ (putM f M) (.inl (some (vi 0))) μ (putM f (mS M 0 2)) := Runs.iff fun Q hQ => by
  show Wp xs 107 0 [vr 190, vi n, vu] [] μ (putM f M) Q
  rw [h.1.pin.s8] at hp
  have b1 := h.1.pin.btsE
  have q1 := cC_v (m77 (xs := xs) (f := putM f M) (μ := μ) n 1 6)
  rw [if_pos ⟨hn0, hn1⟩] at q1
  simp (disch := first | omega | rfl) only [e107_0, e107_1, e107_2, e107_3, e107_5, e107_8, e107_11, e107_12, e107_15, e107_16, e107_19, e107_20, e107_21, e107_24, e107_25, e107_26, e107_27, e107_30, e107_31, e107_34, e107_35, e107_38, e107_39, e107_42, e107_45, e107_46, e107_47, e107_48, e107_51, e107_52, e107_54, e107_57, e107_60, e107_61, e107_64, e107_65, e107_66, e107_67, e107_68, e107_71, e107_72, e107_73, e107_76, e107_79, e107_80, e107_83, e107_87, e107_88, e107_91, e107_92, e107_93, e107_96, e107_97, e107_100, e107_101, e107_104, e107_105, e107_106, e107_107, e107_108, WpV_some, WpH_some, ↓ite_t, ↓ite_f, M_f0, M_f1, M_f2, M_f3, M_f4, M_f5, M_f6, M_f7, M_f8, M_f9, M_f10, M_p0, M_p3, M_p6, M_p7, M_p10, M_g_0, M_g_1, M_g_2, M_g_3, M_g_4, M_g_5, M_s_0, M_s_1, M_s_2, M_s_3, M_s_4, M_s_5, mAr_same, mAr_mAr, mAr_1, mAr_h, mS_2, mS_same, mS_mS, mAr_mS, mh_1, mh_2, mh_h, mAr_01, mAr_02, mAr_03, mAr_04, mAr_05, mAr_10, mAr_12, mAr_13, mAr_14, mAr_15, mAr_20, mAr_21, mAr_23, mAr_24, mAr_25, mAr_30, mAr_31, mAr_32, mAr_34, mAr_35, mAr_40, mAr_41, mAr_42, mAr_43, mAr_45, mAr_50, mAr_51, mAr_52, mAr_53, mAr_54, mS_01, mS_02, mS_03, mS_10, mS_12, mS_13, mS_20, mS_21, mS_23, mS_30, mS_31, mS_32, Int.reduceToNat, q1, cC_v (m106 _), b1, wrp_id, ne_eq, Int.reduceEq, not_true_eq_false, not_false_eq_true, ↓reduceIte]
  exact hQ
theorem ptM_loop {k pn : Nat} {w many : Int} (hT : qT T M) (hk : (k : Int) < T.2) (hp : pn < 8) (hpg : pgA (cA T k) = pn) (hw : w = wrA (cA T k)) (hm : many ≤ 100) : ∀ (d i : Nat) (σ : SG) (M : MG), qT T M → (i : Int) + d = many → rel σ (M.2.1 0) → σ.2 0 + d ≤ 80 → ∃ zz, rel (ptn σ pn w d) zz ∧ ∀ Q, (Wp xs 82 109 [vr 190, vi k, vi w, vi many, vi i] [] μ (putM f M) Q = Wp xs 82 168 [vr 190, vi k, vi w, vi many, vi many] [] μ (putM f (mAr M 0 zz)) Q) := by
  intro d
  induction d with
  | zero =>
    intro i σ M hT hi h hs
    refine ⟨M.2.1 0, h, fun Q => ?_⟩
    have hi : (i : Int) = many := by omega
    rw [mAr_self, hi]
    simp (disch := first | omega | rfl) only [e82_109, e82_111, e82_112, WpV_some, WpH_some, ↓ite_t, ↓ite_f]
  | succ d ih =>
    intro i σ M hT hi h hs
    have hT0 := hT
    obtain ⟨⟨t0, t01, t02⟩, t2, t3⟩ := hT0
    obtain ⟨w1, w2, w3, w4, w5⟩ := h.wf
    obtain ⟨n0, n1, n2⟩ := h.n
    obtain ⟨n, hn⟩ : ∃ n : Nat, σ.2 0 = n := ⟨(σ.2 0).toNat, by omega⟩
    have hw01 : w = 0 ∨ w = 1 := by
      rw [hw]; unfold wrA; split
      · exact Or.inr rfl
      · exact Or.inl rfl
    have hr := h.put (i := n) (p := pn) (w := w) (by omega) (by omega) (by omega) hp hw01 hn
    rw [inz_0] at hr
    rw [hn] at n0
    have q4 := fun w => cI_n (m86 (xs := xs) (f := f) (M := M) (μ := μ) (i := (n : Nat)) rfl (by omega) pn w) M_o h190
    have ec := hT.cAE (k := k) hk
    have ek : (k : Int).toNat = k := Int.toNat_natCast k
    obtain ⟨zz, i1, i2⟩ := ih (i + 1) (pta σ n pn w) (mAr M 0 (fu (lys (M.2.1 0) n pn w) 0 (n + 1))) hT (by omega) (by rw [mAr_same]; exact hr) (by rw [pta_0]; omega)
    refine ⟨zz, ?_, fun Q => ?_⟩
    · unfold ptn
      rw [hn]
      exact i1
    · have q := i2 Q
      simp only [Int.natCast_add, Int.cast_ofNat_Int, mAr_mAr] at q
      have l0 : ∀ w, lys (M.2.1 0) n pn w 0 = n := fun w => by rw [lys_n _ _ _ _ (by omega), n0]
      rw [e82_109]
      rw [ec] at hpg hw
      unfold pgA at hpg
      unfold wrA at hw
      by_cases c1 : 65 ≤ M.2.1 3 k ∧ M.2.1 3 k ≤ 72
      · rw [if_pos c1] at hw
        rw [if_neg (by omega), if_pos c1] at hpg
        subst hw
        simp (disch := first | omega | rfl) only [e82_111, e82_112, e82_115, e82_116, e82_117, e82_120, e82_121, e82_122, e82_123, e82_126, e82_127, e82_128, e82_129, e82_132, e82_134, e82_137, e82_139, e82_140, e82_141, e82_144, e82_145, e82_148, e82_149, e82_152, e82_153, e82_156, e82_157, e82_158, e82_159, e82_160, e82_161, e82_162, e82_165, WpV_some, WpH_some, ↓ite_t, ↓ite_f, M_f0, M_f1, M_f2, M_f3, M_f4, M_f5, M_f6, M_f7, M_f8, M_f9, M_f10, M_p0, M_p3, M_p6, M_p7, M_p10, M_g_0, M_g_1, M_g_2, M_g_3, M_g_4, M_g_5, M_s_0, M_s_1, M_s_2, M_s_3, M_s_4, M_s_5, mAr_same, mAr_mAr, mAr_1, mAr_h, mS_2, mS_same, mS_mS, mAr_mS, mh_1, mh_2, mh_h, mAr_01, mAr_02, mAr_03, mAr_04, mAr_05, mAr_10, mAr_12, mAr_13, mAr_14, mAr_15, mAr_20, mAr_21, mAr_23, mAr_24, mAr_25, mAr_30, mAr_31, mAr_32, mAr_34, mAr_35, mAr_40, mAr_41, mAr_42, mAr_43, mAr_45, mAr_50, mAr_51, mAr_52, mAr_53, mAr_54, mS_01, mS_02, mS_03, mS_10, mS_12, mS_13, mS_20, mS_21, mS_23, mS_30, mS_31, mS_32, Int.reduceToNat, ek, n0, hpg, q4, l0, wrp_id, ne_eq, Int.reduceEq, not_true_eq_false, not_false_eq_true, ↓reduceIte, q]
      · rw [if_neg c1] at hw
        have c2 : 97 ≤ M.2.1 3 k ∧ M.2.1 3 k ≤ 104 := by
          apply Classical.byContradiction
          intro c2
          rw [if_neg c2, if_neg c1] at hpg
          omega
        rw [if_pos c2] at hpg
        subst hw
        simp (disch := first | omega | rfl) only [e82_111, e82_112, e82_115, e82_116, e82_117, e82_120, e82_121, e82_122, e82_123, e82_126, e82_127, e82_128, e82_129, e82_132, e82_134, e82_137, e82_139, e82_140, e82_141, e82_144, e82_145, e82_148, e82_149, e82_152, e82_153, e82_156, e82_157, e82_158, e82_159, e82_160, e82_161, e82_162, e82_165, WpV_some, WpH_some, ↓ite_t, ↓ite_f, M_f0, M_f1, M_f2, M_f3, M_f4, M_f5, M_f6, M_f7, M_f8, M_f9, M_f10, M_p0, M_p3, M_p6, M_p7, M_p10, M_g_0, M_g_1, M_g_2, M_g_3, M_g_4, M_g_5, M_s_0, M_s_1, M_s_2, M_s_3, M_s_4, M_s_5, mAr_same, mAr_mAr, mAr_1, mAr_h, mS_2, mS_same, mS_mS, mAr_mS, mh_1, mh_2, mh_h, mAr_01, mAr_02, mAr_03, mAr_04, mAr_05, mAr_10, mAr_12, mAr_13, mAr_14, mAr_15, mAr_20, mAr_21, mAr_23, mAr_24, mAr_25, mAr_30, mAr_31, mAr_32, mAr_34, mAr_35, mAr_40, mAr_41, mAr_42, mAr_43, mAr_45, mAr_50, mAr_51, mAr_52, mAr_53, mAr_54, mS_01, mS_02, mS_03, mS_10, mS_12, mS_13, mS_20, mS_21, mS_23, mS_30, mS_31, mS_32, Int.reduceToNat, ek, n0, hpg, q4, l0, wrp_id, ne_eq, Int.reduceEq, not_true_eq_false, not_false_eq_true, ↓reduceIte, q]
theorem tmA_r2 (T : TG) (i : Int) : 0 ≤ tmA T i ∧ tmA T i ≤ 9 := by
  unfold tmA
  by_cases c : pgA (cA T i) = -1
  · rw [if_pos c]; omega
  · rw [if_neg c]
    unfold dgA
    by_cases y : 50 ≤ cA T (i + 1) ∧ cA T (i + 1) ≤ 57
    · rw [if_pos y, if_pos rfl]; omega
    · rw [if_neg y, if_neg (by decide)]; omega
theorem exM_loop (hv : okT T) : ∀ (d k : Nat) (σ : SG) (M : MG) (l2 l3 l4 : AV), qT T M → (k : Int) + d = T.2 → rel σ (M.2.1 0) → σ.2 0 + tld T k d ≤ 80 → ∃ zz, rel (exn T σ k d) zz ∧ ∀ Q, (Wp xs 82 62 [vr 190, vi k, l2, l3, l4] [] μ (putM f M) Q = Q (.inl (some (vi ((exn T σ k d).2 0)))) μ (putM f (mS (mAr M 0 zz) 2 0))) := by
  intro d
  induction d with
  | zero =>
    intro k σ M l2 l3 l4 hT hk h hs
    obtain ⟨⟨t0, t01, t02⟩, t2, t3⟩ := hT
    obtain ⟨n0, n1, n2⟩ := h.n
    refine ⟨M.2.1 0, h, fun Q => ?_⟩
    rw [mAr_self]
    unfold exn
    simp (disch := first | omega | rfl) only [e82_62, e82_63, e82_64, e82_67, e82_174, e82_175, e82_176, e82_179, e82_180, e82_183, e82_184, e82_185, WpV_some, WpH_some, ↓ite_t, ↓ite_f, M_f0, M_f1, M_f2, M_f3, M_f4, M_f5, M_f6, M_f7, M_f8, M_f9, M_f10, M_p0, M_p3, M_p6, M_p7, M_p10, M_g_0, M_g_1, M_g_2, M_g_3, M_g_4, M_g_5, M_s_0, M_s_1, M_s_2, M_s_3, M_s_4, M_s_5, mAr_same, mAr_mAr, mAr_1, mAr_h, mS_2, mS_same, mS_mS, mAr_mS, mh_1, mh_2, mh_h, mAr_01, mAr_02, mAr_03, mAr_04, mAr_05, mAr_10, mAr_12, mAr_13, mAr_14, mAr_15, mAr_20, mAr_21, mAr_23, mAr_24, mAr_25, mAr_30, mAr_31, mAr_32, mAr_34, mAr_35, mAr_40, mAr_41, mAr_42, mAr_43, mAr_45, mAr_50, mAr_51, mAr_52, mAr_53, mAr_54, mS_01, mS_02, mS_03, mS_10, mS_12, mS_13, mS_20, mS_21, mS_23, mS_30, mS_31, mS_32, Int.reduceToNat, t2, n0]
  | succ d ih =>
    intro k σ M l2 l3 l4 hT hk h hs
    have hT0 := hT
    obtain ⟨⟨t0, t01, t02⟩, t2, t3⟩ := hT0
    have ec := hT.cAE (k := k) (by omega)
    have ek : (k : Int).toNat = k := Int.toNat_natCast k
    have rt := tmA_r2 T k
    have rn := tld_nn T d (k + 1)
    have q1 := cC_v (m77 (xs := xs) (f := putM f M) (μ := μ) (M.2.1 3 k) 65 72)
    have qw : (if 65 ≤ M.2.1 3 k ∧ M.2.1 3 k ≤ 72 then (1 : Int) else 0) = wrA (cA T k) := by rw [ec]; rfl
    rw [qw] at q1
    have q2 := cC_v (m81 (xs := xs) (f := putM f M) (μ := μ) (M.2.1 3 k))
    unfold tld at hs
    by_cases c : pgA (cA T k) = -1
    · have e0 : tmA T k = 0 := by unfold tmA; rw [if_pos c]
      rw [← ec, ltr_0 c, ec] at q2
      obtain ⟨zz, i1, i2⟩ := ih (k + 1) σ M (vi (wrA (cA T k))) (vi 0) (vi 0) hT (by omega) h (by omega)
      refine ⟨zz, ?_, fun Q => ?_⟩
      · unfold exn
        rw [e0]
        exact i1
      · have q := i2 Q
        simp only [Int.natCast_add, Int.cast_ofNat_Int] at q
        unfold exn
        rw [e0]
        rw [e82_62]
        simp (disch := first | omega | rfl) only [e82_63, e82_64, e82_67, e82_70, e82_71, e82_74, e82_75, e82_76, e82_78, e82_80, e82_83, e82_84, e82_85, e82_88, e82_89, e82_90, e82_93, e82_104, e82_105, e82_106, e82_107, e82_109, e82_111, e82_112, e82_168, e82_171, WpV_some, WpH_some, ↓ite_t, ↓ite_f, M_f0, M_f1, M_f2, M_f3, M_f4, M_f5, M_f6, M_f7, M_f8, M_f9, M_f10, M_p0, M_p3, M_p6, M_p7, M_p10, M_g_0, M_g_1, M_g_2, M_g_3, M_g_4, M_g_5, M_s_0, M_s_1, M_s_2, M_s_3, M_s_4, M_s_5, mAr_same, mAr_mAr, mAr_1, mAr_h, mS_2, mS_same, mS_mS, mAr_mS, mh_1, mh_2, mh_h, mAr_01, mAr_02, mAr_03, mAr_04, mAr_05, mAr_10, mAr_12, mAr_13, mAr_14, mAr_15, mAr_20, mAr_21, mAr_23, mAr_24, mAr_25, mAr_30, mAr_31, mAr_32, mAr_34, mAr_35, mAr_40, mAr_41, mAr_42, mAr_43, mAr_45, mAr_50, mAr_51, mAr_52, mAr_53, mAr_54, mS_01, mS_02, mS_03, mS_10, mS_12, mS_13, mS_20, mS_21, mS_23, mS_30, mS_31, mS_32, t2, ek, q1, q2, wrp_id, ne_eq, Int.reduceEq, not_true_eq_false, not_false_eq_true, ↓reduceIte]
        exact q
    · rw [← ec, ltr_1 c, ec] at q2
      have hpr : 0 ≤ pgA (cA T k) ∧ pgA (cA T k) < 8 := by
        unfold pgA at c ⊢
        by_cases y : 97 ≤ cA T k ∧ cA T k ≤ 104
        · rw [if_pos y]; omega
        · rw [if_neg y] at c ⊢
          by_cases y2 : 65 ≤ cA T k ∧ cA T k ≤ 72
          · rw [if_pos y2]; omega
          · rw [if_neg y2] at c; exact absurd rfl c
      obtain ⟨pn, hpn⟩ : ∃ pn : Nat, pgA (cA T k) = pn := ⟨(pgA (cA T k)).toNat, by omega⟩
      have q3 := cI_v (m84 (xs := xs) (f := f) (M := M) (μ := μ) hT hv (k := k) (by omega) c) M_o h190
      obtain ⟨z1, j1, j2⟩ := ptM_loop (xs := xs) (f := f) (μ := μ) (k := k) (pn := pn) (w := wrA (cA T k)) (many := tmA T k) hT (by omega) (by omega) hpn rfl (by omega) (tmA T k).toNat 0 σ M hT (by omega) h (by omega)
      obtain ⟨zz, i1, i2⟩ := ih (k + 1) (ptn σ pn (wrA (cA T k)) (tmA T k).toNat) (mAr M 0 z1) (vi (wrA (cA T k))) (vi (tmA T k)) (vi (tmA T k)) hT (by omega) (by rw [mAr_same]; exact j1) (by rw [ptn_0]; omega)
      refine ⟨zz, ?_, fun Q => ?_⟩
      · unfold exn
        rw [hpn]
        exact i1
      · have q := i2 Q
        have q5 := j2 Q
        simp only [Int.natCast_add, Int.cast_ofNat_Int, mAr_mAr] at q q5
        unfold exn
        rw [hpn]
        rw [e82_62]
        simp (disch := first | omega | rfl) only [e82_63, e82_64, e82_67, e82_70, e82_71, e82_74, e82_75, e82_76, e82_78, e82_80, e82_83, e82_84, e82_85, e82_88, e82_89, e82_90, e82_93, e82_96, e82_97, e82_98, e82_101, e82_105, e82_106, e82_107, WpV_some, WpH_some, ↓ite_t, ↓ite_f, M_f0, M_f1, M_f2, M_f3, M_f4, M_f5, M_f6, M_f7, M_f8, M_f9, M_f10, M_p0, M_p3, M_p6, M_p7, M_p10, M_g_0, M_g_1, M_g_2, M_g_3, M_g_4, M_g_5, M_s_0, M_s_1, M_s_2, M_s_3, M_s_4, M_s_5, mAr_same, mAr_mAr, mAr_1, mAr_h, mS_2, mS_same, mS_mS, mAr_mS, mh_1, mh_2, mh_h, mAr_01, mAr_02, mAr_03, mAr_04, mAr_05, mAr_10, mAr_12, mAr_13, mAr_14, mAr_15, mAr_20, mAr_21, mAr_23, mAr_24, mAr_25, mAr_30, mAr_31, mAr_32, mAr_34, mAr_35, mAr_40, mAr_41, mAr_42, mAr_43, mAr_45, mAr_50, mAr_51, mAr_52, mAr_53, mAr_54, mS_01, mS_02, mS_03, mS_10, mS_12, mS_13, mS_20, mS_21, mS_23, mS_30, mS_31, mS_32, t2, ek, q1, q2, q3, wrp_id, ne_eq, Int.reduceEq, not_true_eq_false, not_false_eq_true, ↓reduceIte, q5]
        simp (disch := first | omega | rfl) only [e82_168, e82_171, wrp_id]
        exact q
theorem m82 (h : inv σ T V sc M) (ha : 0 < T.2 ∧ fwr T 0 T.2.toNat = T.2) (hs : σ.2 0 + tld T 0 T.2.toNat ≤ 80) : ∃ M', inv (exn T σ 0 T.2.toNat) (T.1, 0) (svV V sc σ) (svC sc) M' ∧ M'.1 0 = 0 ∧ Runs xs 82 [vr 190] μ (putM f M) (.inl (some (vi ((exn T σ 0 T.2.toNat).2 0)))) μ (putM f M') := by
  have h0 : inv σ T V sc (mS M 0 0) := h
  obtain ⟨g1, g2, g3, g4, g5, g6⟩ := h0.save
  obtain ⟨e1, e2, e3, e4⟩ := svM_2 (mS M 0 0)
  obtain ⟨n0, n1, n2⟩ := h.1.n
  obtain ⟨w1, w2, w3, w4, w5⟩ := h.1.wf
  have hT := h.2.1
  obtain ⟨⟨t0, t01, t02⟩, t2, t3⟩ := id hT
  have hv : okT T := fun k hk c => fwr_ok T T.2.toNat 0 (by omega) ha.2 k (Nat.zero_le _) hk c
  have qs := cI_n (h0.m85E (xs := xs) (f := f) (μ := μ)) M_o h190
  have q1 := cI_v (m80 (xs := xs) (f := f) (M := M) (μ := μ) hT) M_o h190
  rw [ha.2] at q1
  have q2 := cI_v (m83 (xs := xs) (f := f) (M := M) (μ := μ) hT hv) M_o h190
  have rn := tld_nn T T.2.toNat 0
  generalize svM (mS M 0 0) = M1 at *
  obtain ⟨zz, i1, i2⟩ := exM_loop (xs := xs) (f := f) (μ := μ) hv T.2.toNat 0 σ M1 vu vu vu g2 (by omega) g1 hs
  refine ⟨mS (mAr M1 0 zz) 2 0, ⟨i1, ⟨⟨Int.le_refl 0, (by decide : (0 : Int) ≤ 40), t02⟩, rfl, fun i hi => ?_⟩, g3, g4, g5, g6⟩, e3, Runs.iff fun Q hQ => ?_⟩
  · have hi : (i : Int) < 0 := hi
    omega
  · show Wp xs 82 0 [vr 190, vu, vu, vu, vu] [] μ (putM f M) Q
    have q := i2 Q
    simp only [Int.cast_ofNat_Int] at q
    have c0 : ¬ T.2 = 0 := by omega
    simp (disch := first | omega | rfl) only [e82_0, e82_1, e82_2, e82_5, e82_6, e82_9, e82_12, e82_13, e82_16, e82_19, e82_20, e82_23, e82_24, e82_27, e82_28, e82_29, e82_30, e82_33, e82_34, e82_36, e82_39, e82_40, e82_43, e82_44, e82_47, e82_48, e82_51, e82_54, e82_55, e82_56, e82_57, e82_60, e82_61, e82_63, e82_64, e82_67, e82_70, e82_71, e82_74, e82_75, e82_76, e82_78, e82_80, e82_83, e82_84, e82_85, e82_88, e82_89, e82_90, e82_93, e82_96, e82_97, e82_98, e82_101, e82_104, e82_105, e82_106, e82_107, e82_111, e82_112, e82_115, e82_116, e82_117, e82_120, e82_121, e82_122, e82_123, e82_126, e82_127, e82_128, e82_129, e82_132, e82_134, e82_137, e82_139, e82_140, e82_141, e82_144, e82_145, e82_148, e82_149, e82_152, e82_153, e82_156, e82_157, e82_158, e82_159, e82_160, e82_161, e82_162, e82_165, e82_171, e82_174, e82_175, e82_176, e82_179, e82_180, e82_183, e82_184, e82_185, WpV_some, WpH_some, ↓ite_t, ↓ite_f, M_f0, M_f1, M_f2, M_f3, M_f4, M_f5, M_f6, M_f7, M_f8, M_f9, M_f10, M_p0, M_p3, M_p6, M_p7, M_p10, M_g_0, M_g_1, M_g_2, M_g_3, M_g_4, M_g_5, M_s_0, M_s_1, M_s_2, M_s_3, M_s_4, M_s_5, mAr_same, mAr_mAr, mAr_1, mAr_h, mS_2, mS_same, mS_mS, mAr_mS, mh_1, mh_2, mh_h, mAr_01, mAr_02, mAr_03, mAr_04, mAr_05, mAr_10, mAr_12, mAr_13, mAr_14, mAr_15, mAr_20, mAr_21, mAr_23, mAr_24, mAr_25, mAr_30, mAr_31, mAr_32, mAr_34, mAr_35, mAr_40, mAr_41, mAr_42, mAr_43, mAr_45, mAr_50, mAr_51, mAr_52, mAr_53, mAr_54, mS_01, mS_02, mS_03, mS_10, mS_12, mS_13, mS_20, mS_21, mS_23, mS_30, mS_31, mS_32, Int.reduceToNat, q1, q2, t2, n0, c0, qs, wrp_id, Int.lt_irrefl, ne_eq, Int.reduceEq, not_true_eq_false, not_false_eq_true, ↓reduceIte]
    rw [q]
    exact hQ
theorem m82a (h : inv σ T V sc M) (ha : ¬ (0 < T.2 ∧ fwr T 0 T.2.toNat = T.2)) : Runs xs 82 [vr 190] μ (putM f M) (.inl (some (vi 0))) μ (putM f (mS M 0 1)) := Runs.iff fun Q hQ => by
  have hT := h.2.1
  obtain ⟨⟨t0, t01, t02⟩, t2, t3⟩ := id hT
  have r := fwr_r T T.2.toNat 0 (by omega)
  have q1 := cI_v (m80 (xs := xs) (f := f) (M := M) (μ := μ) hT) M_o h190
  show Wp xs 82 0 [vr 190, vu, vu, vu, vu] [] μ (putM f M) Q
  by_cases c : fwr T 0 T.2.toNat < T.2
  · simp (disch := first | omega | rfl) only [e82_0, e82_1, e82_2, e82_5, e82_6, e82_9, e82_12, e82_13, e82_16, e82_19, e82_20, e82_23, e82_24, e82_27, e82_28, e82_29, e82_30, e82_33, e82_34, e82_36, e82_39, e82_40, e82_43, e82_44, e82_47, e82_48, e82_51, e82_54, e82_55, e82_56, e82_57, e82_60, e82_61, e82_63, e82_64, e82_67, e82_70, e82_71, e82_74, e82_75, e82_76, e82_78, e82_80, e82_83, e82_84, e82_85, e82_88, e82_89, e82_90, e82_93, e82_96, e82_97, e82_98, e82_101, e82_104, e82_105, e82_106, e82_107, e82_111, e82_112, e82_115, e82_116, e82_117, e82_120, e82_121, e82_122, e82_123, e82_126, e82_127, e82_128, e82_129, e82_132, e82_134, e82_137, e82_139, e82_140, e82_141, e82_144, e82_145, e82_148, e82_149, e82_152, e82_153, e82_156, e82_157, e82_158, e82_159, e82_160, e82_161, e82_162, e82_165, e82_171, e82_174, e82_175, e82_176, e82_179, e82_180, e82_183, e82_184, e82_185, WpV_some, WpH_some, ↓ite_t, ↓ite_f, M_f0, M_f1, M_f2, M_f3, M_f4, M_f5, M_f6, M_f7, M_f8, M_f9, M_f10, M_p0, M_p3, M_p6, M_p7, M_p10, M_g_0, M_g_1, M_g_2, M_g_3, M_g_4, M_g_5, M_s_0, M_s_1, M_s_2, M_s_3, M_s_4, M_s_5, mAr_same, mAr_mAr, mAr_1, mAr_h, mS_2, mS_same, mS_mS, mAr_mS, mh_1, mh_2, mh_h, mAr_01, mAr_02, mAr_03, mAr_04, mAr_05, mAr_10, mAr_12, mAr_13, mAr_14, mAr_15, mAr_20, mAr_21, mAr_23, mAr_24, mAr_25, mAr_30, mAr_31, mAr_32, mAr_34, mAr_35, mAr_40, mAr_41, mAr_42, mAr_43, mAr_45, mAr_50, mAr_51, mAr_52, mAr_53, mAr_54, mS_01, mS_02, mS_03, mS_10, mS_12, mS_13, mS_20, mS_21, mS_23, mS_30, mS_31, mS_32, q1, t2, ne_eq, Int.reduceEq, not_true_eq_false, not_false_eq_true, ↓reduceIte]
    exact hQ
  · have c0 : T.2 = 0 := by omega
    simp (disch := first | omega | rfl) only [e82_0, e82_1, e82_2, e82_5, e82_6, e82_9, e82_12, e82_13, e82_16, e82_19, e82_20, e82_23, e82_24, e82_27, e82_28, e82_29, e82_30, e82_33, e82_34, e82_36, e82_39, e82_40, e82_43, e82_44, e82_47, e82_48, e82_51, e82_54, e82_55, e82_56, e82_57, e82_60, e82_61, e82_63, e82_64, e82_67, e82_70, e82_71, e82_74, e82_75, e82_76, e82_78, e82_80, e82_83, e82_84, e82_85, e82_88, e82_89, e82_90, e82_93, e82_96, e82_97, e82_98, e82_101, e82_104, e82_105, e82_106, e82_107, e82_111, e82_112, e82_115, e82_116, e82_117, e82_120, e82_121, e82_122, e82_123, e82_126, e82_127, e82_128, e82_129, e82_132, e82_134, e82_137, e82_139, e82_140, e82_141, e82_144, e82_145, e82_148, e82_149, e82_152, e82_153, e82_156, e82_157, e82_158, e82_159, e82_160, e82_161, e82_162, e82_165, e82_171, e82_174, e82_175, e82_176, e82_179, e82_180, e82_183, e82_184, e82_185, WpV_some, WpH_some, ↓ite_t, ↓ite_f, M_f0, M_f1, M_f2, M_f3, M_f4, M_f5, M_f6, M_f7, M_f8, M_f9, M_f10, M_p0, M_p3, M_p6, M_p7, M_p10, M_g_0, M_g_1, M_g_2, M_g_3, M_g_4, M_g_5, M_s_0, M_s_1, M_s_2, M_s_3, M_s_4, M_s_5, mAr_same, mAr_mAr, mAr_1, mAr_h, mS_2, mS_same, mS_mS, mAr_mS, mh_1, mh_2, mh_h, mAr_01, mAr_02, mAr_03, mAr_04, mAr_05, mAr_10, mAr_12, mAr_13, mAr_14, mAr_15, mAr_20, mAr_21, mAr_23, mAr_24, mAr_25, mAr_30, mAr_31, mAr_32, mAr_34, mAr_35, mAr_40, mAr_41, mAr_42, mAr_43, mAr_45, mAr_50, mAr_51, mAr_52, mAr_53, mAr_54, mS_01, mS_02, mS_03, mS_10, mS_12, mS_13, mS_20, mS_21, mS_23, mS_30, mS_31, mS_32, q1, t2, c0, ne_eq, Int.reduceEq, not_true_eq_false, not_false_eq_true, ↓reduceIte]
    rw [ite_self]
    exact hQ
theorem m82s (h : inv σ T V sc M) (ha : 0 < T.2 ∧ fwr T 0 T.2.toNat = T.2) (hs : 80 < σ.2 0 + tld T 0 T.2.toNat) : Runs xs 82 [vr 190] μ (putM f M) (.inl (some (vi 0))) μ (putM f (mS M 0 2)) := Runs.iff fun Q hQ => by
  have hT := h.2.1
  obtain ⟨⟨t0, t01, t02⟩, t2, t3⟩ := id hT
  obtain ⟨n0, n1, n2⟩ := h.1.n
  obtain ⟨w1, w2, w3, w4, w5⟩ := h.1.wf
  have hv : okT T := fun k hk c => fwr_ok T T.2.toNat 0 (by omega) ha.2 k (Nat.zero_le _) hk c
  have q1 := cI_v (m80 (xs := xs) (f := f) (M := M) (μ := μ) hT) M_o h190
  rw [ha.2] at q1
  have q2 := cI_v (m83 (xs := xs) (f := f) (M := M) (μ := μ) hT hv) M_o h190
  have rl := tld_le T T.2.toNat 0
  have c0 : ¬ T.2 = 0 := by omega
  show Wp xs 82 0 [vr 190, vu, vu, vu, vu] [] μ (putM f M) Q
  simp (disch := first | omega | rfl) only [e82_0, e82_1, e82_2, e82_5, e82_6, e82_9, e82_12, e82_13, e82_16, e82_19, e82_20, e82_23, e82_24, e82_27, e82_28, e82_29, e82_30, e82_33, e82_34, e82_36, e82_39, e82_40, e82_43, e82_44, e82_47, e82_48, e82_51, e82_54, e82_55, e82_56, e82_57, e82_60, e82_61, e82_63, e82_64, e82_67, e82_70, e82_71, e82_74, e82_75, e82_76, e82_78, e82_80, e82_83, e82_84, e82_85, e82_88, e82_89, e82_90, e82_93, e82_96, e82_97, e82_98, e82_101, e82_104, e82_105, e82_106, e82_107, e82_111, e82_112, e82_115, e82_116, e82_117, e82_120, e82_121, e82_122, e82_123, e82_126, e82_127, e82_128, e82_129, e82_132, e82_134, e82_137, e82_139, e82_140, e82_141, e82_144, e82_145, e82_148, e82_149, e82_152, e82_153, e82_156, e82_157, e82_158, e82_159, e82_160, e82_161, e82_162, e82_165, e82_171, e82_174, e82_175, e82_176, e82_179, e82_180, e82_183, e82_184, e82_185, WpV_some, WpH_some, ↓ite_t, ↓ite_f, M_f0, M_f1, M_f2, M_f3, M_f4, M_f5, M_f6, M_f7, M_f8, M_f9, M_f10, M_p0, M_p3, M_p6, M_p7, M_p10, M_g_0, M_g_1, M_g_2, M_g_3, M_g_4, M_g_5, M_s_0, M_s_1, M_s_2, M_s_3, M_s_4, M_s_5, mAr_same, mAr_mAr, mAr_1, mAr_h, mS_2, mS_same, mS_mS, mAr_mS, mh_1, mh_2, mh_h, mAr_01, mAr_02, mAr_03, mAr_04, mAr_05, mAr_10, mAr_12, mAr_13, mAr_14, mAr_15, mAr_20, mAr_21, mAr_23, mAr_24, mAr_25, mAr_30, mAr_31, mAr_32, mAr_34, mAr_35, mAr_40, mAr_41, mAr_42, mAr_43, mAr_45, mAr_50, mAr_51, mAr_52, mAr_53, mAr_54, mS_01, mS_02, mS_03, mS_10, mS_12, mS_13, mS_20, mS_21, mS_23, mS_30, mS_31, mS_32, Int.reduceToNat, q1, q2, t2, n0, c0, wrp_id, Int.lt_irrefl, ne_eq, Int.reduceEq, not_true_eq_false, not_false_eq_true, ↓reduceIte]
  exact hQ
end MY
