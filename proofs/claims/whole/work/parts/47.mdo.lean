/-! THE MODEL'S METHODS: an ask done -/
section MK
variable {xs : List Int} {f : AH} {M : MG} {μ : Mu} {y pc : Nat} {L st : List AV} {Q : Out → Mu → AH → Prop} {σ : SG}
theorem mAr_mAr (M : MG) (k : Nat) (g h : Nat → Int) : mAr (mAr M k g) k h = mAr M k h := by
  unfold mAr
  refine Prod.ext rfl (Prod.ext ?_ rfl)
  funext j
  show ru (ru M.2.1 k g) k h j = ru M.2.1 k h j
  unfold ru
  split <;> rfl
theorem mAr_same (M : MG) (k : Nat) (g : Nat → Int) : (mAr M k g).2.1 k = g := if_pos rfl
theorem rel.wM (h : rel σ (M.2.1 0)) : wfM M := by
  obtain ⟨w1, w2, w3, w4, w5⟩ := h.wf
  obtain ⟨n0, n1, n2⟩ := h.n
  unfold wfM
  rw [n0, n1, n2]
  exact ⟨w1, w2, w3, w4, w5⟩
theorem m104 (h : rel σ (M.2.1 0)) {b : Nat} {p : Int} (hpb : p = b) (hb : b < 8) (hf : σ.1 4 b ≠ -1) : Runs xs 104 [vr 190, vi p] μ (putM f M) (.inl (some (vi (if bt (M.2.1 0 4) p = 1 then 1 else 0)))) μ (putM f (mAr M 0 (gos (M.2.1 0) p))) := Runs.iff fun Q hQ => by
  subst hpb
  show Wp xs 104 0 [vr 190, vi b, vu] [] μ (putM f M) Q
  obtain ⟨w1, w2, w3, w4, w5⟩ := id h.wf
  have hr := h.F.1 b hb
  have e := h.fofE hb
  have f0 : 0 ≤ fof (M.2.1 0) b (-1) 0 (M.2.1 0 2).toNat := by omega
  have f1 : fof (M.2.1 0) b (-1) 0 (M.2.1 0 2).toNat < 6 := by omega
  have q1 := cC_v (m100 (xs := xs) (μ := μ) (f := putM f M) (M.2.1 0 4) b)
  unfold gos go2 go1 at hQ
  by_cases c : bt (M.2.1 0 4) b = 1
  · rw [if_pos c] at q1
    rw [if_pos c] at hQ
    simp (disch := first | omega | rfl) only [e104_0, e104_1, e104_4, e104_5, e104_6, e104_7, e104_10, e104_11, e104_12, e104_15, e104_16, e104_17, e104_18, e104_21, e104_22, e104_23, e104_24, e104_25, e104_28, e104_30, e104_31, e104_32, e104_33, e104_34, e104_35, e104_38, e104_39, e104_42, e104_43, e104_44, e104_45, e104_46, e104_49, e104_50, e104_51, e104_52, e104_53, e104_54, e104_55, e104_56, e104_57, e104_58, e104_59, e104_60, WpV_some, WpH_some, ↓ite_t, ↓ite_f, M_f0, M_f1, M_f2, M_f3, M_f4, M_f5, M_f6, M_f7, M_f8, M_f9, M_f10, M_p0, M_p3, M_p6, M_p7, M_p10, M_g_0, M_g_1, M_g_2, M_g_3, M_g_4, M_g_5, M_s_0, M_s_1, M_s_2, M_s_3, M_s_4, M_s_5, q1, cI_v (m97 h.wM _) M_o h190, wrp_id, Int.reduceToNat, mAr_same, mAr_mAr, ne_eq, Int.reduceEq, not_true_eq_false, not_false_eq_true, ↓reduceIte]
    exact hQ
  · rw [if_neg c] at q1
    rw [if_neg c] at hQ
    simp (disch := first | omega | rfl) only [e104_0, e104_1, e104_4, e104_5, e104_6, e104_7, e104_10, e104_11, e104_12, e104_15, e104_16, e104_17, e104_18, e104_21, e104_22, e104_23, e104_24, e104_25, e104_28, e104_30, e104_31, e104_32, e104_33, e104_34, e104_35, e104_38, e104_39, e104_42, e104_43, e104_44, e104_45, e104_46, e104_49, e104_50, e104_51, e104_52, e104_53, e104_54, e104_55, e104_56, e104_57, e104_58, e104_59, e104_60, WpV_some, WpH_some, ↓ite_t, ↓ite_f, M_f0, M_f1, M_f2, M_f3, M_f4, M_f5, M_f6, M_f7, M_f8, M_f9, M_f10, M_p0, M_p3, M_p6, M_p7, M_p10, M_g_0, M_g_1, M_g_2, M_g_3, M_g_4, M_g_5, M_s_0, M_s_1, M_s_2, M_s_3, M_s_4, M_s_5, q1, cI_v (m97 h.wM _) M_o h190, wrp_id, Int.reduceToNat, mAr_same, mAr_mAr, ne_eq, Int.reduceEq, not_true_eq_false, not_false_eq_true, ↓reduceIte]
    exact hQ
theorem m96 (h : rel σ (M.2.1 0)) (hd : σ.2 1 < σ.2 0) (rule : Int) (hr : rule = 0 ∨ rule = 1 ∨ rule = 2) : Runs xs 96 [vr 190, vi rule] μ (putM f M) (.inl (some (vi (dnr (M.2.1 0))))) μ (putM f (mAr M 0 (dnm (M.2.1 0) rule))) := Runs.iff fun Q hQ => by
  show Wp xs 96 0 [vr 190, vi rule, vu, vu, vu, vu, vu] [] μ (putM f M) Q
  obtain ⟨w1, w2, w3, w4, w5⟩ := id h.wf
  obtain ⟨a, p, ha, ha8, hpa, hp, e1, e2, e3⟩ := h.page hd
  have p0 : 0 ≤ npg (M.2.1 0) := by omega
  have p1 : npg (M.2.1 0) < 8 := by omega
  have hff := h.fofE hp
  rw [← e1] at hff
  have hfr := h.F.1 p hp
  have q2 := cI_v (m92 (xs := xs) (f := f) (M := M) (μ := μ) (M.2.1 0 1) 0 (by omega) (by omega) (by omega) (by omega)) M_o h190
  rw [show M.2.1 0 (27 + 4 * M.2.1 0 1 + 0).toNat = npg (M.2.1 0) from rfl] at q2
  have q4 := fun (M' : MG) => cI_v (m92 (xs := xs) (f := f) (M := M') (μ := μ) (M.2.1 0 1) 1 (by omega) (by omega) (by omega) (by omega)) M_o h190
  have q5 := fun (M' : MG) (v : Int) => cI_n (m87 (xs := xs) (f := f) (M := M') (μ := μ) (M.2.1 0 1) 2 v (by omega) (by omega) (by omega) (by omega)) M_o h190
  have q6 := fun (M' : MG) (v : Int) => cI_n (m87 (xs := xs) (f := f) (M := M') (μ := μ) (M.2.1 0 1) 3 v (by omega) (by omega) (by omega) (by omega)) M_o h190
  unfold dnm dnr at hQ
  by_cases c : fof (M.2.1 0) (npg (M.2.1 0)) (-1) 0 (M.2.1 0 2).toNat = -1
  · rw [if_pos c, if_neg (fun x => x c)] at hQ
    by_cases c2 : emf (M.2.1 0) (-1) (M.2.1 0 2).toNat = -1
    · rw [if_neg (fun x => x c2)] at hQ
      have hl : lef (σ.1 4) 0 (σ.2 2).toNat = -1 := by rw [← h.emfE]; exact c2
      obtain ⟨b, hb8, hb, hb4, hb6, -⟩ := h.vicE rule (σ.2 1 + 1).toNat hl
      have hv : nvi (M.2.1 0) rule = b := by unfold nvi; rw [h.vbE rule _ hr, e3, ← ha, hb]
      have h1 := h.evict hb8 hb4
      rw [← hv] at h1
      have hrb := h.F.1 b hb8
      have hle := h1.emfE
      rw [tko_2, hv, lef_tko h hb8 hb4 hl, ← hv] at hle
      have h1' : rel (tko σ (nvi (M.2.1 0) rule)) ((mAr M 0 (gos (M.2.1 0) (nvi (M.2.1 0) rule))).2.1 0) := by rw [mAr_same]; exact h1
      have q7 := cI_v (m99 (xs := xs) (f := f) (M := M) (μ := μ) h.wM rule (M.2.1 0 1 + 1) (by omega) (by omega)) M_o h190
      rw [show vbm (M.2.1 0) rule (M.2.1 0 1 + 1).toNat (-1) 0 8 = nvi (M.2.1 0) rule from rfl] at q7
      have q8 := cI_v (m104 (xs := xs) (f := f) (M := M) (μ := μ) h hv hb8 hb4) M_o h190
      have q9 := cI_v (m98 (xs := xs) (f := f) (μ := μ) h1'.wM) M_o h190
      rw [mAr_same] at q9
      generalize nvi (M.2.1 0) rule = v at *
      unfold mkm mk2 mk1 rdm rd1 at hQ
      by_cases c5 : bt (M.2.1 0 4) v = 1
      · rw [if_pos c5] at hQ q8
        simp (disch := first | omega | rfl) only [e96_0, e96_1, e96_4, e96_5, e96_6, e96_7, e96_8, e96_9, e96_10, e96_13, e96_14, e96_15, e96_16, e96_19, e96_20, e96_23, e96_24, e96_27, e96_28, e96_30, e96_31, e96_33, e96_35, e96_38, e96_39, e96_42, e96_43, e96_45, e96_47, e96_50, e96_51, e96_54, e96_55, e96_58, e96_59, e96_60, e96_61, e96_62, e96_63, e96_66, e96_68, e96_69, e96_71, e96_74, e96_77, e96_78, e96_81, e96_82, e96_84, e96_86, e96_89, e96_90, e96_93, e96_94, e96_95, e96_98, e96_99, e96_100, e96_101, e96_102, e96_105, e96_107, e96_108, e96_109, e96_110, e96_111, e96_112, e96_113, e96_114, e96_115, e96_118, e96_119, e96_120, e96_121, e96_122, e96_123, e96_124, e96_127, e96_128, e96_129, e96_130, e96_131, e96_132, e96_133, e96_134, e96_136, e96_139, e96_140, e96_141, e96_142, e96_144, e96_147, e96_148, e96_151, e96_152, e96_153, e96_154, e96_155, e96_156, e96_157, e96_159, e96_162, e96_163, e96_166, e96_167, WpV_some, WpH_some, ↓ite_t, ↓ite_f, M_f0, M_f1, M_f2, M_f3, M_f4, M_f5, M_f6, M_f7, M_f8, M_f9, M_f10, M_p0, M_p3, M_p6, M_p7, M_p10, M_g_0, M_g_1, M_g_2, M_g_3, M_g_4, M_g_5, M_s_0, M_s_1, M_s_2, M_s_3, M_s_4, M_s_5, q2, q4, q5, q6, q7, q8, q9, cI_v (m97 h.wM _) M_o h190, cI_v (m98 h.wM) M_o h190, wrp_id, Int.reduceToNat, mAr_same, mAr_mAr, c, c2, ne_eq, Int.reduceEq, not_true_eq_false, not_false_eq_true, ↓reduceIte]
        exact hQ
      · rw [if_neg c5] at hQ q8
        simp (disch := first | omega | rfl) only [e96_0, e96_1, e96_4, e96_5, e96_6, e96_7, e96_8, e96_9, e96_10, e96_13, e96_14, e96_15, e96_16, e96_19, e96_20, e96_23, e96_24, e96_27, e96_28, e96_30, e96_31, e96_33, e96_35, e96_38, e96_39, e96_42, e96_43, e96_45, e96_47, e96_50, e96_51, e96_54, e96_55, e96_58, e96_59, e96_60, e96_61, e96_62, e96_63, e96_66, e96_68, e96_69, e96_71, e96_74, e96_77, e96_78, e96_81, e96_82, e96_84, e96_86, e96_89, e96_90, e96_93, e96_94, e96_95, e96_98, e96_99, e96_100, e96_101, e96_102, e96_105, e96_107, e96_108, e96_109, e96_110, e96_111, e96_112, e96_113, e96_114, e96_115, e96_118, e96_119, e96_120, e96_121, e96_122, e96_123, e96_124, e96_127, e96_128, e96_129, e96_130, e96_131, e96_132, e96_133, e96_134, e96_136, e96_139, e96_140, e96_141, e96_142, e96_144, e96_147, e96_148, e96_151, e96_152, e96_153, e96_154, e96_155, e96_156, e96_157, e96_159, e96_162, e96_163, e96_166, e96_167, WpV_some, WpH_some, ↓ite_t, ↓ite_f, M_f0, M_f1, M_f2, M_f3, M_f4, M_f5, M_f6, M_f7, M_f8, M_f9, M_f10, M_p0, M_p3, M_p6, M_p7, M_p10, M_g_0, M_g_1, M_g_2, M_g_3, M_g_4, M_g_5, M_s_0, M_s_1, M_s_2, M_s_3, M_s_4, M_s_5, q2, q4, q5, q6, q7, q8, q9, cI_v (m97 h.wM _) M_o h190, cI_v (m98 h.wM) M_o h190, wrp_id, Int.reduceToNat, mAr_same, mAr_mAr, c, c2, ne_eq, Int.reduceEq, not_true_eq_false, not_false_eq_true, ↓reduceIte]
        exact hQ
    · rw [if_pos c2] at hQ
      have f0 : 0 ≤ emf (M.2.1 0) (-1) (M.2.1 0 2).toNat ∧ emf (M.2.1 0) (-1) (M.2.1 0 2).toNat < 6 := by
        rw [h.emfE] at c2 ⊢
        have key : ∀ (d i : Nat), lef (σ.1 4) i d = -1 ∨ (0 ≤ lef (σ.1 4) i d ∧ lef (σ.1 4) i d < (i + d : Nat)) := by
          intro d
          induction d with
          | zero => intro i; exact Or.inl rfl
          | succ d ih =>
            intro i
            unfold lef
            split
            · exact Or.inr ⟨by omega, by omega⟩
            · rcases ih (i + 1) with e | e
              · exact Or.inl e
              · exact Or.inr ⟨e.1, by omega⟩
        rcases key (σ.2 2).toNat 0 with e | e
        · exact absurd e c2
        · omega
      obtain ⟨f0, f1⟩ := f0
      unfold mkm mk2 mk1 rdm rd1 at hQ
      simp (disch := first | omega | rfl) only [e96_0, e96_1, e96_4, e96_5, e96_6, e96_7, e96_8, e96_9, e96_10, e96_13, e96_14, e96_15, e96_16, e96_19, e96_20, e96_23, e96_24, e96_27, e96_28, e96_30, e96_31, e96_33, e96_35, e96_38, e96_39, e96_42, e96_43, e96_45, e96_47, e96_50, e96_51, e96_54, e96_55, e96_58, e96_59, e96_60, e96_61, e96_62, e96_63, e96_66, e96_68, e96_69, e96_71, e96_74, e96_77, e96_78, e96_81, e96_82, e96_84, e96_86, e96_89, e96_90, e96_93, e96_94, e96_95, e96_98, e96_99, e96_100, e96_101, e96_102, e96_105, e96_107, e96_108, e96_109, e96_110, e96_111, e96_112, e96_113, e96_114, e96_115, e96_118, e96_119, e96_120, e96_121, e96_122, e96_123, e96_124, e96_127, e96_128, e96_129, e96_130, e96_131, e96_132, e96_133, e96_134, e96_136, e96_139, e96_140, e96_141, e96_142, e96_144, e96_147, e96_148, e96_151, e96_152, e96_153, e96_154, e96_155, e96_156, e96_157, e96_159, e96_162, e96_163, e96_166, e96_167, WpV_some, WpH_some, ↓ite_t, ↓ite_f, M_f0, M_f1, M_f2, M_f3, M_f4, M_f5, M_f6, M_f7, M_f8, M_f9, M_f10, M_p0, M_p3, M_p6, M_p7, M_p10, M_g_0, M_g_1, M_g_2, M_g_3, M_g_4, M_g_5, M_s_0, M_s_1, M_s_2, M_s_3, M_s_4, M_s_5, q2, q4, q5, q6, cI_v (m97 h.wM _) M_o h190, cI_v (m98 h.wM) M_o h190, wrp_id, Int.reduceToNat, mAr_same, mAr_mAr, c, c2, ne_eq, Int.reduceEq, not_true_eq_false, not_false_eq_true, ↓reduceIte]
      exact hQ
  · rw [if_neg c, if_pos c] at hQ
    unfold mkm mk2 mk1 at hQ
    simp (disch := first | omega | rfl) only [e96_0, e96_1, e96_4, e96_5, e96_6, e96_7, e96_8, e96_9, e96_10, e96_13, e96_14, e96_15, e96_16, e96_19, e96_20, e96_23, e96_24, e96_27, e96_28, e96_30, e96_31, e96_33, e96_35, e96_38, e96_39, e96_42, e96_43, e96_45, e96_47, e96_50, e96_51, e96_54, e96_55, e96_58, e96_59, e96_60, e96_61, e96_62, e96_63, e96_66, e96_68, e96_69, e96_71, e96_74, e96_77, e96_78, e96_81, e96_82, e96_84, e96_86, e96_89, e96_90, e96_93, e96_94, e96_95, e96_98, e96_99, e96_100, e96_101, e96_102, e96_105, e96_107, e96_108, e96_109, e96_110, e96_111, e96_112, e96_113, e96_114, e96_115, e96_118, e96_119, e96_120, e96_121, e96_122, e96_123, e96_124, e96_127, e96_128, e96_129, e96_130, e96_131, e96_132, e96_133, e96_134, e96_136, e96_139, e96_140, e96_141, e96_142, e96_144, e96_147, e96_148, e96_151, e96_152, e96_153, e96_154, e96_155, e96_156, e96_157, e96_159, e96_162, e96_163, e96_166, e96_167, WpV_some, WpH_some, ↓ite_t, ↓ite_f, M_f0, M_f1, M_f2, M_f3, M_f4, M_f5, M_f6, M_f7, M_f8, M_f9, M_f10, M_p0, M_p3, M_p6, M_p7, M_p10, M_g_0, M_g_1, M_g_2, M_g_3, M_g_4, M_g_5, M_s_0, M_s_1, M_s_2, M_s_3, M_s_4, M_s_5, q2, q4, q5, q6, cI_v (m97 h.wM _) M_o h190, wrp_id, Int.reduceToNat, mAr_same, mAr_mAr, c, ne_eq, Int.reduceEq, not_true_eq_false, not_false_eq_true, ↓reduceIte]
    exact hQ
end MK
