/-! THE MODEL'S METHODS: the fewest reads -/
section MV
variable {xs : List Int} {f : AH} {M : MG} {μ : Mu} {y pc : Nat} {L st : List AV} {Q : Out → Mu → AH → Prop} {σ : SG}
theorem m131 {s : Int} {k : Nat} (e : s = k) (hk : k < 256) (n : Int) : Runs xs 131 [vr 190, vi s, vi n] μ (putM f M) (.inl none) μ (putM f (mAr M 5 (rch (M.2.1 5) k n))) := Runs.iff fun Q hQ => by
  subst e
  show Wp xs 131 0 [vr 190, vi k, vi n] [] μ (putM f M) Q
  unfold rch at hQ
  by_cases c : n < M.2.1 5 k
  · rw [if_pos c] at hQ
    simp (disch := first | omega | rfl) only [e131_0, e131_1, e131_4, e131_5, e131_6, e131_7, e131_10, e131_11, e131_12, e131_15, e131_16, e131_19, e131_20, e131_23, e131_24, e131_25, e131_26, WpV_some, WpH_some, ↓ite_t, ↓ite_f, M_f0, M_f1, M_f2, M_f3, M_f4, M_f5, M_f6, M_f7, M_f8, M_f9, M_f10, M_p0, M_p3, M_p6, M_p7, M_p10, M_g_0, M_g_1, M_g_2, M_g_3, M_g_4, M_g_5, M_s_0, M_s_1, M_s_2, M_s_3, M_s_4, M_s_5, Int.toNat_natCast]
    exact hQ
  · rw [if_neg c] at hQ
    simp (disch := first | omega | rfl) only [e131_0, e131_1, e131_4, e131_5, e131_6, e131_7, e131_10, e131_11, e131_12, e131_15, e131_16, e131_19, e131_20, e131_23, e131_24, e131_25, e131_26, WpV_some, WpH_some, ↓ite_t, ↓ite_f, M_f0, M_f1, M_f2, M_f3, M_f4, M_f5, M_f6, M_f7, M_f8, M_f9, M_f10, M_p0, M_p3, M_p6, M_p7, M_p10, M_g_0, M_g_1, M_g_2, M_g_3, M_g_4, M_g_5, M_s_0, M_s_1, M_s_2, M_s_3, M_s_4, M_s_5, Int.toNat_natCast]
    exact hQ
theorem ask1_loop (p : Int) (l3 : AV) : ∀ (d k : Nat), k + d = 256 → (Wp xs 130 2 [vr 190, vi p, vi k, l3] [] μ (putM f (mAr M 5 (fun j => if j < k then 1000 else M.2.1 5 j))) Q = Wp xs 130 26 [vr 190, vi p, vi 0, l3] [] μ (putM f (mAr M 5 (fun _ => 1000))) Q) := by
  intro d
  induction d with
  | zero =>
    intro k hk
    have e : putM f (mAr M 5 (fun j => if j < k then 1000 else M.2.1 5 j)) = putM f (mAr M 5 (fun _ => 1000)) := putM_ext f M (by decide) fun j hj => by
      have hj : j < 256 := hj
      rw [if_pos (by omega)]
    rw [e]
    simp (disch := first | omega | rfl) only [e130_0, e130_1, e130_2, e130_3, e130_6, e130_9, e130_10, e130_13, e130_14, e130_17, e130_18, e130_21, e130_24, e130_25, e130_27, e130_30, e130_33, e130_34, e130_37, e130_38, e130_39, e130_42, e130_45, e130_46, e130_47, e130_50, e130_53, e130_54, e130_55, e130_56, e130_59, e130_60, e130_61, e130_64, e130_67, e130_68, e130_71, e130_72, e130_73, e130_76, e130_79, e130_80, e130_83, e130_84, e130_87, e130_88, e130_89, e130_92, e130_93, e130_94, e130_95, e130_96, e130_97, e130_98, e130_99, e130_102, e130_103, e130_104, e130_105, e130_106, e130_109, e130_112, e130_113, e130_116, e130_117, e130_118, e130_121, e130_124, e130_125, e130_126, e130_127, e130_129, e130_132, e130_133, e130_134, e130_137, e130_140, e130_141, e130_144, e130_145, e130_146, e130_147, e130_150, e130_153, e130_154, e130_155, e130_156, e130_157, e130_158, e130_159, e130_160, e130_161, e130_162, e130_163, e130_164, e130_165, e130_166, e130_169, e130_170, e130_171, e130_172, e130_173, e130_176, e130_179, e130_182, e130_185, e130_188, e130_189, e130_190, e130_191, e130_194, e130_197, e130_198, e130_201, e130_202, e130_203, e130_206, e130_207, e130_208, e130_209, e130_212, e130_215, WpV_some, WpH_some, ↓ite_t, ↓ite_f, M_f0, M_f1, M_f2, M_f3, M_f4, M_f5, M_f6, M_f7, M_f8, M_f9, M_f10, M_p0, M_p3, M_p6, M_p7, M_p10, M_g_0, M_g_1, M_g_2, M_g_3, M_g_4, M_g_5, M_s_0, M_s_1, M_s_2, M_s_3, M_s_4, M_s_5]
  | succ d ih =>
    intro k hk
    have q := ih (k + 1) (by omega)
    simp only [Int.natCast_add, Int.cast_ofNat_Int] at q
    have e := fu_up (fun _ => 1000) (M.2.1 5) k
    rw [e130_2]
    simp (disch := first | omega | rfl) only [e130_0, e130_1, e130_3, e130_6, e130_9, e130_10, e130_13, e130_14, e130_17, e130_18, e130_21, e130_24, e130_25, e130_27, e130_30, e130_33, e130_34, e130_37, e130_38, e130_39, e130_42, e130_45, e130_46, e130_47, e130_50, e130_53, e130_54, e130_55, e130_56, e130_59, e130_60, e130_61, e130_64, e130_67, e130_68, e130_71, e130_72, e130_73, e130_76, e130_79, e130_80, e130_83, e130_84, e130_87, e130_88, e130_89, e130_92, e130_93, e130_94, e130_95, e130_96, e130_97, e130_98, e130_99, e130_102, e130_103, e130_104, e130_105, e130_106, e130_109, e130_112, e130_113, e130_116, e130_117, e130_118, e130_121, e130_124, e130_125, e130_126, e130_127, e130_129, e130_132, e130_133, e130_134, e130_137, e130_140, e130_141, e130_144, e130_145, e130_146, e130_147, e130_150, e130_153, e130_154, e130_155, e130_156, e130_157, e130_158, e130_159, e130_160, e130_161, e130_162, e130_163, e130_164, e130_165, e130_166, e130_169, e130_170, e130_171, e130_172, e130_173, e130_176, e130_179, e130_182, e130_185, e130_188, e130_189, e130_190, e130_191, e130_194, e130_197, e130_198, e130_201, e130_202, e130_203, e130_206, e130_207, e130_208, e130_209, e130_212, e130_215, WpV_some, WpH_some, ↓ite_t, ↓ite_f, M_f0, M_f1, M_f2, M_f3, M_f4, M_f5, M_f6, M_f7, M_f8, M_f9, M_f10, M_p0, M_p3, M_p6, M_p7, M_p10, M_g_0, M_g_1, M_g_2, M_g_3, M_g_4, M_g_5, M_s_0, M_s_1, M_s_2, M_s_3, M_s_4, M_s_5, wrp_id, Int.toNat_natCast, mAr_same, mAr_mAr, mAr_1, mAr_h, mS_2, mS_same, mS_mS, mAr_mS, mh_1, mh_2, mh_h, mAr_01, mAr_02, mAr_03, mAr_04, mAr_05, mAr_10, mAr_12, mAr_13, mAr_14, mAr_15, mAr_20, mAr_21, mAr_23, mAr_24, mAr_25, mAr_30, mAr_31, mAr_32, mAr_34, mAr_35, mAr_40, mAr_41, mAr_42, mAr_43, mAr_45, mAr_50, mAr_51, mAr_52, mAr_53, mAr_54, mS_01, mS_02, mS_03, mS_10, mS_12, mS_13, mS_20, mS_21, mS_23, mS_30, mS_31, mS_32, e, q]
theorem ask2_loop {k pn : Nat} {p : Int} (hpn : p = pn) (hp : pn < 8) (hk : k < 256) (h0 : 0 ≤ M.2.1 4 k) (h1 : M.2.1 4 k < 1000) : ∀ (d v : Nat) (t : Nat → Int), v + d = 8 → (Wp xs 130 126 [vr 190, vi p, vi k, vi v] [] μ (putM f (mAr M 5 t)) Q = Wp xs 130 182 [vr 190, vi p, vi k, vi 8] [] μ (putM f (mAr M 5 (ain (M.2.1 0 3) (M.2.1 4) k pn t v d))) Q) := by
  subst hpn
  intro d
  induction d with
  | zero =>
    intro v t hv
    have hv : v = 8 := by omega
    subst hv
    simp (disch := first | omega | rfl) only [e130_126, e130_127, e130_129, WpV_some, WpH_some, ↓ite_t, ↓ite_f, M_f0, M_f1, M_f2, M_f3, M_f4, M_f5, M_f6, M_f7, M_f8, M_f9, M_f10, M_p0, M_p3, M_p6, M_p7, M_p10, M_g_0, M_g_1, M_g_2, M_g_3, M_g_4, M_g_5, M_s_0, M_s_1, M_s_2, M_s_3, M_s_4, M_s_5, ain, Int.cast_ofNat_Int]
  | succ d ih =>
    intro v t hv
    have hv8 : v < 8 := by omega
    have q := fun t => ih (v + 1) t (by omega)
    simp only [Int.natCast_add, Int.cast_ofNat_Int] at q
    have q1 := fun M' : MG => cC_v (m100 (xs := xs) (μ := μ) (f := putM f M') k v)
    rw [bt_n hk hv8] at q1
    have q2 := fun M' : MG => cC_v (m100 (xs := xs) (μ := μ) (f := putM f M') (M.2.1 0 3) v)
    have e1 : iOr (iAnd (k : Int) (iXor (iShl 1 (v : Int)) (-1))) (iShl 1 (pn : Int)) = (sadd (sdel k v) pn : Nat) := by rw [and_n hk hv8, or_n (sdel_lt hk hv8) hp]
    have q3 := fun M' : MG => cI_n (m131 (xs := xs) (f := f) (M := M') (μ := μ) (s := (sadd (sdel k v) pn : Nat)) rfl (ad_lt hk hv8 hp) (M.2.1 4 k + 1)) M_o h190
    rw [e130_126]
    unfold ain
    by_cases c1 : bI k v = 1
    · by_cases c2 : bt (M.2.1 0 3) v = 1
      · rw [if_neg (fun x => x.2 c2)]
        rw [if_pos c1] at q1
        rw [if_pos c2] at q2
        simp (disch := first | omega | rfl) only [e130_0, e130_1, e130_3, e130_6, e130_9, e130_10, e130_13, e130_14, e130_17, e130_18, e130_21, e130_24, e130_25, e130_27, e130_30, e130_33, e130_34, e130_37, e130_38, e130_39, e130_42, e130_45, e130_46, e130_47, e130_50, e130_53, e130_54, e130_55, e130_56, e130_59, e130_60, e130_61, e130_64, e130_67, e130_68, e130_71, e130_72, e130_73, e130_76, e130_79, e130_80, e130_83, e130_84, e130_87, e130_88, e130_89, e130_92, e130_93, e130_94, e130_95, e130_96, e130_97, e130_98, e130_99, e130_102, e130_103, e130_104, e130_105, e130_106, e130_109, e130_112, e130_113, e130_116, e130_117, e130_118, e130_121, e130_124, e130_125, e130_127, e130_129, e130_132, e130_133, e130_134, e130_137, e130_140, e130_141, e130_144, e130_145, e130_146, e130_147, e130_150, e130_153, e130_154, e130_155, e130_156, e130_157, e130_158, e130_159, e130_160, e130_161, e130_162, e130_163, e130_164, e130_165, e130_166, e130_169, e130_170, e130_171, e130_172, e130_173, e130_176, e130_179, e130_185, e130_188, e130_189, e130_191, e130_194, e130_197, e130_198, e130_201, e130_202, e130_203, e130_206, e130_207, e130_208, e130_209, e130_212, e130_215, WpV_some, WpH_some, ↓ite_t, ↓ite_f, M_f0, M_f1, M_f2, M_f3, M_f4, M_f5, M_f6, M_f7, M_f8, M_f9, M_f10, M_p0, M_p3, M_p6, M_p7, M_p10, M_g_0, M_g_1, M_g_2, M_g_3, M_g_4, M_g_5, M_s_0, M_s_1, M_s_2, M_s_3, M_s_4, M_s_5, wrp_id, Int.toNat_natCast, Int.reduceToNat, mAr_same, mAr_mAr, mAr_1, mAr_h, mS_2, mS_same, mS_mS, mAr_mS, mh_1, mh_2, mh_h, mAr_01, mAr_02, mAr_03, mAr_04, mAr_05, mAr_10, mAr_12, mAr_13, mAr_14, mAr_15, mAr_20, mAr_21, mAr_23, mAr_24, mAr_25, mAr_30, mAr_31, mAr_32, mAr_34, mAr_35, mAr_40, mAr_41, mAr_42, mAr_43, mAr_45, mAr_50, mAr_51, mAr_52, mAr_53, mAr_54, mS_01, mS_02, mS_03, mS_10, mS_12, mS_13, mS_20, mS_21, mS_23, mS_30, mS_31, mS_32, q1, q2, ne_eq, Int.reduceEq, not_true_eq_false, not_false_eq_true, ↓reduceIte, q]
      · rw [if_pos ⟨c1, c2⟩]
        rw [if_pos c1] at q1
        rw [if_neg c2] at q2
        simp (disch := first | omega | rfl) only [e130_0, e130_1, e130_3, e130_6, e130_9, e130_10, e130_13, e130_14, e130_17, e130_18, e130_21, e130_24, e130_25, e130_27, e130_30, e130_33, e130_34, e130_37, e130_38, e130_39, e130_42, e130_45, e130_46, e130_47, e130_50, e130_53, e130_54, e130_55, e130_56, e130_59, e130_60, e130_61, e130_64, e130_67, e130_68, e130_71, e130_72, e130_73, e130_76, e130_79, e130_80, e130_83, e130_84, e130_87, e130_88, e130_89, e130_92, e130_93, e130_94, e130_95, e130_96, e130_97, e130_98, e130_99, e130_102, e130_103, e130_104, e130_105, e130_106, e130_109, e130_112, e130_113, e130_116, e130_117, e130_118, e130_121, e130_124, e130_125, e130_127, e130_129, e130_132, e130_133, e130_134, e130_137, e130_140, e130_141, e130_144, e130_145, e130_146, e130_147, e130_150, e130_153, e130_154, e130_155, e130_156, e130_157, e130_158, e130_159, e130_160, e130_161, e130_162, e130_163, e130_164, e130_165, e130_166, e130_169, e130_170, e130_171, e130_172, e130_173, e130_176, e130_179, e130_185, e130_188, e130_189, e130_191, e130_194, e130_197, e130_198, e130_201, e130_202, e130_203, e130_206, e130_207, e130_208, e130_209, e130_212, e130_215, WpV_some, WpH_some, ↓ite_t, ↓ite_f, M_f0, M_f1, M_f2, M_f3, M_f4, M_f5, M_f6, M_f7, M_f8, M_f9, M_f10, M_p0, M_p3, M_p6, M_p7, M_p10, M_g_0, M_g_1, M_g_2, M_g_3, M_g_4, M_g_5, M_s_0, M_s_1, M_s_2, M_s_3, M_s_4, M_s_5, wrp_id, Int.toNat_natCast, Int.reduceToNat, mAr_same, mAr_mAr, mAr_1, mAr_h, mS_2, mS_same, mS_mS, mAr_mS, mh_1, mh_2, mh_h, mAr_01, mAr_02, mAr_03, mAr_04, mAr_05, mAr_10, mAr_12, mAr_13, mAr_14, mAr_15, mAr_20, mAr_21, mAr_23, mAr_24, mAr_25, mAr_30, mAr_31, mAr_32, mAr_34, mAr_35, mAr_40, mAr_41, mAr_42, mAr_43, mAr_45, mAr_50, mAr_51, mAr_52, mAr_53, mAr_54, mS_01, mS_02, mS_03, mS_10, mS_12, mS_13, mS_20, mS_21, mS_23, mS_30, mS_31, mS_32, q1, q2, e1, q3, ne_eq, Int.reduceEq, not_true_eq_false, not_false_eq_true, ↓reduceIte, q]
    · rw [if_neg (fun x => c1 x.1)]
      rw [if_neg c1] at q1
      simp (disch := first | omega | rfl) only [e130_0, e130_1, e130_3, e130_6, e130_9, e130_10, e130_13, e130_14, e130_17, e130_18, e130_21, e130_24, e130_25, e130_27, e130_30, e130_33, e130_34, e130_37, e130_38, e130_39, e130_42, e130_45, e130_46, e130_47, e130_50, e130_53, e130_54, e130_55, e130_56, e130_59, e130_60, e130_61, e130_64, e130_67, e130_68, e130_71, e130_72, e130_73, e130_76, e130_79, e130_80, e130_83, e130_84, e130_87, e130_88, e130_89, e130_92, e130_93, e130_94, e130_95, e130_96, e130_97, e130_98, e130_99, e130_102, e130_103, e130_104, e130_105, e130_106, e130_109, e130_112, e130_113, e130_116, e130_117, e130_118, e130_121, e130_124, e130_125, e130_127, e130_129, e130_132, e130_133, e130_134, e130_137, e130_140, e130_141, e130_144, e130_145, e130_146, e130_147, e130_150, e130_153, e130_154, e130_155, e130_156, e130_157, e130_158, e130_159, e130_160, e130_161, e130_162, e130_163, e130_164, e130_165, e130_166, e130_169, e130_170, e130_171, e130_172, e130_173, e130_176, e130_179, e130_185, e130_188, e130_189, e130_191, e130_194, e130_197, e130_198, e130_201, e130_202, e130_203, e130_206, e130_207, e130_208, e130_209, e130_212, e130_215, WpV_some, WpH_some, ↓ite_t, ↓ite_f, M_f0, M_f1, M_f2, M_f3, M_f4, M_f5, M_f6, M_f7, M_f8, M_f9, M_f10, M_p0, M_p3, M_p6, M_p7, M_p10, M_g_0, M_g_1, M_g_2, M_g_3, M_g_4, M_g_5, M_s_0, M_s_1, M_s_2, M_s_3, M_s_4, M_s_5, wrp_id, Int.toNat_natCast, Int.reduceToNat, mAr_same, mAr_mAr, mAr_1, mAr_h, mS_2, mS_same, mS_mS, mAr_mS, mh_1, mh_2, mh_h, mAr_01, mAr_02, mAr_03, mAr_04, mAr_05, mAr_10, mAr_12, mAr_13, mAr_14, mAr_15, mAr_20, mAr_21, mAr_23, mAr_24, mAr_25, mAr_30, mAr_31, mAr_32, mAr_34, mAr_35, mAr_40, mAr_41, mAr_42, mAr_43, mAr_45, mAr_50, mAr_51, mAr_52, mAr_53, mAr_54, mS_01, mS_02, mS_03, mS_10, mS_12, mS_13, mS_20, mS_21, mS_23, mS_30, mS_31, mS_32, q1, ne_eq, Int.reduceEq, not_true_eq_false, not_false_eq_true, ↓reduceIte, q]
theorem ask3_loop {pn : Nat} {p : Int} (hpn : p = pn) (hp : pn < 8) (h0 : ∀ k, k < 256 → 0 ≤ M.2.1 4 k) : ∀ (d k : Nat) (t : Nat → Int) (l3 : AV), k + d = 256 → ∃ l3', (Wp xs 130 26 [vr 190, vi p, vi k, l3] [] μ (putM f (mAr M 5 t)) Q = Wp xs 130 190 [vr 190, vi p, vi 0, l3'] [] μ (putM f (mAr M 5 (aou (M.2.1 0 2) (M.2.1 0 3) (M.2.1 4) pn t k d))) Q) := by
  intro d
  induction d with
  | zero =>
    intro k t l3 hk
    refine ⟨l3, ?_⟩
    simp (disch := first | omega | rfl) only [e130_26, e130_27, e130_30, e130_188, e130_189, WpV_some, WpH_some, ↓ite_t, ↓ite_f, M_f0, M_f1, M_f2, M_f3, M_f4, M_f5, M_f6, M_f7, M_f8, M_f9, M_f10, M_p0, M_p3, M_p6, M_p7, M_p10, M_g_0, M_g_1, M_g_2, M_g_3, M_g_4, M_g_5, M_s_0, M_s_1, M_s_2, M_s_3, M_s_4, M_s_5, aou]
  | succ d ih =>
    intro k t l3 hk
    have hk2 : k < 256 := by omega
    have h0k := h0 k hk2
    have q1 := fun M' : MG => cC_v (m100 (xs := xs) (μ := μ) (f := putM f M') k pn)
    rw [bt_n hk2 hp] at q1
    have q2 := fun M' : MG => cC_v (m106 (xs := xs) (μ := μ) (f := putM f M') k)
    rw [bts_n hk2] at q2
    have e1 : iOr (k : Int) (iShl 1 (pn : Int)) = (sadd k pn : Nat) := or_n hk2 hp
    have q3 := fun M' : MG => cI_n (m131 (xs := xs) (f := f) (M := M') (μ := μ) (s := (k : Nat)) rfl hk2 (M.2.1 4 k)) M_o h190
    have q4 := fun M' : MG => cI_n (m131 (xs := xs) (f := f) (M := M') (μ := μ) (s := (sadd k pn : Nat)) rfl (sadd_lt hk2 hp) (M.2.1 4 k + 1)) M_o h190
    have hq : ∃ l3', Wp xs 130 26 [vr 190, vi p, vi k, l3] [] μ (putM f (mAr M 5 t)) Q = Wp xs 130 26 [vr 190, vi p, vi ((k : Int) + 1), l3'] [] μ (putM f (mAr M 5 (aon (M.2.1 0 2) (M.2.1 0 3) (M.2.1 4) pn k t))) Q := by
      unfold aon
      by_cases c0 : M.2.1 4 k < 1000
      · rw [if_pos c0]
        by_cases c1 : bI k pn = 1
        · refine ⟨l3, ?_⟩
          rw [if_pos c1] at q1 ⊢
          subst hpn
          conv => lhs; rw [e130_26]
          simp (disch := first | omega | rfl) only [e130_0, e130_1, e130_3, e130_6, e130_9, e130_10, e130_13, e130_14, e130_17, e130_18, e130_21, e130_24, e130_25, e130_27, e130_30, e130_33, e130_34, e130_37, e130_38, e130_39, e130_42, e130_45, e130_46, e130_47, e130_50, e130_53, e130_54, e130_55, e130_56, e130_59, e130_60, e130_61, e130_64, e130_67, e130_68, e130_71, e130_72, e130_73, e130_76, e130_79, e130_80, e130_83, e130_84, e130_87, e130_88, e130_89, e130_92, e130_93, e130_94, e130_95, e130_96, e130_97, e130_98, e130_99, e130_102, e130_103, e130_104, e130_105, e130_106, e130_109, e130_112, e130_113, e130_116, e130_117, e130_118, e130_121, e130_124, e130_125, e130_127, e130_129, e130_132, e130_133, e130_134, e130_137, e130_140, e130_141, e130_144, e130_145, e130_146, e130_147, e130_150, e130_153, e130_154, e130_155, e130_156, e130_157, e130_158, e130_159, e130_160, e130_161, e130_162, e130_163, e130_164, e130_165, e130_166, e130_169, e130_170, e130_171, e130_172, e130_173, e130_176, e130_179, e130_182, e130_185, e130_188, e130_189, e130_191, e130_194, e130_197, e130_198, e130_201, e130_202, e130_203, e130_206, e130_207, e130_208, e130_209, e130_212, e130_215, WpV_some, WpH_some, ↓ite_t, ↓ite_f, M_f0, M_f1, M_f2, M_f3, M_f4, M_f5, M_f6, M_f7, M_f8, M_f9, M_f10, M_p0, M_p3, M_p6, M_p7, M_p10, M_g_0, M_g_1, M_g_2, M_g_3, M_g_4, M_g_5, M_s_0, M_s_1, M_s_2, M_s_3, M_s_4, M_s_5, wrp_id, Int.toNat_natCast, Int.reduceToNat, mAr_same, mAr_mAr, mAr_1, mAr_h, mS_2, mS_same, mS_mS, mAr_mS, mh_1, mh_2, mh_h, mAr_01, mAr_02, mAr_03, mAr_04, mAr_05, mAr_10, mAr_12, mAr_13, mAr_14, mAr_15, mAr_20, mAr_21, mAr_23, mAr_24, mAr_25, mAr_30, mAr_31, mAr_32, mAr_34, mAr_35, mAr_40, mAr_41, mAr_42, mAr_43, mAr_45, mAr_50, mAr_51, mAr_52, mAr_53, mAr_54, mS_01, mS_02, mS_03, mS_10, mS_12, mS_13, mS_20, mS_21, mS_23, mS_30, mS_31, mS_32, q1, q3, ne_eq, Int.reduceEq, not_true_eq_false, not_false_eq_true, ↓reduceIte]
        · rw [if_neg c1] at q1 ⊢
          by_cases c2 : sm8 (bI k) < M.2.1 0 2
          · refine ⟨l3, ?_⟩
            rw [if_pos c2]
            subst hpn
            conv => lhs; rw [e130_26]
            simp (disch := first | omega | rfl) only [e130_0, e130_1, e130_3, e130_6, e130_9, e130_10, e130_13, e130_14, e130_17, e130_18, e130_21, e130_24, e130_25, e130_27, e130_30, e130_33, e130_34, e130_37, e130_38, e130_39, e130_42, e130_45, e130_46, e130_47, e130_50, e130_53, e130_54, e130_55, e130_56, e130_59, e130_60, e130_61, e130_64, e130_67, e130_68, e130_71, e130_72, e130_73, e130_76, e130_79, e130_80, e130_83, e130_84, e130_87, e130_88, e130_89, e130_92, e130_93, e130_94, e130_95, e130_96, e130_97, e130_98, e130_99, e130_102, e130_103, e130_104, e130_105, e130_106, e130_109, e130_112, e130_113, e130_116, e130_117, e130_118, e130_121, e130_124, e130_125, e130_127, e130_129, e130_132, e130_133, e130_134, e130_137, e130_140, e130_141, e130_144, e130_145, e130_146, e130_147, e130_150, e130_153, e130_154, e130_155, e130_156, e130_157, e130_158, e130_159, e130_160, e130_161, e130_162, e130_163, e130_164, e130_165, e130_166, e130_169, e130_170, e130_171, e130_172, e130_173, e130_176, e130_179, e130_182, e130_185, e130_188, e130_189, e130_191, e130_194, e130_197, e130_198, e130_201, e130_202, e130_203, e130_206, e130_207, e130_208, e130_209, e130_212, e130_215, WpV_some, WpH_some, ↓ite_t, ↓ite_f, M_f0, M_f1, M_f2, M_f3, M_f4, M_f5, M_f6, M_f7, M_f8, M_f9, M_f10, M_p0, M_p3, M_p6, M_p7, M_p10, M_g_0, M_g_1, M_g_2, M_g_3, M_g_4, M_g_5, M_s_0, M_s_1, M_s_2, M_s_3, M_s_4, M_s_5, wrp_id, Int.toNat_natCast, Int.reduceToNat, mAr_same, mAr_mAr, mAr_1, mAr_h, mS_2, mS_same, mS_mS, mAr_mS, mh_1, mh_2, mh_h, mAr_01, mAr_02, mAr_03, mAr_04, mAr_05, mAr_10, mAr_12, mAr_13, mAr_14, mAr_15, mAr_20, mAr_21, mAr_23, mAr_24, mAr_25, mAr_30, mAr_31, mAr_32, mAr_34, mAr_35, mAr_40, mAr_41, mAr_42, mAr_43, mAr_45, mAr_50, mAr_51, mAr_52, mAr_53, mAr_54, mS_01, mS_02, mS_03, mS_10, mS_12, mS_13, mS_20, mS_21, mS_23, mS_30, mS_31, mS_32, q1, q2, e1, q4, ne_eq, Int.reduceEq, not_true_eq_false, not_false_eq_true, ↓reduceIte]
          · refine ⟨vi 8, ?_⟩
            rw [if_neg c2]
            have q5 := ask2_loop (xs := xs) (f := f) (μ := μ) (Q := Q) hpn hp hk2 h0k c0 8 0 t rfl
            simp only [Int.cast_ofNat_Int] at q5
            subst hpn
            conv => lhs; rw [e130_26]
            simp (disch := first | omega | rfl) only [e130_0, e130_1, e130_3, e130_6, e130_9, e130_10, e130_13, e130_14, e130_17, e130_18, e130_21, e130_24, e130_25, e130_27, e130_30, e130_33, e130_34, e130_37, e130_38, e130_39, e130_42, e130_45, e130_46, e130_47, e130_50, e130_53, e130_54, e130_55, e130_56, e130_59, e130_60, e130_61, e130_64, e130_67, e130_68, e130_71, e130_72, e130_73, e130_76, e130_79, e130_80, e130_83, e130_84, e130_87, e130_88, e130_89, e130_92, e130_93, e130_94, e130_95, e130_96, e130_97, e130_98, e130_99, e130_102, e130_103, e130_104, e130_105, e130_106, e130_109, e130_112, e130_113, e130_116, e130_117, e130_118, e130_121, e130_124, e130_125, e130_127, e130_129, e130_132, e130_133, e130_134, e130_137, e130_140, e130_141, e130_144, e130_145, e130_146, e130_147, e130_150, e130_153, e130_154, e130_155, e130_156, e130_157, e130_158, e130_159, e130_160, e130_161, e130_162, e130_163, e130_164, e130_165, e130_166, e130_169, e130_170, e130_171, e130_172, e130_173, e130_176, e130_179, e130_185, e130_188, e130_189, e130_191, e130_194, e130_197, e130_198, e130_201, e130_202, e130_203, e130_206, e130_207, e130_208, e130_209, e130_212, e130_215, WpV_some, WpH_some, ↓ite_t, ↓ite_f, M_f0, M_f1, M_f2, M_f3, M_f4, M_f5, M_f6, M_f7, M_f8, M_f9, M_f10, M_p0, M_p3, M_p6, M_p7, M_p10, M_g_0, M_g_1, M_g_2, M_g_3, M_g_4, M_g_5, M_s_0, M_s_1, M_s_2, M_s_3, M_s_4, M_s_5, wrp_id, Int.toNat_natCast, Int.reduceToNat, mAr_same, mAr_mAr, mAr_1, mAr_h, mS_2, mS_same, mS_mS, mAr_mS, mh_1, mh_2, mh_h, mAr_01, mAr_02, mAr_03, mAr_04, mAr_05, mAr_10, mAr_12, mAr_13, mAr_14, mAr_15, mAr_20, mAr_21, mAr_23, mAr_24, mAr_25, mAr_30, mAr_31, mAr_32, mAr_34, mAr_35, mAr_40, mAr_41, mAr_42, mAr_43, mAr_45, mAr_50, mAr_51, mAr_52, mAr_53, mAr_54, mS_01, mS_02, mS_03, mS_10, mS_12, mS_13, mS_20, mS_21, mS_23, mS_30, mS_31, mS_32, q1, q2, q5, ne_eq, Int.reduceEq, not_true_eq_false, not_false_eq_true, ↓reduceIte]
            simp (disch := first | omega | rfl) only [e130_182, e130_185, wrp_id]
      · refine ⟨l3, ?_⟩
        rw [if_neg c0]
        conv => lhs; rw [e130_26]
        simp (disch := first | omega | rfl) only [e130_0, e130_1, e130_3, e130_6, e130_9, e130_10, e130_13, e130_14, e130_17, e130_18, e130_21, e130_24, e130_25, e130_27, e130_30, e130_33, e130_34, e130_37, e130_38, e130_39, e130_42, e130_45, e130_46, e130_47, e130_50, e130_53, e130_54, e130_55, e130_56, e130_59, e130_60, e130_61, e130_64, e130_67, e130_68, e130_71, e130_72, e130_73, e130_76, e130_79, e130_80, e130_83, e130_84, e130_87, e130_88, e130_89, e130_92, e130_93, e130_94, e130_95, e130_96, e130_97, e130_98, e130_99, e130_102, e130_103, e130_104, e130_105, e130_106, e130_109, e130_112, e130_113, e130_116, e130_117, e130_118, e130_121, e130_124, e130_125, e130_127, e130_129, e130_132, e130_133, e130_134, e130_137, e130_140, e130_141, e130_144, e130_145, e130_146, e130_147, e130_150, e130_153, e130_154, e130_155, e130_156, e130_157, e130_158, e130_159, e130_160, e130_161, e130_162, e130_163, e130_164, e130_165, e130_166, e130_169, e130_170, e130_171, e130_172, e130_173, e130_176, e130_179, e130_182, e130_185, e130_188, e130_189, e130_191, e130_194, e130_197, e130_198, e130_201, e130_202, e130_203, e130_206, e130_207, e130_208, e130_209, e130_212, e130_215, WpV_some, WpH_some, ↓ite_t, ↓ite_f, M_f0, M_f1, M_f2, M_f3, M_f4, M_f5, M_f6, M_f7, M_f8, M_f9, M_f10, M_p0, M_p3, M_p6, M_p7, M_p10, M_g_0, M_g_1, M_g_2, M_g_3, M_g_4, M_g_5, M_s_0, M_s_1, M_s_2, M_s_3, M_s_4, M_s_5, wrp_id, Int.toNat_natCast, Int.reduceToNat, mAr_same, mAr_mAr, mAr_1, mAr_h, mS_2, mS_same, mS_mS, mAr_mS, mh_1, mh_2, mh_h, mAr_01, mAr_02, mAr_03, mAr_04, mAr_05, mAr_10, mAr_12, mAr_13, mAr_14, mAr_15, mAr_20, mAr_21, mAr_23, mAr_24, mAr_25, mAr_30, mAr_31, mAr_32, mAr_34, mAr_35, mAr_40, mAr_41, mAr_42, mAr_43, mAr_45, mAr_50, mAr_51, mAr_52, mAr_53, mAr_54, mS_01, mS_02, mS_03, mS_10, mS_12, mS_13, mS_20, mS_21, mS_23, mS_30, mS_31, mS_32, ne_eq, Int.reduceEq, not_true_eq_false, not_false_eq_true, ↓reduceIte]
    obtain ⟨l3a, hq⟩ := hq
    obtain ⟨l3b, q⟩ := ih (k + 1) (aon (M.2.1 0 2) (M.2.1 0 3) (M.2.1 4) pn k t) l3a (by omega)
    simp only [Int.natCast_add, Int.cast_ofNat_Int] at q
    refine ⟨l3b, ?_⟩
    unfold aou
    rw [hq, q]
theorem ask4_loop (p : Int) (l3 : AV) : ∀ (d k : Nat), k + d = 256 → (Wp xs 130 190 [vr 190, vi p, vi k, l3] [] μ (putM f (mAr M 4 (fun j => if j < k then M.2.1 5 j else M.2.1 4 j))) Q = Q (.inl none) μ (putM f (mAr M 4 (M.2.1 5)))) := by
  intro d
  induction d with
  | zero =>
    intro k hk
    have e : putM f (mAr M 4 (fun j => if j < k then M.2.1 5 j else M.2.1 4 j)) = putM f (mAr M 4 (M.2.1 5)) := putM_ext f M (by decide) fun j hj => by
      have hj : j < 256 := hj
      rw [if_pos (by omega)]
    rw [e]
    simp (disch := first | omega | rfl) only [e130_190, e130_191, e130_194, e130_215, WpV_some, WpH_some, ↓ite_t, ↓ite_f, M_f0, M_f1, M_f2, M_f3, M_f4, M_f5, M_f6, M_f7, M_f8, M_f9, M_f10, M_p0, M_p3, M_p6, M_p7, M_p10, M_g_0, M_g_1, M_g_2, M_g_3, M_g_4, M_g_5, M_s_0, M_s_1, M_s_2, M_s_3, M_s_4, M_s_5]
  | succ d ih =>
    intro k hk
    have q := ih (k + 1) (by omega)
    simp only [Int.natCast_add, Int.cast_ofNat_Int] at q
    rw [e130_190]
    simp (disch := first | omega | rfl) only [e130_0, e130_1, e130_3, e130_6, e130_9, e130_10, e130_13, e130_14, e130_17, e130_18, e130_21, e130_24, e130_25, e130_27, e130_30, e130_33, e130_34, e130_37, e130_38, e130_39, e130_42, e130_45, e130_46, e130_47, e130_50, e130_53, e130_54, e130_55, e130_56, e130_59, e130_60, e130_61, e130_64, e130_67, e130_68, e130_71, e130_72, e130_73, e130_76, e130_79, e130_80, e130_83, e130_84, e130_87, e130_88, e130_89, e130_92, e130_93, e130_94, e130_95, e130_96, e130_97, e130_98, e130_99, e130_102, e130_103, e130_104, e130_105, e130_106, e130_109, e130_112, e130_113, e130_116, e130_117, e130_118, e130_121, e130_124, e130_125, e130_127, e130_129, e130_132, e130_133, e130_134, e130_137, e130_140, e130_141, e130_144, e130_145, e130_146, e130_147, e130_150, e130_153, e130_154, e130_155, e130_156, e130_157, e130_158, e130_159, e130_160, e130_161, e130_162, e130_163, e130_164, e130_165, e130_166, e130_169, e130_170, e130_171, e130_172, e130_173, e130_176, e130_179, e130_185, e130_188, e130_189, e130_191, e130_194, e130_197, e130_198, e130_201, e130_202, e130_203, e130_206, e130_207, e130_208, e130_209, e130_212, e130_215, WpV_some, WpH_some, ↓ite_t, ↓ite_f, M_f0, M_f1, M_f2, M_f3, M_f4, M_f5, M_f6, M_f7, M_f8, M_f9, M_f10, M_p0, M_p3, M_p6, M_p7, M_p10, M_g_0, M_g_1, M_g_2, M_g_3, M_g_4, M_g_5, M_s_0, M_s_1, M_s_2, M_s_3, M_s_4, M_s_5, wrp_id, Int.toNat_natCast, mAr_same, mAr_mAr, mAr_1, mAr_h, mS_2, mS_same, mS_mS, mAr_mS, mh_1, mh_2, mh_h, mAr_01, mAr_02, mAr_03, mAr_04, mAr_05, mAr_10, mAr_12, mAr_13, mAr_14, mAr_15, mAr_20, mAr_21, mAr_23, mAr_24, mAr_25, mAr_30, mAr_31, mAr_32, mAr_34, mAr_35, mAr_40, mAr_41, mAr_42, mAr_43, mAr_45, mAr_50, mAr_51, mAr_52, mAr_53, mAr_54, mS_01, mS_02, mS_03, mS_10, mS_12, mS_13, mS_20, mS_21, mS_23, mS_30, mS_31, mS_32, fu_up, q]
theorem m130 {pn : Nat} {p : Int} (hpn : p = pn) (hp : pn < 8) (h0 : ∀ k, k < 256 → 0 ≤ M.2.1 4 k) : Runs xs 130 [vr 190, vi p] μ (putM f M) (.inl none) μ (putM f (mAr (mAr M 5 (asf (M.2.1 0 2) (M.2.1 0 3) (M.2.1 4) pn)) 4 (asf (M.2.1 0 2) (M.2.1 0 3) (M.2.1 4) pn))) := Runs.iff fun Q hQ => by
  show Wp xs 130 0 [vr 190, vi p, vu, vu] [] μ (putM f M) Q
  have q1 := ask1_loop (xs := xs) (f := f) (μ := μ) (Q := Q) (M := M) p vu 256 0 rfl
  have e : mAr M 5 (fun j => if j < 0 then 1000 else M.2.1 5 j) = M := mAr_self M 5
  rw [e] at q1
  simp only [Int.cast_ofNat_Int] at q1
  obtain ⟨l3, q2⟩ := ask3_loop (xs := xs) (f := f) (μ := μ) (Q := Q) (M := M) hpn hp h0 256 0 (fun _ => 1000) vu rfl
  simp only [Int.cast_ofNat_Int] at q2
  have q3 := ask4_loop (xs := xs) (f := f) (μ := μ) (Q := Q) (M := mAr M 5 (asf (M.2.1 0 2) (M.2.1 0 3) (M.2.1 4) pn)) p l3 256 0 rfl
  have e2 : mAr (mAr M 5 (asf (M.2.1 0 2) (M.2.1 0 3) (M.2.1 4) pn)) 4 (fun j => if j < 0 then (mAr M 5 (asf (M.2.1 0 2) (M.2.1 0 3) (M.2.1 4) pn)).2.1 5 j else (mAr M 5 (asf (M.2.1 0 2) (M.2.1 0 3) (M.2.1 4) pn)).2.1 4 j) = mAr M 5 (asf (M.2.1 0 2) (M.2.1 0 3) (M.2.1 4) pn) := mAr_self _ 4
  rw [e2, mAr_same] at q3
  simp only [Int.cast_ofNat_Int] at q3
  simp (disch := first | omega | rfl) only [e130_0, e130_1]
  rw [q1, q2]
  unfold asf at q3 hQ
  rw [q3]
  exact hQ
theorem few1_loop (l2 : AV) : ∀ (d k : Nat), k + d = 256 → (Wp xs 129 2 [vr 190, vi k, l2] [] μ (putM f (mAr M 4 (fun j => if j < k then 1000 else M.2.1 4 j))) Q = Wp xs 129 24 [vr 190, vi 256, l2] [] μ (putM f (mAr M 4 (fun _ => 1000))) Q) := by
  intro d
  induction d with
  | zero =>
    intro k hk
    have e : putM f (mAr M 4 (fun j => if j < k then 1000 else M.2.1 4 j)) = putM f (mAr M 4 (fun _ => 1000)) := putM_ext f M (by decide) fun j hj => by
      have hj : j < 256 := hj
      rw [if_pos (by omega)]
    have hk : k = 256 := by omega
    rw [e, hk]
    simp (disch := first | omega | rfl) only [e129_2, e129_3, e129_6, WpV_some, WpH_some, ↓ite_t, ↓ite_f, M_f0, M_f1, M_f2, M_f3, M_f4, M_f5, M_f6, M_f7, M_f8, M_f9, M_f10, M_p0, M_p3, M_p6, M_p7, M_p10, M_g_0, M_g_1, M_g_2, M_g_3, M_g_4, M_g_5, M_s_0, M_s_1, M_s_2, M_s_3, M_s_4, M_s_5, Int.cast_ofNat_Int]
  | succ d ih =>
    intro k hk
    have q := ih (k + 1) (by omega)
    simp only [Int.natCast_add, Int.cast_ofNat_Int] at q
    have e := fu_up (fun _ => 1000) (M.2.1 4) k
    rw [e129_2]
    simp (disch := first | omega | rfl) only [e129_0, e129_1, e129_3, e129_6, e129_9, e129_10, e129_13, e129_14, e129_17, e129_18, e129_21, e129_25, e129_28, e129_29, e129_32, e129_33, e129_34, e129_35, e129_38, e129_39, e129_40, e129_42, e129_43, e129_46, e129_47, e129_48, e129_51, e129_52, e129_53, e129_54, e129_55, e129_58, e129_61, e129_64, e129_67, e129_70, e129_71, e129_72, e129_74, e129_77, e129_80, e129_81, e129_84, e129_85, e129_86, e129_87, e129_90, e129_91, e129_94, e129_95, e129_96, e129_99, e129_100, e129_101, e129_104, e129_107, e129_108, WpV_some, WpH_some, ↓ite_t, ↓ite_f, M_f0, M_f1, M_f2, M_f3, M_f4, M_f5, M_f6, M_f7, M_f8, M_f9, M_f10, M_p0, M_p3, M_p6, M_p7, M_p10, M_g_0, M_g_1, M_g_2, M_g_3, M_g_4, M_g_5, M_s_0, M_s_1, M_s_2, M_s_3, M_s_4, M_s_5, wrp_id, Int.toNat_natCast, mAr_same, mAr_mAr, mAr_1, mAr_h, mS_2, mS_same, mS_mS, mAr_mS, mh_1, mh_2, mh_h, mAr_01, mAr_02, mAr_03, mAr_04, mAr_05, mAr_10, mAr_12, mAr_13, mAr_14, mAr_15, mAr_20, mAr_21, mAr_23, mAr_24, mAr_25, mAr_30, mAr_31, mAr_32, mAr_34, mAr_35, mAr_40, mAr_41, mAr_42, mAr_43, mAr_45, mAr_50, mAr_51, mAr_52, mAr_53, mAr_54, mS_01, mS_02, mS_03, mS_10, mS_12, mS_13, mS_20, mS_21, mS_23, mS_30, mS_31, mS_32, e, q]
theorem few2_loop (l2 : AV) : ∀ (d a : Nat) (M : MG), rel σ (M.2.1 0) → (a : Int) + d = σ.2 0 → (∀ k, k < 256 → 0 ≤ M.2.1 4 k) → ∃ M', sim M M' ∧ M'.2.1 4 = dpl (M.2.1 0) (M.2.1 4) a d ∧ ∀ Q, (Wp xs 129 41 [vr 190, vi a, l2] [] μ (putM f M) Q = Wp xs 129 67 [vr 190, vi (σ.2 0), l2] [] μ (putM f M') Q) := by
  intro d
  induction d with
  | zero =>
    intro a M h ha h0
    obtain ⟨n0, n1, n2⟩ := h.n
    refine ⟨M, sim.rfl M, rfl, fun Q => ?_⟩
    have ha : (a : Int) = σ.2 0 := by omega
    rw [ha]
    simp (disch := first | omega | rfl) only [e129_0, e129_1, e129_3, e129_6, e129_9, e129_10, e129_13, e129_14, e129_17, e129_18, e129_21, e129_25, e129_28, e129_29, e129_32, e129_33, e129_34, e129_35, e129_38, e129_39, e129_40, e129_41, e129_42, e129_43, e129_46, e129_47, e129_48, e129_51, e129_52, e129_53, e129_54, e129_55, e129_58, e129_61, e129_64, e129_70, e129_71, e129_72, e129_74, e129_77, e129_80, e129_81, e129_84, e129_85, e129_86, e129_87, e129_90, e129_91, e129_94, e129_95, e129_96, e129_99, e129_100, e129_101, e129_104, e129_107, e129_108, WpV_some, WpH_some, ↓ite_t, ↓ite_f, M_f0, M_f1, M_f2, M_f3, M_f4, M_f5, M_f6, M_f7, M_f8, M_f9, M_f10, M_p0, M_p3, M_p6, M_p7, M_p10, M_g_0, M_g_1, M_g_2, M_g_3, M_g_4, M_g_5, M_s_0, M_s_1, M_s_2, M_s_3, M_s_4, M_s_5, Int.reduceToNat, n0]
  | succ d ih =>
    intro a M h ha h0
    obtain ⟨w1, w2, w3, w4, w5⟩ := h.wf
    obtain ⟨n0, n1, n2⟩ := h.n
    have hP := h.P a (by omega)
    have q2 := cI_v (m92 (xs := xs) (f := f) (M := M) (μ := μ) a 0 (by omega) (by omega) (by omega) (by omega)) M_o h190
    rw [tn27] at q2
    obtain ⟨pn, hpn⟩ : ∃ pn : Nat, M.2.1 0 (27 + 4 * a) = pn := ⟨(M.2.1 0 (27 + 4 * a)).toNat, by omega⟩
    have q3 := cI_n (m130 (xs := xs) (f := f) (M := M) (μ := μ) hpn (by omega) h0) M_o h190
    obtain ⟨a1, -⟩ := asf_ok (n := M.2.1 0 2) (q := pn) (z3 := M.2.1 0 3) (P := σ.1 6) (l := M.2.1 4) (fun v hv => ⟨h.pin.btE hv, h.pin.r hv⟩) h0
    have ed : dpl (M.2.1 0) (M.2.1 4) a (d + 1) = dpl (M.2.1 0) (asf (M.2.1 0 2) (M.2.1 0 3) (M.2.1 4) pn) (a + 1) d := by
      have e : pn = (M.2.1 0 (27 + 4 * a)).toNat := by omega
      exact e ▸ dpl_s (M.2.1 0) (M.2.1 4) a d
    rw [ed]
    generalize asf (M.2.1 0 2) (M.2.1 0 3) (M.2.1 4) pn = t at a1 q3 ⊢
    obtain ⟨M', hs, h4, hq⟩ := ih (a + 1) (mAr (mAr M 5 t) 4 t) h (by omega) (fun k _ => (a1 k).1)
    refine ⟨M', sim.tr ⟨rfl, rfl, rfl, rfl, rfl, rfl, rfl⟩ hs, h4, fun Q => ?_⟩
    · have q := hq Q
      simp only [Int.natCast_add, Int.cast_ofNat_Int] at q
      rw [e129_41]
      simp (disch := first | omega | rfl) only [e129_0, e129_1, e129_3, e129_6, e129_9, e129_10, e129_13, e129_14, e129_17, e129_18, e129_21, e129_25, e129_28, e129_29, e129_32, e129_33, e129_34, e129_35, e129_38, e129_39, e129_40, e129_42, e129_43, e129_46, e129_47, e129_48, e129_51, e129_52, e129_53, e129_54, e129_55, e129_58, e129_61, e129_64, e129_70, e129_71, e129_72, e129_74, e129_77, e129_80, e129_81, e129_84, e129_85, e129_86, e129_87, e129_90, e129_91, e129_94, e129_95, e129_96, e129_99, e129_100, e129_101, e129_104, e129_107, e129_108, WpV_some, WpH_some, ↓ite_t, ↓ite_f, M_f0, M_f1, M_f2, M_f3, M_f4, M_f5, M_f6, M_f7, M_f8, M_f9, M_f10, M_p0, M_p3, M_p6, M_p7, M_p10, M_g_0, M_g_1, M_g_2, M_g_3, M_g_4, M_g_5, M_s_0, M_s_1, M_s_2, M_s_3, M_s_4, M_s_5, wrp_id, Int.reduceToNat, n0, q2, q3, q]
theorem few3_loop : ∀ (d k : Nat) (b : Int), k + d = 256 → (Wp xs 129 73 [vr 190, vi b, vi k] [] μ (putM f M) Q = Q (.inl (some (vi (mnl (M.2.1 4) b k d)))) μ (putM f M)) := by
  intro d
  induction d with
  | zero =>
    intro k b hk
    simp (disch := first | omega | rfl) only [e129_73, e129_74, e129_77, e129_107, e129_108, WpV_some, WpH_some, ↓ite_t, ↓ite_f, M_f0, M_f1, M_f2, M_f3, M_f4, M_f5, M_f6, M_f7, M_f8, M_f9, M_f10, M_p0, M_p3, M_p6, M_p7, M_p10, M_g_0, M_g_1, M_g_2, M_g_3, M_g_4, M_g_5, M_s_0, M_s_1, M_s_2, M_s_3, M_s_4, M_s_5, mnl]
  | succ d ih =>
    intro k b hk
    have q := fun b => ih (k + 1) b (by omega)
    simp only [Int.natCast_add, Int.cast_ofNat_Int] at q
    rw [e129_73]
    unfold mnl
    by_cases c : M.2.1 4 k < b
    · rw [if_pos c]
      simp (disch := first | omega | rfl) only [e129_0, e129_1, e129_3, e129_6, e129_9, e129_10, e129_13, e129_14, e129_17, e129_18, e129_21, e129_25, e129_28, e129_29, e129_32, e129_33, e129_34, e129_35, e129_38, e129_39, e129_40, e129_42, e129_43, e129_46, e129_47, e129_48, e129_51, e129_52, e129_53, e129_54, e129_55, e129_58, e129_61, e129_64, e129_70, e129_71, e129_72, e129_74, e129_77, e129_80, e129_81, e129_84, e129_85, e129_86, e129_87, e129_90, e129_91, e129_94, e129_95, e129_96, e129_99, e129_100, e129_101, e129_104, e129_107, e129_108, WpV_some, WpH_some, ↓ite_t, ↓ite_f, M_f0, M_f1, M_f2, M_f3, M_f4, M_f5, M_f6, M_f7, M_f8, M_f9, M_f10, M_p0, M_p3, M_p6, M_p7, M_p10, M_g_0, M_g_1, M_g_2, M_g_3, M_g_4, M_g_5, M_s_0, M_s_1, M_s_2, M_s_3, M_s_4, M_s_5, wrp_id, Int.toNat_natCast, q]
    · rw [if_neg c]
      simp (disch := first | omega | rfl) only [e129_0, e129_1, e129_3, e129_6, e129_9, e129_10, e129_13, e129_14, e129_17, e129_18, e129_21, e129_25, e129_28, e129_29, e129_32, e129_33, e129_34, e129_35, e129_38, e129_39, e129_40, e129_42, e129_43, e129_46, e129_47, e129_48, e129_51, e129_52, e129_53, e129_54, e129_55, e129_58, e129_61, e129_64, e129_70, e129_71, e129_72, e129_74, e129_77, e129_80, e129_81, e129_84, e129_85, e129_86, e129_87, e129_90, e129_91, e129_94, e129_95, e129_96, e129_99, e129_100, e129_101, e129_104, e129_107, e129_108, WpV_some, WpH_some, ↓ite_t, ↓ite_f, M_f0, M_f1, M_f2, M_f3, M_f4, M_f5, M_f6, M_f7, M_f8, M_f9, M_f10, M_p0, M_p3, M_p6, M_p7, M_p10, M_g_0, M_g_1, M_g_2, M_g_3, M_g_4, M_g_5, M_s_0, M_s_1, M_s_2, M_s_3, M_s_4, M_s_5, wrp_id, Int.toNat_natCast, q]
theorem m129 (h : rel σ (M.2.1 0)) : ∃ M', sim M M' ∧ Runs xs 129 [vr 190] μ (putM f M) (.inl (some (vi (rdO (fn σ 0) σ)))) μ (putM f M') := by
  obtain ⟨w1, w2, w3, w4, w5⟩ := h.wf
  obtain ⟨n0, n1, n2⟩ := h.n
  obtain ⟨S, hS1, hS2, hS3⟩ := h.infE
  have hm : rel σ ((mAr M 4 (fu (fun _ => 1000) S 0)).2.1 0) := h
  obtain ⟨M', hs, h4, hq⟩ := few2_loop (xs := xs) (f := f) (μ := μ) vu (σ.2 0 - σ.2 1).toNat (σ.2 1).toNat (mAr M 4 (fu (fun _ => 1000) S 0)) hm (by omega) (fun k _ => by
    rw [mAr_same]
    unfold fu
    split
    · exact Int.le_refl 0
    · exact (by decide : (0 : Int) ≤ 1000))
  refine ⟨M', sim.tr ⟨rfl, rfl, rfl, rfl, rfl, rfl, rfl⟩ hs, Runs.iff fun Q hQ => ?_⟩
  show Wp xs 129 0 [vr 190, vu, vu] [] μ (putM f M) Q
  have q1 := few1_loop (xs := xs) (f := f) (μ := μ) (Q := Q) (M := M) vu 256 0 rfl
  have e : mAr M 4 (fun j => if j < 0 then 1000 else M.2.1 4 j) = M := mAr_self M 4
  rw [e] at q1
  simp only [Int.cast_ofNat_Int] at q1
  have q2 := cI_v (m108 (xs := xs) (f := f) (M := mAr M 4 (fun _ => 1000)) (μ := μ) h.wM) M_o h190
  simp only [mAr_same, mAr_mAr, mAr_1, mAr_h, mS_2, mS_same, mS_mS, mAr_mS, mh_1, mh_2, mh_h, mAr_01, mAr_02, mAr_03, mAr_04, mAr_05, mAr_10, mAr_12, mAr_13, mAr_14, mAr_15, mAr_20, mAr_21, mAr_23, mAr_24, mAr_25, mAr_30, mAr_31, mAr_32, mAr_34, mAr_35, mAr_40, mAr_41, mAr_42, mAr_43, mAr_45, mAr_50, mAr_51, mAr_52, mAr_53, mAr_54, mS_01, mS_02, mS_03, mS_10, mS_12, mS_13, mS_20, mS_21, mS_23, mS_30, mS_31, mS_32] at q2
  rw [hS2] at q2
  have q3 := hq Q
  rw [Int.toNat_of_nonneg w1] at q3
  have q4 := few3_loop (xs := xs) (f := f) (μ := μ) (Q := Q) (M := M') 256 0 1000 rfl
  rw [h4] at q4
  simp only [mAr_same, mAr_mAr, mAr_1, mAr_h, mS_2, mS_same, mS_mS, mAr_mS, mh_1, mh_2, mh_h, mAr_01, mAr_02, mAr_03, mAr_04, mAr_05, mAr_10, mAr_12, mAr_13, mAr_14, mAr_15, mAr_20, mAr_21, mAr_23, mAr_24, mAr_25, mAr_30, mAr_31, mAr_32, mAr_34, mAr_35, mAr_40, mAr_41, mAr_42, mAr_43, mAr_45, mAr_50, mAr_51, mAr_52, mAr_53, mAr_54, mS_01, mS_02, mS_03, mS_10, mS_12, mS_13, mS_20, mS_21, mS_23, mS_30, mS_31, mS_32] at q4
  rw [dpl_fn h ⟨hS1, hS3⟩] at q4
  simp only [Int.cast_ofNat_Int] at q4
  simp (disch := first | omega | rfl) only [e129_0, e129_1]
  rw [q1]
  simp (disch := first | omega | rfl) only [e129_24, e129_25, e129_28, e129_29, e129_32, e129_33, e129_34, e129_35, e129_38, e129_39, e129_40, WpV_some, WpH_some, ↓ite_t, ↓ite_f, M_f0, M_f1, M_f2, M_f3, M_f4, M_f5, M_f6, M_f7, M_f8, M_f9, M_f10, M_p0, M_p3, M_p6, M_p7, M_p10, M_g_0, M_g_1, M_g_2, M_g_3, M_g_4, M_g_5, M_s_0, M_s_1, M_s_2, M_s_3, M_s_4, M_s_5, q2, Int.toNat_natCast, Int.reduceToNat, mAr_same, mAr_mAr, mAr_1, mAr_h, mS_2, mS_same, mS_mS, mAr_mS, mh_1, mh_2, mh_h, mAr_01, mAr_02, mAr_03, mAr_04, mAr_05, mAr_10, mAr_12, mAr_13, mAr_14, mAr_15, mAr_20, mAr_21, mAr_23, mAr_24, mAr_25, mAr_30, mAr_31, mAr_32, mAr_34, mAr_35, mAr_40, mAr_41, mAr_42, mAr_43, mAr_45, mAr_50, mAr_51, mAr_52, mAr_53, mAr_54, mS_01, mS_02, mS_03, mS_10, mS_12, mS_13, mS_20, mS_21, mS_23, mS_30, mS_31, mS_32, n1, q3]
  simp (disch := first | omega | rfl) only [e129_67, e129_70, e129_71, e129_72, q4]
  exact hQ
end MV
