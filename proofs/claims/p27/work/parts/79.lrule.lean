/-! THE LAW'S rule: a rule's asks gone through on copies -/
def z0L : LG := (fun _ => 0, (fun _ => 0, fun _ => 0))
def cpL (X : LG) (k : Nat) : LG := (fun j => if j < k then X.1 j else 0, (fun j => if j < k then X.2.1 j else 0, fun j => if j < k then X.2.2 j else 0))
theorem putL_new (f : AH) (c : Nat) : aup (aup (aup f c (iC (List.replicate 6 0))) (c + 1) (iC (List.replicate 48 0))) (c + 2) (iC (List.replicate 3 0)) = putL f c z0L := by
  funext b; unfold aup putL
  by_cases h2 : b = c + 2
  · subst h2; rw [if_pos rfl, if_pos (by omega), Nat.add_sub_cancel_left]; rfl
  · rw [if_neg h2]
    by_cases h1 : b = c + 1
    · subst h1; rw [if_pos rfl, if_pos (by omega), Nat.add_sub_cancel_left]; rfl
    · rw [if_neg h1]
      by_cases h0 : b = c
      · subst h0; rw [if_pos rfl, if_pos (by omega), Nat.sub_self]; rfl
      · rw [if_neg h0, if_neg (by omega)]
theorem iRem_n {k m : Nat} (hk : k < 1000) (hm : 0 < m) (hm2 : m < 1000) : iRem (k : Int) (m : Int) = ((k % m : Nat) : Int) := by
  rw [iRem_c (by omega) (by omega) (by omega) (by omega)]
  rfl
section LRU
variable {xs : List Int} {f : AH} {a c : Nat} {X Y : LG} {sc : Int} {T : TG} {τ σ s : SG} {μ : Mu} {y pc : Nat} {L st : List AV} {Q : Out → Mu → AH → Prop}
theorem L_h0 (ha : 190 ≤ a) (hc : a + 3 ≤ c) {i : Int} (h0 : 0 ≤ i) (h1 : i < 6) : gI xs y (PP (putL (putL f a X) c Y) sc T τ σ) a i = some (vi (X.1 i.toNat)) := gI_tab (by omega) (by rw [PP_hi _ _ _ _ _ ha, putL_out _ _ (by omega), putL_0]) h0 h1
theorem L_h1 (ha : 190 ≤ a) (hc : a + 3 ≤ c) {i : Int} (h0 : 0 ≤ i) (h1 : i < 48) : gI xs y (PP (putL (putL f a X) c Y) sc T τ σ) (a + 1) i = some (vi (X.2.1 i.toNat)) := gI_tab (by omega) (by rw [PP_hi _ _ _ _ _ (by omega), putL_out _ _ (by omega), putL_1]) h0 h1
theorem L_h2 (ha : 190 ≤ a) (hc : a + 3 ≤ c) {i : Int} (h0 : 0 ≤ i) (h1 : i < 3) : gI xs y (PP (putL (putL f a X) c Y) sc T τ σ) (a + 2) i = some (vi (X.2.2 i.toNat)) := gI_tab (by omega) (by rw [PP_hi _ _ _ _ _ (by omega), putL_out _ _ (by omega), putL_2]) h0 h1
theorem ru_new (ha : 190 ≤ a) (hc : c = μ.1 + 1) (hac : a + 3 ≤ c) (rule : Int) : Wp xs 81 0 [vr 1, vr a, vr (a + 1), vr (a + 2), vi rule, vu, vu, vu, vu, vu, vu, vu, vu] [] μ (PP (putL f a X) sc T τ σ) Q = Wp xs 81 20 [vr 1, vr a, vr (a + 1), vr (a + 2), vi rule, vr c, vr (c + 1), vr (c + 2), vi 0, vu, vu, vu, vu] [] (μ.1 + 3, (μ.2.1 + 3, μ.2.2 + 57)) (PP (putL (putL f a X) c z0L) sc T τ σ) Q := by
  subst hc
  simp (disch := first | omega | rfl) only [e81_0, e81_2, e81_4, e81_6, e81_8, e81_10, e81_12, e81_13, e81_15, e81_17, e81_18, WpV_some, WpH_some, ↓ite_t, ↓ite_f, Int.reduceToNat]
  rw [PP_aup _ _ _ _ _ _ (by omega), PP_aup _ _ _ _ _ _ (by omega), PP_aup _ _ _ _ _ _ (by omega), ← putL_new]
theorem ru_copy (ha : 190 ≤ a) (hac : a + 3 ≤ c) (rule : Int) : ∀ (d k : Nat), k + d = 48 → (Wp xs 81 20 [vr 1, vr a, vr (a + 1), vr (a + 2), vi rule, vr c, vr (c + 1), vr (c + 2), vi k, vu, vu, vu, vu] [] μ (PP (putL (putL f a X) c (cpL X k)) sc T τ σ) Q = Wp xs 81 70 [vr 1, vr a, vr (a + 1), vr (a + 2), vi rule, vr c, vr (c + 1), vr (c + 2), vi 48, vu, vu, vu, vu] [] μ (PP (putL (putL f a X) c X) sc T τ σ) Q) := by
  intro d
  induction d with
  | zero =>
    intro k hk
    have hk : k = 48 := by omega
    subst hk
    have e : putL (putL f a X) c (cpL X 48) = putL (putL f a X) c X := putL_ext (fun i hi => if_pos (by omega)) (fun i hi => if_pos (by omega)) (fun i hi => if_pos (by omega))
    rw [e]
    have c48 : (48 : Int) ≤ ((48 : Nat) : Int) := by decide
    simp (disch := first | omega | rfl) only [e81_20, e81_22, e81_24, WpV_some, WpH_some, ↓ite_t, ↓ite_f, c48, Int.cast_ofNat_Int]
  | succ d ih =>
    intro k hk
    have q := ih (k + 1) (by omega)
    simp only [Int.natCast_add, Int.cast_ofNat_Int] at q
    have r6 : iRem (k : Int) 6 = ((k % 6 : Nat) : Int) := iRem_n (m := 6) (by omega) (by omega) (by omega)
    have r3 : iRem (k : Int) 3 = ((k % 3 : Nat) : Int) := iRem_n (m := 3) (by omega) (by omega) (by omega)
    have m6 : k % 6 < 6 := Nat.mod_lt _ (by decide)
    have m3 : k % 3 < 3 := Nat.mod_lt _ (by decide)
    have e : putL (putL f a X) c (fu (cpL X k).1 (k % 6) (X.1 (k % 6)), (fu (cpL X k).2.1 k (X.2.1 k), fu (cpL X k).2.2 (k % 3) (X.2.2 (k % 3)))) = putL (putL f a X) c (cpL X (k + 1)) := by
      refine putL_ext (fun i hi => ?_) (fun i hi => ?_) (fun i hi => ?_)
      · show fu (fun j => if j < k then X.1 j else 0) (k % 6) (X.1 (k % 6)) i = if i < k + 1 then X.1 i else 0
        unfold fu
        by_cases c1 : i = k % 6
        · rw [if_pos c1, if_pos (by omega), c1]
        · rw [if_neg c1]
          show (if i < k then _ else _) = _
          by_cases c2 : i < k
          · rw [if_pos c2, if_pos (by omega)]
          · rw [if_neg c2, if_neg (by omega)]
      · show fu (fun j => if j < k then X.2.1 j else 0) k (X.2.1 k) i = if i < k + 1 then X.2.1 i else 0
        unfold fu
        by_cases c1 : i = k
        · rw [if_pos c1, if_pos (by omega), c1]
        · rw [if_neg c1]
          show (if i < k then _ else _) = _
          by_cases c2 : i < k
          · rw [if_pos c2, if_pos (by omega)]
          · rw [if_neg c2, if_neg (by omega)]
      · show fu (fun j => if j < k then X.2.2 j else 0) (k % 3) (X.2.2 (k % 3)) i = if i < k + 1 then X.2.2 i else 0
        unfold fu
        by_cases c1 : i = k % 3
        · rw [if_pos c1, if_pos (by omega), c1]
        · rw [if_neg c1]
          show (if i < k then _ else _) = _
          by_cases c2 : i < k
          · rw [if_pos c2, if_pos (by omega)]
          · rw [if_neg c2, if_neg (by omega)]
    have c48 : ¬ (48 : Int) ≤ (k : Int) := by omega
    have hc : 190 ≤ c := by omega
    rw [e81_20]
    simp (disch := first | omega | rfl) only [e81_0, e81_2, e81_4, e81_6, e81_8, e81_10, e81_12, e81_13, e81_15, e81_17, e81_18, e81_22, e81_24, e81_27, e81_29, e81_31, e81_32, e81_34, e81_35, e81_36, e81_38, e81_40, e81_42, e81_43, e81_44, e81_46, e81_48, e81_49, e81_50, e81_51, e81_53, e81_55, e81_56, e81_57, e81_58, e81_60, e81_61, e81_62, e81_63, e81_64, e81_67, e81_71, e81_73, e81_74, e81_76, e81_77, e81_79, e81_81, e81_82, e81_83, e81_84, e81_85, e81_88, e81_91, e81_93, e81_94, e81_95, e81_97, e81_98, e81_100, e81_102, e81_104, e81_106, e81_109, e81_111, e81_113, e81_116, e81_118, e81_121, e81_123, e81_126, e81_128, e81_130, e81_132, e81_134, e81_137, e81_138, e81_141, e81_142, e81_143, e81_145, e81_147, e81_149, e81_151, e81_154, e81_156, e81_158, e81_159, e81_160, e81_163, e81_164, e81_167, e81_168, e81_169, e81_171, e81_174, e81_175, e81_177, e81_178, e81_181, e81_183, e81_186, e81_187, e81_189, e81_190, e81_193, e81_195, e81_198, e81_199, e81_201, e81_202, e81_205, e81_207, e81_210, e81_211, e81_214, e81_216, e81_219, e81_221, e81_224, e81_225, e81_228, e81_230, e81_233, e81_234, e81_237, e81_238, WpV_some, WpH_some, ↓ite_t, ↓ite_f, L_h0 ha hac, L_h1 ha hac, L_h2 ha hac, L_p0 hc, L_p1 hc, L_p2 hc, r6, r3, tn_n, c48, wrp_id, ↓reduceIte]
    rw [e]
    exact q
/-- the first ask that reads -/
def frst (s : SG) (rule : Int) (first : Int) : Nat → Int
  | 0 => first
  | d + 1 => frst (dnx s rule) rule (if 0 < tdl s rule ∧ first < 0 then s.2 1 else first) d
theorem ru_loop (ha : 190 ≤ a) (hac : a + 3 ≤ c) (hw : wfS σ) {rule : Int} (hr : rule = 0 ∨ rule = 1 ∨ rule = 2) : ∀ (d : Nat) (s : SG) (reads first backs : Int) (l11 l12 : AV), ks s → σ.1 0 = s.1 0 → σ.1 1 = s.1 1 → σ.2 0 = s.2 0 → s.2 1 + d = s.2 0 → 0 ≤ reads → reads + d ≤ 100 → 0 ≤ backs → backs + d ≤ 100 → (∀ l11 l12 : AV, Wp xs 81 174 [vr 1, vr a, vr (a + 1), vr (a + 2), vi rule, vr c, vr (c + 1), vr (c + 2), vi (reads + (sm8 ((fin s rule d).1 9) - sm8 (s.1 9))), vi (frst s rule first d), vi (backs + (sm8 ((fin s rule d).1 10) - sm8 (s.1 10))), l11, l12] [] μ (PP (putL (putL f a X) c (lw (fin s rule d))) sc T τ σ) Q) → Wp xs 81 79 [vr 1, vr a, vr (a + 1), vr (a + 2), vi rule, vr c, vr (c + 1), vr (c + 2), vi reads, vi first, vi backs, l11, l12] [] μ (PP (putL (putL f a X) c (lw s)) sc T τ σ) Q := by
  have hc : 190 ≤ c := by omega
  intro d
  induction d with
  | zero =>
    intro s reads first backs l11 l12 h e0 e1 en hd hr0 hr1 hb0 hb1 hQ
    obtain ⟨w1, w2, w3, w4, w5⟩ := id h.wf
    have q := hQ l11 l12
    unfold frst at q
    rw [show fin s rule 0 = s from rfl, show reads + (sm8 (s.1 9) - sm8 (s.1 9)) = reads by omega, show backs + (sm8 (s.1 10) - sm8 (s.1 10)) = backs by omega] at q
    have c1 : σ.2 0 ≤ s.2 1 := by omega
    simp (disch := first | omega | rfl) only [e81_79, e81_81, e81_82, e81_83, e81_84, e81_85, e81_88, WpV_some, WpH_some, ↓ite_t, ↓ite_f, L_g2 hc, lw_3, lT_1, Int.reduceToNat, cI_v (m52 (σ := σ) hw 0 (by omega) (by omega)) P_o h1', cn_0, c1]
    exact q
  | succ d ih =>
    intro s reads first backs l11 l12 h e0 e1 en hd hr0 hr1 hb0 hb1 hQ
    obtain ⟨w1, w2, w3, w4, w5⟩ := id h.wf
    have hds : s.2 1 < s.2 0 := by omega
    obtain ⟨⟨t0, t1⟩, k9, k10, -⟩ := dnx_cnt h hds rule
    have kd := cC_v (m79 (xs := xs) (f := putL f a X) (sc := sc) (T := T) (τ := τ) (σ := σ) (μ := μ) h hds hw e0 e1 en hc hr)
    have c1 : ¬ σ.2 0 ≤ s.2 1 := by omega
    have r10 : iRem (tdl s rule) 10 = tdl s rule % 10 := iRem_c t0 (by omega) (by decide) (by decide)
    have d21 := dnx_21 h.wf hds rule
    have d20 := dnx_2o (σ := s) rule (j := 0) (by decide)
    have q := ih (dnx s rule) (reads + if 0 < tdl s rule then 1 else 0) (if 0 < tdl s rule ∧ first < 0 then s.2 1 else first) (backs + if 9 < tdl s rule ∧ tdl s rule % 10 = 3 then 1 else 0) (vi (s.2 1)) (vi (tdl s rule)) (h.dnxK rule) (by rw [dnx_o _ _ (by omega)]; exact e0) (by rw [dnx_o _ _ (by omega)]; exact e1) (by rw [d20]; exact en) (by omega) (by split <;> omega) (by split <;> omega) (by split <;> omega) (by split <;> omega) (fun m11 m12 => by
      have q := hQ m11 m12
      rw [show fin s rule (d + 1) = fin (dnx s rule) rule d from rfl, show frst s rule first (d + 1) = frst (dnx s rule) rule (if 0 < tdl s rule ∧ first < 0 then s.2 1 else first) d from rfl] at q
      rw [k9, k10]
      rw [show reads + (if 0 < tdl s rule then 1 else 0) + (sm8 ((fin (dnx s rule) rule d).1 9) - (sm8 (s.1 9) + if 0 < tdl s rule then 1 else 0)) = reads + (sm8 ((fin (dnx s rule) rule d).1 9) - sm8 (s.1 9)) by omega, show backs + (if 9 < tdl s rule ∧ tdl s rule % 10 = 3 then 1 else 0) + (sm8 ((fin (dnx s rule) rule d).1 10) - (sm8 (s.1 10) + if 9 < tdl s rule ∧ tdl s rule % 10 = 3 then 1 else 0)) = backs + (sm8 ((fin (dnx s rule) rule d).1 10) - sm8 (s.1 10)) by omega]
      exact q)
    rw [e81_79]
    simp (disch := first | omega | rfl) only [e81_81, e81_82, e81_83, e81_84, e81_85, e81_88, e81_91, e81_93, e81_94, e81_95, e81_97, e81_98, e81_100, e81_102, e81_104, e81_106, e81_109, e81_111, WpV_some, WpH_some, ↓ite_t, ↓ite_f, L_g2 hc, lw_3, lT_1, Int.reduceToNat, cI_v (m52 (σ := σ) hw 0 (by omega) (by omega)) P_o h1', cn_0, c1, kd]
    by_cases z1 : 0 < tdl s rule
    · have z1' : ¬ tdl s rule ≤ 0 := by omega
      by_cases z2 : first < 0
      · have z2' : ¬ 0 ≤ first := by omega
        rw [if_pos (show 0 < tdl s rule ∧ first < 0 from ⟨z1, z2⟩), if_pos z1] at q
        by_cases z3 : 9 < tdl s rule
        · have z3' : ¬ tdl s rule ≤ 9 := by omega
          by_cases z4 : tdl s rule % 10 = 3
          · rw [if_pos (show 9 < tdl s rule ∧ tdl s rule % 10 = 3 from ⟨z3, z4⟩)] at q
            simp (disch := first | omega | rfl) only [e81_0, e81_2, e81_4, e81_6, e81_8, e81_10, e81_12, e81_13, e81_15, e81_17, e81_18, e81_20, e81_22, e81_24, e81_27, e81_29, e81_31, e81_32, e81_34, e81_35, e81_36, e81_38, e81_40, e81_42, e81_43, e81_44, e81_46, e81_48, e81_49, e81_50, e81_51, e81_53, e81_55, e81_56, e81_57, e81_58, e81_60, e81_61, e81_62, e81_63, e81_64, e81_67, e81_70, e81_71, e81_73, e81_74, e81_76, e81_77, e81_81, e81_82, e81_83, e81_84, e81_85, e81_88, e81_91, e81_93, e81_94, e81_95, e81_97, e81_98, e81_100, e81_102, e81_104, e81_106, e81_109, e81_111, e81_113, e81_116, e81_118, e81_121, e81_123, e81_126, e81_128, e81_130, e81_132, e81_134, e81_137, e81_138, e81_141, e81_142, e81_143, e81_145, e81_147, e81_149, e81_151, e81_154, e81_156, e81_158, e81_159, e81_160, e81_163, e81_164, e81_167, e81_168, e81_169, e81_171, e81_174, e81_175, e81_177, e81_178, e81_181, e81_183, e81_186, e81_187, e81_189, e81_190, e81_193, e81_195, e81_198, e81_199, e81_201, e81_202, e81_205, e81_207, e81_210, e81_211, e81_214, e81_216, e81_219, e81_221, e81_224, e81_225, e81_228, e81_230, e81_233, e81_234, e81_237, e81_238, WpV_some, WpH_some, ↓ite_t, ↓ite_f, r10, z1', z2', z3', z4, wrp_id, ne_eq, not_true_eq_false, ↓reduceIte]
            exact q
          · have z4' : tdl s rule % 10 ≠ 3 := z4
            rw [if_neg (show ¬ (9 < tdl s rule ∧ tdl s rule % 10 = 3) from fun x => z4 x.2), Int.add_zero] at q
            simp (disch := first | omega | rfl) only [e81_0, e81_2, e81_4, e81_6, e81_8, e81_10, e81_12, e81_13, e81_15, e81_17, e81_18, e81_20, e81_22, e81_24, e81_27, e81_29, e81_31, e81_32, e81_34, e81_35, e81_36, e81_38, e81_40, e81_42, e81_43, e81_44, e81_46, e81_48, e81_49, e81_50, e81_51, e81_53, e81_55, e81_56, e81_57, e81_58, e81_60, e81_61, e81_62, e81_63, e81_64, e81_67, e81_70, e81_71, e81_73, e81_74, e81_76, e81_77, e81_81, e81_82, e81_83, e81_84, e81_85, e81_88, e81_91, e81_93, e81_94, e81_95, e81_97, e81_98, e81_100, e81_102, e81_104, e81_106, e81_109, e81_111, e81_113, e81_116, e81_118, e81_121, e81_123, e81_126, e81_128, e81_130, e81_132, e81_134, e81_137, e81_138, e81_141, e81_142, e81_143, e81_145, e81_147, e81_149, e81_151, e81_154, e81_156, e81_158, e81_159, e81_160, e81_163, e81_164, e81_167, e81_168, e81_169, e81_171, e81_174, e81_175, e81_177, e81_178, e81_181, e81_183, e81_186, e81_187, e81_189, e81_190, e81_193, e81_195, e81_198, e81_199, e81_201, e81_202, e81_205, e81_207, e81_210, e81_211, e81_214, e81_216, e81_219, e81_221, e81_224, e81_225, e81_228, e81_230, e81_233, e81_234, e81_237, e81_238, WpV_some, WpH_some, ↓ite_t, ↓ite_f, r10, z1', z2', z3', z4', wrp_id, Int.add_zero, ↓reduceIte]
            exact q
        · have z3' : tdl s rule ≤ 9 := by omega
          rw [if_neg (show ¬ (9 < tdl s rule ∧ tdl s rule % 10 = 3) from fun x => z3 x.1), Int.add_zero] at q
          simp (disch := first | omega | rfl) only [e81_0, e81_2, e81_4, e81_6, e81_8, e81_10, e81_12, e81_13, e81_15, e81_17, e81_18, e81_20, e81_22, e81_24, e81_27, e81_29, e81_31, e81_32, e81_34, e81_35, e81_36, e81_38, e81_40, e81_42, e81_43, e81_44, e81_46, e81_48, e81_49, e81_50, e81_51, e81_53, e81_55, e81_56, e81_57, e81_58, e81_60, e81_61, e81_62, e81_63, e81_64, e81_67, e81_70, e81_71, e81_73, e81_74, e81_76, e81_77, e81_81, e81_82, e81_83, e81_84, e81_85, e81_88, e81_91, e81_93, e81_94, e81_95, e81_97, e81_98, e81_100, e81_102, e81_104, e81_106, e81_109, e81_111, e81_113, e81_116, e81_118, e81_121, e81_123, e81_126, e81_128, e81_130, e81_132, e81_134, e81_137, e81_138, e81_141, e81_142, e81_143, e81_145, e81_147, e81_149, e81_151, e81_154, e81_156, e81_158, e81_159, e81_160, e81_163, e81_164, e81_167, e81_168, e81_169, e81_171, e81_174, e81_175, e81_177, e81_178, e81_181, e81_183, e81_186, e81_187, e81_189, e81_190, e81_193, e81_195, e81_198, e81_199, e81_201, e81_202, e81_205, e81_207, e81_210, e81_211, e81_214, e81_216, e81_219, e81_221, e81_224, e81_225, e81_228, e81_230, e81_233, e81_234, e81_237, e81_238, WpV_some, WpH_some, ↓ite_t, ↓ite_f, r10, z1', z2', z3', wrp_id, Int.add_zero, ↓reduceIte]
          exact q
      · have z2' : 0 ≤ first := by omega
        rw [if_neg (show ¬ (0 < tdl s rule ∧ first < 0) from fun x => z2 x.2), if_pos z1] at q
        by_cases z3 : 9 < tdl s rule
        · have z3' : ¬ tdl s rule ≤ 9 := by omega
          by_cases z4 : tdl s rule % 10 = 3
          · rw [if_pos (show 9 < tdl s rule ∧ tdl s rule % 10 = 3 from ⟨z3, z4⟩)] at q
            simp (disch := first | omega | rfl) only [e81_0, e81_2, e81_4, e81_6, e81_8, e81_10, e81_12, e81_13, e81_15, e81_17, e81_18, e81_20, e81_22, e81_24, e81_27, e81_29, e81_31, e81_32, e81_34, e81_35, e81_36, e81_38, e81_40, e81_42, e81_43, e81_44, e81_46, e81_48, e81_49, e81_50, e81_51, e81_53, e81_55, e81_56, e81_57, e81_58, e81_60, e81_61, e81_62, e81_63, e81_64, e81_67, e81_70, e81_71, e81_73, e81_74, e81_76, e81_77, e81_81, e81_82, e81_83, e81_84, e81_85, e81_88, e81_91, e81_93, e81_94, e81_95, e81_97, e81_98, e81_100, e81_102, e81_104, e81_106, e81_109, e81_111, e81_113, e81_116, e81_118, e81_121, e81_123, e81_126, e81_128, e81_130, e81_132, e81_134, e81_137, e81_138, e81_141, e81_142, e81_143, e81_145, e81_147, e81_149, e81_151, e81_154, e81_156, e81_158, e81_159, e81_160, e81_163, e81_164, e81_167, e81_168, e81_169, e81_171, e81_174, e81_175, e81_177, e81_178, e81_181, e81_183, e81_186, e81_187, e81_189, e81_190, e81_193, e81_195, e81_198, e81_199, e81_201, e81_202, e81_205, e81_207, e81_210, e81_211, e81_214, e81_216, e81_219, e81_221, e81_224, e81_225, e81_228, e81_230, e81_233, e81_234, e81_237, e81_238, WpV_some, WpH_some, ↓ite_t, ↓ite_f, r10, z1', z2', z3', z4, wrp_id, ne_eq, not_true_eq_false, ↓reduceIte]
            exact q
          · have z4' : tdl s rule % 10 ≠ 3 := z4
            rw [if_neg (show ¬ (9 < tdl s rule ∧ tdl s rule % 10 = 3) from fun x => z4 x.2), Int.add_zero] at q
            simp (disch := first | omega | rfl) only [e81_0, e81_2, e81_4, e81_6, e81_8, e81_10, e81_12, e81_13, e81_15, e81_17, e81_18, e81_20, e81_22, e81_24, e81_27, e81_29, e81_31, e81_32, e81_34, e81_35, e81_36, e81_38, e81_40, e81_42, e81_43, e81_44, e81_46, e81_48, e81_49, e81_50, e81_51, e81_53, e81_55, e81_56, e81_57, e81_58, e81_60, e81_61, e81_62, e81_63, e81_64, e81_67, e81_70, e81_71, e81_73, e81_74, e81_76, e81_77, e81_81, e81_82, e81_83, e81_84, e81_85, e81_88, e81_91, e81_93, e81_94, e81_95, e81_97, e81_98, e81_100, e81_102, e81_104, e81_106, e81_109, e81_111, e81_113, e81_116, e81_118, e81_121, e81_123, e81_126, e81_128, e81_130, e81_132, e81_134, e81_137, e81_138, e81_141, e81_142, e81_143, e81_145, e81_147, e81_149, e81_151, e81_154, e81_156, e81_158, e81_159, e81_160, e81_163, e81_164, e81_167, e81_168, e81_169, e81_171, e81_174, e81_175, e81_177, e81_178, e81_181, e81_183, e81_186, e81_187, e81_189, e81_190, e81_193, e81_195, e81_198, e81_199, e81_201, e81_202, e81_205, e81_207, e81_210, e81_211, e81_214, e81_216, e81_219, e81_221, e81_224, e81_225, e81_228, e81_230, e81_233, e81_234, e81_237, e81_238, WpV_some, WpH_some, ↓ite_t, ↓ite_f, r10, z1', z2', z3', z4', wrp_id, Int.add_zero, ↓reduceIte]
            exact q
        · have z3' : tdl s rule ≤ 9 := by omega
          rw [if_neg (show ¬ (9 < tdl s rule ∧ tdl s rule % 10 = 3) from fun x => z3 x.1), Int.add_zero] at q
          simp (disch := first | omega | rfl) only [e81_0, e81_2, e81_4, e81_6, e81_8, e81_10, e81_12, e81_13, e81_15, e81_17, e81_18, e81_20, e81_22, e81_24, e81_27, e81_29, e81_31, e81_32, e81_34, e81_35, e81_36, e81_38, e81_40, e81_42, e81_43, e81_44, e81_46, e81_48, e81_49, e81_50, e81_51, e81_53, e81_55, e81_56, e81_57, e81_58, e81_60, e81_61, e81_62, e81_63, e81_64, e81_67, e81_70, e81_71, e81_73, e81_74, e81_76, e81_77, e81_81, e81_82, e81_83, e81_84, e81_85, e81_88, e81_91, e81_93, e81_94, e81_95, e81_97, e81_98, e81_100, e81_102, e81_104, e81_106, e81_109, e81_111, e81_113, e81_116, e81_118, e81_121, e81_123, e81_126, e81_128, e81_130, e81_132, e81_134, e81_137, e81_138, e81_141, e81_142, e81_143, e81_145, e81_147, e81_149, e81_151, e81_154, e81_156, e81_158, e81_159, e81_160, e81_163, e81_164, e81_167, e81_168, e81_169, e81_171, e81_174, e81_175, e81_177, e81_178, e81_181, e81_183, e81_186, e81_187, e81_189, e81_190, e81_193, e81_195, e81_198, e81_199, e81_201, e81_202, e81_205, e81_207, e81_210, e81_211, e81_214, e81_216, e81_219, e81_221, e81_224, e81_225, e81_228, e81_230, e81_233, e81_234, e81_237, e81_238, WpV_some, WpH_some, ↓ite_t, ↓ite_f, r10, z1', z2', z3', wrp_id, Int.add_zero, ↓reduceIte]
          exact q
    · have z1' : tdl s rule ≤ 0 := by omega
      have z3' : tdl s rule ≤ 9 := by omega
      rw [if_neg (show ¬ (0 < tdl s rule ∧ first < 0) from fun x => z1 x.1), if_neg z1, if_neg (show ¬ (9 < tdl s rule ∧ tdl s rule % 10 = 3) from fun x => by omega), Int.add_zero, Int.add_zero] at q
      simp (disch := first | omega | rfl) only [e81_0, e81_2, e81_4, e81_6, e81_8, e81_10, e81_12, e81_13, e81_15, e81_17, e81_18, e81_20, e81_22, e81_24, e81_27, e81_29, e81_31, e81_32, e81_34, e81_35, e81_36, e81_38, e81_40, e81_42, e81_43, e81_44, e81_46, e81_48, e81_49, e81_50, e81_51, e81_53, e81_55, e81_56, e81_57, e81_58, e81_60, e81_61, e81_62, e81_63, e81_64, e81_67, e81_70, e81_71, e81_73, e81_74, e81_76, e81_77, e81_81, e81_82, e81_83, e81_84, e81_85, e81_88, e81_91, e81_93, e81_94, e81_95, e81_97, e81_98, e81_100, e81_102, e81_104, e81_106, e81_109, e81_111, e81_113, e81_116, e81_118, e81_121, e81_123, e81_126, e81_128, e81_130, e81_132, e81_134, e81_137, e81_138, e81_141, e81_142, e81_143, e81_145, e81_147, e81_149, e81_151, e81_154, e81_156, e81_158, e81_159, e81_160, e81_163, e81_164, e81_167, e81_168, e81_169, e81_171, e81_174, e81_175, e81_177, e81_178, e81_181, e81_183, e81_186, e81_187, e81_189, e81_190, e81_193, e81_195, e81_198, e81_199, e81_201, e81_202, e81_205, e81_207, e81_210, e81_211, e81_214, e81_216, e81_219, e81_221, e81_224, e81_225, e81_228, e81_230, e81_233, e81_234, e81_237, e81_238, WpV_some, WpH_some, ↓ite_t, ↓ite_f, r10, z1', z3', wrp_id, Int.add_zero, ↓reduceIte]
      exact q
end LRU
