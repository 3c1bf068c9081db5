/-! THE MODEL'S METHODS: changes of the plan, asks done, pins -/
def lys (z : Nat → Int) (i : Nat) (p w : Int) : Nat → Int := fu (fu (fu (fu z (27 + 4 * i) p) (28 + 4 * i) w) (29 + 4 * i) (-1)) (30 + 4 * i) (-1)
def inz (z : Nat → Int) (n c : Nat) : Nat → Int := fun j => if c + 4 ≤ j ∧ j < 27 + 4 * n + 4 then z (j - 4) else z j
section MP
variable {xs : List Int} {f : AH} {M : MG} {μ : Mu} {y pc : Nat} {L st : List AV} {Q : Out → Mu → AH → Prop} {σ : SG} {T : TG} {V : VG} {sc : Int} {z : Nat → Int}
theorem lys_n (z : Nat → Int) (i : Nat) (p w : Int) {j : Nat} (h : j < 27 + 4 * i ∨ 27 + 4 * i + 3 < j) : lys z i p w j = z j := by
  unfold lys
  rw [fu_n _ _ (by omega), fu_n _ _ (by omega), fu_n _ _ (by omega), fu_n _ _ (by omega)]
theorem lys_0 (z : Nat → Int) (i : Nat) (p w : Int) : lys z i p w (27 + 4 * i) = p := by
  unfold lys
  rw [fu_n _ _ (by omega), fu_n _ _ (by omega), fu_n _ _ (by omega), fu_s]
theorem lys_1 (z : Nat → Int) (i : Nat) (p w : Int) : lys z i p w (28 + 4 * i) = w := by
  unfold lys
  rw [fu_n _ _ (by omega), fu_n _ _ (by omega), fu_s]
theorem lys_2 (z : Nat → Int) (i : Nat) (p w : Int) : lys z i p w (29 + 4 * i) = -1 := by
  unfold lys
  rw [fu_n _ _ (by omega), fu_s]
theorem lys_3 (z : Nat → Int) (i : Nat) (p w : Int) : lys z i p w (30 + 4 * i) = -1 := by
  unfold lys
  rw [fu_s]
theorem m86 {i : Int} {n : Nat} (e : i = n) (hn : n < 80) (p w : Int) : Runs xs 86 [vr 190, vi i, vi p, vi w] μ (putM f M) (.inl none) μ (putM f (mAr M 0 (lys (M.2.1 0) n p w))) := Runs.iff fun Q hQ => by
  subst e
  show Wp xs 86 0 [vr 190, vi n, vi p, vi w] [] μ (putM f M) Q
  have q := fun (M' : MG) (k v : Int) (k0 : 0 ≤ k) (k1 : k < 4) => cI_n (m87 (xs := xs) (f := f) (M := M') (μ := μ) n k v (by omega) (by omega) k0 k1) M_o h190
  have q0 := fun M' v => q M' 0 v (by decide) (by decide)
  have q1 := fun M' v => q M' 1 v (by decide) (by decide)
  have q2 := fun M' v => q M' 2 v (by decide) (by decide)
  have q3 := fun M' v => q M' 3 v (by decide) (by decide)
  simp only [tn27, tn28, tn29, tn30] at q0 q1 q2 q3
  simp (disch := first | omega | rfl) only [e86_0, e86_1, e86_2, e86_3, e86_4, e86_7, e86_8, e86_9, e86_10, e86_11, e86_14, e86_15, e86_16, e86_17, e86_18, e86_21, e86_22, e86_23, e86_24, e86_25, e86_28, WpV_some, WpH_some, ↓ite_t, ↓ite_f, q0, q1, q2, q3, mAr_same, mAr_mAr]
  exact hQ
/-- an ask put in -/
theorem rel.put (h : rel σ z) {i p : Nat} {w : Int} (h1 : σ.2 1 ≤ i) (h2 : (i : Int) ≤ σ.2 0) (hn : σ.2 0 < 80) (hp : p < 8) (hw : w = 0 ∨ w = 1) {n : Nat} (en : σ.2 0 = n) : rel (pta σ i p w) (fu (lys (inz z n (27 + 4 * i)) i p w) 0 (n + 1)) := by
  obtain ⟨w1, w2, w3, w4, w5⟩ := h.wf
  have s0 : (pta σ i p w).2 0 = n + 1 := by rw [pta_0, en]
  have s1 : (pta σ i p w).2 1 = σ.2 1 := by unfold pta; rw [sS_2, if_neg (by decide), sR_2, sR_2]
  have s2 : (pta σ i p w).2 2 = σ.2 2 := by unfold pta; rw [sS_2, if_neg (by decide), sR_2, sR_2]
  have sj : ∀ k, k ≠ 0 → k ≠ 1 → (pta σ i p w).1 k = σ.1 k := fun k k0 k1 => by unfold pta; rw [sS_1, sR_1, if_neg k1, sR_1, if_neg k0]
  have r0 : (pta σ i p w).1 0 = opn (σ.1 0) i p := by unfold pta; rw [sS_1, sR_1, if_neg (by decide), sR_1, if_pos rfl, Int.toNat_natCast]
  have r1 : (pta σ i p w).1 1 = opn (σ.1 1) i w := by unfold pta; rw [sS_1, sR_1, if_pos rfl, Int.toNat_natCast]
  have zl : ∀ j, j ≠ 0 → j < 27 + 4 * i → fu (lys (inz z n (27 + 4 * i)) i p w) 0 ((n : Int) + 1) j = z j := fun j h0 hj => by
    rw [fu_n _ _ h0, lys_n _ _ _ _ (Or.inl hj)]
    unfold inz
    rw [if_neg (by omega)]
  have zu : ∀ j r, r < 4 → i < j → j ≤ n → fu (lys (inz z n (27 + 4 * i)) i p w) 0 ((n : Int) + 1) (27 + 4 * j + r) = z (27 + 4 * (j - 1) + r) := fun j r hr hj hjn => by
    rw [fu_n _ _ (by omega), lys_n _ _ _ _ (Or.inr (by omega))]
    unfold inz
    rw [if_pos (by omega)]
    exact congrArg z (by omega)
  have zi : ∀ j v, fu (lys (inz z n (27 + 4 * i)) i p w) 0 ((n : Int) + 1) (27 + 4 * j + v) = lys (inz z n (27 + 4 * i)) i p w (27 + 4 * j + v) := fun j v => fu_n _ _ (by omega)
  refine ⟨⟨?_, ?_, ?_, ?_⟩, ⟨?_, ?_, ?_⟩, ⟨?_, ?_, ?_⟩, ?_, ?_, ?_⟩
  · unfold wfS; rw [s0, s1, s2]; omega
  · rw [s0, fu_s]
  · rw [s1, zl 1 (by decide) (by omega)]; exact h.n.2.1
  · rw [s2, zl 2 (by decide) (by omega)]; exact h.n.2.2
  · rw [s0, r0, r1]
    intro j hj
    unfold opn
    by_cases c1 : j < i
    · rw [if_pos c1, if_pos c1, zl _ (by omega) (by omega), zl _ (by omega) (by omega)]
      exact h.P j (by omega)
    · rw [if_neg c1, if_neg c1]
      by_cases c2 : j = i
      · subst c2
        rw [if_pos rfl, if_pos rfl, fu_n _ _ (by omega), fu_n _ _ (by omega), lys_0, lys_1]
        exact ⟨rfl, by omega, by omega, rfl, hw⟩
      · rw [if_neg c2, if_neg c2]
        have e := h.P (j - 1) (by omega)
        have k0 := zu j 0 (by decide) (by omega) (by omega)
        have k1 := zu j 1 (by decide) (by omega) (by omega)
        rw [show 27 + 4 * j + 0 = 27 + 4 * j by omega, show 27 + 4 * (j - 1) + 0 = 27 + 4 * (j - 1) by omega] at k0
        rw [show 27 + 4 * j + 1 = 28 + 4 * j by omega, show 27 + 4 * (j - 1) + 1 = 28 + 4 * (j - 1) by omega] at k1
        rw [k0, k1]
        exact e
  · rw [s1, sj 2 (by decide) (by decide), sj 3 (by decide) (by decide)]
    exact h.D.ext fun j hj => ⟨zl _ (by omega) (by omega), zl _ (by omega) (by omega)⟩
  · rw [s0, s1]
    intro j hj hj2
    by_cases c1 : j < i
    · rw [zl _ (by omega) (by omega), zl _ (by omega) (by omega)]
      exact h.C j hj (by omega)
    · by_cases c2 : j = i
      · subst c2
        rw [fu_n _ _ (by omega), fu_n _ _ (by omega), lys_2, lys_3]
        exact ⟨rfl, rfl⟩
      · have e := h.C (j - 1) (by omega) (by omega)
        have k2 := zu j 2 (by decide) (by omega) (by omega)
        have k3 := zu j 3 (by decide) (by omega) (by omega)
        rw [show 27 + 4 * j + 2 = 29 + 4 * j by omega, show 27 + 4 * (j - 1) + 2 = 29 + 4 * (j - 1) by omega] at k2
        rw [show 27 + 4 * j + 3 = 30 + 4 * j by omega, show 27 + 4 * (j - 1) + 3 = 30 + 4 * (j - 1) by omega] at k3
        rw [k2, k3]
        exact e
  · rw [sj 6 (by decide) (by decide), zl 3 (by decide) (by omega)]; exact h.pin
  · rw [sj 5 (by decide) (by decide), zl 4 (by decide) (by omega)]; exact h.ch
  · rw [s2, sj 4 (by decide) (by decide)]
    refine ⟨h.F.1, fun e he => ?_, fun e q he hq => ?_⟩
    · rw [zl _ (by omega) (by omega)]; exact h.F.2.1 e he
    · rw [zl _ (by omega) (by omega)]; exact h.F.2.2 e q he hq
  · rw [s1, sj 7 (by decide) (by decide), sj 8 (by decide) (by decide)]
    exact h.L.ext fun j hj => ⟨(zl _ (by omega) (by omega)).symm, (zl _ (by omega) (by omega)).symm⟩
  · rw [s1, sj 9 (by decide) (by decide), sj 10 (by decide) (by decide), sj 5 (by decide) (by decide)]
    intro q hq
    rw [zl _ (by omega) (by omega), zl _ (by omega) (by omega)]
    exact h.N q hq
  · rw [s2, sj 6 (by decide) (by decide)]; exact h.K
theorem inz_0 (z : Nat → Int) (n : Nat) : inz z n (27 + 4 * n) = z := by
  funext j
  unfold inz
  rw [if_neg (by omega)]
theorem inz_up (z : Nat → Int) (n c : Nat) (hc : c + 1 ≤ 27 + 4 * n) : fu (inz z n (c + 1)) (c + 4) (inz z n (c + 1) c) = inz z n c := by
  funext j
  show (if j = c + 4 then inz z n (c + 1) c else inz z n (c + 1) j) = _
  unfold inz
  by_cases h : j = c + 4
  · subst h
    rw [if_pos rfl, if_neg (by omega), if_pos (by omega), show c + 4 - 4 = c by omega]
  · rw [if_neg h]
    by_cases h2 : c + 1 + 4 ≤ j ∧ j < 27 + 4 * n + 4
    · rw [if_pos h2, if_pos (by omega)]
    · rw [if_neg h2, if_neg (by omega)]
theorem ins_loop {i n : Nat} (hi : i ≤ n) (hn : n < 80) (p w : Int) : ∀ d : Nat, d ≤ 4 * (n - i) → (Wp xs 88 85 [vr 190, vi i, vi p, vi w, vi (((27 + 4 * i + d : Nat) : Int) - 1)] [] μ (putM f (mAr M 0 (inz (M.2.1 0) n (27 + 4 * i + d)))) Q = Wp xs 88 118 [vr 190, vi i, vi p, vi w, vi (((27 + 4 * i : Nat) : Int) - 1)] [] μ (putM f (mAr M 0 (inz (M.2.1 0) n (27 + 4 * i)))) Q) := by
  intro d
  induction d with
  | zero =>
    intro hd
    rw [Nat.add_zero]
    simp (disch := first | omega | rfl) only [e88_85, e88_87, e88_89, e88_90, e88_91, e88_92, e88_93, WpV_some, WpH_some, ↓ite_t, ↓ite_f, wrp_id]
  | succ d ih =>
    intro hd
    have q := ih (by omega)
    have e1 : ((27 + 4 * i + (d + 1) : Nat) : Int) - 1 = ((27 + 4 * i + d : Nat) : Int) := by omega
    have e2 : ((27 + 4 * i + d : Nat) : Int) + -1 = ((27 + 4 * i + d : Nat) : Int) - 1 := by omega
    have e3 : (((27 + 4 * i + d : Nat) : Int) + 4).toNat = 27 + 4 * i + d + 4 := by omega
    have e4 := inz_up (M.2.1 0) n (27 + 4 * i + d) (by omega)
    rw [e1, show 27 + 4 * i + (d + 1) = 27 + 4 * i + d + 1 by omega, e88_85]
    simp (disch := first | omega | rfl) only [e88_87, e88_89, e88_90, e88_91, e88_92, e88_93, e88_96, e88_97, e88_100, e88_102, e88_103, e88_104, e88_105, e88_108, e88_110, e88_111, e88_112, e88_115, WpV_some, WpH_some, ↓ite_t, ↓ite_f, M_f0, M_f1, M_f2, M_f3, M_f4, M_f5, M_f6, M_f7, M_f8, M_f9, M_f10, M_p0, M_p3, M_p6, M_p7, M_p10, M_g_0, M_g_1, M_g_2, M_g_3, M_g_4, M_g_5, M_s_0, M_s_1, M_s_2, M_s_3, M_s_4, M_s_5, mAr_same, mAr_mAr, mAr_1, mAr_h, mS_2, mS_same, mS_mS, mAr_mS, mh_1, mh_2, mh_h, mAr_01, mAr_02, mAr_03, mAr_04, mAr_05, mAr_10, mAr_12, mAr_13, mAr_14, mAr_15, mAr_20, mAr_21, mAr_23, mAr_24, mAr_25, mAr_30, mAr_31, mAr_32, mAr_34, mAr_35, mAr_40, mAr_41, mAr_42, mAr_43, mAr_45, mAr_50, mAr_51, mAr_52, mAr_53, mAr_54, mS_01, mS_02, mS_03, mS_10, mS_12, mS_13, mS_20, mS_21, mS_23, mS_30, mS_31, mS_32, wrp_id, Int.toNat_natCast, e2, e3, e4, q]
theorem m88 (h : inv σ T V sc M) {i p : Int} (w : Int) (hi0 : σ.2 1 ≤ i) (hi1 : i ≤ σ.2 0) (hp0 : 0 ≤ p) (hp1 : p < 8) (hs : σ.2 0 < 80) : ∃ M', inv (pta σ i p (if w = 0 then 0 else 1)) T (svV V sc σ) (svC sc) M' ∧ M'.1 0 = 0 ∧ Runs xs 88 [vr 190, vi i, vi p, vi w] μ (putM f M) (.inl (some (vi (σ.2 0 + 1 - σ.2 1)))) μ (putM f M') := by
  obtain ⟨w1, w2, w3, w4, w5⟩ := h.1.wf
  obtain ⟨n0, n1, n2⟩ := h.1.n
  obtain ⟨n, hn⟩ : ∃ n : Nat, σ.2 0 = n := ⟨(σ.2 0).toNat, by omega⟩
  obtain ⟨j, rfl⟩ : ∃ j : Nat, i = j := ⟨i.toNat, by omega⟩
  obtain ⟨pn, rfl⟩ : ∃ pn : Nat, p = pn := ⟨p.toNat, by omega⟩
  have h0 : inv σ T V sc (mS M 0 0) := h
  obtain ⟨g1, g2, g3, g4, g5, g6⟩ := h0.save
  obtain ⟨e1, e2, e3, e4⟩ := svM_2 (mS M 0 0)
  have qs := cI_n (h0.m85E (xs := xs) (f := f) (μ := μ)) M_o h190
  obtain ⟨k0, k1, k2⟩ := g1.n
  generalize svM (mS M 0 0) = M1 at *
  have hr := g1.put (i := j) (p := pn) (w := if w = 0 then 0 else 1) hi0 hi1 hs (by omega) (by split; exact Or.inl rfl; exact Or.inr rfl) hn
  refine ⟨mAr M1 0 (fu (lys (inz (M1.2.1 0) n (27 + 4 * j)) j pn (if w = 0 then 0 else 1)) 0 (n + 1)), ⟨hr, g2, g3, g4, g5, g6⟩, e3, Runs.iff fun Q hQ => ?_⟩
  show Wp xs 88 0 [vr 190, vi j, vi pn, vi w, vu] [] μ (putM f M) Q
  have q1 := cC_v (m77 (xs := xs) (f := putM f M) (μ := μ) j (σ.2 1) (σ.2 0))
  rw [if_pos ⟨hi0, hi1⟩] at q1
  have q2 := cC_v (m89 (xs := xs) (f := putM f M) (μ := μ) pn)
  rw [if_pos (by omega)] at q2
  have q3 := ins_loop (xs := xs) (f := f) (μ := μ) (Q := Q) (M := M1) (i := j) (n := n) (by omega) (by omega) pn w (4 * (n - j)) (Nat.le_refl _)
  rw [show 27 + 4 * j + 4 * (n - j) = 27 + 4 * n by omega, inz_0, mAr_self] at q3
  have c1 : ¬ σ.2 0 = 80 := by omega
  have e5 : ((27 + 4 * n : Nat) : Int) - 1 = 27 + 4 * (n : Int) - 1 := by omega
  rw [e5] at q3
  have q4 := fun w => cI_n (m86 (xs := xs) (f := f) (M := mAr M1 0 (inz (M1.2.1 0) n (27 + 4 * j))) (μ := μ) (i := (j : Nat)) rfl (by omega) pn w) M_o h190
  simp only [mAr_same, mAr_mAr] at q4
  have l0 : ∀ w, lys (inz (M1.2.1 0) n (27 + 4 * j)) j pn w 0 = n := fun w => by
    rw [lys_n _ _ _ _ (by omega)]
    unfold inz
    rw [if_neg (by omega), k0, hn]
  have l1 : ∀ w, fu (lys (inz (M1.2.1 0) n (27 + 4 * j)) j pn w) 0 ((n : Int) + 1) 1 = σ.2 1 := fun w => by
    rw [fu_n _ _ (by decide), lys_n _ _ _ _ (by omega)]
    unfold inz
    rw [if_neg (by omega), k1]
  have l2 : ∀ w, fu (lys (inz (M1.2.1 0) n (27 + 4 * j)) j pn w) 0 ((n : Int) + 1) 0 = n + 1 := fun w => fu_s _ _ _
  rw [hn] at hQ c1 q1 k0 n0
  by_cases c : w = 0
  · rw [if_pos c] at hQ
    simp (disch := first | omega | rfl) only [e88_0, e88_1, e88_2, e88_5, e88_6, e88_7, e88_8, e88_11, e88_12, e88_13, e88_16, e88_26, e88_27, e88_28, e88_31, e88_34, e88_35, e88_38, e88_39, e88_42, e88_43, e88_44, e88_46, e88_49, e88_50, e88_53, e88_54, e88_57, e88_58, e88_61, e88_66, e88_67, e88_70, e88_72, e88_73, e88_74, e88_77, e88_78, e88_79, e88_80, e88_81, e88_82, e88_83, WpV_some, WpH_some, ↓ite_t, ↓ite_f, M_f0, M_f1, M_f2, M_f3, M_f4, M_f5, M_f6, M_f7, M_f8, M_f9, M_f10, M_p0, M_p3, M_p6, M_p7, M_p10, M_g_0, M_g_1, M_g_2, M_g_3, M_g_4, M_g_5, M_s_0, M_s_1, M_s_2, M_s_3, M_s_4, M_s_5, mAr_same, mAr_mAr, mAr_1, mAr_h, mS_2, mS_same, mS_mS, mAr_mS, mh_1, mh_2, mh_h, mAr_01, mAr_02, mAr_03, mAr_04, mAr_05, mAr_10, mAr_12, mAr_13, mAr_14, mAr_15, mAr_20, mAr_21, mAr_23, mAr_24, mAr_25, mAr_30, mAr_31, mAr_32, mAr_34, mAr_35, mAr_40, mAr_41, mAr_42, mAr_43, mAr_45, mAr_50, mAr_51, mAr_52, mAr_53, mAr_54, mS_01, mS_02, mS_03, mS_10, mS_12, mS_13, mS_20, mS_21, mS_23, mS_30, mS_31, mS_32, Int.reduceToNat, n0, n1, q1, q2, qs, k0, c1, wrp_id, ne_eq, Int.reduceEq, not_true_eq_false, not_false_eq_true, ↓reduceIte, q3]
    simp (disch := first | omega | rfl) only [e88_0, e88_1, e88_2, e88_5, e88_6, e88_7, e88_8, e88_11, e88_12, e88_13, e88_16, e88_19, e88_20, e88_21, e88_24, e88_25, e88_26, e88_27, e88_28, e88_31, e88_34, e88_35, e88_38, e88_39, e88_42, e88_43, e88_44, e88_46, e88_49, e88_50, e88_53, e88_54, e88_57, e88_58, e88_61, e88_64, e88_65, e88_66, e88_67, e88_70, e88_72, e88_73, e88_74, e88_77, e88_78, e88_79, e88_80, e88_81, e88_82, e88_83, e88_87, e88_89, e88_90, e88_91, e88_92, e88_93, e88_96, e88_97, e88_100, e88_102, e88_103, e88_104, e88_105, e88_108, e88_110, e88_111, e88_112, e88_115, e88_118, e88_119, e88_120, e88_121, e88_122, e88_125, e88_126, e88_129, e88_130, e88_133, e88_134, e88_137, e88_138, e88_139, e88_140, e88_141, e88_142, e88_143, e88_144, e88_147, e88_148, e88_149, e88_150, e88_153, e88_154, e88_155, e88_156, WpV_some, WpH_some, ↓ite_t, ↓ite_f, M_f0, M_f1, M_f2, M_f3, M_f4, M_f5, M_f6, M_f7, M_f8, M_f9, M_f10, M_p0, M_p3, M_p6, M_p7, M_p10, M_g_0, M_g_1, M_g_2, M_g_3, M_g_4, M_g_5, M_s_0, M_s_1, M_s_2, M_s_3, M_s_4, M_s_5, mAr_same, mAr_mAr, mAr_1, mAr_h, mS_2, mS_same, mS_mS, mAr_mS, mh_1, mh_2, mh_h, mAr_01, mAr_02, mAr_03, mAr_04, mAr_05, mAr_10, mAr_12, mAr_13, mAr_14, mAr_15, mAr_20, mAr_21, mAr_23, mAr_24, mAr_25, mAr_30, mAr_31, mAr_32, mAr_34, mAr_35, mAr_40, mAr_41, mAr_42, mAr_43, mAr_45, mAr_50, mAr_51, mAr_52, mAr_53, mAr_54, mS_01, mS_02, mS_03, mS_10, mS_12, mS_13, mS_20, mS_21, mS_23, mS_30, mS_31, mS_32, Int.reduceToNat, c, q4, l0, l1, l2, wrp_id, ne_eq, not_true_eq_false, ↓reduceIte]
    exact hQ
  · rw [if_neg c] at hQ
    simp (disch := first | omega | rfl) only [e88_0, e88_1, e88_2, e88_5, e88_6, e88_7, e88_8, e88_11, e88_12, e88_13, e88_16, e88_26, e88_27, e88_28, e88_31, e88_34, e88_35, e88_38, e88_39, e88_42, e88_43, e88_44, e88_46, e88_49, e88_50, e88_53, e88_54, e88_57, e88_58, e88_61, e88_66, e88_67, e88_70, e88_72, e88_73, e88_74, e88_77, e88_78, e88_79, e88_80, e88_81, e88_82, e88_83, WpV_some, WpH_some, ↓ite_t, ↓ite_f, M_f0, M_f1, M_f2, M_f3, M_f4, M_f5, M_f6, M_f7, M_f8, M_f9, M_f10, M_p0, M_p3, M_p6, M_p7, M_p10, M_g_0, M_g_1, M_g_2, M_g_3, M_g_4, M_g_5, M_s_0, M_s_1, M_s_2, M_s_3, M_s_4, M_s_5, mAr_same, mAr_mAr, mAr_1, mAr_h, mS_2, mS_same, mS_mS, mAr_mS, mh_1, mh_2, mh_h, mAr_01, mAr_02, mAr_03, mAr_04, mAr_05, mAr_10, mAr_12, mAr_13, mAr_14, mAr_15, mAr_20, mAr_21, mAr_23, mAr_24, mAr_25, mAr_30, mAr_31, mAr_32, mAr_34, mAr_35, mAr_40, mAr_41, mAr_42, mAr_43, mAr_45, mAr_50, mAr_51, mAr_52, mAr_53, mAr_54, mS_01, mS_02, mS_03, mS_10, mS_12, mS_13, mS_20, mS_21, mS_23, mS_30, mS_31, mS_32, Int.reduceToNat, n0, n1, q1, q2, qs, k0, c1, wrp_id, ne_eq, Int.reduceEq, not_true_eq_false, not_false_eq_true, ↓reduceIte, q3]
    simp (disch := first | omega | rfl) only [e88_0, e88_1, e88_2, e88_5, e88_6, e88_7, e88_8, e88_11, e88_12, e88_13, e88_16, e88_19, e88_20, e88_21, e88_24, e88_25, e88_26, e88_27, e88_28, e88_31, e88_34, e88_35, e88_38, e88_39, e88_42, e88_43, e88_44, e88_46, e88_49, e88_50, e88_53, e88_54, e88_57, e88_58, e88_61, e88_64, e88_65, e88_66, e88_67, e88_70, e88_72, e88_73, e88_74, e88_77, e88_78, e88_79, e88_80, e88_81, e88_82, e88_83, e88_87, e88_89, e88_90, e88_91, e88_92, e88_93, e88_96, e88_97, e88_100, e88_102, e88_103, e88_104, e88_105, e88_108, e88_110, e88_111, e88_112, e88_115, e88_118, e88_119, e88_120, e88_121, e88_122, e88_125, e88_126, e88_129, e88_130, e88_133, e88_134, e88_137, e88_138, e88_139, e88_140, e88_141, e88_142, e88_143, e88_144, e88_147, e88_148, e88_149, e88_150, e88_153, e88_154, e88_155, e88_156, WpV_some, WpH_some, ↓ite_t, ↓ite_f, M_f0, M_f1, M_f2, M_f3, M_f4, M_f5, M_f6, M_f7, M_f8, M_f9, M_f10, M_p0, M_p3, M_p6, M_p7, M_p10, M_g_0, M_g_1, M_g_2, M_g_3, M_g_4, M_g_5, M_s_0, M_s_1, M_s_2, M_s_3, M_s_4, M_s_5, mAr_same, mAr_mAr, mAr_1, mAr_h, mS_2, mS_same, mS_mS, mAr_mS, mh_1, mh_2, mh_h, mAr_01, mAr_02, mAr_03, mAr_04, mAr_05, mAr_10, mAr_12, mAr_13, mAr_14, mAr_15, mAr_20, mAr_21, mAr_23, mAr_24, mAr_25, mAr_30, mAr_31, mAr_32, mAr_34, mAr_35, mAr_40, mAr_41, mAr_42, mAr_43, mAr_45, mAr_50, mAr_51, mAr_52, mAr_53, mAr_54, mS_01, mS_02, mS_03, mS_10, mS_12, mS_13, mS_20, mS_21, mS_23, mS_30, mS_31, mS_32, Int.reduceToNat, c, q4, l0, l1, l2, wrp_id, ne_eq, not_false_eq_true, ↓reduceIte]
    exact hQ
theorem m88i (h : inv σ T V sc M) (i p w : Int) (hi : i < σ.2 1 ∨ σ.2 0 < i) : Runs xs 88 [vr 190, vi i, vi p, vi w] μ (putM f M) (.inl (some (vi 0))) μ (putM f (mS M 0 1)) := Runs.iff fun Q hQ => by
  show Wp xs 88 0 [vr 190, vi i, vi p, vi w, vu] [] μ (putM f M) Q
  obtain ⟨n0, n1, n2⟩ := h.1.n
  have q1 := cC_v (m77 (xs := xs) (f := putM f M) (μ := μ) i (σ.2 1) (σ.2 0))
  rw [if_neg (by omega)] at q1
  simp (disch := first | omega | rfl) only [e88_0, e88_1, e88_2, e88_5, e88_6, e88_7, e88_8, e88_11, e88_12, e88_13, e88_16, e88_19, e88_20, e88_21, e88_24, e88_25, e88_26, e88_27, e88_28, e88_31, e88_34, e88_35, e88_38, e88_39, e88_42, e88_43, e88_44, e88_46, e88_49, e88_50, e88_53, e88_54, e88_57, e88_58, e88_61, e88_64, e88_65, e88_66, e88_67, e88_70, e88_72, e88_73, e88_74, e88_77, e88_78, e88_79, e88_80, e88_81, e88_82, e88_83, e88_87, e88_89, e88_90, e88_91, e88_92, e88_93, e88_96, e88_97, e88_100, e88_102, e88_103, e88_104, e88_105, e88_108, e88_110, e88_111, e88_112, e88_115, e88_118, e88_119, e88_120, e88_121, e88_122, e88_125, e88_126, e88_129, e88_130, e88_133, e88_134, e88_137, e88_138, e88_139, e88_140, e88_141, e88_142, e88_143, e88_144, e88_147, e88_148, e88_149, e88_150, e88_153, e88_154, e88_155, e88_156, WpV_some, WpH_some, ↓ite_t, ↓ite_f, M_f0, M_f1, M_f2, M_f3, M_f4, M_f5, M_f6, M_f7, M_f8, M_f9, M_f10, M_p0, M_p3, M_p6, M_p7, M_p10, M_g_0, M_g_1, M_g_2, M_g_3, M_g_4, M_g_5, M_s_0, M_s_1, M_s_2, M_s_3, M_s_4, M_s_5, mAr_same, mAr_mAr, mAr_1, mAr_h, mS_2, mS_same, mS_mS, mAr_mS, mh_1, mh_2, mh_h, mAr_01, mAr_02, mAr_03, mAr_04, mAr_05, mAr_10, mAr_12, mAr_13, mAr_14, mAr_15, mAr_20, mAr_21, mAr_23, mAr_24, mAr_25, mAr_30, mAr_31, mAr_32, mAr_34, mAr_35, mAr_40, mAr_41, mAr_42, mAr_43, mAr_45, mAr_50, mAr_51, mAr_52, mAr_53, mAr_54, mS_01, mS_02, mS_03, mS_10, mS_12, mS_13, mS_20, mS_21, mS_23, mS_30, mS_31, mS_32, Int.reduceToNat, n0, n1, q1, ne_eq, Int.reduceEq, not_true_eq_false, not_false_eq_true, ↓reduceIte]
  exact hQ
theorem m88p (h : inv σ T V sc M) (i p w : Int) (hi0 : σ.2 1 ≤ i) (hi1 : i ≤ σ.2 0) (hp : p < 0 ∨ 8 ≤ p) : Runs xs 88 [vr 190, vi i, vi p, vi w] μ (putM f M) (.inl (some (vi 0))) μ (putM f (mS M 0 2)) := Runs.iff fun Q hQ => by
  show Wp xs 88 0 [vr 190, vi i, vi p, vi w, vu] [] μ (putM f M) Q
  obtain ⟨n0, n1, n2⟩ := h.1.n
  have q1 := cC_v (m77 (xs := xs) (f := putM f M) (μ := μ) i (σ.2 1) (σ.2 0))
  rw [if_pos ⟨hi0, hi1⟩] at q1
  have q2 := cC_v (m89 (xs := xs) (f := putM f M) (μ := μ) p)
  rw [if_neg (by omega)] at q2
  simp (disch := first | omega | rfl) only [e88_0, e88_1, e88_2, e88_5, e88_6, e88_7, e88_8, e88_11, e88_12, e88_13, e88_16, e88_19, e88_20, e88_21, e88_24, e88_25, e88_26, e88_27, e88_28, e88_31, e88_34, e88_35, e88_38, e88_39, e88_42, e88_43, e88_44, e88_46, e88_49, e88_50, e88_53, e88_54, e88_57, e88_58, e88_61, e88_64, e88_65, e88_66, e88_67, e88_70, e88_72, e88_73, e88_74, e88_77, e88_78, e88_79, e88_80, e88_81, e88_82, e88_83, e88_87, e88_89, e88_90, e88_91, e88_92, e88_93, e88_96, e88_97, e88_100, e88_102, e88_103, e88_104, e88_105, e88_108, e88_110, e88_111, e88_112, e88_115, e88_118, e88_119, e88_120, e88_121, e88_122, e88_125, e88_126, e88_129, e88_130, e88_133, e88_134, e88_137, e88_138, e88_139, e88_140, e88_141, e88_142, e88_143, e88_144, e88_147, e88_148, e88_149, e88_150, e88_153, e88_154, e88_155, e88_156, WpV_some, WpH_some, ↓ite_t, ↓ite_f, M_f0, M_f1, M_f2, M_f3, M_f4, M_f5, M_f6, M_f7, M_f8, M_f9, M_f10, M_p0, M_p3, M_p6, M_p7, M_p10, M_g_0, M_g_1, M_g_2, M_g_3, M_g_4, M_g_5, M_s_0, M_s_1, M_s_2, M_s_3, M_s_4, M_s_5, mAr_same, mAr_mAr, mAr_1, mAr_h, mS_2, mS_same, mS_mS, mAr_mS, mh_1, mh_2, mh_h, mAr_01, mAr_02, mAr_03, mAr_04, mAr_05, mAr_10, mAr_12, mAr_13, mAr_14, mAr_15, mAr_20, mAr_21, mAr_23, mAr_24, mAr_25, mAr_30, mAr_31, mAr_32, mAr_34, mAr_35, mAr_40, mAr_41, mAr_42, mAr_43, mAr_45, mAr_50, mAr_51, mAr_52, mAr_53, mAr_54, mS_01, mS_02, mS_03, mS_10, mS_12, mS_13, mS_20, mS_21, mS_23, mS_30, mS_31, mS_32, Int.reduceToNat, n0, n1, q1, q2, ne_eq, Int.reduceEq, not_true_eq_false, not_false_eq_true, ↓reduceIte]
  exact hQ
theorem m88s (h : inv σ T V sc M) (i p w : Int) (hi0 : σ.2 1 ≤ i) (hi1 : i ≤ σ.2 0) (hp0 : 0 ≤ p) (hp1 : p < 8) (hs : 80 ≤ σ.2 0) : Runs xs 88 [vr 190, vi i, vi p, vi w] μ (putM f M) (.inl (some (vi 0))) μ (putM f (mS M 0 3)) := Runs.iff fun Q hQ => by
  show Wp xs 88 0 [vr 190, vi i, vi p, vi w, vu] [] μ (putM f M) Q
  obtain ⟨w1, w2, w3, w4, w5⟩ := h.1.wf
  obtain ⟨n0, n1, n2⟩ := h.1.n
  have q1 := cC_v (m77 (xs := xs) (f := putM f M) (μ := μ) i (σ.2 1) (σ.2 0))
  rw [if_pos ⟨hi0, hi1⟩] at q1
  have q2 := cC_v (m89 (xs := xs) (f := putM f M) (μ := μ) p)
  rw [if_pos (by omega)] at q2
  have c1 : σ.2 0 = 80 := by omega
  rw [c1] at n0 q1
  simp (disch := first | omega | rfl) only [e88_0, e88_1, e88_2, e88_5, e88_6, e88_7, e88_8, e88_11, e88_12, e88_13, e88_16, e88_19, e88_20, e88_21, e88_24, e88_25, e88_26, e88_27, e88_28, e88_31, e88_34, e88_35, e88_38, e88_39, e88_42, e88_43, e88_44, e88_46, e88_49, e88_50, e88_53, e88_54, e88_57, e88_58, e88_61, e88_64, e88_65, e88_66, e88_67, e88_70, e88_72, e88_73, e88_74, e88_77, e88_78, e88_79, e88_80, e88_81, e88_82, e88_83, e88_87, e88_89, e88_90, e88_91, e88_92, e88_93, e88_96, e88_97, e88_100, e88_102, e88_103, e88_104, e88_105, e88_108, e88_110, e88_111, e88_112, e88_115, e88_118, e88_119, e88_120, e88_121, e88_122, e88_125, e88_126, e88_129, e88_130, e88_133, e88_134, e88_137, e88_138, e88_139, e88_140, e88_141, e88_142, e88_143, e88_144, e88_147, e88_148, e88_149, e88_150, e88_153, e88_154, e88_155, e88_156, WpV_some, WpH_some, ↓ite_t, ↓ite_f, M_f0, M_f1, M_f2, M_f3, M_f4, M_f5, M_f6, M_f7, M_f8, M_f9, M_f10, M_p0, M_p3, M_p6, M_p7, M_p10, M_g_0, M_g_1, M_g_2, M_g_3, M_g_4, M_g_5, M_s_0, M_s_1, M_s_2, M_s_3, M_s_4, M_s_5, mAr_same, mAr_mAr, mAr_1, mAr_h, mS_2, mS_same, mS_mS, mAr_mS, mh_1, mh_2, mh_h, mAr_01, mAr_02, mAr_03, mAr_04, mAr_05, mAr_10, mAr_12, mAr_13, mAr_14, mAr_15, mAr_20, mAr_21, mAr_23, mAr_24, mAr_25, mAr_30, mAr_31, mAr_32, mAr_34, mAr_35, mAr_40, mAr_41, mAr_42, mAr_43, mAr_45, mAr_50, mAr_51, mAr_52, mAr_53, mAr_54, mS_01, mS_02, mS_03, mS_10, mS_12, mS_13, mS_20, mS_21, mS_23, mS_30, mS_31, mS_32, Int.reduceToNat, n0, n1, q1, q2, ne_eq, Int.reduceEq, not_true_eq_false, not_false_eq_true, ↓reduceIte]
  exact hQ
theorem m90 (h : inv σ T V sc M) {i : Int} (hi0 : σ.2 1 ≤ i) (hi1 : i < σ.2 0) : ∃ M', inv (tka σ i) T (svV V sc σ) (svC sc) M' ∧ M'.1 0 = 0 ∧ Runs xs 90 [vr 190, vi i] μ (putM f M) (.inl (some (vi (rg 80 (σ.1 0) i)))) μ (putM f M') := by
  obtain ⟨w1, w2, w3, w4, w5⟩ := h.1.wf
  obtain ⟨n0, n1, n2⟩ := h.1.n
  obtain ⟨j, rfl⟩ : ∃ j : Nat, i = j := ⟨i.toNat, by omega⟩
  have h0 : inv σ T V sc (mS M 0 0) := h
  obtain ⟨g1, g2, g3, g4, g5, g6⟩ := h0.save
  obtain ⟨e1, e2, e3, e4⟩ := svM_2 (mS M 0 0)
  have qs := cI_n (h0.m85E (xs := xs) (f := f) (μ := μ)) M_o h190
  generalize svM (mS M 0 0) = M1 at *
  obtain ⟨zz, hz, hr⟩ := m93 (xs := xs) (f := f) (μ := μ) (M := M1) g1 (i := (j : Nat)) rfl hi0 hi1
  refine ⟨mAr M1 0 zz, ⟨hz, g2, g3, g4, g5, g6⟩, e3, Runs.iff fun Q hQ => ?_⟩
  show Wp xs 90 0 [vr 190, vi j, vu] [] μ (putM f M) Q
  have q1 := cI_v (m91 (xs := xs) (f := f) (M := M) (μ := μ) h.1.wM j) M_o h190
  rw [if_pos (by omega)] at q1
  have q2 := cI_v (m92 (xs := xs) (f := f) (M := M1) (μ := μ) j 0 (by omega) (by omega) (by omega) (by omega)) M_o h190
  rw [tn27, (g1.P j hi1).1] at q2
  rw [rg_n _ (by omega)] at hQ
  simp (disch := first | omega | rfl) only [e90_0, e90_1, e90_2, e90_3, e90_6, e90_9, e90_10, e90_13, e90_14, e90_17, e90_18, e90_21, e90_24, e90_25, e90_26, e90_27, e90_30, e90_31, e90_32, e90_33, e90_36, e90_37, e90_38, e90_39, e90_42, e90_43, WpV_some, WpH_some, ↓ite_t, ↓ite_f, M_f0, M_f1, M_f2, M_f3, M_f4, M_f5, M_f6, M_f7, M_f8, M_f9, M_f10, M_p0, M_p3, M_p6, M_p7, M_p10, M_g_0, M_g_1, M_g_2, M_g_3, M_g_4, M_g_5, M_s_0, M_s_1, M_s_2, M_s_3, M_s_4, M_s_5, mAr_same, mAr_mAr, mAr_1, mAr_h, mS_2, mS_same, mS_mS, mAr_mS, mh_1, mh_2, mh_h, mAr_01, mAr_02, mAr_03, mAr_04, mAr_05, mAr_10, mAr_12, mAr_13, mAr_14, mAr_15, mAr_20, mAr_21, mAr_23, mAr_24, mAr_25, mAr_30, mAr_31, mAr_32, mAr_34, mAr_35, mAr_40, mAr_41, mAr_42, mAr_43, mAr_45, mAr_50, mAr_51, mAr_52, mAr_53, mAr_54, mS_01, mS_02, mS_03, mS_10, mS_12, mS_13, mS_20, mS_21, mS_23, mS_30, mS_31, mS_32, q1, q2, qs, cI_n hr M_o h190, ne_eq, Int.reduceEq, not_true_eq_false, not_false_eq_true, ↓reduceIte]
  exact hQ
theorem m90e (h : inv σ T V sc M) (i : Int) (hi : i < σ.2 1 ∨ σ.2 0 ≤ i) : Runs xs 90 [vr 190, vi i] μ (putM f M) (.inl (some (vi 0))) μ (putM f (mS M 0 1)) := Runs.iff fun Q hQ => by
  show Wp xs 90 0 [vr 190, vi i, vu] [] μ (putM f M) Q
  obtain ⟨n0, n1, n2⟩ := h.1.n
  have q1 := cI_v (m91 (xs := xs) (f := f) (M := M) (μ := μ) h.1.wM i) M_o h190
  rw [if_neg (by omega)] at q1
  simp (disch := first | omega | rfl) only [e90_0, e90_1, e90_2, e90_3, e90_6, e90_9, e90_10, e90_13, e90_14, e90_17, e90_18, e90_21, e90_24, e90_25, e90_26, e90_27, e90_30, e90_31, e90_32, e90_33, e90_36, e90_37, e90_38, e90_39, e90_42, e90_43, WpV_some, WpH_some, ↓ite_t, ↓ite_f, M_f0, M_f1, M_f2, M_f3, M_f4, M_f5, M_f6, M_f7, M_f8, M_f9, M_f10, M_p0, M_p3, M_p6, M_p7, M_p10, M_g_0, M_g_1, M_g_2, M_g_3, M_g_4, M_g_5, M_s_0, M_s_1, M_s_2, M_s_3, M_s_4, M_s_5, mAr_same, mAr_mAr, mAr_1, mAr_h, mS_2, mS_same, mS_mS, mAr_mS, mh_1, mh_2, mh_h, mAr_01, mAr_02, mAr_03, mAr_04, mAr_05, mAr_10, mAr_12, mAr_13, mAr_14, mAr_15, mAr_20, mAr_21, mAr_23, mAr_24, mAr_25, mAr_30, mAr_31, mAr_32, mAr_34, mAr_35, mAr_40, mAr_41, mAr_42, mAr_43, mAr_45, mAr_50, mAr_51, mAr_52, mAr_53, mAr_54, mS_01, mS_02, mS_03, mS_10, mS_12, mS_13, mS_20, mS_21, mS_23, mS_30, mS_31, mS_32, q1, ne_eq, Int.reduceEq, not_true_eq_false, not_false_eq_true, ↓reduceIte]
  exact hQ
end MP
