section CE
variable {xs : List Int} {f : AH} {sc : Int} {T : TG} {τ σ : SG} {μ : Mu} {y pc : Nat} {L st : List AV} {Q : Out → Mu → AH → Prop}
def by9 (σ : SG) (h : Int64) : Int64 :=
  31 * (31 * (31 * (31 * (31 * (31 * (31 * (31 * (31 * h + iL (byr (fn σ 0) σ 0)) + iL (byr (fn σ 0) σ 1)) + iL (byr (fn σ 0) σ 2)) + iL (byr (fn σ 1) σ 0)) + iL (byr (fn σ 1) σ 1)) + iL (byr (fn σ 1) σ 2)) + iL (byr (fn σ 2) σ 0)) + iL (byr (fn σ 2) σ 1)) + iL (byr (fn σ 2) σ 2)
theorem d_rule (hw : wfS σ) (r : Int) (hr0 : 0 ≤ r) (hr : r ≤ 2) (h : Int64) (l4 : AV) : Wp xs 51 143 [vr 1, vl h, vu, vi r, l4] [] μ (PP f sc T τ σ) Q = Wp xs 51 143 [vr 1, vl (31 * (31 * (31 * h + iL (byr (fn σ r) σ 0)) + iL (byr (fn σ r) σ 1)) + iL (byr (fn σ r) σ 2)), vu, vi (r + 1), vi 3] [] μ (PP f sc T (fn σ r) σ) Q := by
  have g0 := fun τ => cI_v (m57 (xs := xs) (f := f) (sc := sc) (T := T) (τ := τ) (μ := μ) hw r 0 hr0 hr (by decide) (by decide)) P_o h1'
  have g1 := fun τ => cI_v (m57 (xs := xs) (f := f) (sc := sc) (T := T) (τ := τ) (μ := μ) hw r 1 hr0 hr (by decide) (by decide)) P_o h1'
  have g2 := fun τ => cI_v (m57 (xs := xs) (f := f) (sc := sc) (T := T) (τ := τ) (μ := μ) hw r 2 hr0 hr (by decide) (by decide)) P_o h1'
  have e1 : (0 : Int).toNat = 0 := rfl
  have e2 : (1 : Int).toNat = 1 := rfl
  have e3 : (2 : Int).toNat = 2 := rfl
  rw [e1] at g0
  rw [e2] at g1
  rw [e3] at g2
  rw [e51_143]
  simp (disch := first | omega | rfl) only [e51_144, e51_145, e51_148, e51_149, e51_151, e51_153, e51_154, e51_157, e51_158, e51_159, e51_160, e51_162, e51_165, e51_166, e51_169, e51_170, e51_173, e51_176, e51_179, WpV_some, WpH_some, ↓ite_t, ↓ite_f, g0, g1, g2, cC_v (m53 _ _), wrp_id, Int.reduceAdd, Int.zero_add]
def dg2 (σ : SG) (h : Int64) : Int64 := mx (mx (mx (by9 σ (mx h (vic σ))) (rdO (fn σ 0) σ)) (ffr σ 5 (fn σ 0) (σ.2 2).toNat (7 - (σ.2 2).toNat)).1) (ffr σ 10 (ffr σ 5 (fn σ 0) (σ.2 2).toNat (7 - (σ.2 2).toNat)).2 (σ.2 2).toNat (7 - (σ.2 2).toNat)).1
def dt2 (σ : SG) : SG := (ffr σ 10 (ffr σ 5 (fn σ 0) (σ.2 2).toNat (7 - (σ.2 2).toNat)).2 (σ.2 2).toNat (7 - (σ.2 2).toNat)).2
theorem d_two (hw : wfS σ) (h : Int64) (l3 l4 : AV) : Wp xs 51 131 [vr 1, vl h, vu, l3, l4] [] μ (PP f sc T τ σ) Q = Wp xs 51 215 [vr 1, vl (dg2 σ h), vu, vi 3, vi 3] [] μ (PP f sc T (dt2 σ) σ) Q := by
  have g0 := fun τ h l4 => d_rule (xs := xs) (f := f) (sc := sc) (T := T) (τ := τ) (μ := μ) (Q := Q) hw 0 (by decide) (by decide) h l4
  have g1 := fun τ h l4 => d_rule (xs := xs) (f := f) (sc := sc) (T := T) (τ := τ) (μ := μ) (Q := Q) hw 1 (by decide) (by decide) h l4
  have g2 := fun τ h l4 => d_rule (xs := xs) (f := f) (sc := sc) (T := T) (τ := τ) (μ := μ) (Q := Q) hw 2 (by decide) (by decide) h l4
  simp only [Int.reduceAdd] at g0 g1 g2
  simp (disch := first | omega | rfl) only [e51_131, e51_132, e51_133, e51_136, e51_137, e51_140, e51_141, e51_142, WpV_some, WpH_some, ↓ite_t, ↓ite_f, cI_v (m46 hw) P_o h1', cC_v (m53 _ _)]
  rw [g0, g1, g2]
  simp (disch := first | omega | rfl) only [e51_143, e51_144, e51_145, e51_182, e51_183, e51_184, e51_187, e51_188, e51_191, e51_192, e51_193, e51_194, e51_195, e51_198, e51_199, e51_202, e51_203, e51_204, e51_205, e51_207, e51_210, e51_211, e51_214, WpV_some, WpH_some, ↓ite_t, ↓ite_f, cI_v (m47 hw) P_o h1', cI_v (m58 hw 5 (by decide)) P_o h1', cI_v (m58 hw 10 (by decide)) P_o h1', cC_v (m53 _ _), dg2, dt2, mx, by9]
def dg3 (σ : SG) (h : Int64) : Int64 := if 0 < σ.2 0 - σ.2 1 then mx h (rdO (fn (tka σ (σ.2 1)) 0) σ) else h
def dt3 (σ : SG) (τ : SG) : SG := if 0 < σ.2 0 - σ.2 1 then fn (tka σ (σ.2 1)) 0 else τ
theorem d_thr (hw : wfS σ) (h : Int64) (l3 l4 : AV) : Wp xs 51 215 [vr 1, vl h, vu, l3, l4] [] μ (PP f sc T τ σ) Q = Wp xs 51 242 [vr 1, vl (dg3 σ h), vu, l3, l4] [] μ (PP f sc T (dt3 σ τ) σ) Q := by
  have hw0 := hw
  obtain ⟨w1, w2, w3, w4, w5⟩ := hw0
  unfold dg3 dt3
  by_cases c : 0 < σ.2 0 - σ.2 1
  · rw [if_pos c, if_pos c]
    simp (disch := first | omega | rfl) only [e51_215, e51_216, e51_219, e51_222, e51_225, e51_226, e51_227, e51_228, e51_231, e51_234, e51_237, e51_238, e51_241, WpV_some, WpH_some, ↓ite_t, ↓ite_f, P_f0, P_f1, P_f2, P_f3, P_f4, P_n0, P_n1, P_n2, P_n3, P_n4, P_n5, P_n6, P_n7, P_n8, P_n9, P_n10, P_n11, P_n12, P_n13, P_t0, P_t1, P_t2, P_t3, P_t4, P_t5, P_t6, P_t7, P_t8, P_t9, P_t10, P_t11, P_t12, P_t13, P_x0, P_x1, cI_v (Rn (m14 h2 hw)) P_on h2, cI_v (m59 hw (σ.2 1) (by omega) (by omega)) P_o h1', cC_v (m53 _ _), mx]
  · rw [if_neg c, if_neg c]
    simp (disch := first | omega | rfl) only [e51_215, e51_216, e51_219, e51_222, WpV_some, WpH_some, ↓ite_t, ↓ite_f, P_f0, P_f1, P_f2, P_f3, P_f4, P_n0, P_n1, P_n2, P_n3, P_n4, P_n5, P_n6, P_n7, P_n8, P_n9, P_n10, P_n11, P_n12, P_n13, P_t0, P_t1, P_t2, P_t3, P_t4, P_t5, P_t6, P_t7, P_t8, P_t9, P_t10, P_t11, P_t12, P_t13, P_x0, P_x1, cI_v (Rn (m14 h2 hw)) P_on h2]
/-- the whole digest, b the bits of the share -/
def dg4 (T : TG) (σ τ : SG) (b h : Int64) : Int64 := mxl (fun i => cA T i) (mx (31 * mx h (bp σ τ).1 + b) T.2) 0 T.2.toNat
theorem d_four (hw : wfS σ) (hT : wfT T) (b : Int64) (hn : nn64 (shr (co (σ.1 2) 0 0 (σ.2 1).toNat) (σ.2 1)) = true) (hb : bsF (shr (co (σ.1 2) 0 0 (σ.2 1).toNat) (σ.2 1)) = some b) (h : Int64) (l3 l4 : AV) : Wp xs 51 242 [vr 1, vl h, vu, l3, l4] [] μ (PP f sc T τ σ) Q = Q (.inl (some (vl (dg4 T σ τ b h)))) μ (PP f sc T (bp σ τ).2 σ) := by
  have q := fun h => d5_loop (xs := xs) (f := f) (sc := sc) (τ := (bp σ τ).2) (σ := σ) (μ := μ) (Q := Q) hT T.2.toNat 0 h l4 (by obtain ⟨t1, t2, t3⟩ := hT; omega)
  simp only [Int.cast_ofNat_Int] at q
  simp (disch := first | omega | rfl) only [e51_242, e51_243, e51_244, e51_247, e51_248, e51_251, e51_252, e51_253, e51_254, e51_257, e51_260, e51_263, e51_264, e51_265, e51_266, e51_269, e51_272, e51_273, e51_276, e51_277, e51_278, WpV_some, WpH_some, ↓ite_t, ↓ite_f, P_f0, P_f1, P_f2, P_f3, P_f4, P_n0, P_n1, P_n2, P_n3, P_n4, P_n5, P_n6, P_n7, P_n8, P_n9, P_n10, P_n11, P_n12, P_n13, P_t0, P_t1, P_t2, P_t3, P_t4, P_t5, P_t6, P_t7, P_t8, P_t9, P_t10, P_t11, P_t12, P_t13, P_x0, P_x1, cI_v (m49 hw) P_o h1', cI_v (m50 hw hn) P_o h1', cC_v (m61 hb), cC_v (m53 _ _), q, dg4, mx]
def dgs (sc : Int) (T : TG) (σ : SG) (b : Int64) : Int64 := dg4 T σ (dt3 σ (dt2 σ)) b (dg3 σ (dg2 σ (dg1 sc σ)))
theorem m51 (hw : wfS σ) (hT : wfT T) (b : Int64) (hn : nn64 (shr (co (σ.1 2) 0 0 (σ.2 1).toNat) (σ.2 1)) = true) (hb : bsF (shr (co (σ.1 2) 0 0 (σ.2 1).toNat) (σ.2 1)) = some b) : Runs xs 51 [vr 1] μ (PP f sc T τ σ) (.inl (some (vl (dgs sc T σ b)))) μ (PP f sc T (bp σ (dt3 σ (dt2 σ))).2 σ) := Runs.iff fun Q hQ => by
  show Wp xs 51 0 [vr 1, vu, vu, vu, vu] [] μ (PP f sc T τ σ) Q
  rw [d_one hw, d_two hw, d_thr hw, d_four hw hT b hn hb]
  exact hQ
end CE
