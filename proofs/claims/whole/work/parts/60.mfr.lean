/-! THE MODEL'S METHODS: flush, frames -/
def flm (z : Nat → Int) (p : Nat) : Nat → Nat → Int
  | 0 => z
  | d + 1 => flm (fu z (19 + p) (wrp (z (19 + p) + bt (z 4) p))) (p + 1) d
def mdz (z : Nat → Int) (lo e : Nat) : Nat → Nat → Int
  | 0 => z
  | d + 1 => if z (5 + e) = -1 then mdz (fu z (5 + e) (-1)) lo (e + 1) d else mdz (fu (fu z (5 + e) (-1)) (5 + lo) (z (5 + e))) (lo + 1) (e + 1) d
section MR
variable {xs : List Int} {f : AH} {M : MG} {μ : Mu} {y pc : Nat} {L st : List AV} {Q : Out → Mu → AH → Prop} {σ : SG} {T : TG} {V : VG} {sc : Int} {z : Nat → Int}
theorem wbk_o (σ : SG) (p : Int) {k : Nat} (h5 : k ≠ 5) (h10 : k ≠ 10) : (wbk σ p).1 k = σ.1 k := by
  unfold wbk
  split
  · rw [sR_1, if_neg h10, sR_1, if_neg h5]
  · rfl
theorem wbk_5 (σ : SG) {p : Nat} (hp : p < 8) (hb : σ.1 5 p = 0 ∨ σ.1 5 p = 1) (q : Nat) : (wbk σ p).1 5 q = if q = p then 0 else σ.1 5 q := by
  unfold wbk
  rw [rg_n _ hp]
  by_cases c : σ.1 5 p = 1
  · rw [if_pos c, sR_1, if_neg (by decide), sR_1, if_pos rfl, rs_n _ _ hp]
    rfl
  · rw [if_neg c]
    split
    · rename_i e; subst e; omega
    · rfl
theorem wbk_10 (σ : SG) {p : Nat} (hp : p < 8) (hb : σ.1 5 p = 0 ∨ σ.1 5 p = 1) (h0 : 0 ≤ σ.1 10 p) (h1 : σ.1 10 p ≤ 1000) (q : Nat) : (wbk σ p).1 10 q = if q = p then σ.1 10 p + σ.1 5 p else σ.1 10 q := by
  unfold wbk
  rw [rg_n _ hp, rg_n _ hp]
  by_cases c : σ.1 5 p = 1
  · rw [if_pos c, sR_1, if_pos rfl, rs_n _ _ hp, wrp_id (by omega) (by omega), c]
    rfl
  · rw [if_neg c]
    split
    · rename_i e; subst e; omega
    · rfl
theorem wba_q : ∀ (d p : Nat) (σ : SG), p + d ≤ 8 → (∀ q, p ≤ q → q < 8 → (σ.1 5 q = 0 ∨ σ.1 5 q = 1) ∧ 0 ≤ σ.1 10 q ∧ σ.1 10 q ≤ 1000) → (wba σ p d).2 = σ.2 ∧ (∀ k, k ≠ 5 → k ≠ 10 → (wba σ p d).1 k = σ.1 k) ∧ ∀ q, (wba σ p d).1 5 q = (if p ≤ q ∧ q < p + d then 0 else σ.1 5 q) ∧ (wba σ p d).1 10 q = if p ≤ q ∧ q < p + d then σ.1 10 q + σ.1 5 q else σ.1 10 q := by
  intro d
  induction d with
  | zero => intro p σ hp h; exact ⟨rfl, fun _ _ _ => rfl, fun q => by rw [if_neg (by omega), if_neg (by omega)]; exact ⟨rfl, rfl⟩⟩
  | succ d ih =>
    intro p σ hp h
    have h0 := h p (Nat.le_refl _) (by omega)
    have w5 := wbk_5 σ (p := p) (by omega) h0.1
    have w10 := wbk_10 σ (p := p) (by omega) h0.1 h0.2.1 h0.2.2
    obtain ⟨i1, i2, i3⟩ := ih (p + 1) (wbk σ p) (by omega) (fun q h1 h2 => by
      rw [w5, w10, if_neg (by omega), if_neg (by omega)]; exact h q (by omega) h2)
    unfold wba
    refine ⟨by rw [i1, wbk_2], fun k h5 h10 => by rw [i2 k h5 h10, wbk_o _ _ h5 h10], fun q => ?_⟩
    obtain ⟨j1, j2⟩ := i3 q
    rw [j1, j2, w5, w10]
    by_cases c : q = p
    · subst c
      rw [if_neg (by omega), if_pos rfl, if_pos (by omega), if_neg (by omega), if_pos rfl, if_pos (by omega)]
      exact ⟨rfl, rfl⟩
    · rw [if_neg c, if_neg c]
      by_cases c2 : p + 1 ≤ q ∧ q < p + 1 + d
      · rw [if_pos c2, if_pos c2, if_pos (by omega), if_pos (by omega)]; exact ⟨rfl, rfl⟩
      · rw [if_neg c2, if_neg c2, if_neg (by omega), if_neg (by omega)]; exact ⟨rfl, rfl⟩
theorem flm_q (z : Nat → Int) : ∀ (d p : Nat) (z' : Nat → Int), p + d ≤ 8 → z' 4 = z 4 → (∀ q, p ≤ q → q < 8 → z' (19 + q) = z (19 + q) ∧ 0 ≤ z (19 + q) ∧ z (19 + q) ≤ 1000 ∧ 0 ≤ bt (z 4) q ∧ bt (z 4) q ≤ 1) → ∀ j, flm z' p d j = if 19 + p ≤ j ∧ j < 19 + p + d then z j + bt (z 4) ((j - 19 : Nat) : Int) else z' j := by
  intro d
  induction d with
  | zero => intro p z' hp h4 h j; rw [if_neg (by omega)]; rfl
  | succ d ih =>
    intro p z' hp h4 h j
    have h0 := h p (Nat.le_refl _) (by omega)
    unfold flm
    rw [ih (p + 1) _ (by omega) (by rw [fu_n _ _ (by omega)]; exact h4) (fun q h1 h2 => by rw [fu_n _ _ (by omega)]; exact h q (by omega) h2) j]
    by_cases c : j = 19 + p
    · subst c
      rw [if_neg (by omega), if_pos (by omega), fu_s, h0.1, h4, wrp_id (by omega) (by omega), show 19 + p - 19 = p by omega]
    · by_cases c2 : 19 + (p + 1) ≤ j ∧ j < 19 + (p + 1) + d
      · rw [if_pos c2, if_pos (by omega)]
      · rw [if_neg c2, if_neg (by omega), fu_n _ _ c]
theorem rel.flushE (h : rel σ z) : rel (wba σ 0 8) (fu (flm z 0 8) 4 0) ∧ wbO (wba σ 0 8) σ = sm8 (σ.1 5) := by
  obtain ⟨w1, w2, w3, w4, w5⟩ := h.wf
  have hq : ∀ q, 0 ≤ q → q < 8 → (σ.1 5 q = 0 ∨ σ.1 5 q = 1) ∧ 0 ≤ σ.1 10 q ∧ σ.1 10 q ≤ 1000 := fun q _ hq => by
    have e := h.N q hq
    have e2 := h.ch.r hq
    exact ⟨e2, e.2.2.2.2.1, by omega⟩
  obtain ⟨i1, i2, i3⟩ := wba_q 8 0 σ (Nat.le_refl _) hq
  have r5 : ∀ q, q < 8 → (wba σ 0 8).1 5 q = 0 := fun q hq => by rw [(i3 q).1, if_pos (by omega)]
  have r10 : ∀ q, q < 8 → (wba σ 0 8).1 10 q = σ.1 10 q + σ.1 5 q := fun q hq => by rw [(i3 q).2, if_pos (by omega)]
  have zf := flm_q z 8 0 z (Nat.le_refl _) rfl (fun q _ hq2 => by
    have e := h.N q hq2
    have e2 := hq q (Nat.zero_le _) hq2
    rw [h.ch.btE hq2, e.2.1]
    exact ⟨rfl, e2.2.1, e2.2.2, by omega, by omega⟩)
  have zj : ∀ j, j ≠ 4 → (j < 19 ∨ 27 ≤ j) → fu (flm z 0 8) 4 0 j = z j := fun j h4 hj => by
    rw [fu_n _ _ h4, zf, if_neg (by omega)]
  refine ⟨⟨⟨?_, ?_, ?_, ?_⟩, ⟨?_, ?_, ?_⟩, ⟨?_, ?_, ?_⟩, ?_, ?_, ?_⟩, ?_⟩
  · unfold wfS; rw [i1]; exact h.wf
  · rw [i1, zj 0 (by decide) (by omega)]; exact h.n.1
  · rw [i1, zj 1 (by decide) (by omega)]; exact h.n.2.1
  · rw [i1, zj 2 (by decide) (by omega)]; exact h.n.2.2
  · rw [i1, i2 0 (by decide) (by decide), i2 1 (by decide) (by decide)]; exact h.P.ext fun i _ => ⟨zj _ (by omega) (by omega), zj _ (by omega) (by omega)⟩
  · rw [i1, i2 2 (by decide) (by decide), i2 3 (by decide) (by decide)]; exact h.D.ext fun i _ => ⟨zj _ (by omega) (by omega), zj _ (by omega) (by omega)⟩
  · rw [i1]; exact h.C.ext fun i _ _ => ⟨zj _ (by omega) (by omega), zj _ (by omega) (by omega)⟩
  · rw [i2 6 (by decide) (by decide), zj 3 (by decide) (by omega)]; exact h.pin
  · refine ⟨0, by decide, fu_s _ _ _, fun q hq => ?_⟩
    rw [r5 q hq]
    unfold bI
    rw [if_neg (by simp)]
  · rw [i1, i2 4 (by decide) (by decide)]
    refine ⟨h.F.1, fun e he => ?_, fun e q he hq => ?_⟩
    · rw [zj _ (by omega) (by omega)]; exact h.F.2.1 e he
    · rw [zj _ (by omega) (by omega)]; exact h.F.2.2 e q he hq
  · rw [i1, i2 7 (by decide) (by decide), i2 8 (by decide) (by decide)]
    exact h.L.ext fun j _ => ⟨(zj _ (by omega) (by omega)).symm, (zj _ (by omega) (by omega)).symm⟩
  · rw [i1, i2 9 (by decide) (by decide)]
    intro q hq2
    have e := h.N q hq2
    have e2 := hq q (Nat.zero_le _) hq2
    rw [zj _ (by omega) (by omega), r5 q hq2, r10 q hq2, fu_n _ _ (by omega), zf, if_pos (by omega), show 19 + q - 19 = q by omega, h.ch.btE hq2, e.2.1]
    exact ⟨e.1, rfl, e.2.2.1, e.2.2.2.1, by omega, by omega⟩
  · rw [i1, i2 6 (by decide) (by decide)]; exact h.K
  · have s1 : sm 0 ((wba σ 0 8).1 10) 0 8 = sm8 (fun q => σ.1 10 q + σ.1 5 q) := by
      rw [sm_8 (fun q hq2 => by
        have e2 := hq q (Nat.zero_le _) hq2
        rw [r10 q hq2]; omega)]
      exact sm8_ext r10
    have s2 : sm 0 (σ.1 10) 0 8 = sm8 (σ.1 10) := sm_8 fun q hq2 => by
      have e2 := hq q (Nat.zero_le _) hq2
      omega
    have s3 := sm8_r (g := σ.1 5) (n := 1) (fun q hq2 => by
      have e2 := hq q (Nat.zero_le _) hq2
      omega)
    have s4 : sm8 (fun q => σ.1 10 q + σ.1 5 q) = sm8 (σ.1 10) + sm8 (σ.1 5) := by
      unfold sm8
      dsimp only
      omega
    unfold wbO
    rw [s1, s2, s4, wrp_id (by omega) (by omega)]
    omega
theorem tn19b (i : Nat) : (19 + (i : Int)).toNat = 19 + i := by omega
theorem flu_loop (w : Int) : ∀ (d p : Nat) (M : MG), p + d = 8 → (Wp xs 110 21 [vr 190, vi w, vi p] [] μ (putM f M) Q = Q (.inl (some (vi w))) μ (putM f (mAr M 0 (fu (flm (M.2.1 0) p d) 4 0)))) := by
  intro d
  induction d with
  | zero =>
    intro p M hp
    simp (disch := first | omega | rfl) only [e110_0, e110_1, e110_2, e110_5, e110_6, e110_9, e110_10, e110_13, e110_14, e110_15, e110_18, e110_19, e110_20, e110_21, e110_22, e110_24, e110_27, e110_28, e110_31, e110_33, e110_34, e110_35, e110_36, e110_37, e110_38, e110_41, e110_42, e110_43, e110_44, e110_45, e110_46, e110_47, e110_48, e110_49, e110_52, e110_55, e110_56, e110_59, e110_60, e110_61, e110_62, e110_63, WpV_some, WpH_some, ↓ite_t, ↓ite_f, M_f0, M_f1, M_f2, M_f3, M_f4, M_f5, M_f6, M_f7, M_f8, M_f9, M_f10, M_p0, M_p3, M_p6, M_p7, M_p10, M_g_0, M_g_1, M_g_2, M_g_3, M_g_4, M_g_5, M_s_0, M_s_1, M_s_2, M_s_3, M_s_4, M_s_5, mAr_same, mAr_mAr, mAr_1, mAr_h, mS_2, mS_same, mS_mS, mAr_mS, mh_1, mh_2, mh_h, mAr_01, mAr_02, mAr_03, mAr_04, mAr_05, mAr_10, mAr_12, mAr_13, mAr_14, mAr_15, mAr_20, mAr_21, mAr_23, mAr_24, mAr_25, mAr_30, mAr_31, mAr_32, mAr_34, mAr_35, mAr_40, mAr_41, mAr_42, mAr_43, mAr_45, mAr_50, mAr_51, mAr_52, mAr_53, mAr_54, mS_01, mS_02, mS_03, mS_10, mS_12, mS_13, mS_20, mS_21, mS_23, mS_30, mS_31, mS_32, Int.reduceToNat, flm]
  | succ d ih =>
    intro p M hp
    have q := ih (p + 1) (mAr M 0 (fu (M.2.1 0) (19 + p) (wrp (M.2.1 0 (19 + p) + bt (M.2.1 0 4) p)))) (by omega)
    simp only [Int.natCast_add, Int.cast_ofNat_Int, mAr_same, mAr_mAr] at q
    unfold bt at q
    rw [e110_21]
    unfold flm bt
    simp (disch := first | omega | rfl) only [e110_0, e110_1, e110_2, e110_5, e110_6, e110_9, e110_10, e110_13, e110_14, e110_15, e110_18, e110_19, e110_20, e110_22, e110_24, e110_27, e110_28, e110_31, e110_33, e110_34, e110_35, e110_36, e110_37, e110_38, e110_41, e110_42, e110_43, e110_44, e110_45, e110_46, e110_47, e110_48, e110_49, e110_52, e110_55, e110_56, e110_59, e110_60, e110_61, e110_62, e110_63, WpV_some, WpH_some, ↓ite_t, ↓ite_f, M_f0, M_f1, M_f2, M_f3, M_f4, M_f5, M_f6, M_f7, M_f8, M_f9, M_f10, M_p0, M_p3, M_p6, M_p7, M_p10, M_g_0, M_g_1, M_g_2, M_g_3, M_g_4, M_g_5, M_s_0, M_s_1, M_s_2, M_s_3, M_s_4, M_s_5, mAr_same, mAr_mAr, mAr_1, mAr_h, mS_2, mS_same, mS_mS, mAr_mS, mh_1, mh_2, mh_h, mAr_01, mAr_02, mAr_03, mAr_04, mAr_05, mAr_10, mAr_12, mAr_13, mAr_14, mAr_15, mAr_20, mAr_21, mAr_23, mAr_24, mAr_25, mAr_30, mAr_31, mAr_32, mAr_34, mAr_35, mAr_40, mAr_41, mAr_42, mAr_43, mAr_45, mAr_50, mAr_51, mAr_52, mAr_53, mAr_54, mS_01, mS_02, mS_03, mS_10, mS_12, mS_13, mS_20, mS_21, mS_23, mS_30, mS_31, mS_32, Int.reduceToNat, tn19b, wrp_id, q]
theorem m110 (h : inv σ T V sc M) : ∃ M', inv (wba σ 0 8) T (svV V sc σ) (svC sc) M' ∧ M'.1 0 = 0 ∧ Runs xs 110 [vr 190] μ (putM f M) (.inl (some (vi (wbO (wba σ 0 8) σ)))) μ (putM f M') := by
  have h0 : inv σ T V sc (mS M 0 0) := h
  obtain ⟨g1, g2, g3, g4, g5, g6⟩ := h0.save
  obtain ⟨e1, e2, e3, e4⟩ := svM_2 (mS M 0 0)
  have qs := cI_n (h0.m85E (xs := xs) (f := f) (μ := μ)) M_o h190
  generalize svM (mS M 0 0) = M1 at *
  have hr := g1.flushE
  refine ⟨mAr M1 0 (fu (flm (M1.2.1 0) 0 8) 4 0), ⟨hr.1, g2, g3, g4, g5, g6⟩, e3, Runs.iff fun Q hQ => ?_⟩
  show Wp xs 110 0 [vr 190, vu, vu] [] μ (putM f M) Q
  have q := flu_loop (xs := xs) (f := f) (μ := μ) (Q := Q) (sm8 (σ.1 5)) 8 0 M1 rfl
  simp only [Int.cast_ofNat_Int] at q
  have b1 := g1.ch.btsE
  rw [hr.2] at hQ
  simp (disch := first | omega | rfl) only [e110_0, e110_1, e110_2, e110_5, e110_6, e110_9, e110_10, e110_13, e110_14, e110_15, e110_18, e110_19, e110_20, e110_22, e110_24, e110_27, e110_28, e110_31, e110_33, e110_34, e110_35, e110_36, e110_37, e110_38, e110_41, e110_42, e110_43, e110_44, e110_45, e110_46, e110_47, e110_48, e110_49, e110_52, e110_55, e110_56, e110_59, e110_60, e110_61, e110_62, e110_63, WpV_some, WpH_some, ↓ite_t, ↓ite_f, M_f0, M_f1, M_f2, M_f3, M_f4, M_f5, M_f6, M_f7, M_f8, M_f9, M_f10, M_p0, M_p3, M_p6, M_p7, M_p10, M_g_0, M_g_1, M_g_2, M_g_3, M_g_4, M_g_5, M_s_0, M_s_1, M_s_2, M_s_3, M_s_4, M_s_5, mAr_same, mAr_mAr, mAr_1, mAr_h, mS_2, mS_same, mS_mS, mAr_mS, mh_1, mh_2, mh_h, mAr_01, mAr_02, mAr_03, mAr_04, mAr_05, mAr_10, mAr_12, mAr_13, mAr_14, mAr_15, mAr_20, mAr_21, mAr_23, mAr_24, mAr_25, mAr_30, mAr_31, mAr_32, mAr_34, mAr_35, mAr_40, mAr_41, mAr_42, mAr_43, mAr_45, mAr_50, mAr_51, mAr_52, mAr_53, mAr_54, mS_01, mS_02, mS_03, mS_10, mS_12, mS_13, mS_20, mS_21, mS_23, mS_30, mS_31, mS_32, Int.reduceToNat, qs, cC_v (m106 _), b1, q]
  exact hQ
/-- pages move down: one frame -/
theorem qF.down {n : Int} {g : Nat → Int} (h : qF n g z) {lo e p : Nat} (hl : lo ≤ e) (he : e < 6) (hn : (e : Int) < n) (hp : p < 8) (hz : z (5 + e) = (p : Int)) (hm : ∀ x, lo ≤ x → x < e → z (5 + x) = -1) : qF n (fu g p lo) (fu (fu z (5 + e) (-1)) (5 + lo) p) := by
  have hg := (h.2.2 e p he hp).mp hz
  refine ⟨fun q hq => ?_, fun x hx => ?_, fun x q hx hq => ?_⟩
  · unfold fu; split
    · omega
    · exact h.1 q hq
  · unfold fu; split
    · omega
    · split
      · omega
      · exact h.2.1 x hx
  · have hxq := h.2.2 x q hx hq
    have hxp := h.2.2 x p hx hp
    have heq := h.2.2 e q he hq
    by_cases c : x = lo
    · subst c
      rw [fu_s]
      by_cases c2 : q = p
      · subst c2; rw [fu_s]; simp
      · rw [fu_n _ _ c2]
        constructor
        · intro y; omega
        · intro y
          have y2 := hxq.mpr y
          by_cases c3 : x = e
          · subst c3; omega
          · have := hm x (Nat.le_refl _) (by omega); omega
    · rw [fu_n _ _ (by omega)]
      by_cases c3 : x = e
      · subst c3
        rw [fu_s]
        by_cases c2 : q = p
        · subst c2; rw [fu_s]; constructor <;> intro y <;> omega
        · rw [fu_n _ _ c2]
          constructor
          · intro y; omega
          · intro y; have := hxq.mpr y; omega
      · rw [fu_n _ _ (by omega)]
        by_cases c2 : q = p
        · subst c2
          rw [fu_s]
          constructor
          · intro y; have := hxp.mp y; omega
          · intro y; omega
        · rw [fu_n _ _ c2]; exact hxq
theorem fu_self (z : Nat → Int) {i : Nat} {v : Int} (h : z i = v) : fu z i v = z := by
  funext j
  unfold fu
  split
  · rename_i e; rw [e, h]
  · rfl
theorem qF.pif {n : Int} {g : Nat → Int} (h : qF n g z) {e : Nat} (he : e < 6) : fo g e 0 8 = z (5 + e) := by
  have r := h.2.1 e he
  by_cases c : z (5 + e) = -1
  · rw [c]; exact (emp_q h he).mpr c
  · obtain ⟨p, hp⟩ : ∃ p : Nat, z (5 + e) = p := ⟨(z (5 + e)).toNat, by omega⟩
    rw [hp]
    refine fo_some 8 0 p (Nat.zero_le _) (by omega) ((h.2.2 e p he (by omega)).mp hp) (fun k _ hk x => ?_)
    have := (h.2.2 e k he (by omega)).mpr x
    omega
/-- frames behind the last one are empty -/
theorem qF.high {n : Int} {g : Nat → Int} (h : qF n g z) {e : Nat} (he : e < 6) (hn : n ≤ e) : z (5 + e) = -1 := by
  have r := h.2.1 e he
  by_cases c : z (5 + e) = -1
  · exact c
  · have e1 := (h.2.2 e (z (5 + e)).toNat he (by omega)).mp (by omega)
    have e2 := h.1 (z (5 + e)).toNat (by omega)
    omega
theorem mdz_hi : ∀ (d lo e : Nat) (z : Nat → Int), (∀ x, e ≤ x → x < e + d → z (5 + x) = -1) → mdz z lo e d = z := by
  intro d
  induction d with
  | zero => intro lo e z h; rfl
  | succ d ih =>
    intro lo e z h
    unfold mdz
    rw [if_pos (h e (Nat.le_refl _) (by omega)), fu_self z (h e (Nat.le_refl _) (by omega))]
    exact ih lo (e + 1) z fun x h1 h2 => h x (by omega) (by omega)
/-- all pages moved down: what holds then; the rest of the model's walk finds empty frames -/
theorem mvd_q {n : Nat} (hn6 : n ≤ 6) : ∀ (d lo e : Nat) (σ : SG) (z : Nat → Int), e + d = n → lo ≤ e → qF n (σ.1 4) z → (∀ x, lo ≤ x → x < e → z (5 + x) = -1) → (∀ x, x < lo → z (5 + x) ≠ -1) → ∃ lo' zz, lo' ≤ n ∧ mdz z lo e (6 - e) = zz ∧ (∀ j, (j < 5 ∨ 11 ≤ j) → zz j = z j) ∧ (mvd σ lo e d).2 = σ.2 ∧ (∀ k, k ≠ 4 → (mvd σ lo e d).1 k = σ.1 k) ∧ qF n ((mvd σ lo e d).1 4) zz ∧ (∀ x, lo' ≤ x → x < n → zz (5 + x) = -1) ∧ (∀ x, x < lo' → zz (5 + x) ≠ -1) ∧ ∀ q, q < 8 → ((mvd σ lo e d).1 4 q = -1 ↔ σ.1 4 q = -1) := by
  intro d
  induction d with
  | zero =>
    intro lo e σ z he hl h hm hlo
    have he : e = n := by omega
    subst he
    refine ⟨lo, z, hl, mdz_hi _ _ _ _ (fun x h1 h2 => h.high (by omega) (by omega)), fun _ _ => rfl, rfl, fun _ _ => rfl, h, hm, hlo, fun q hq => Iff.rfl⟩
  | succ d ih =>
    intro lo e σ z he hl h hm hlo
    have r := h.2.1 e (by omega)
    unfold mvd
    rw [show 6 - e = (6 - (e + 1)) + 1 by omega]
    unfold mdz
    rw [h.pif (by omega)]
    by_cases c : z (5 + e) = -1
    · rw [if_pos c, if_pos c, fu_self z c]
      exact ih lo (e + 1) σ z (by omega) (by omega) h (fun x h1 h2 => by
        by_cases c2 : x = e
        · subst c2; exact c
        · exact hm x h1 (by omega)) hlo
    · obtain ⟨p, hp⟩ : ∃ p : Nat, z (5 + e) = p := ⟨(z (5 + e)).toNat, by omega⟩
      have hp8 : p < 8 := by omega
      rw [if_neg c, if_neg c, hp, rs_n _ _ hp8]
      have hd := h.down hl (by omega) (by omega) hp8 hp hm
      have r4 : (sR σ 4 (fu (σ.1 4) p lo)).1 4 = fu (σ.1 4) p lo := by rw [sR_1, if_pos rfl]
      obtain ⟨lo', zz, i1, i2, i3, i4, i5, i6, i7, i8, i9⟩ := ih (lo + 1) (e + 1) (sR σ 4 (fu (σ.1 4) p lo)) (fu (fu z (5 + e) (-1)) (5 + lo) p) (by omega) (by omega) (by rw [r4]; exact hd) (fun x h1 h2 => by
        rw [fu_n _ _ (by omega)]
        by_cases c2 : x = e
        · subst c2; rw [fu_s]
        · rw [fu_n _ _ (by omega)]; exact hm x (by omega) (by omega)) (fun x hx => by
        by_cases c2 : x = lo
        · subst c2; rw [fu_s]; omega
        · rw [fu_n _ _ (by omega), fu_n _ _ (by omega)]; exact hlo x (by omega))
      refine ⟨lo', zz, i1, i2, fun j hj => ?_, by rw [i4, sR_2], fun k hk => by rw [i5 k hk, sR_1, if_neg hk], i6, i7, i8, fun q hq => ?_⟩
      · rw [i3 j hj, fu_n _ _ (by omega), fu_n _ _ (by omega)]
      · rw [i9 q hq, r4]
        have hg := (h.2.2 e p (by omega) hp8).mp hp
        unfold fu
        split
        · rename_i c2
          subst c2
          omega
        · exact Iff.rfl
theorem md_loop : ∀ (d e lo : Nat) (M : MG) (l3 : AV), e + d = 6 → lo ≤ e → (∀ x, x < 6 → -1 ≤ M.2.1 0 (5 + x)) → (Wp xs 109 4 [vr 190, vi lo, vi e, l3] [] μ (putM f M) Q = Q (.inl none) μ (putM f (mAr M 0 (mdz (M.2.1 0) lo e d)))) := by
  intro d
  induction d with
  | zero =>
    intro e lo M l3 he hl hr
    unfold mdz
    rw [mAr_self]
    simp (disch := first | omega | rfl) only [e109_0, e109_1, e109_2, e109_3, e109_4, e109_5, e109_7, e109_10, e109_11, e109_14, e109_15, e109_16, e109_17, e109_18, e109_19, e109_20, e109_23, e109_24, e109_25, e109_26, e109_27, e109_28, e109_29, e109_30, e109_33, e109_34, e109_37, e109_38, e109_39, e109_40, e109_41, e109_42, e109_45, e109_48, e109_51, WpV_some, WpH_some, ↓ite_t, ↓ite_f, M_f0, M_f1, M_f2, M_f3, M_f4, M_f5, M_f6, M_f7, M_f8, M_f9, M_f10, M_p0, M_p3, M_p6, M_p7, M_p10, M_g_0, M_g_1, M_g_2, M_g_3, M_g_4, M_g_5, M_s_0, M_s_1, M_s_2, M_s_3, M_s_4, M_s_5]
  | succ d ih =>
    intro e lo M l3 he hl hr
    rw [e109_4]
    unfold mdz
    by_cases c : M.2.1 0 (5 + e) = -1
    · have q := fun l3 => ih (e + 1) lo (mAr M 0 (fu (M.2.1 0) (5 + e) (-1))) l3 (by omega) (by omega) (fun x hx => by
        rw [mAr_same]; unfold fu; split
        · exact Int.le_refl _
        · exact hr x hx)
      simp only [Int.natCast_add, Int.cast_ofNat_Int, mAr_same, mAr_mAr] at q
      rw [if_pos c]
      simp (disch := first | omega | rfl) only [e109_0, e109_1, e109_2, e109_3, e109_5, e109_7, e109_10, e109_11, e109_14, e109_15, e109_16, e109_17, e109_18, e109_19, e109_20, e109_23, e109_24, e109_25, e109_26, e109_27, e109_28, e109_29, e109_30, e109_33, e109_34, e109_37, e109_38, e109_39, e109_40, e109_41, e109_42, e109_45, e109_48, e109_51, WpV_some, WpH_some, ↓ite_t, ↓ite_f, M_f0, M_f1, M_f2, M_f3, M_f4, M_f5, M_f6, M_f7, M_f8, M_f9, M_f10, M_p0, M_p3, M_p6, M_p7, M_p10, M_g_0, M_g_1, M_g_2, M_g_3, M_g_4, M_g_5, M_s_0, M_s_1, M_s_2, M_s_3, M_s_4, M_s_5, mAr_same, mAr_mAr, mAr_1, mAr_h, mS_2, mS_same, mS_mS, mAr_mS, mh_1, mh_2, mh_h, mAr_01, mAr_02, mAr_03, mAr_04, mAr_05, mAr_10, mAr_12, mAr_13, mAr_14, mAr_15, mAr_20, mAr_21, mAr_23, mAr_24, mAr_25, mAr_30, mAr_31, mAr_32, mAr_34, mAr_35, mAr_40, mAr_41, mAr_42, mAr_43, mAr_45, mAr_50, mAr_51, mAr_52, mAr_53, mAr_54, mS_01, mS_02, mS_03, mS_10, mS_12, mS_13, mS_20, mS_21, mS_23, mS_30, mS_31, mS_32, tn5, wrp_id, c, q]
    · have q := fun l3 => ih (e + 1) (lo + 1) (mAr M 0 (fu (fu (M.2.1 0) (5 + e) (-1)) (5 + lo) (M.2.1 0 (5 + e)))) l3 (by omega) (by omega) (fun x hx => by
        rw [mAr_same]; unfold fu; split
        · exact hr e (by omega)
        · split
          · exact Int.le_refl _
          · exact hr x hx)
      simp only [Int.natCast_add, Int.cast_ofNat_Int, mAr_same, mAr_mAr] at q
      rw [if_neg c]
      simp (disch := first | omega | rfl) only [e109_0, e109_1, e109_2, e109_3, e109_5, e109_7, e109_10, e109_11, e109_14, e109_15, e109_16, e109_17, e109_18, e109_19, e109_20, e109_23, e109_24, e109_25, e109_26, e109_27, e109_28, e109_29, e109_30, e109_33, e109_34, e109_37, e109_38, e109_39, e109_40, e109_41, e109_42, e109_45, e109_48, e109_51, WpV_some, WpH_some, ↓ite_t, ↓ite_f, M_f0, M_f1, M_f2, M_f3, M_f4, M_f5, M_f6, M_f7, M_f8, M_f9, M_f10, M_p0, M_p3, M_p6, M_p7, M_p10, M_g_0, M_g_1, M_g_2, M_g_3, M_g_4, M_g_5, M_s_0, M_s_1, M_s_2, M_s_3, M_s_4, M_s_5, mAr_same, mAr_mAr, mAr_1, mAr_h, mS_2, mS_same, mS_mS, mAr_mS, mh_1, mh_2, mh_h, mAr_01, mAr_02, mAr_03, mAr_04, mAr_05, mAr_10, mAr_12, mAr_13, mAr_14, mAr_15, mAr_20, mAr_21, mAr_23, mAr_24, mAr_25, mAr_30, mAr_31, mAr_32, mAr_34, mAr_35, mAr_40, mAr_41, mAr_42, mAr_43, mAr_45, mAr_50, mAr_51, mAr_52, mAr_53, mAr_54, mS_01, mS_02, mS_03, mS_10, mS_12, mS_13, mS_20, mS_21, mS_23, mS_30, mS_31, mS_32, tn5, wrp_id, c, q]
theorem m109 (h : rel σ (M.2.1 0)) : Runs xs 109 [vr 190] μ (putM f M) (.inl none) μ (putM f (mAr M 0 (mdz (M.2.1 0) 0 0 6))) := Runs.iff fun Q hQ => by
  show Wp xs 109 0 [vr 190, vu, vu, vu] [] μ (putM f M) Q
  have q := md_loop (xs := xs) (f := f) (μ := μ) (Q := Q) 6 0 0 M vu rfl (Nat.le_refl _) (fun x hx => (h.F.2.1 x hx).1)
  simp only [Int.cast_ofNat_Int] at q
  simp (disch := first | omega | rfl) only [e109_0, e109_1, e109_2, e109_3, e109_5, e109_7, e109_10, e109_11, e109_14, e109_15, e109_16, e109_17, e109_18, e109_19, e109_20, e109_23, e109_24, e109_25, e109_26, e109_27, e109_28, e109_29, e109_30, e109_33, e109_34, e109_37, e109_38, e109_39, e109_40, e109_41, e109_42, e109_45, e109_48, e109_51, WpV_some, WpH_some, ↓ite_t, ↓ite_f, q]
  exact hQ
/-- fewer frames -/
theorem rel.less (h : rel σ z) {k : Nat} (hk1 : 1 ≤ k) (hk : (k : Int) < σ.2 2) (hc : sm8 (fun p => if σ.1 4 p = -1 then 0 else 1) ≤ k) (hp : sm8 (σ.1 6) ≤ k - 1) : rel (sS (mvd σ 0 0 (σ.2 2).toNat) 2 k) (fu (mdz z 0 0 6) 2 k) := by
  obtain ⟨w1, w2, w3, w4, w5⟩ := h.wf
  obtain ⟨n, hn⟩ : ∃ n : Nat, σ.2 2 = n := ⟨(σ.2 2).toNat, by omega⟩
  have hF := h.F
  rw [hn] at hF
  obtain ⟨lo, zz, i1, i2, i3, i4, i5, i6, i7, i8, i9⟩ := mvd_q (n := n) (by omega) n 0 0 σ z (by omega) (Nat.le_refl _) hF (fun x h1 h2 => by omega) (fun x hx => by omega)
  rw [show 6 - 0 = 6 from rfl] at i2
  rw [show (σ.2 2).toNat = n by omega, i2]
  have hlo : lo ≤ k := by
    have c2 : sm8 (fun p => if (mvd σ 0 0 n).1 4 p = -1 then (0 : Int) else 1) ≤ k := by
      rw [sm8_ext (g' := fun p => if σ.1 4 p = -1 then (0 : Int) else 1) (fun p hp => by
        show (if (mvd σ 0 0 n).1 4 p = -1 then (0 : Int) else 1) = if σ.1 4 p = -1 then 0 else 1
        have := i9 p hp
        by_cases c : σ.1 4 p = -1
        · rw [if_pos c, if_pos (this.mpr c)]
        · rw [if_neg c, if_neg (fun x => c (this.mp x))])]
      exact hc
    have key : ∀ x, x < lo → 0 ≤ zz (5 + x) ∧ zz (5 + x) < 8 := fun x hx => by
      have a := i8 x hx
      have b := i6.2.1 x (by omega)
      omega
    have e := pig (fun _ => 0) (fun _ _ => Int.le_refl 0) lo (fun p => if (mvd σ 0 0 n).1 4 p = -1 then 0 else 1) (fun x => (zz (5 + x)).toNat) (fun p _ => by split <;> omega) (fun x hx => by
      have a := key x hx
      refine ⟨by omega, ?_⟩
      have b := (i6.2.2 x (zz (5 + x)).toNat (by omega) (by omega)).mp (by omega)
      show 1 ≤ (if (mvd σ 0 0 n).1 4 (zz (5 + x)).toNat = -1 then (0 : Int) else 1)
      rw [if_neg (by omega)]
      exact Int.le_refl 1) (fun x v hx hv hxv => by
      have a := key x hx
      have b := key v hv
      have a2 := (i6.2.2 x (zz (5 + x)).toNat (by omega) (by omega)).mp (by omega)
      have b2 := (i6.2.2 v (zz (5 + v)).toNat (by omega) (by omega)).mp (by omega)
      have e3 : (zz (5 + x)).toNat = (zz (5 + v)).toNat := hxv
      rw [e3] at a2
      omega)
    omega
  have zj : ∀ j, j ≠ 2 → (j < 5 ∨ 11 ≤ j) → fu zz 2 (k : Int) j = z j := fun j h2 hj => by rw [fu_n _ _ h2, i3 j hj]
  have zf : ∀ e, fu zz 2 (k : Int) (5 + e) = zz (5 + e) := fun e => fu_n _ _ (by omega)
  generalize mvd σ 0 0 n = τ at *
  have s0 : (sS τ 2 (k : Int)).2 0 = σ.2 0 := by rw [sS_2, if_neg (by decide), i4]
  have s1 : (sS τ 2 (k : Int)).2 1 = σ.2 1 := by rw [sS_2, if_neg (by decide), i4]
  have s2 : (sS τ 2 (k : Int)).2 2 = k := by rw [sS_2, if_pos rfl]
  have s3 : ∀ j, j ≠ 4 → (sS τ 2 (k : Int)).1 j = σ.1 j := fun j hj => i5 j hj
  refine ⟨⟨?_, ?_, ?_, ?_⟩, ⟨?_, ?_, ?_⟩, ⟨?_, ?_, ?_⟩, ?_, ?_, ?_⟩
  · unfold wfS; rw [s0, s1, s2]; omega
  · rw [s0, zj 0 (by decide) (by omega)]; exact h.n.1
  · rw [s1, zj 1 (by decide) (by omega)]; exact h.n.2.1
  · rw [s2, fu_s]
  · rw [s0, s3 0 (by decide), s3 1 (by decide)]; exact h.P.ext fun i _ => ⟨zj _ (by omega) (by omega), zj _ (by omega) (by omega)⟩
  · rw [s1, s3 2 (by decide), s3 3 (by decide)]; exact h.D.ext fun i _ => ⟨zj _ (by omega) (by omega), zj _ (by omega) (by omega)⟩
  · rw [s0, s1]; exact h.C.ext fun i _ _ => ⟨zj _ (by omega) (by omega), zj _ (by omega) (by omega)⟩
  · rw [s3 6 (by decide), zj 3 (by decide) (by omega)]; exact h.pin
  · rw [s3 5 (by decide), zj 4 (by decide) (by omega)]; exact h.ch
  · rw [s2]
    show qF k (τ.1 4) (fu zz 2 k)
    refine ⟨fun p hp => ?_, fun e he => ?_, fun e p he hp => ?_⟩
    · have a := i6.1 p hp
      refine ⟨a.1, ?_⟩
      apply Classical.byContradiction
      intro hge
      have b := (i6.2.2 (τ.1 4 p).toNat p (by omega) hp).mpr (by omega)
      have c := i7 (τ.1 4 p).toNat (by omega) (by omega)
      omega
    · rw [zf]; exact i6.2.1 e he
    · rw [zf]; exact i6.2.2 e p he hp
  · rw [s1, s3 7 (by decide), s3 8 (by decide)]
    exact h.L.ext fun j _ => ⟨(zj _ (by omega) (by omega)).symm, (zj _ (by omega) (by omega)).symm⟩
  · rw [s1, s3 9 (by decide), s3 10 (by decide), s3 5 (by decide)]
    intro q hq
    rw [zj _ (by omega) (by omega), zj _ (by omega) (by omega)]
    exact h.N q hq
  · rw [s2, s3 6 (by decide)]; exact hp
end MR
