/-! THE MODEL'S METHODS: saving and undoing -/
def svk (s : Nat → Int) (c : Nat) : Nat → Int := fun j => if j < c then s (j + 347) else s j
def svz (s z : Nat → Int) (c k : Nat) : Nat → Int := fun j => if 347 * c ≤ j ∧ j < 347 * c + k then z (j - 347 * c) else s j
def svM (M : MG) : MG := if M.1 1 = 6 then mS (mAr M 1 (svz (svk (M.2.1 1) 1735) (M.2.1 0) 5 347)) 1 6 else mS (mAr M 1 (svz (M.2.1 1) (M.2.1 0) (M.1 1).toNat 347)) 1 (M.1 1 + 1)
/-- the saved states, told twice -/
def qV (V : VG) (sc : Int) (s : Nat → Int) : Prop := wfV V ∧ (∀ i j, i < 6 → j < 6 → V.1 i = V.1 j → i = j) ∧ ∀ k : Nat, (k : Int) < sc → rel (V.2 (V.1 k)) (fun j => s (347 * k + j))
def inv (σ : SG) (T : TG) (V : VG) (sc : Int) (M : MG) : Prop := rel σ (M.2.1 0) ∧ qT T M ∧ M.1 1 = sc ∧ 0 ≤ sc ∧ sc ≤ 6 ∧ qV V sc (M.2.1 1)
theorem svk_up (s : Nat → Int) (c : Nat) : fu (svk s c) c (svk s c (c + 347)) = svk s (c + 1) := by
  funext j
  show (if j = c then svk s c (c + 347) else svk s c j) = _
  unfold svk
  by_cases h : j = c
  · subst h; rw [if_pos rfl, if_neg (by omega), if_pos (by omega)]
  · rw [if_neg h]
    by_cases h2 : j < c
    · rw [if_pos h2, if_pos (by omega)]
    · rw [if_neg h2, if_neg (by omega)]
theorem svz_up (s z : Nat → Int) (c k : Nat) : fu (svz s z c k) (347 * c + k) (z k) = svz s z c (k + 1) := by
  funext j
  show (if j = 347 * c + k then z k else svz s z c k j) = _
  unfold svz
  by_cases h : j = 347 * c + k
  · subst h; rw [if_pos rfl, if_pos (by omega), show 347 * c + k - 347 * c = k by omega]
  · rw [if_neg h]
    by_cases h2 : 347 * c ≤ j ∧ j < 347 * c + k
    · rw [if_pos h2, if_pos (by omega)]
    · rw [if_neg h2, if_neg (by omega)]
section MS
variable {xs : List Int} {f : AH} {M : MG} {μ : Mu} {y pc : Nat} {L st : List AV} {Q : Out → Mu → AH → Prop} {σ : SG} {T : TG} {V : VG} {sc : Int} {z : Nat → Int}
theorem tn347 (k : Nat) : ((k : Int) + 347).toNat = k + 347 := by omega
theorem tnc (c k : Nat) : ((c : Int) * 347 + (k : Int)).toNat = 347 * c + k := by omega
theorem sv1_loop : ∀ (d k : Nat), k + d = 1735 → (Wp xs 85 11 [vr 190, vi k] [] μ (putM f (mAr M 1 (svk (M.2.1 1) k))) Q = Wp xs 85 40 [vr 190, vi 1735] [] μ (putM f (mAr M 1 (svk (M.2.1 1) 1735))) Q) := by
  intro d
  induction d with
  | zero =>
    intro k hk
    have hk : k = 1735 := by omega
    subst hk
    simp (disch := first | omega | rfl) only [e85_11, e85_12, e85_15, WpV_some, WpH_some, ↓ite_t, ↓ite_f, Int.cast_ofNat_Int]
  | succ d ih =>
    intro k hk
    have q := ih (k + 1) (by omega)
    simp only [Int.natCast_add, Int.cast_ofNat_Int] at q
    rw [e85_11]
    simp (disch := first | omega | rfl) only [e85_12, e85_15, e85_18, e85_19, e85_22, e85_23, e85_24, e85_27, e85_28, e85_31, e85_32, e85_33, e85_34, e85_37, WpV_some, WpH_some, ↓ite_t, ↓ite_f, M_f0, M_f1, M_f2, M_f3, M_f4, M_f5, M_f6, M_f7, M_f8, M_f9, M_f10, M_p0, M_p3, M_p6, M_p7, M_p10, M_g_0, M_g_1, M_g_2, M_g_3, M_g_4, M_g_5, M_s_0, M_s_1, M_s_2, M_s_3, M_s_4, M_s_5, mAr_same, mAr_mAr, mAr_1, mAr_h, mS_2, mS_same, mS_mS, mAr_mS, mh_1, mh_2, mh_h, mAr_01, mAr_02, mAr_03, mAr_04, mAr_05, mAr_10, mAr_12, mAr_13, mAr_14, mAr_15, mAr_20, mAr_21, mAr_23, mAr_24, mAr_25, mAr_30, mAr_31, mAr_32, mAr_34, mAr_35, mAr_40, mAr_41, mAr_42, mAr_43, mAr_45, mAr_50, mAr_51, mAr_52, mAr_53, mAr_54, mS_01, mS_02, mS_03, mS_10, mS_12, mS_13, mS_20, mS_21, mS_23, mS_30, mS_31, mS_32, wrp_id, Int.toNat_natCast, tn347, svk_up, q]
theorem sv2_loop {c : Nat} (hc : c < 6) (h1 : M.1 1 = c) : ∀ (d k : Nat), k + d = 347 → (Wp xs 85 52 [vr 190, vi k] [] μ (putM f (mAr M 1 (svz (M.2.1 1) (M.2.1 0) c k))) Q = Q (.inl none) μ (putM f (mS (mAr M 1 (svz (M.2.1 1) (M.2.1 0) c 347)) 1 (c + 1)))) := by
  intro d
  induction d with
  | zero =>
    intro k hk
    have hk : k = 347 := by omega
    subst hk
    simp (disch := first | omega | rfl) only [e85_52, e85_53, e85_56, e85_86, e85_87, e85_88, e85_91, e85_92, e85_93, e85_96, WpV_some, WpH_some, ↓ite_t, ↓ite_f, M_f0, M_f1, M_f2, M_f3, M_f4, M_f5, M_f6, M_f7, M_f8, M_f9, M_f10, M_p0, M_p3, M_p6, M_p7, M_p10, M_g_0, M_g_1, M_g_2, M_g_3, M_g_4, M_g_5, M_s_0, M_s_1, M_s_2, M_s_3, M_s_4, M_s_5, mAr_same, mAr_mAr, mAr_1, mAr_h, mS_2, mS_same, mS_mS, mAr_mS, mh_1, mh_2, mh_h, mAr_01, mAr_02, mAr_03, mAr_04, mAr_05, mAr_10, mAr_12, mAr_13, mAr_14, mAr_15, mAr_20, mAr_21, mAr_23, mAr_24, mAr_25, mAr_30, mAr_31, mAr_32, mAr_34, mAr_35, mAr_40, mAr_41, mAr_42, mAr_43, mAr_45, mAr_50, mAr_51, mAr_52, mAr_53, mAr_54, mS_01, mS_02, mS_03, mS_10, mS_12, mS_13, mS_20, mS_21, mS_23, mS_30, mS_31, mS_32, h1, wrp_id, Int.cast_ofNat_Int]
  | succ d ih =>
    intro k hk
    have q := ih (k + 1) (by omega)
    simp only [Int.natCast_add, Int.cast_ofNat_Int] at q
    rw [e85_52]
    simp (disch := first | omega | rfl) only [e85_53, e85_56, e85_59, e85_60, e85_63, e85_64, e85_67, e85_70, e85_71, e85_72, e85_73, e85_74, e85_77, e85_78, e85_79, e85_80, e85_83, WpV_some, WpH_some, ↓ite_t, ↓ite_f, M_f0, M_f1, M_f2, M_f3, M_f4, M_f5, M_f6, M_f7, M_f8, M_f9, M_f10, M_p0, M_p3, M_p6, M_p7, M_p10, M_g_0, M_g_1, M_g_2, M_g_3, M_g_4, M_g_5, M_s_0, M_s_1, M_s_2, M_s_3, M_s_4, M_s_5, mAr_same, mAr_mAr, mAr_1, mAr_h, mS_2, mS_same, mS_mS, mAr_mS, mh_1, mh_2, mh_h, mAr_01, mAr_02, mAr_03, mAr_04, mAr_05, mAr_10, mAr_12, mAr_13, mAr_14, mAr_15, mAr_20, mAr_21, mAr_23, mAr_24, mAr_25, mAr_30, mAr_31, mAr_32, mAr_34, mAr_35, mAr_40, mAr_41, mAr_42, mAr_43, mAr_45, mAr_50, mAr_51, mAr_52, mAr_53, mAr_54, mS_01, mS_02, mS_03, mS_10, mS_12, mS_13, mS_20, mS_21, mS_23, mS_30, mS_31, mS_32, h1, wrp_id, Int.toNat_natCast, tnc, svz_up, q]
theorem m85 (h0 : 0 ≤ M.1 1) (h6 : M.1 1 ≤ 6) : Runs xs 85 [vr 190] μ (putM f M) (.inl none) μ (putM f (svM M)) := Runs.iff fun Q hQ => by
  show Wp xs 85 0 [vr 190, vu] [] μ (putM f M) Q
  unfold svM at hQ
  by_cases c : M.1 1 = 6
  · rw [if_pos c] at hQ
    have q1 := sv1_loop (xs := xs) (f := f) (μ := μ) (Q := Q) (M := M) 1735 0 rfl
    have e : mAr M 1 (svk (M.2.1 1) 0) = M := by
      have : svk (M.2.1 1) 0 = M.2.1 1 := by funext j; unfold svk; rw [if_neg (by omega)]
      rw [this]; exact mAr_self M 1
    rw [e] at q1
    simp only [Int.cast_ofNat_Int] at q1
    have q2 := sv2_loop (xs := xs) (f := f) (μ := μ) (Q := Q) (M := mS (mAr M 1 (svk (M.2.1 1) 1735)) 1 5) (c := 5) (by decide) rfl 347 0 rfl
    have e2 : mAr (mS (mAr M 1 (svk (M.2.1 1) 1735)) 1 5) 1 (svz ((mS (mAr M 1 (svk (M.2.1 1) 1735)) 1 5).2.1 1) ((mS (mAr M 1 (svk (M.2.1 1) 1735)) 1 5).2.1 0) 5 0) = mS (mAr M 1 (svk (M.2.1 1) 1735)) 1 5 := by
      have : ∀ s z : Nat → Int, svz s z 5 0 = s := fun s z => by funext j; unfold svz; rw [if_neg (by omega)]
      rw [this]; exact mAr_self _ 1
    rw [e2] at q2
    simp only [Int.cast_ofNat_Int, mAr_same, mAr_mAr, mAr_1, mAr_h, mS_2, mS_same, mS_mS, mAr_mS, mh_1, mh_2, mh_h, mAr_01, mAr_02, mAr_03, mAr_04, mAr_05, mAr_10, mAr_12, mAr_13, mAr_14, mAr_15, mAr_20, mAr_21, mAr_23, mAr_24, mAr_25, mAr_30, mAr_31, mAr_32, mAr_34, mAr_35, mAr_40, mAr_41, mAr_42, mAr_43, mAr_45, mAr_50, mAr_51, mAr_52, mAr_53, mAr_54, mS_01, mS_02, mS_03, mS_10, mS_12, mS_13, mS_20, mS_21, mS_23, mS_30, mS_31, mS_32] at q2
    simp (disch := first | omega | rfl) only [e85_0, e85_1, e85_4, e85_6, e85_9, e85_10, WpV_some, WpH_some, ↓ite_t, ↓ite_f, M_f0, M_f1, M_f2, M_f3, M_f4, M_f5, M_f6, M_f7, M_f8, M_f9, M_f10, M_p0, M_p3, M_p6, M_p7, M_p10, M_g_0, M_g_1, M_g_2, M_g_3, M_g_4, M_g_5, M_s_0, M_s_1, M_s_2, M_s_3, M_s_4, M_s_5, c, ne_eq, not_true_eq_false, ↓reduceIte, q1]
    simp (disch := first | omega | rfl) only [e85_40, e85_41, e85_42, e85_45, e85_46, e85_47, e85_50, e85_51, WpV_some, WpH_some, ↓ite_t, ↓ite_f, M_f0, M_f1, M_f2, M_f3, M_f4, M_f5, M_f6, M_f7, M_f8, M_f9, M_f10, M_p0, M_p3, M_p6, M_p7, M_p10, M_g_0, M_g_1, M_g_2, M_g_3, M_g_4, M_g_5, M_s_0, M_s_1, M_s_2, M_s_3, M_s_4, M_s_5, mAr_same, mAr_mAr, mAr_1, mAr_h, mS_2, mS_same, mS_mS, mAr_mS, mh_1, mh_2, mh_h, mAr_01, mAr_02, mAr_03, mAr_04, mAr_05, mAr_10, mAr_12, mAr_13, mAr_14, mAr_15, mAr_20, mAr_21, mAr_23, mAr_24, mAr_25, mAr_30, mAr_31, mAr_32, mAr_34, mAr_35, mAr_40, mAr_41, mAr_42, mAr_43, mAr_45, mAr_50, mAr_51, mAr_52, mAr_53, mAr_54, mS_01, mS_02, mS_03, mS_10, mS_12, mS_13, mS_20, mS_21, mS_23, mS_30, mS_31, mS_32, c, wrp_id, Int.reduceSub, q2]
    exact hQ
  · rw [if_neg c] at hQ
    obtain ⟨n, hn⟩ : ∃ n : Nat, M.1 1 = n := ⟨(M.1 1).toNat, by omega⟩
    have q2 := sv2_loop (xs := xs) (f := f) (μ := μ) (Q := Q) (M := M) (c := n) (by omega) hn 347 0 rfl
    have e2 : mAr M 1 (svz (M.2.1 1) (M.2.1 0) n 0) = M := by
      have : ∀ s z : Nat → Int, svz s z n 0 = s := fun s z => by funext j; unfold svz; rw [if_neg (by omega)]
      rw [this]; exact mAr_self _ 1
    rw [e2] at q2
    simp only [Int.cast_ofNat_Int] at q2
    rw [hn, Int.toNat_natCast] at hQ
    have c2 : ¬ (n : Int) = 6 := by omega
    simp (disch := first | omega | rfl) only [e85_0, e85_1, e85_4, e85_6, e85_50, e85_51, WpV_some, WpH_some, ↓ite_t, ↓ite_f, M_f0, M_f1, M_f2, M_f3, M_f4, M_f5, M_f6, M_f7, M_f8, M_f9, M_f10, M_p0, M_p3, M_p6, M_p7, M_p10, M_g_0, M_g_1, M_g_2, M_g_3, M_g_4, M_g_5, M_s_0, M_s_1, M_s_2, M_s_3, M_s_4, M_s_5, hn, c2, ne_eq, not_false_eq_true, ↓reduceIte, q2]
    exact hQ
theorem rel.ext {z' : Nat → Int} (h : rel σ z) (e : ∀ j, j < 347 → z' j = z j) : rel σ z' := by
  obtain ⟨w1, w2, w3, w4, w5⟩ := h.wf
  refine ⟨⟨h.wf, ?_, ?_, ?_⟩, ⟨?_, ?_, ?_⟩, ⟨?_, ?_, ?_⟩, ?_, ?_, h.K⟩
  · rw [e 0 (by decide)]; exact h.n.1
  · rw [e 1 (by decide)]; exact h.n.2.1
  · rw [e 2 (by decide)]; exact h.n.2.2
  · exact h.P.ext fun i hi => ⟨e _ (by omega), e _ (by omega)⟩
  · exact h.D.ext fun i hi => ⟨e _ (by omega), e _ (by omega)⟩
  · exact h.C.ext fun i _ hi => ⟨e _ (by omega), e _ (by omega)⟩
  · rw [e 3 (by decide)]; exact h.pin
  · rw [e 4 (by decide)]; exact h.ch
  · refine ⟨h.F.1, fun x hx => ?_, fun x p hx hp => ?_⟩
    · rw [e _ (by omega)]; exact h.F.2.1 x hx
    · rw [e _ (by omega)]; exact h.F.2.2 x p hx hp
  · exact h.L.ext fun j hj => ⟨(e _ (by omega)).symm, (e _ (by omega)).symm⟩
  · intro p hp
    rw [e _ (by omega), e _ (by omega)]
    exact h.N p hp
theorem svM_2 (M : MG) : (svM M).2.1 0 = M.2.1 0 ∧ (svM M).2.1 3 = M.2.1 3 ∧ (svM M).1 0 = M.1 0 ∧ (svM M).1 2 = M.1 2 := by
  unfold svM
  split <;> exact ⟨rfl, rfl, rfl, rfl⟩
theorem svM_1 {M : MG} (hs : M.1 1 = sc) (h6 : sc ≤ 6) : (svM M).1 1 = svC sc := by
  unfold svM svC
  rw [hs]
  by_cases c : sc = 6
  · rw [if_pos c, if_neg (by omega)]; rfl
  · rw [if_neg c, if_pos (by omega)]; rfl
theorem rot_inj {p : Nat → Nat} (h : ∀ i j, i < 6 → j < 6 → p i = p j → i = j) : ∀ i j, i < 6 → j < 6 → rot p i = rot p j → i = j := by
  intro i j hi hj e
  unfold rot at e
  by_cases c1 : i < 5
  · rw [if_pos c1] at e
    by_cases c2 : j < 5
    · rw [if_pos c2] at e
      have := h _ _ (by omega) (by omega) e
      omega
    · rw [if_neg c2, if_pos (by omega)] at e
      have := h _ _ (by omega) (by omega) e
      omega
  · rw [if_neg c1, if_pos (by omega)] at e
    by_cases c2 : j < 5
    · rw [if_pos c2] at e
      have := h _ _ (by omega) (by omega) e
      omega
    · omega
theorem su_s (S : Nat → SG) (k : Nat) (σ : SG) : su S k σ k = σ := by unfold su; rw [if_pos rfl]
theorem su_n (S : Nat → SG) {k j : Nat} (σ : SG) (h : j ≠ k) : su S k σ j = S j := by unfold su; rw [if_neg h]
theorem qV_sv (hV : qV V sc (M.2.1 1)) (hs : M.1 1 = sc) (h0 : 0 ≤ sc) (h6 : sc ≤ 6) (h : rel σ (M.2.1 0)) : qV (svV V sc σ) (svC sc) ((svM M).2.1 1) := by
  obtain ⟨v1, v2, v3⟩ := hV
  unfold svV svC svM
  rw [hs]
  by_cases c : sc < 6
  · rw [if_pos c, if_pos c, if_neg (by omega)]
    refine ⟨v1, v2, fun k hk => ?_⟩
    have hk6 : k < 6 := by omega
    show rel (su V.2 (V.1 sc.toNat) σ (V.1 k)) (fun j => svz (M.2.1 1) (M.2.1 0) sc.toNat 347 (347 * k + j))
    by_cases e : k = sc.toNat
    · rw [e, su_s]
      refine h.ext fun j hj => ?_
      unfold svz
      rw [if_pos (by omega)]
      exact congrArg _ (by omega)
    · rw [su_n _ _ (fun x => e (v2 _ _ hk6 (by omega) x))]
      refine (v3 k (by omega)).ext fun j hj => ?_
      unfold svz
      rw [if_neg (by omega)]
  · have hs6 : sc = 6 := by omega
    rw [if_neg c, if_neg c, if_pos hs6]
    have w := v1
    obtain ⟨w0, w1, w2, w3, w4, w5⟩ := w
    refine ⟨⟨w1, w2, w3, w4, w5, w0⟩, rot_inj v2, fun k hk => ?_⟩
    have hk6 : k < 6 := by omega
    show rel (su V.2 (V.1 0) σ (rot V.1 k)) (fun j => svz (svk (M.2.1 1) 1735) (M.2.1 0) 5 347 (347 * k + j))
    by_cases e : k = 5
    · subst e
      rw [show rot V.1 5 = V.1 0 from rfl, su_s]
      refine h.ext fun j hj => ?_
      unfold svz
      rw [if_pos (by omega)]
      exact congrArg _ (by omega)
    · have e2 : rot V.1 k = V.1 (k + 1) := by unfold rot; rw [if_pos (by omega)]
      rw [e2, su_n _ _ (fun x => by have := v2 _ _ (by omega) (by omega) x; omega)]
      refine (v3 (k + 1) (by omega)).ext fun j hj => ?_
      show svz (svk (M.2.1 1) 1735) (M.2.1 0) 5 347 (347 * k + j) = M.2.1 1 (347 * (k + 1) + j)
      unfold svz svk
      rw [if_neg (by omega), if_pos (by omega)]
      exact congrArg _ (by omega)
/-- behind a save -/
theorem inv.save (h : inv σ T V sc M) : rel σ ((svM M).2.1 0) ∧ qT T (svM M) ∧ (svM M).1 1 = svC sc ∧ 0 ≤ svC sc ∧ svC sc ≤ 6 ∧ qV (svV V sc σ) (svC sc) ((svM M).2.1 1) := by
  obtain ⟨h1, h2, h3, h4, h5, h6⟩ := h
  obtain ⟨e1, e2, e3, e4⟩ := svM_2 M
  refine ⟨by rw [e1]; exact h1, ?_, svM_1 h3 h5, ?_, ?_, qV_sv h6 h3 h4 h5 h1⟩
  · unfold qT; rw [e4, e2]; exact h2
  · unfold svC; split <;> omega
  · unfold svC; split <;> omega
theorem inv.m85E (h : inv σ T V sc M) : Runs xs 85 [vr 190] μ (putM f M) (.inl none) μ (putM f (svM M)) := by
  obtain ⟨h1, h2, h3, h4, h5, h6⟩ := h
  exact m85 (by omega) (by omega)
theorem und_loop {c : Nat} (hc : c < 6) (h1 : M.1 1 = c) : ∀ (d k : Nat), k + d = 347 → (Wp xs 75 37 [vr 190, vi k] [] μ (putM f (mAr M 0 (fun j => if j < k then M.2.1 1 (347 * c + j) else M.2.1 0 j))) Q = Q (.inl (some (vi c))) μ (putM f (mAr M 0 (fun j => M.2.1 1 (347 * c + j))))) := by
  intro d
  induction d with
  | zero =>
    intro k hk
    have e : putM f (mAr M 0 (fun j => if j < k then M.2.1 1 (347 * c + j) else M.2.1 0 j)) = putM f (mAr M 0 (fun j => M.2.1 1 (347 * c + j))) := putM_ext f M (by decide) fun j hj => by
      have hj : j < 347 := hj
      rw [if_pos (by omega)]
    rw [e]
    simp (disch := first | omega | rfl) only [e75_37, e75_38, e75_41, e75_71, e75_72, e75_75, WpV_some, WpH_some, ↓ite_t, ↓ite_f, M_f0, M_f1, M_f2, M_f3, M_f4, M_f5, M_f6, M_f7, M_f8, M_f9, M_f10, M_p0, M_p3, M_p6, M_p7, M_p10, M_g_0, M_g_1, M_g_2, M_g_3, M_g_4, M_g_5, M_s_0, M_s_1, M_s_2, M_s_3, M_s_4, M_s_5, mAr_same, mAr_mAr, mAr_1, mAr_h, mS_2, mS_same, mS_mS, mAr_mS, mh_1, mh_2, mh_h, mAr_01, mAr_02, mAr_03, mAr_04, mAr_05, mAr_10, mAr_12, mAr_13, mAr_14, mAr_15, mAr_20, mAr_21, mAr_23, mAr_24, mAr_25, mAr_30, mAr_31, mAr_32, mAr_34, mAr_35, mAr_40, mAr_41, mAr_42, mAr_43, mAr_45, mAr_50, mAr_51, mAr_52, mAr_53, mAr_54, mS_01, mS_02, mS_03, mS_10, mS_12, mS_13, mS_20, mS_21, mS_23, mS_30, mS_31, mS_32, h1]
  | succ d ih =>
    intro k hk
    have q := ih (k + 1) (by omega)
    simp only [Int.natCast_add, Int.cast_ofNat_Int] at q
    have e := fu_up (fun j => M.2.1 1 (347 * c + j)) (M.2.1 0) k
    rw [e75_37]
    simp (disch := first | omega | rfl) only [e75_38, e75_41, e75_44, e75_45, e75_48, e75_49, e75_50, e75_53, e75_54, e75_57, e75_60, e75_61, e75_62, e75_63, e75_64, e75_65, e75_68, WpV_some, WpH_some, ↓ite_t, ↓ite_f, M_f0, M_f1, M_f2, M_f3, M_f4, M_f5, M_f6, M_f7, M_f8, M_f9, M_f10, M_p0, M_p3, M_p6, M_p7, M_p10, M_g_0, M_g_1, M_g_2, M_g_3, M_g_4, M_g_5, M_s_0, M_s_1, M_s_2, M_s_3, M_s_4, M_s_5, mAr_same, mAr_mAr, mAr_1, mAr_h, mS_2, mS_same, mS_mS, mAr_mS, mh_1, mh_2, mh_h, mAr_01, mAr_02, mAr_03, mAr_04, mAr_05, mAr_10, mAr_12, mAr_13, mAr_14, mAr_15, mAr_20, mAr_21, mAr_23, mAr_24, mAr_25, mAr_30, mAr_31, mAr_32, mAr_34, mAr_35, mAr_40, mAr_41, mAr_42, mAr_43, mAr_45, mAr_50, mAr_51, mAr_52, mAr_53, mAr_54, mS_01, mS_02, mS_03, mS_10, mS_12, mS_13, mS_20, mS_21, mS_23, mS_30, mS_31, mS_32, h1, wrp_id, Int.toNat_natCast, tnc, e, q]
theorem m75 (h : inv σ T V sc M) (h1 : 1 ≤ sc) : ∃ M', inv (V.2 (V.1 (sc - 1).toNat)) T V (sc - 1) M' ∧ M'.1 0 = 0 ∧ Runs xs 75 [vr 190] μ (putM f M) (.inl (some (vi (sc - 1)))) μ (putM f M') := by
  obtain ⟨g1, g2, g3, g4, g5, v1, v2, v3⟩ := h
  obtain ⟨c, hc⟩ : ∃ c : Nat, sc = c + 1 := ⟨(sc - 1).toNat, by omega⟩
  have e : (sc - 1).toNat = c := by omega
  have e2 : sc - 1 = c := by omega
  refine ⟨mAr (mS (mS M 0 0) 1 c) 0 (fun j => M.2.1 1 (347 * c + j)), ⟨?_, g2, ?_, by omega, by omega, v1, v2, fun k hk => v3 k (by omega)⟩, rfl, Runs.iff fun Q hQ => ?_⟩
  · rw [e]; exact v3 c (by omega)
  · show (c : Int) = sc - 1; omega
  · show Wp xs 75 0 [vr 190, vu] [] μ (putM f M) Q
    have q := und_loop (xs := xs) (f := f) (μ := μ) (Q := Q) (M := mS (mS M 0 0) 1 c) (c := c) (by omega) rfl 347 0 rfl
    have e3 : mAr (mS (mS M 0 0) 1 c) 0 (fun j => if j < 0 then (mS (mS M 0 0) 1 c).2.1 1 (347 * c + j) else (mS (mS M 0 0) 1 c).2.1 0 j) = mS (mS M 0 0) 1 c := mAr_self _ 0
    rw [e3] at q
    simp only [Int.cast_ofNat_Int] at q
    rw [hc] at g3
    have c1 : ¬ (c : Int) + 1 = 0 := by omega
    have c2 : (c : Int) + 1 - 1 = c := by omega
    rw [e2] at hQ
    simp (disch := first | omega | rfl) only [e75_0, e75_1, e75_2, e75_5, e75_8, e75_9, e75_12, e75_13, e75_16, e75_17, e75_20, e75_25, e75_26, e75_27, e75_30, e75_31, e75_32, e75_35, e75_36, WpV_some, WpH_some, ↓ite_t, ↓ite_f, M_f0, M_f1, M_f2, M_f3, M_f4, M_f5, M_f6, M_f7, M_f8, M_f9, M_f10, M_p0, M_p3, M_p6, M_p7, M_p10, M_g_0, M_g_1, M_g_2, M_g_3, M_g_4, M_g_5, M_s_0, M_s_1, M_s_2, M_s_3, M_s_4, M_s_5, mAr_same, mAr_mAr, mAr_1, mAr_h, mS_2, mS_same, mS_mS, mAr_mS, mh_1, mh_2, mh_h, mAr_01, mAr_02, mAr_03, mAr_04, mAr_05, mAr_10, mAr_12, mAr_13, mAr_14, mAr_15, mAr_20, mAr_21, mAr_23, mAr_24, mAr_25, mAr_30, mAr_31, mAr_32, mAr_34, mAr_35, mAr_40, mAr_41, mAr_42, mAr_43, mAr_45, mAr_50, mAr_51, mAr_52, mAr_53, mAr_54, mS_01, mS_02, mS_03, mS_10, mS_12, mS_13, mS_20, mS_21, mS_23, mS_30, mS_31, mS_32, g3, c1, c2, wrp_id, ne_eq, not_false_eq_true, ↓reduceIte, q]
    exact hQ
theorem m75e (h : inv σ T V sc M) (h1 : sc < 1) : Runs xs 75 [vr 190] μ (putM f M) (.inl (some (vi 0))) μ (putM f (mS M 0 1)) := Runs.iff fun Q hQ => by
  obtain ⟨g1, g2, g3, g4, g5, v1, v2, v3⟩ := h
  have e : sc = 0 := by omega
  rw [e] at g3
  show Wp xs 75 0 [vr 190, vu] [] μ (putM f M) Q
  simp (disch := first | omega | rfl) only [e75_0, e75_1, e75_2, e75_5, e75_8, e75_9, e75_12, e75_13, e75_16, e75_17, e75_20, e75_23, e75_24, WpV_some, WpH_some, ↓ite_t, ↓ite_f, M_f0, M_f1, M_f2, M_f3, M_f4, M_f5, M_f6, M_f7, M_f8, M_f9, M_f10, M_p0, M_p3, M_p6, M_p7, M_p10, M_g_0, M_g_1, M_g_2, M_g_3, M_g_4, M_g_5, M_s_0, M_s_1, M_s_2, M_s_3, M_s_4, M_s_5, mAr_same, mAr_mAr, mAr_1, mAr_h, mS_2, mS_same, mS_mS, mAr_mS, mh_1, mh_2, mh_h, mAr_01, mAr_02, mAr_03, mAr_04, mAr_05, mAr_10, mAr_12, mAr_13, mAr_14, mAr_15, mAr_20, mAr_21, mAr_23, mAr_24, mAr_25, mAr_30, mAr_31, mAr_32, mAr_34, mAr_35, mAr_40, mAr_41, mAr_42, mAr_43, mAr_45, mAr_50, mAr_51, mAr_52, mAr_53, mAr_54, mS_01, mS_02, mS_03, mS_10, mS_12, mS_13, mS_20, mS_21, mS_23, mS_30, mS_31, mS_32, g3, ne_eq, not_true_eq_false, ↓reduceIte]
  exact hQ
end MS
