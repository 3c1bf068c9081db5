/-! THE MODEL'S METHODS: the digest -/
theorem mxl_add (g : Nat → Int) : ∀ (d e i : Nat) (h : Int64), mxl g h i (d + e) = mxl g (mxl g h i d) (i + d) e := by
  intro d
  induction d with
  | zero => intro e i h; rw [Nat.zero_add]; rfl
  | succ d ih =>
    intro e i h
    rw [show d + 1 + e = (d + e) + 1 by omega, mxl, ih, mxl, show i + 1 + d = i + (d + 1) by omega]
theorem mh_mh (M : MG) (a b : Int64) : mh (mh M a) b = mh M b := rfl
theorem mh_self (M : MG) : mh M M.2.2 = M := rfl
theorem mxl_s (g : Nat → Int) (h : Int64) (i d : Nat) : mxl g h i (d + 1) = mxl g (31 * h + iL (g i)) (i + 1) d := rfl
/-- the buffer, told twice -/
def qT (T : TG) (M : MG) : Prop := wfT T ∧ M.1 2 = T.2 ∧ (∀ i : Nat, (i : Int) < T.2 → M.2.1 3 i = T.1 i ∧ 33 ≤ T.1 i ∧ T.1 i ≤ 126)
section MX
variable {xs : List Int} {f : AH} {M : MG} {μ : Mu} {y pc : Nat} {L st : List AV} {Q : Out → Mu → AH → Prop} {σ : SG} {T : TG} {z : Nat → Int}
theorem rel.pif (h : rel σ z) {e : Nat} (he : e < 6) : fo (σ.1 4) e 0 8 = z (5 + e) := by
  have r := h.F.2.1 e he
  by_cases c : z (5 + e) = -1
  · rw [c]; exact (emp_q h.F he).mpr c
  · obtain ⟨p, hp⟩ : ∃ p : Nat, z (5 + e) = p := ⟨(z (5 + e)).toNat, by omega⟩
    rw [hp]
    refine fo_some 8 0 p (Nat.zero_le _) (by omega) ((h.F.2.2 e p he (by omega)).mp hp) (fun k _ hk x => ?_)
    have := (h.F.2.2 e k he (by omega)).mpr x
    omega
theorem dg_a {a : Nat} (l2 : Nat) : ∀ (d k : Nat) (M : MG), k + d = 4 → rel σ (M.2.1 0) → (a : Int) < σ.2 0 → (Wp xs 142 14 [vr 190, vi a, vi k] [] μ (putM f M) Q = Wp xs 142 36 [vr 190, vi a, vi 4] [] μ (putM f (mh M (mxl (fun i => askv σ (i / 4 : Nat) (i % 4)) M.2.2 (4 * a + k) d))) Q) := by
  intro d
  induction d with
  | zero =>
    intro k M hk h ha
    have hk : k = 4 := by omega
    subst hk
    simp (disch := first | omega | rfl) only [e142_14, e142_15, e142_16, WpV_some, WpH_some, ↓ite_t, ↓ite_f, mxl, mh_self, Int.cast_ofNat_Int]
  | succ d ih =>
    intro k M hk h ha
    have q1 := cI_v (m112 (xs := xs) (f := f) (M := M) (μ := μ) h a k (by omega) ha (by omega) (by omega)) M_o h190
    rw [Int.toNat_natCast] at q1
    have q2 := fun v => cI_n (m141 (xs := xs) (f := f) (M := M) (μ := μ) v) M_o h190
    have q := ih (k + 1) (mh M (31 * M.2.2 + iL (askv σ a k))) (by omega) h ha
    simp only [Int.natCast_add, Int.cast_ofNat_Int, mh_mh, mh_h] at q
    have e1 : askv σ ((4 * a + k) / 4 : Nat) ((4 * a + k) % 4) = askv σ a k := by rw [show (4 * a + k) / 4 = a by omega, show (4 * a + k) % 4 = k by omega]
    rw [e142_14, mxl_s]
    rw [e1]
    simp (disch := first | omega | rfl) only [e142_15, e142_16, e142_19, e142_20, e142_21, e142_22, e142_23, e142_26, e142_27, e142_30, e142_33, WpV_some, WpH_some, ↓ite_t, ↓ite_f, q1, q2, wrp_id, q, Nat.add_assoc]
theorem dg_b : ∀ (d a : Nat) (M : MG) (l2 : AV), (a : Int) + d = σ.2 0 → rel σ (M.2.1 0) → ∃ l2', (Wp xs 142 2 [vr 190, vi a, l2] [] μ (putM f M) Q = Wp xs 142 42 [vr 190, vi (σ.2 0), l2'] [] μ (putM f (mh M (mxl (fun i => askv σ (i / 4 : Nat) (i % 4)) M.2.2 (4 * a) (4 * d)))) Q) := by
  intro d
  induction d with
  | zero =>
    intro a M l2 ha h
    refine ⟨l2, ?_⟩
    have ha : (a : Int) = σ.2 0 := by omega
    rw [ha]
    simp (disch := first | omega | rfl) only [e142_2, e142_3, e142_4, e142_7, e142_8, e142_9, WpV_some, WpH_some, ↓ite_t, ↓ite_f, M_f0, M_f1, M_f2, M_f3, M_f4, M_f5, M_f6, M_f7, M_f8, M_f9, M_f10, M_p0, M_p3, M_p6, M_p7, M_p10, M_g_0, M_g_1, M_g_2, M_g_3, M_g_4, M_g_5, M_s_0, M_s_1, M_s_2, M_s_3, M_s_4, M_s_5, Int.reduceToNat, h.n.1, mxl, mh_self, Nat.mul_zero]
  | succ d ih =>
    intro a M l2 ha h
    have q1 := dg_a (xs := xs) (f := f) (μ := μ) (Q := Q) (σ := σ) (a := a) 0 4 0 M rfl h (by omega)
    simp only [Int.cast_ofNat_Int, Nat.add_zero] at q1
    obtain ⟨l2', q⟩ := ih (a + 1) (mh M (mxl (fun i => askv σ (i / 4 : Nat) (i % 4)) M.2.2 (4 * a) 4)) (vi 4) (by omega) h
    simp only [Int.natCast_add, Int.cast_ofNat_Int, mh_mh, mh_h] at q
    refine ⟨l2', ?_⟩
    rw [show 4 * (d + 1) = 4 + 4 * d by omega, mxl_add, show 4 * a + 4 = 4 * (a + 1) by omega, ← q, e142_2]
    have n0 := h.n.1
    have w3 := h.wf.2.2.1
    simp (disch := first | omega | rfl) only [e142_3, e142_4, e142_7, e142_8, e142_9, e142_12, e142_13, e142_36, e142_39, WpV_some, WpH_some, ↓ite_t, ↓ite_f, M_f0, M_f1, M_f2, M_f3, M_f4, M_f5, M_f6, M_f7, M_f8, M_f9, M_f10, M_p0, M_p3, M_p6, M_p7, M_p10, M_g_0, M_g_1, M_g_2, M_g_3, M_g_4, M_g_5, M_s_0, M_s_1, M_s_2, M_s_3, M_s_4, M_s_5, Int.reduceToNat, n0, q1, wrp_id]
theorem dg_c {a : Nat} (ha : a < 8) : ∀ (d k : Nat) (M : MG), k + d = 8 → rel σ (M.2.1 0) → (Wp xs 142 52 [vr 190, vi a, vi k] [] μ (putM f M) Q = Wp xs 142 75 [vr 190, vi a, vi 8] [] μ (putM f (mh M (mxl (fun i => pgv σ (i / 8 : Nat) (i % 8)) M.2.2 (8 * a + k) d))) Q) := by
  intro d
  induction d with
  | zero =>
    intro k M hk h
    have hk : k = 8 := by omega
    subst hk
    simp (disch := first | omega | rfl) only [e142_52, e142_53, e142_55, WpV_some, WpH_some, ↓ite_t, ↓ite_f, mxl, mh_self, Int.cast_ofNat_Int]
  | succ d ih =>
    intro k M hk h
    have q1 := cI_v (m114 (xs := xs) (f := f) (M := M) (μ := μ) h (p := (a : Nat)) rfl ha k (by omega) (by omega)) M_o h190
    rw [Int.toNat_natCast] at q1
    have q2 := fun v => cI_n (m141 (xs := xs) (f := f) (M := M) (μ := μ) v) M_o h190
    have q := ih (k + 1) (mh M (31 * M.2.2 + iL (pgv σ a k))) (by omega) h
    simp only [Int.natCast_add, Int.cast_ofNat_Int, mh_mh, mh_h] at q
    have e1 : pgv σ ((8 * a + k) / 8 : Nat) ((8 * a + k) % 8) = pgv σ a k := by rw [show (8 * a + k) / 8 = a by omega, show (8 * a + k) % 8 = k by omega]
    rw [e142_52, mxl_s]
    rw [e1]
    simp (disch := first | omega | rfl) only [e142_53, e142_55, e142_58, e142_59, e142_60, e142_61, e142_62, e142_65, e142_66, e142_69, e142_72, WpV_some, WpH_some, ↓ite_t, ↓ite_f, q1, q2, wrp_id, q, Nat.add_assoc]
theorem dg_d : ∀ (d a : Nat) (M : MG) (l2 : AV), a + d = 8 → rel σ (M.2.1 0) → ∃ l2', (Wp xs 142 44 [vr 190, vi a, l2] [] μ (putM f M) Q = Wp xs 142 81 [vr 190, vi 8, l2'] [] μ (putM f (mh M (mxl (fun i => pgv σ (i / 8 : Nat) (i % 8)) M.2.2 (8 * a) (8 * d)))) Q) := by
  intro d
  induction d with
  | zero =>
    intro a M l2 ha h
    refine ⟨l2, ?_⟩
    have ha : a = 8 := by omega
    subst ha
    simp (disch := first | omega | rfl) only [e142_44, e142_45, e142_47, WpV_some, WpH_some, ↓ite_t, ↓ite_f, mxl, mh_self, Nat.mul_zero, Int.cast_ofNat_Int]
  | succ d ih =>
    intro a M l2 ha h
    have q1 := dg_c (xs := xs) (f := f) (μ := μ) (Q := Q) (σ := σ) (a := a) (by omega) 8 0 M rfl h
    simp only [Int.cast_ofNat_Int, Nat.add_zero] at q1
    obtain ⟨l2', q⟩ := ih (a + 1) (mh M (mxl (fun i => pgv σ (i / 8 : Nat) (i % 8)) M.2.2 (8 * a) 8)) (vi 8) (by omega) h
    simp only [Int.natCast_add, Int.cast_ofNat_Int, mh_mh, mh_h] at q
    refine ⟨l2', ?_⟩
    rw [show 8 * (d + 1) = 8 + 8 * d by omega, mxl_add, show 8 * a + 8 = 8 * (a + 1) by omega, ← q, e142_44]
    simp (disch := first | omega | rfl) only [e142_45, e142_47, e142_50, e142_51, e142_75, e142_78, WpV_some, WpH_some, ↓ite_t, ↓ite_f, q1, wrp_id]
theorem dg_e (l2 : AV) : ∀ (d a : Nat) (M : MG), (a : Int) + d = σ.2 2 → rel σ (M.2.1 0) → (Wp xs 142 83 [vr 190, vi a, l2] [] μ (putM f M) Q = Q (.inl none) μ (putM f (mh M (mxl (fun i => fo (σ.1 4) i 0 8) M.2.2 a d)))) := by
  intro d
  induction d with
  | zero =>
    intro a M ha h
    simp (disch := first | omega | rfl) only [e142_83, e142_84, e142_85, e142_88, e142_89, e142_90, e142_112, WpV_some, WpH_some, ↓ite_t, ↓ite_f, M_f0, M_f1, M_f2, M_f3, M_f4, M_f5, M_f6, M_f7, M_f8, M_f9, M_f10, M_p0, M_p3, M_p6, M_p7, M_p10, M_g_0, M_g_1, M_g_2, M_g_3, M_g_4, M_g_5, M_s_0, M_s_1, M_s_2, M_s_3, M_s_4, M_s_5, Int.reduceToNat, h.n.2.2, mxl, mh_self]
  | succ d ih =>
    intro a M ha h
    obtain ⟨w1, w2, w3, w4, w5⟩ := h.wf
    have q2 := fun v => cI_n (m141 (xs := xs) (f := f) (M := M) (μ := μ) v) M_o h190
    have q := ih (a + 1) (mh M (31 * M.2.2 + iL (M.2.1 0 (5 + a)))) (by omega) h
    simp only [Int.natCast_add, Int.cast_ofNat_Int, mh_mh, mh_h] at q
    have n2 := h.n.2.2
    rw [e142_83, mxl_s]
    rw [h.pif (by omega)]
    simp (disch := first | omega | rfl) only [e142_84, e142_85, e142_88, e142_89, e142_90, e142_93, e142_94, e142_95, e142_98, e142_99, e142_100, e142_101, e142_102, e142_103, e142_106, e142_109, WpV_some, WpH_some, ↓ite_t, ↓ite_f, M_f0, M_f1, M_f2, M_f3, M_f4, M_f5, M_f6, M_f7, M_f8, M_f9, M_f10, M_p0, M_p3, M_p6, M_p7, M_p10, M_g_0, M_g_1, M_g_2, M_g_3, M_g_4, M_g_5, M_s_0, M_s_1, M_s_2, M_s_3, M_s_4, M_s_5, Int.reduceToNat, n2, q2, wrp_id, tn5, q]
theorem m142 (h : rel σ (M.2.1 0)) : Runs xs 142 [vr 190] μ (putM f M) (.inl none) μ (putM f (mh M (mxl (fun i => fo (σ.1 4) i 0 8) (mxl (fun i => pgv σ (i / 8 : Nat) (i % 8)) (mxl (fun i => askv σ (i / 4 : Nat) (i % 4)) M.2.2 0 (σ.2 0 * 4).toNat) 0 64) 0 (σ.2 2).toNat))) := Runs.iff fun Q hQ => by
  show Wp xs 142 0 [vr 190, vu, vu] [] μ (putM f M) Q
  obtain ⟨w1, w2, w3, w4, w5⟩ := h.wf
  obtain ⟨l2, q1⟩ := dg_b (xs := xs) (f := f) (μ := μ) (Q := Q) (σ := σ) (σ.2 0).toNat 0 M vu (by omega) h
  rw [show 4 * (σ.2 0).toNat = (σ.2 0 * 4).toNat by omega, Nat.mul_zero] at q1
  simp only [Int.cast_ofNat_Int] at q1
  generalize mxl (fun i => askv σ (i / 4 : Nat) (i % 4)) M.2.2 0 (σ.2 0 * 4).toNat = h1 at q1 hQ
  obtain ⟨l2', q2⟩ := dg_d (xs := xs) (f := f) (μ := μ) (Q := Q) (σ := σ) 8 0 (mh M h1) l2 rfl h
  simp only [Int.cast_ofNat_Int, mh_mh, mh_h, Nat.mul_zero, Nat.reduceMul] at q2
  generalize mxl (fun i => pgv σ (i / 8 : Nat) (i % 8)) h1 0 64 = h2 at q2 hQ
  have q3 := dg_e (xs := xs) (f := f) (μ := μ) (Q := Q) (σ := σ) l2' (σ.2 2).toNat 0 (mh M h2) (by omega) h
  simp only [Int.cast_ofNat_Int, mh_mh, mh_h] at q3
  simp (disch := first | omega | rfl) only [e142_0, e142_1]
  rw [q1]
  simp (disch := first | omega | rfl) only [e142_42, e142_43]
  rw [q2]
  simp (disch := first | omega | rfl) only [e142_81, e142_82]
  rw [q3]
  exact hQ
theorem dg_f {sc : Int} : ∀ (d k : Nat) (M : MG), k + d = 10 → rel σ (M.2.1 0) → M.1 1 = sc → (Wp xs 140 14 [vr 190, vi k] [] μ (putM f M) Q = Wp xs 140 36 [vr 190, vi 10] [] μ (putM f (mh M (mxl (fun i => cnt sc σ i) M.2.2 k d))) Q) := by
  intro d
  induction d with
  | zero =>
    intro k M hk h hs
    have hk : k = 10 := by omega
    subst hk
    simp (disch := first | omega | rfl) only [e140_14, e140_15, e140_17, WpV_some, WpH_some, ↓ite_t, ↓ite_f, mxl, mh_self, Int.cast_ofNat_Int]
  | succ d ih =>
    intro k M hk h hs
    have q1 := cI_v (m118 (xs := xs) (f := f) (M := M) (μ := μ) h hs k (by omega) (by omega)) M_o h190
    rw [Int.toNat_natCast] at q1
    have q2 := fun v => cI_n (m141 (xs := xs) (f := f) (M := M) (μ := μ) v) M_o h190
    have q := ih (k + 1) (mh M (31 * M.2.2 + iL (cnt sc σ k))) (by omega) h hs
    simp only [Int.natCast_add, Int.cast_ofNat_Int, mh_mh, mh_h] at q
    rw [e140_14, mxl_s]
    simp (disch := first | omega | rfl) only [e140_15, e140_17, e140_20, e140_21, e140_22, e140_23, e140_26, e140_27, e140_30, e140_33, WpV_some, WpH_some, ↓ite_t, ↓ite_f, q1, q2, wrp_id, q]
theorem dg_g : ∀ (d k : Nat) (M : MG), k + d = 9 → rel σ (M.2.1 0) → ∃ M', sim (mh M (mxl (fun i => byr (fn σ (i / 3 : Nat)) σ (i % 3)) M.2.2 k d)) M' ∧ ∀ Q, (Wp xs 140 51 [vr 190, vi k] [] μ (putM f M) Q = Wp xs 140 78 [vr 190, vi 9] [] μ (putM f M') Q) := by
  intro d
  induction d with
  | zero =>
    intro k M hk h
    have hk : k = 9 := by omega
    subst hk
    refine ⟨M, sim.rfl M, fun Q => ?_⟩
    simp (disch := first | omega | rfl) only [e140_51, e140_52, e140_54, WpV_some, WpH_some, ↓ite_t, ↓ite_f, Int.cast_ofNat_Int]
  | succ d ih =>
    intro k M hk h
    have e1 : iDiv (k : Int) 3 = ((k / 3 : Nat) : Int) := by rw [iDiv_c (by omega) (by omega) (by decide) (by decide)]; omega
    have e2 : iRem (k : Int) 3 = ((k % 3 : Nat) : Int) := by rw [iRem_c (by omega) (by omega) (by decide) (by decide)]; omega
    obtain ⟨M1, hs1, hr1⟩ := m124 (xs := xs) (f := f) (M := M) (μ := μ) h ((k / 3 : Nat) : Int) ((k % 3 : Nat) : Int) (by omega) (by omega) (by omega)
    rw [Int.toNat_natCast] at hr1
    have q1 := cI_v hr1 M_o h190
    have q2 := fun v => cI_n (m141 (xs := xs) (f := f) (M := M1) (μ := μ) v) M_o h190
    obtain ⟨M2, hs2, hq2⟩ := ih (k + 1) (mh M1 (31 * M.2.2 + iL (byr (fn σ (k / 3 : Nat)) σ (k % 3)))) (by omega) (by show rel σ (M1.2.1 0); rw [hs1.1]; exact h)
    refine ⟨M2, ?_, fun Q => ?_⟩
    · rw [mxl_s]
      rw [mh_mh, mh_h] at hs2
      obtain ⟨a1, a2, a3, a4, a5, a6, a7⟩ := hs1
      obtain ⟨b1, b2, b3, b4, b5, b6, b7⟩ := hs2
      exact ⟨b1.trans a1, b2.trans a2, b3.trans a3, b4.trans a4, b5.trans a5, b6.trans a6, b7⟩
    · have q := hq2 Q
      simp only [Int.natCast_add, Int.cast_ofNat_Int] at q
      rw [e140_51]
      rw [hs1.2.2.2.2.2.2] at q2
      simp (disch := first | omega | rfl) only [e140_52, e140_54, e140_57, e140_58, e140_59, e140_60, e140_61, e140_62, e140_63, e140_64, e140_65, e140_68, e140_69, e140_72, e140_75, WpV_some, WpH_some, ↓ite_t, ↓ite_f, e1, e2, q1, q2, wrp_id, q]
theorem dg_h (hT : qT T M) : ∀ (d k : Nat) (M : MG), (k : Int) + d = T.2 → qT T M → (Wp xs 140 169 [vr 190, vi k] [] μ (putM f M) Q = Q (.inl (some (vl (mxl (fun i => cA T i) M.2.2 k d)))) μ (putM f (mh M (mxl (fun i => cA T i) M.2.2 k d)))) := by
  intro d
  induction d with
  | zero =>
    intro k M hk hT
    obtain ⟨t1, t2, t3⟩ := hT
    simp (disch := first | omega | rfl) only [e140_169, e140_170, e140_171, e140_174, e140_194, e140_195, e140_198, WpV_some, WpH_some, ↓ite_t, ↓ite_f, M_f0, M_f1, M_f2, M_f3, M_f4, M_f5, M_f6, M_f7, M_f8, M_f9, M_f10, M_p0, M_p3, M_p6, M_p7, M_p10, M_g_0, M_g_1, M_g_2, M_g_3, M_g_4, M_g_5, M_s_0, M_s_1, M_s_2, M_s_3, M_s_4, M_s_5, t2, mxl, mh_self]
  | succ d ih =>
    intro k M hk hT
    have hT0 := hT
    obtain ⟨⟨t0, t01, t02⟩, t2, t3⟩ := hT0
    have t4 := t3 k (by omega)
    have q2 := fun v => cI_n (m141 (xs := xs) (f := f) (M := M) (μ := μ) v) M_o h190
    have q := ih (k + 1) (mh M (31 * M.2.2 + iL (M.2.1 3 k))) (by omega) hT
    simp only [Int.natCast_add, Int.cast_ofNat_Int, mh_mh, mh_h] at q
    have e1 : cA T k = M.2.1 3 k := by
      unfold cA
      rw [if_pos (by omega), rg_n _ (by omega), t4.1]
    rw [e140_169, mxl_s]
    rw [e1]
    simp (disch := first | omega | rfl) only [e140_170, e140_171, e140_174, e140_177, e140_178, e140_179, e140_182, e140_183, e140_184, e140_185, e140_188, e140_191, WpV_some, WpH_some, ↓ite_t, ↓ite_f, M_f0, M_f1, M_f2, M_f3, M_f4, M_f5, M_f6, M_f7, M_f8, M_f9, M_f10, M_p0, M_p3, M_p6, M_p7, M_p10, M_g_0, M_g_1, M_g_2, M_g_3, M_g_4, M_g_5, M_s_0, M_s_1, M_s_2, M_s_3, M_s_4, M_s_5, t2, Int.toNat_natCast, q2, wrp_id, q]
theorem by9_m (σ : SG) (h : Int64) : mxl (fun i => byr (fn σ (i / 3 : Nat)) σ (i % 3)) h 0 9 = by9 σ h := rfl
theorem m140 (h : rel σ (M.2.1 0)) (hT : qT T M) {sc : Int} (hs : M.1 1 = sc) (b : Int64) (hn : nn64 (shr (co (σ.1 2) 0 0 (σ.2 1).toNat) (σ.2 1)) = true) (hb : bmF (shr (co (σ.1 2) 0 0 (σ.2 1).toNat) (σ.2 1)) = some b) : ∃ M', sim (mh (mS M 0 0) (dgs sc T σ b)) M' ∧ Runs xs 140 [vr 190] μ (putM f M) (.inl (some (vl (dgs sc T σ b)))) μ (putM f M') := by
  obtain ⟨w1, w2, w3, w4, w5⟩ := h.wf
  obtain ⟨n0, n1, n2⟩ := h.n
  -- the numbers and the plan
  have hM0 : ∀ v, rel σ ((mh (mS M 0 0) v).2.1 0) := fun v => h
  have q1 := fun Q => dg_f (xs := xs) (f := f) (μ := μ) (Q := Q) (σ := σ) (sc := sc) 10 0 (mh (mS M 0 0) 3001) rfl (hM0 _) hs
  have q2 := fun v => cI_n (m142 (xs := xs) (f := f) (μ := μ) (σ := σ) (hM0 v)) M_o h190
  have q3 := fun v => cI_v (m122 (xs := xs) (f := f) (μ := μ) (σ := σ) (hM0 v)) M_o h190
  have qm := fun (M' : MG) v => cI_n (m141 (xs := xs) (f := f) (M := M') (μ := μ) v) M_o h190
  simp only [Int.cast_ofNat_Int, mh_mh, mh_h] at q1 q2 q3
  have e1 : mxl (fun i => fo (σ.1 4) i 0 8) (mxl (fun i => pgv σ (i / 8 : Nat) (i % 8)) (mxl (fun i => askv σ (i / 4 : Nat) (i % 4)) (mxl (fun i => cnt sc σ i) 3001 0 10) 0 (σ.2 0 * 4).toNat) 0 64) 0 (σ.2 2).toNat = dg1 sc σ := rfl
  -- the rules
  obtain ⟨M4, s4, g4⟩ := dg_g (xs := xs) (f := f) (μ := μ) (σ := σ) 9 0 (mh (mS M 0 0) (31 * dg1 sc σ + iL (vic σ))) rfl (hM0 _)
  rw [mh_mh, mh_h, by9_m] at s4
  have h4 : rel σ (M4.2.1 0) := by rw [s4.1]; exact h
  have H4 := s4.2.2.2.2.2.2
  rw [mh_h] at H4
  -- the fewest reads, the frames
  obtain ⟨M5, s5, r5⟩ := m129 (xs := xs) (f := f) (μ := μ) (σ := σ) h4
  have H5 := s5.2.2.2.2.2.2
  rw [H4] at H5
  have h5 : rel σ (M5.2.1 0) := by rw [s5.1]; exact h4
  obtain ⟨M6, s6, r6⟩ := m133 (xs := xs) (f := f) (μ := μ) (σ := σ) (M := mh M5 (31 * M5.2.2 + iL (rdO (fn σ 0) σ))) h5 5 (fn σ 0)
  have H6 := s6.2.2.2.2.2.2
  rw [mh_h, H5] at H6
  have h6 : rel σ (M6.2.1 0) := by rw [s6.1]; exact h5
  obtain ⟨M7, s7, r7⟩ := m133 (xs := xs) (f := f) (μ := μ) (σ := σ) (M := mh M6 (31 * M6.2.2 + iL (ffr σ 5 (fn σ 0) (σ.2 2).toNat (7 - (σ.2 2).toNat)).1)) h6 10 (ffr σ 5 (fn σ 0) (σ.2 2).toNat (7 - (σ.2 2).toNat)).2
  have H7 := s7.2.2.2.2.2.2
  rw [mh_h, H6] at H7
  have h7 : rel σ (M7.2.1 0) := by rw [s7.1]; exact h6
  obtain ⟨k0, k1, k2⟩ := h7.n
  have e2 : 31 * (31 * (31 * by9 σ (31 * dg1 sc σ + iL (vic σ)) + iL (rdO (fn σ 0) σ)) + iL (ffr σ 5 (fn σ 0) (σ.2 2).toNat (7 - (σ.2 2).toNat)).1) + iL (ffr σ 10 (ffr σ 5 (fn σ 0) (σ.2 2).toNat (7 - (σ.2 2).toNat)).2 (σ.2 2).toNat (7 - (σ.2 2).toNat)).1 = dg2 σ (dg1 sc σ) := rfl
  -- an ask taken out
  obtain ⟨M8, s8, H8, g8⟩ : ∃ M8, sim M7 (mh M8 M7.2.2) ∧ M8.2.2 = dg3 σ (dg2 σ (dg1 sc σ)) ∧ ∀ Q l, Wp xs 140 108 [vr 190, l] [] μ (putM f (mh M7 (31 * M7.2.2 + iL (ffr σ 10 (ffr σ 5 (fn σ 0) (σ.2 2).toNat (7 - (σ.2 2).toNat)).2 (σ.2 2).toNat (7 - (σ.2 2).toNat)).1))) Q = Wp xs 140 138 [vr 190, l] [] μ (putM f M8) Q := by
    rw [H7, e2]
    unfold dg3
    by_cases c : 0 < σ.2 0 - σ.2 1
    · rw [if_pos c]
      obtain ⟨M8, s8, r8⟩ := m135 (xs := xs) (f := f) (μ := μ) (σ := σ) (M := mh M7 (dg2 σ (dg1 sc σ))) h7 (i := σ.2 1) (j := (σ.2 1).toNat) (by omega) (Int.le_refl _) (by omega)
      have H8 := s8.2.2.2.2.2.2
      rw [mh_h] at H8
      refine ⟨mh M8 (31 * M8.2.2 + iL (rdO (fn (tka σ (σ.2 1)) 0) σ)), ?_, by rw [mh_h, H8]; rfl, fun Q l => ?_⟩
      · obtain ⟨a1, a2, a3, a4, a5, a6, a7⟩ := s8
        exact ⟨a1, a2, a3, a4, a5, a6, H7.symm⟩
      · simp (disch := first | omega | rfl) only [e140_108, e140_109, e140_112, e140_113, e140_114, e140_115, e140_118, e140_119, e140_120, e140_123, e140_124, e140_125, e140_126, e140_129, e140_130, e140_131, e140_134, e140_135, WpV_some, WpH_some, ↓ite_t, ↓ite_f, M_f0, M_f1, M_f2, M_f3, M_f4, M_f5, M_f6, M_f7, M_f8, M_f9, M_f10, M_p0, M_p3, M_p6, M_p7, M_p10, M_g_0, M_g_1, M_g_2, M_g_3, M_g_4, M_g_5, M_s_0, M_s_1, M_s_2, M_s_3, M_s_4, M_s_5, mAr_same, mAr_mAr, mAr_1, mAr_h, mS_2, mS_same, mS_mS, mAr_mS, mh_1, mh_2, mh_h, mAr_01, mAr_02, mAr_03, mAr_04, mAr_05, mAr_10, mAr_12, mAr_13, mAr_14, mAr_15, mAr_20, mAr_21, mAr_23, mAr_24, mAr_25, mAr_30, mAr_31, mAr_32, mAr_34, mAr_35, mAr_40, mAr_41, mAr_42, mAr_43, mAr_45, mAr_50, mAr_51, mAr_52, mAr_53, mAr_54, mS_01, mS_02, mS_03, mS_10, mS_12, mS_13, mS_20, mS_21, mS_23, mS_30, mS_31, mS_32, Int.reduceToNat, k0, k1, cI_v r8 M_o h190, qm]
    · rw [if_neg c]
      refine ⟨mh M7 (dg2 σ (dg1 sc σ)), ⟨rfl, rfl, rfl, rfl, rfl, rfl, H7.symm⟩, rfl, fun Q l => ?_⟩
      simp (disch := first | omega | rfl) only [e140_108, e140_109, e140_112, e140_113, e140_114, e140_115, e140_118, e140_119, e140_120, WpV_some, WpH_some, ↓ite_t, ↓ite_f, M_f0, M_f1, M_f2, M_f3, M_f4, M_f5, M_f6, M_f7, M_f8, M_f9, M_f10, M_p0, M_p3, M_p6, M_p7, M_p10, M_g_0, M_g_1, M_g_2, M_g_3, M_g_4, M_g_5, M_s_0, M_s_1, M_s_2, M_s_3, M_s_4, M_s_5, mAr_same, mAr_mAr, mAr_1, mAr_h, mS_2, mS_same, mS_mS, mAr_mS, mh_1, mh_2, mh_h, mAr_01, mAr_02, mAr_03, mAr_04, mAr_05, mAr_10, mAr_12, mAr_13, mAr_14, mAr_15, mAr_20, mAr_21, mAr_23, mAr_24, mAr_25, mAr_30, mAr_31, mAr_32, mAr_34, mAr_35, mAr_40, mAr_41, mAr_42, mAr_43, mAr_45, mAr_50, mAr_51, mAr_52, mAr_53, mAr_54, mS_01, mS_02, mS_03, mS_10, mS_12, mS_13, mS_20, mS_21, mS_23, mS_30, mS_31, mS_32, Int.reduceToNat, k0, k1]
  have h8 : rel σ (M8.2.1 0) := by rw [show M8.2.1 0 = M7.2.1 0 from s8.1]; exact h7
  obtain ⟨M9, s9, r9⟩ := m137 (xs := xs) (f := f) (μ := μ) (σ := σ) h8 (dt3 σ (dt2 σ))
  have H9 := s9.2.2.2.2.2.2
  rw [H8] at H9
  have h9 : ∀ v, rel σ ((mh M9 v).2.1 0) := fun v => by show rel σ (M9.2.1 0); rw [s9.1]; exact h8
  have q9 := fun v => cI_v (m139 (xs := xs) (f := f) (μ := μ) (σ := σ) (h9 v) hn) M_o h190
  have qb := fun (f : AH) => cC_v (m143 (xs := xs) (μ := μ) (f := f) hb)
  -- what is left of the buffer
  have sa : sim (mS M 0 0) (mh M9 (mS M 0 0).2.2) := by
    obtain ⟨a1, a2, a3, a4, a5, a6, a7⟩ := s4
    obtain ⟨b1, b2, b3, b4, b5, b6, b7⟩ := s5
    obtain ⟨c1, c2, c3, c4, c5, c6, c7⟩ := s6
    obtain ⟨d1, d2, d3, d4, d5, d6, d7⟩ := s7
    obtain ⟨f1, f2, f3, f4, f5, f6, f7⟩ := s8
    obtain ⟨g1, g2, g3, g4', g5, g6, g7⟩ := s9
    exact ⟨g1.trans (f1.trans (d1.trans (c1.trans (b1.trans a1)))), g2.trans (f2.trans (d2.trans (c2.trans (b2.trans a2)))), g3.trans (f3.trans (d3.trans (c3.trans (b3.trans a3)))), g4'.trans (f4.trans (d4.trans (c4.trans (b4.trans a4)))), g5.trans (f5.trans (d5.trans (c5.trans (b5.trans a5)))), g6.trans (f6.trans (d6.trans (c6.trans (b6.trans a6)))), rfl⟩
  have hT9 : ∀ v, qT T (mh M9 v) := fun v => by
    obtain ⟨t1, t2, t3⟩ := hT
    refine ⟨t1, ?_, fun i hi => ?_⟩
    · rw [show (mh M9 v).1 2 = M.1 2 from sa.2.2.2.2.2.1]; exact t2
    · rw [show (mh M9 v).2.1 3 = M.2.1 3 from sa.2.2.1]; exact t3 i hi
  have t2 : M9.1 2 = T.2 := (hT9 0).2.1
  have tw := hT.1
  obtain ⟨t0, t01, t02⟩ := tw
  have qh := fun Q => dg_h (xs := xs) (f := f) (μ := μ) (Q := Q) (hT9 0) T.2.toNat 0 (mh M9 (31 * (31 * (31 * M9.2.2 + iL (bp σ (dt3 σ (dt2 σ))).1) + b) + iL T.2)) (by omega) (hT9 _)
  simp only [Int.cast_ofNat_Int, mh_mh, mh_h] at qh
  have e3 : mxl (fun i => cA T i) (31 * (31 * (31 * dg3 σ (dg2 σ (dg1 sc σ)) + iL (bp σ (dt3 σ (dt2 σ))).1) + b) + iL T.2) 0 T.2.toNat = dgs sc T σ b := rfl
  rw [H9, e3] at qh
  refine ⟨mh M9 (dgs sc T σ b), ?_, Runs.iff fun Q hQ => ?_⟩
  · obtain ⟨a1, a2, a3, a4, a5, a6, a7⟩ := sa
    exact ⟨a1, a2, a3, a4, a5, a6, rfl⟩
  show Wp xs 140 0 [vr 190, vu] [] μ (putM f M) Q
  simp (disch := first | omega | rfl) only [e140_0, e140_1, e140_2, e140_5, e140_6, e140_9, e140_12, e140_13, WpV_some, WpH_some, ↓ite_t, ↓ite_f, M_f0, M_f1, M_f2, M_f3, M_f4, M_f5, M_f6, M_f7, M_f8, M_f9, M_f10, M_p0, M_p3, M_p6, M_p7, M_p10, M_g_0, M_g_1, M_g_2, M_g_3, M_g_4, M_g_5, M_s_0, M_s_1, M_s_2, M_s_3, M_s_4, M_s_5]
  rw [q1]
  have g4 := g4 Q
  simp only [Int.cast_ofNat_Int] at g4
  simp (disch := first | omega | rfl) only [e140_36, e140_37, e140_40, e140_41, e140_42, e140_45, e140_46, e140_49, e140_50, WpV_some, WpH_some, ↓ite_t, ↓ite_f, q2, e1, q3, qm, mh_mh, mh_h, g4]
  simp (disch := first | omega | rfl) only [e140_78, e140_79, e140_80, e140_83, e140_84, e140_87, e140_88, e140_89, e140_90, e140_93, e140_94, e140_97, e140_98, e140_99, e140_101, e140_104, e140_105, WpV_some, WpH_some, ↓ite_t, ↓ite_f, cI_v r5 M_o h190, cI_v r6 M_o h190, cI_v r7 M_o h190, qm, g8]
  simp (disch := first | omega | rfl) only [e140_138, e140_139, e140_140, e140_143, e140_144, e140_147, e140_148, e140_149, e140_152, e140_155, e140_158, e140_159, e140_160, e140_163, e140_164, e140_167, e140_168, WpV_some, WpH_some, ↓ite_t, ↓ite_f, M_f0, M_f1, M_f2, M_f3, M_f4, M_f5, M_f6, M_f7, M_f8, M_f9, M_f10, M_p0, M_p3, M_p6, M_p7, M_p10, M_g_0, M_g_1, M_g_2, M_g_3, M_g_4, M_g_5, M_s_0, M_s_1, M_s_2, M_s_3, M_s_4, M_s_5, cI_v r9 M_o h190, q9, qb, qm, mh_mh, mh_h, mh_1, t2, H9, qh]
  exact hQ
end MX
