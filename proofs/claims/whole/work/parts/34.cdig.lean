/-! the digest -/
theorem i32_dv {x c : Int} (h0 : 0 ≤ x) (h1 : x < 2147483648) (hc : 0 < c) (hc2 : c < 2147483648) : i32 x / i32 c = i32 (x / c) := by
  have h2 : 0 ≤ x / c := Int.ediv_nonneg h0 (by omega)
  have h3 : x / c ≤ x := Int.ediv_le_self c h0
  apply Int32.toInt_inj.mp
  rw [Int32.toInt_div, i32_int (by omega) h1, i32_int (by omega) hc2, i32_int (by omega) (by omega), Int.tdiv_eq_ediv_of_nonneg h0]
  apply Int.bmod_eq_of_le <;> omega
theorem iDiv_c {x c : Int} (h0 : 0 ≤ x) (h1 : x < 2147483648) (hc : 0 < c) (hc2 : c < 2147483648) : iDiv x c = x / c := by
  have h2 : 0 ≤ x / c := Int.ediv_nonneg h0 (by omega)
  have h3 : x / c ≤ x := Int.ediv_le_self c h0
  unfold iDiv
  rw [i32_dv h0 h1 hc hc2, i32_int (by omega) (by omega)]
theorem iRem_c {x c : Int} (h0 : 0 ≤ x) (h1 : x < 2147483648) (hc : 0 < c) (hc2 : c < 2147483648) : iRem x c = x % c := by
  have h2 : 0 ≤ x % c := Int.emod_nonneg x (by omega)
  have h3 : x % c < c := Int.emod_lt_of_pos x hc
  unfold iRem
  rw [i32_dv h0 h1 hc hc2]
  have e : i32 x - i32 (x / c) * i32 c = i32 (x % c) := by
    unfold i32
    rw [← Int32.ofInt_mul, ← Int32.ofInt_sub]
    congr 1
    rw [Int.emod_def, Int.mul_comm]
  rw [e, i32_int (by omega) (by omega)]
def mxl (g : Nat → Int) (h : Int64) (i : Nat) : Nat → Int64
  | 0 => h
  | d + 1 => mxl g (31 * h + iL (g i)) (i + 1) d
def mx (h : Int64) (v : Int) : Int64 := 31 * h + iL v
section CD
variable {xs : List Int} {f : AH} {sc : Int} {T : TG} {τ σ : SG} {μ : Mu} {y pc : Nat} {L st : List AV} {Q : Out → Mu → AH → Prop}
theorem d1_loop (hw : wfS σ) : ∀ (d i : Nat) (h : Int64) (l4 : AV), i + d = 10 → (Wp xs 51 6 [vr 1, vl h, vu, vi i, l4] [] μ (PP f sc T τ σ) Q = Wp xs 51 29 [vr 1, vl (mxl (fun i => cnt sc σ i) h i d), vu, vi 10, l4] [] μ (PP f sc T τ σ) Q) := by
  intro d
  induction d with
  | zero =>
    intro i h l4 hi
    have hi : i = 10 := by omega
    subst hi
    simp (disch := first | omega | rfl) only [e51_6, e51_7, e51_9, WpV_some, WpH_some, ↓ite_t, ↓ite_f, mxl, Int.cast_ofNat_Int]
  | succ d ih =>
    intro i h l4 hi
    have q := fun h => ih (i + 1) h l4 (by omega)
    have q2 := m52 (xs := xs) (f := f) (sc := sc) (T := T) (τ := τ) (μ := μ) hw (i : Int) (by omega) (by omega)
    rw [Int.toNat_natCast] at q2
    simp only [Int.natCast_add, Int.cast_ofNat_Int] at q
    rw [e51_6]
    simp (disch := first | omega | rfl) only [e51_7, e51_9, e51_12, e51_13, e51_14, e51_15, e51_18, e51_19, e51_22, e51_23, e51_26, WpV_some, WpH_some, ↓ite_t, ↓ite_f, cI_v q2 P_o h1', cC_v (m53 _ _), wrp_id, q, mxl]
theorem d2_loop (hw : wfS σ) : ∀ (d i : Nat) (h : Int64) (l4 : AV), (i : Int) + d = σ.2 0 * 4 → (Wp xs 51 31 [vr 1, vl h, vu, vi i, l4] [] μ (PP f sc T τ σ) Q = Wp xs 51 66 [vr 1, vl (mxl (fun i => askv σ (i / 4 : Nat) (i % 4)) h i d), vu, vi (σ.2 0 * 4), l4] [] μ (PP f sc T τ σ) Q) := by
  have hw0 := hw
  obtain ⟨w1, w2, w3, w4, w5⟩ := hw0
  intro d
  induction d with
  | zero =>
    intro i h l4 hi
    have hi : (i : Int) = σ.2 0 * 4 := by omega
    rw [hi]
    simp (disch := first | omega | rfl) only [e51_31, e51_32, e51_33, e51_36, e51_39, e51_40, e51_41, WpV_some, WpH_some, ↓ite_t, ↓ite_f, P_f0, P_f1, P_f2, P_f3, P_f4, P_n0, P_n1, P_n2, P_n3, P_n4, P_n5, P_n6, P_n7, P_n8, P_n9, P_n10, P_n11, P_n12, P_n13, P_t0, P_t1, P_t2, P_t3, P_t4, P_t5, P_t6, P_t7, P_t8, P_t9, P_t10, P_t11, P_t12, P_t13, P_x0, P_x1, wrp_id, mxl]
  | succ d ih =>
    intro i h l4 hi
    have q := fun h => ih (i + 1) h l4 (by omega)
    have q2 := m54 (xs := xs) (f := f) (sc := sc) (T := T) (τ := τ) (σ := σ) (μ := μ) ((i : Int) / 4) ((i : Int) % 4) (by omega) (by omega) (by omega) (by omega)
    have e1 : ((i : Int) % 4).toNat = i % 4 := by omega
    have e2 : ((i : Int) / 4) = ((i / 4 : Nat) : Int) := by omega
    rw [e1] at q2
    have q3 := cI_v q2 P_o h1'
    simp only [Int.natCast_add, Int.cast_ofNat_Int] at q
    rw [e51_31]
    simp (disch := first | omega | rfl) only [e51_32, e51_33, e51_36, e51_39, e51_40, e51_41, e51_44, e51_45, e51_46, e51_47, e51_48, e51_49, e51_50, e51_51, e51_52, e51_55, e51_56, e51_59, e51_60, e51_63, WpV_some, WpH_some, ↓ite_t, ↓ite_f, P_f0, P_f1, P_f2, P_f3, P_f4, P_n0, P_n1, P_n2, P_n3, P_n4, P_n5, P_n6, P_n7, P_n8, P_n9, P_n10, P_n11, P_n12, P_n13, P_t0, P_t1, P_t2, P_t3, P_t4, P_t5, P_t6, P_t7, P_t8, P_t9, P_t10, P_t11, P_t12, P_t13, P_x0, P_x1, wrp_id, iDiv_c, iRem_c, q3, cC_v (m53 _ _), q, mxl]
    rw [e2]
theorem d3_loop (hw : wfS σ) : ∀ (d i : Nat) (h : Int64) (l4 : AV), i + d = 64 → (Wp xs 51 68 [vr 1, vl h, vu, vi i, l4] [] μ (PP f sc T τ σ) Q = Wp xs 51 98 [vr 1, vl (mxl (fun i => pgv σ (i / 8 : Nat) (i % 8)) h i d), vu, vi 64, l4] [] μ (PP f sc T τ σ) Q) := by
  intro d
  induction d with
  | zero =>
    intro i h l4 hi
    have hi : i = 64 := by omega
    subst hi
    simp (disch := first | omega | rfl) only [e51_68, e51_69, e51_71, WpV_some, WpH_some, ↓ite_t, ↓ite_f, mxl, Int.cast_ofNat_Int]
  | succ d ih =>
    intro i h l4 hi
    have q := fun h => ih (i + 1) h l4 (by omega)
    have q2 := m55 (xs := xs) (f := f) (sc := sc) (T := T) (τ := τ) (σ := σ) (μ := μ) hw ((i : Int) / 8) ((i : Int) % 8) (by omega) (by omega) (by omega) (by omega)
    have e1 : ((i : Int) % 8).toNat = i % 8 := by omega
    have e2 : ((i : Int) / 8) = ((i / 8 : Nat) : Int) := by omega
    rw [e1] at q2
    have q3 := cI_v q2 P_o h1'
    simp only [Int.natCast_add, Int.cast_ofNat_Int] at q
    rw [e51_68]
    simp (disch := first | omega | rfl) only [e51_69, e51_71, e51_74, e51_75, e51_76, e51_77, e51_79, e51_80, e51_81, e51_83, e51_84, e51_87, e51_88, e51_91, e51_92, e51_95, WpV_some, WpH_some, ↓ite_t, ↓ite_f, P_f0, P_f1, P_f2, P_f3, P_f4, P_n0, P_n1, P_n2, P_n3, P_n4, P_n5, P_n6, P_n7, P_n8, P_n9, P_n10, P_n11, P_n12, P_n13, P_t0, P_t1, P_t2, P_t3, P_t4, P_t5, P_t6, P_t7, P_t8, P_t9, P_t10, P_t11, P_t12, P_t13, P_x0, P_x1, wrp_id, iDiv_c, iRem_c, q3, cC_v (m53 _ _), q, mxl]
    rw [e2]
theorem d4_loop (hw : wfS σ) : ∀ (d i : Nat) (h : Int64) (l4 : AV), (i : Int) + d = σ.2 2 → (Wp xs 51 100 [vr 1, vl h, vu, vi i, l4] [] μ (PP f sc T τ σ) Q = Wp xs 51 131 [vr 1, vl (mxl (fun i => fo (σ.1 4) i 0 8) h i d), vu, vi (σ.2 2), l4] [] μ (PP f sc T τ σ) Q) := by
  have hw0 := hw
  obtain ⟨w1, w2, w3, w4, w5⟩ := hw0
  intro d
  induction d with
  | zero =>
    intro i h l4 hi
    have hi : (i : Int) = σ.2 2 := by omega
    rw [hi]
    simp (disch := first | omega | rfl) only [e51_100, e51_101, e51_102, e51_105, e51_108, WpV_some, WpH_some, ↓ite_t, ↓ite_f, P_f0, P_f1, P_f2, P_f3, P_f4, P_n0, P_n1, P_n2, P_n3, P_n4, P_n5, P_n6, P_n7, P_n8, P_n9, P_n10, P_n11, P_n12, P_n13, P_t0, P_t1, P_t2, P_t3, P_t4, P_t5, P_t6, P_t7, P_t8, P_t9, P_t10, P_t11, P_t12, P_t13, P_x0, P_x1, wrp_id, mxl]
  | succ d ih =>
    intro i h l4 hi
    have q := fun h => ih (i + 1) h l4 (by omega)
    simp only [Int.natCast_add, Int.cast_ofNat_Int] at q
    rw [e51_100]
    simp (disch := first | omega | rfl) only [e51_101, e51_102, e51_105, e51_108, e51_111, e51_112, e51_113, e51_116, e51_117, e51_120, e51_121, e51_124, e51_125, e51_128, WpV_some, WpH_some, ↓ite_t, ↓ite_f, P_f0, P_f1, P_f2, P_f3, P_f4, P_n0, P_n1, P_n2, P_n3, P_n4, P_n5, P_n6, P_n7, P_n8, P_n9, P_n10, P_n11, P_n12, P_n13, P_t0, P_t1, P_t2, P_t3, P_t4, P_t5, P_t6, P_t7, P_t8, P_t9, P_t10, P_t11, P_t12, P_t13, P_x0, P_x1, cI_v (Rn (m16 h2 _)) P_on h2, cC_v (m53 _ _), wrp_id, q, mxl]
theorem d5_loop (hT : wfT T) : ∀ (d i : Nat) (h : Int64) (l4 : AV), (i : Int) + d = T.2 → (Wp xs 51 279 [vr 1, vl h, vu, vi i, l4] [] μ (PP f sc T τ σ) Q = Q (.inl (some (vl (mxl (fun i => cA T i) h i d)))) μ (PP f sc T τ σ)) := by
  have hT0 := hT
  obtain ⟨t1, t2, t3⟩ := hT0
  intro d
  induction d with
  | zero =>
    intro i h l4 hi
    simp (disch := first | omega | rfl) only [e51_279, e51_280, e51_281, e51_284, e51_287, e51_310, e51_311, WpV_some, WpH_some, ↓ite_t, ↓ite_f, P_f0, P_f1, P_f2, P_f3, P_f4, P_n0, P_n1, P_n2, P_n3, P_n4, P_n5, P_n6, P_n7, P_n8, P_n9, P_n10, P_n11, P_n12, P_n13, P_t0, P_t1, P_t2, P_t3, P_t4, P_t5, P_t6, P_t7, P_t8, P_t9, P_t10, P_t11, P_t12, P_t13, P_x0, P_x1, mxl]
  | succ d ih =>
    intro i h l4 hi
    have q := fun h => ih (i + 1) h l4 (by omega)
    simp only [Int.natCast_add, Int.cast_ofNat_Int] at q
    rw [e51_279]
    simp (disch := first | omega | rfl) only [e51_280, e51_281, e51_284, e51_287, e51_290, e51_291, e51_292, e51_295, e51_296, e51_299, e51_300, e51_303, e51_304, e51_307, WpV_some, WpH_some, ↓ite_t, ↓ite_f, P_f0, P_f1, P_f2, P_f3, P_f4, P_n0, P_n1, P_n2, P_n3, P_n4, P_n5, P_n6, P_n7, P_n8, P_n9, P_n10, P_n11, P_n12, P_n13, P_t0, P_t1, P_t2, P_t3, P_t4, P_t5, P_t6, P_t7, P_t8, P_t9, P_t10, P_t11, P_t12, P_t13, P_x0, P_x1, cI_v (Rx (m34 h187 _)) P_ox h187, cC_v (m53 _ _), wrp_id, q, mxl]
def dg1 (sc : Int) (σ : SG) : Int64 := mxl (fun i => fo (σ.1 4) i 0 8) (mxl (fun i => pgv σ (i / 8 : Nat) (i % 8)) (mxl (fun i => askv σ (i / 4 : Nat) (i % 4)) (mxl (fun i => cnt sc σ i) 3001 0 10) 0 (σ.2 0 * 4).toNat) 0 64) 0 (σ.2 2).toNat
theorem d_one (hw : wfS σ) : Wp xs 51 0 [vr 1, vu, vu, vu, vu] [] μ (PP f sc T τ σ) Q = Wp xs 51 131 [vr 1, vl (dg1 sc σ), vu, vi (σ.2 2), vu] [] μ (PP f sc T τ σ) Q := by
  have hw0 := hw
  obtain ⟨w1, w2, w3, w4, w5⟩ := hw0
  have q1 := d1_loop (xs := xs) (f := f) (sc := sc) (T := T) (τ := τ) (μ := μ) (Q := Q) hw 10 0 3001 vu (by omega)
  have q2 := fun h => d2_loop (xs := xs) (f := f) (sc := sc) (T := T) (τ := τ) (μ := μ) (Q := Q) hw (σ.2 0 * 4).toNat 0 h vu (by omega)
  have q3 := fun h => d3_loop (xs := xs) (f := f) (sc := sc) (T := T) (τ := τ) (μ := μ) (Q := Q) hw 64 0 h vu (by omega)
  have q4 := fun h => d4_loop (xs := xs) (f := f) (sc := sc) (T := T) (τ := τ) (μ := μ) (Q := Q) hw (σ.2 2).toNat 0 h vu (by omega)
  simp only [Int.cast_ofNat_Int] at q1 q2 q3 q4
  simp (disch := first | omega | rfl) only [e51_0, e51_3, e51_4, e51_5, q1, e51_29, e51_30, q2, e51_66, e51_67, q3, e51_98, e51_99, q4, dg1]
end CD
