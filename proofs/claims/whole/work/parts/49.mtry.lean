/-! THE MODEL'S METHODS: trials -/
theorem mS_same (M : MG) (k : Nat) (v : Int) : (mS M k v).1 k = v := if_pos rfl
theorem mS_mS (M : MG) (k : Nat) (v w : Int) : mS (mS M k v) k w = mS M k w := by
  unfold mS
  refine Prod.ext ?_ rfl
  funext j
  show fu (fu M.1 k v) k w j = fu M.1 k w j
  unfold fu
  split <;> rfl
theorem mS_self (M : MG) (k : Nat) : mS M k (M.1 k) = M := by
  unfold mS
  refine Prod.ext ?_ rfl
  funext j
  show fu M.1 k (M.1 k) j = M.1 j
  unfold fu
  split
  · rename_i e; rw [e]
  · rfl
theorem mAr_self (M : MG) (k : Nat) : mAr M k (M.2.1 k) = M := by
  unfold mAr
  refine Prod.ext rfl (Prod.ext ?_ rfl)
  funext j
  show ru M.2.1 k (M.2.1 k) j = M.2.1 j
  unfold ru
  split
  · rename_i e; rw [e]
  · rfl
theorem mAr_mS (M : MG) (k j : Nat) (v : Int) (g : Nat → Int) : mAr (mS M k v) j g = mS (mAr M j g) k v := rfl
theorem mAr_01 (M : MG) (g : Nat → Int) : (mAr M 0 g).2.1 1 = M.2.1 1 := rfl
theorem mAr_02 (M : MG) (g : Nat → Int) : (mAr M 0 g).2.1 2 = M.2.1 2 := rfl
theorem mAr_03 (M : MG) (g : Nat → Int) : (mAr M 0 g).2.1 3 = M.2.1 3 := rfl
theorem mAr_04 (M : MG) (g : Nat → Int) : (mAr M 0 g).2.1 4 = M.2.1 4 := rfl
theorem mAr_05 (M : MG) (g : Nat → Int) : (mAr M 0 g).2.1 5 = M.2.1 5 := rfl
theorem mAr_10 (M : MG) (g : Nat → Int) : (mAr M 1 g).2.1 0 = M.2.1 0 := rfl
theorem mAr_12 (M : MG) (g : Nat → Int) : (mAr M 1 g).2.1 2 = M.2.1 2 := rfl
theorem mAr_13 (M : MG) (g : Nat → Int) : (mAr M 1 g).2.1 3 = M.2.1 3 := rfl
theorem mAr_14 (M : MG) (g : Nat → Int) : (mAr M 1 g).2.1 4 = M.2.1 4 := rfl
theorem mAr_15 (M : MG) (g : Nat → Int) : (mAr M 1 g).2.1 5 = M.2.1 5 := rfl
theorem mAr_20 (M : MG) (g : Nat → Int) : (mAr M 2 g).2.1 0 = M.2.1 0 := rfl
theorem mAr_21 (M : MG) (g : Nat → Int) : (mAr M 2 g).2.1 1 = M.2.1 1 := rfl
theorem mAr_23 (M : MG) (g : Nat → Int) : (mAr M 2 g).2.1 3 = M.2.1 3 := rfl
theorem mAr_24 (M : MG) (g : Nat → Int) : (mAr M 2 g).2.1 4 = M.2.1 4 := rfl
theorem mAr_25 (M : MG) (g : Nat → Int) : (mAr M 2 g).2.1 5 = M.2.1 5 := rfl
theorem mAr_30 (M : MG) (g : Nat → Int) : (mAr M 3 g).2.1 0 = M.2.1 0 := rfl
theorem mAr_31 (M : MG) (g : Nat → Int) : (mAr M 3 g).2.1 1 = M.2.1 1 := rfl
theorem mAr_32 (M : MG) (g : Nat → Int) : (mAr M 3 g).2.1 2 = M.2.1 2 := rfl
theorem mAr_34 (M : MG) (g : Nat → Int) : (mAr M 3 g).2.1 4 = M.2.1 4 := rfl
theorem mAr_35 (M : MG) (g : Nat → Int) : (mAr M 3 g).2.1 5 = M.2.1 5 := rfl
theorem mAr_40 (M : MG) (g : Nat → Int) : (mAr M 4 g).2.1 0 = M.2.1 0 := rfl
theorem mAr_41 (M : MG) (g : Nat → Int) : (mAr M 4 g).2.1 1 = M.2.1 1 := rfl
theorem mAr_42 (M : MG) (g : Nat → Int) : (mAr M 4 g).2.1 2 = M.2.1 2 := rfl
theorem mAr_43 (M : MG) (g : Nat → Int) : (mAr M 4 g).2.1 3 = M.2.1 3 := rfl
theorem mAr_45 (M : MG) (g : Nat → Int) : (mAr M 4 g).2.1 5 = M.2.1 5 := rfl
theorem mAr_50 (M : MG) (g : Nat → Int) : (mAr M 5 g).2.1 0 = M.2.1 0 := rfl
theorem mAr_51 (M : MG) (g : Nat → Int) : (mAr M 5 g).2.1 1 = M.2.1 1 := rfl
theorem mAr_52 (M : MG) (g : Nat → Int) : (mAr M 5 g).2.1 2 = M.2.1 2 := rfl
theorem mAr_53 (M : MG) (g : Nat → Int) : (mAr M 5 g).2.1 3 = M.2.1 3 := rfl
theorem mAr_54 (M : MG) (g : Nat → Int) : (mAr M 5 g).2.1 4 = M.2.1 4 := rfl
theorem mS_01 (M : MG) (v : Int) : (mS M 0 v).1 1 = M.1 1 := rfl
theorem mS_02 (M : MG) (v : Int) : (mS M 0 v).1 2 = M.1 2 := rfl
theorem mS_03 (M : MG) (v : Int) : (mS M 0 v).1 3 = M.1 3 := rfl
theorem mS_10 (M : MG) (v : Int) : (mS M 1 v).1 0 = M.1 0 := rfl
theorem mS_12 (M : MG) (v : Int) : (mS M 1 v).1 2 = M.1 2 := rfl
theorem mS_13 (M : MG) (v : Int) : (mS M 1 v).1 3 = M.1 3 := rfl
theorem mS_20 (M : MG) (v : Int) : (mS M 2 v).1 0 = M.1 0 := rfl
theorem mS_21 (M : MG) (v : Int) : (mS M 2 v).1 1 = M.1 1 := rfl
theorem mS_23 (M : MG) (v : Int) : (mS M 2 v).1 3 = M.1 3 := rfl
theorem mS_30 (M : MG) (v : Int) : (mS M 3 v).1 0 = M.1 0 := rfl
theorem mS_31 (M : MG) (v : Int) : (mS M 3 v).1 1 = M.1 1 := rfl
theorem mS_32 (M : MG) (v : Int) : (mS M 3 v).1 2 = M.1 2 := rfl
theorem putM_ext (f : AH) (M : MG) {k : Nat} (hk : k < 6) {g g' : Nat → Int} (h : ∀ i, i < mlen k → g i = g' i) : putM f (mAr M k g) = putM f (mAr M k g') := by
  rw [← aup_M f M hk g, ← aup_M f M hk g', tab_ext h]
theorem fu_up (a b : Nat → Int) (i : Nat) : fu (fun j => if j < i then a j else b j) i (a i) = fun j => if j < i + 1 then a j else b j := by
  funext j
  show (if j = i then a i else if j < i then a j else b j) = if j < i + 1 then a j else b j
  by_cases c : j = i
  · subst c; rw [if_pos rfl, if_pos (by omega)]
  · rw [if_neg c]
    by_cases c2 : j < i
    · rw [if_pos c2, if_pos (by omega)]
    · rw [if_neg c2, if_neg (by omega)]
/-- the same state, buffer and saved states; what is spare may differ -/
def sim (M M' : MG) : Prop := M'.2.1 0 = M.2.1 0 ∧ M'.2.1 1 = M.2.1 1 ∧ M'.2.1 3 = M.2.1 3 ∧ M'.1 0 = M.1 0 ∧ M'.1 1 = M.1 1 ∧ M'.1 2 = M.1 2 ∧ M'.2.2 = M.2.2
theorem sim.rfl (M : MG) : sim M M := ⟨Eq.refl _, Eq.refl _, Eq.refl _, Eq.refl _, Eq.refl _, Eq.refl _, Eq.refl _⟩
theorem sim.tr {M M' M'' : MG} (h : sim M M') (k : sim M' M'') : sim M M'' := ⟨k.1.trans h.1, k.2.1.trans h.2.1, k.2.2.1.trans h.2.2.1, k.2.2.2.1.trans h.2.2.2.1, k.2.2.2.2.1.trans h.2.2.2.2.1, k.2.2.2.2.2.1.trans h.2.2.2.2.2.1, k.2.2.2.2.2.2.trans h.2.2.2.2.2.2⟩
def gmz (z : Nat → Int) (rule : Int) : Nat → Nat → Int
  | 0 => z
  | d + 1 => gmz (dnm z rule) rule d
def gmn (z : Nat → Int) (rule n : Int) : Nat → Int
  | 0 => n
  | d + 1 => gmn (dnm z rule) rule (n + dnr z) d
def gmf (z : Nat → Int) (rule fr : Int) : Nat → Int
  | 0 => fr
  | d + 1 => gmf (dnm z rule) rule (if dnr z = 1 ∧ fr = -1 then z 1 else fr) d
theorem dnr_01 (z : Nat → Int) : dnr z = 0 ∨ dnr z = 1 := by
  unfold dnr
  split
  · exact Or.inr rfl
  · exact Or.inl rfl
theorem sm_ext {g g' : Nat → Int} : ∀ (d i : Nat) (w : Int), (∀ j, i ≤ j → j < i + d → g j = g' j) → sm w g i d = sm w g' i d := by
  intro d
  induction d with
  | zero => intro i w h; rfl
  | succ d ih =>
    intro i w h
    unfold sm
    rw [h i (Nat.le_refl _) (by omega), ih (i + 1) _ (fun j h1 h2 => h j (by omega) (by omega))]
section MT
variable {xs : List Int} {f : AH} {M : MG} {μ : Mu} {y pc : Nat} {L st : List AV} {Q : Out → Mu → AH → Prop} {σ : SG} {z : Nat → Int}
theorem rel.s9 (h : rel σ z) : sm 0 (fun j => z (11 + j)) 0 8 = sm 0 (σ.1 9) 0 8 := sm_ext _ _ _ fun j _ hj => (h.N j (by omega)).1
theorem rel.s10 (h : rel σ z) : sm 0 (fun j => z (19 + j)) 0 8 = sm 0 (σ.1 10) 0 8 := sm_ext _ _ _ fun j _ hj => (h.N j (by omega)).2.1
theorem rel.s8 (h : rel σ z) : sm 0 (σ.1 9) 0 8 = sm8 (σ.1 9) ∧ 0 ≤ sm8 (σ.1 9) ∧ sm8 (σ.1 9) ≤ 640 := by
  obtain ⟨w1, w2, w3, w4, w5⟩ := h.wf
  have e := sm8_r (g := σ.1 9) (n := 80) (fun p hp => ⟨(h.N p hp).2.2.1, by have := (h.N p hp).2.2.2.1; omega⟩)
  exact ⟨sm_8 fun p hp => ⟨(h.N p hp).2.2.1, by have := (h.N p hp).2.2.2.1; omega⟩, by omega, by omega⟩
theorem dnx_21 (h : rel σ z) (hd : σ.2 1 < σ.2 0) (rule : Int) : (dnx σ rule).2 1 = σ.2 1 + 1 ∧ (dnx σ rule).2 0 = σ.2 0 ∧ (dnx σ rule).2 2 = σ.2 2 := by
  obtain ⟨w1, w2, w3, w4, w5⟩ := h.wf
  refine ⟨?_, ?_, ?_⟩
  · rw [dnx_2, if_pos ⟨rfl, hd⟩, wrp_id (by omega) (by omega)]
  · rw [dnx_2, if_neg (by omega)]
  · rw [dnx_2, if_neg (by omega)]
theorem gmz_rel (rule : Int) (hr : rule = 0 ∨ rule = 1 ∨ rule = 2) : ∀ (d : Nat) (σ : SG) (z : Nat → Int), rel σ z → σ.2 1 + d ≤ σ.2 0 → rel (fin σ rule d) (gmz z rule d) := by
  intro d
  induction d with
  | zero => intro σ z h hd; exact h
  | succ d ih =>
    intro σ z h hd
    have e := dnx_21 h (by omega) rule
    exact ih _ _ (h.dnxE (by omega) rule hr) (by omega)
theorem gmn_q (rule : Int) (hr : rule = 0 ∨ rule = 1 ∨ rule = 2) : ∀ (d : Nat) (σ : SG) (z : Nat → Int) (n : Int), rel σ z → σ.2 1 + d ≤ σ.2 0 → gmn z rule n d = n + sm8 ((fin σ rule d).1 9) - sm8 (σ.1 9) := by
  intro d
  induction d with
  | zero => intro σ z n h hd; unfold gmn fin; omega
  | succ d ih =>
    intro σ z n h hd
    have e := dnx_21 h (by omega) rule
    have e2 := dnx_count h (by omega) rule hr
    unfold gmn fin
    rw [ih _ _ _ (h.dnxE (by omega) rule hr) (by omega)]
    omega
theorem fin_2 (rule : Int) (hr : rule = 0 ∨ rule = 1 ∨ rule = 2) : ∀ (d : Nat) (σ : SG) (z : Nat → Int), rel σ z → σ.2 1 + d ≤ σ.2 0 → ∀ j : Nat, (j : Int) < σ.2 1 → (fin σ rule d).1 2 j = σ.1 2 j := by
  intro d
  induction d with
  | zero => intro σ z h hd j hj; rfl
  | succ d ih =>
    intro σ z h hd j hj
    have e := dnx_21 h (by omega) rule
    obtain ⟨-, a, ha, why, e2, -⟩ := dnx_count h (by omega) rule hr
    unfold fin
    rw [ih _ _ (h.dnxE (by omega) rule hr) (by omega) j (by omega), e2, fu_n _ _ (by omega)]
theorem gmf_q (rule : Int) (hr : rule = 0 ∨ rule = 1 ∨ rule = 2) : ∀ (d : Nat) (σ : SG) (z : Nat → Int) (fr : Int), rel σ z → σ.2 1 + d ≤ σ.2 0 → gmf z rule fr d = if fr = -1 then frd ((fin σ rule d).1 2) (σ.2 1).toNat d else fr := by
  intro d
  induction d with
  | zero =>
    intro σ z fr h hd
    unfold gmf frd
    split
    · rename_i c; exact c
    · rfl
  | succ d ih =>
    intro σ z fr h hd
    obtain ⟨w1, w2, w3, w4, w5⟩ := h.wf
    have e := dnx_21 h (by omega) rule
    obtain ⟨-, a, ha, why, e2, e3⟩ := dnx_count h (by omega) rule hr
    have h2 := h.dnxE (by omega) rule hr
    have e4 := fin_2 rule hr d _ _ h2 (by omega) a (by omega)
    have hz := h.n.2.1
    unfold gmf fin frd
    rw [ih _ _ _ h2 (by omega), show (σ.2 1).toNat = a by omega, e4, e2, fu_s, show ((dnx σ rule).2 1).toNat = a + 1 by omega, hz, ha]
    rcases dnr_01 z with c | c
    · have x : (if dnr z = 1 ∧ fr = -1 then (a : Int) else fr) = fr := if_neg (by omega)
      rw [x, if_pos (e3.mpr c)]
    · have c2 : ¬ why = 0 := fun x => by have := e3.mp x; omega
      rw [if_neg c2]
      by_cases c3 : fr = -1
      · have x : (if dnr z = 1 ∧ fr = -1 then (a : Int) else fr) = a := if_pos ⟨c, c3⟩
        have c4 : ¬ (a : Int) = -1 := by omega
        rw [x, if_neg c4, if_pos c3]
      · have x : (if dnr z = 1 ∧ fr = -1 then (a : Int) else fr) = fr := if_neg (fun x => c3 x.2)
        rw [x, if_neg c3, if_neg c3]
theorem pas_loop : ∀ (d i : Nat), i + d = 347 → (Wp xs 125 2 [vr 190, vi i] [] μ (putM f (mAr M 2 (fun j => if j < i then M.2.1 0 j else M.2.1 2 j))) Q = Q (.inl none) μ (putM f (mAr M 2 (M.2.1 0)))) := by
  intro d
  induction d with
  | zero =>
    intro i hi
    have e : putM f (mAr M 2 (fun j => if j < i then M.2.1 0 j else M.2.1 2 j)) = putM f (mAr M 2 (M.2.1 0)) := putM_ext f M (by decide) fun j hj => by
      have hj : j < 347 := hj
      rw [if_pos (by omega)]
    rw [e]
    simp (disch := first | omega | rfl) only [e125_0, e125_1, e125_2, e125_3, e125_6, e125_9, e125_10, e125_13, e125_14, e125_15, e125_18, e125_19, e125_20, e125_21, e125_24, e125_27, WpV_some, WpH_some, ↓ite_t, ↓ite_f, M_f0, M_f1, M_f2, M_f3, M_f4, M_f5, M_f6, M_f7, M_f8, M_f9, M_f10, M_p0, M_p3, M_p6, M_p7, M_p10, M_g_0, M_g_1, M_g_2, M_g_3, M_g_4, M_g_5, M_s_0, M_s_1, M_s_2, M_s_3, M_s_4, M_s_5]
  | succ d ih =>
    intro i hi
    have q := ih (i + 1) (by omega)
    simp only [Int.natCast_add, Int.cast_ofNat_Int] at q
    rw [e125_2]
    simp (disch := first | omega | rfl) only [e125_0, e125_1, e125_3, e125_6, e125_9, e125_10, e125_13, e125_14, e125_15, e125_18, e125_19, e125_20, e125_21, e125_24, e125_27, WpV_some, WpH_some, ↓ite_t, ↓ite_f, M_f0, M_f1, M_f2, M_f3, M_f4, M_f5, M_f6, M_f7, M_f8, M_f9, M_f10, M_p0, M_p3, M_p6, M_p7, M_p10, M_g_0, M_g_1, M_g_2, M_g_3, M_g_4, M_g_5, M_s_0, M_s_1, M_s_2, M_s_3, M_s_4, M_s_5, wrp_id, Int.toNat_natCast, mAr_same, mAr_mAr, mAr_1, mAr_h, mS_2, mS_same, mS_mS, mAr_mS, mh_1, mh_2, mh_h, mAr_01, mAr_02, mAr_03, mAr_04, mAr_05, mAr_10, mAr_12, mAr_13, mAr_14, mAr_15, mAr_20, mAr_21, mAr_23, mAr_24, mAr_25, mAr_30, mAr_31, mAr_32, mAr_34, mAr_35, mAr_40, mAr_41, mAr_42, mAr_43, mAr_45, mAr_50, mAr_51, mAr_52, mAr_53, mAr_54, mS_01, mS_02, mS_03, mS_10, mS_12, mS_13, mS_20, mS_21, mS_23, mS_30, mS_31, mS_32, fu_up, q]
theorem m125 : Runs xs 125 [vr 190] μ (putM f M) (.inl none) μ (putM f (mAr M 2 (M.2.1 0))) := Runs.iff fun Q hQ => by
  show Wp xs 125 0 [vr 190, vu] [] μ (putM f M) Q
  have q := pas_loop (xs := xs) (f := f) (μ := μ) (Q := Q) (M := M) 347 0 rfl
  have e : mAr M 2 (fun j => if j < 0 then M.2.1 0 j else M.2.1 2 j) = M := mAr_self M 2
  rw [e] at q
  simp only [Int.cast_ofNat_Int] at q
  simp (disch := first | omega | rfl) only [e125_0, e125_1, e125_3, e125_6, e125_9, e125_10, e125_13, e125_14, e125_15, e125_18, e125_19, e125_20, e125_21, e125_24, e125_27, WpV_some, WpH_some, ↓ite_t, ↓ite_f, q]
  exact hQ
theorem bbk_loop : ∀ (d i : Nat), i + d = 347 → (Wp xs 127 2 [vr 190, vi i] [] μ (putM f (mAr M 0 (fun j => if j < i then M.2.1 2 j else M.2.1 0 j))) Q = Q (.inl none) μ (putM f (mAr M 0 (M.2.1 2)))) := by
  intro d
  induction d with
  | zero =>
    intro i hi
    have e : putM f (mAr M 0 (fun j => if j < i then M.2.1 2 j else M.2.1 0 j)) = putM f (mAr M 0 (M.2.1 2)) := putM_ext f M (by decide) fun j hj => by
      have hj : j < 347 := hj
      rw [if_pos (by omega)]
    rw [e]
    simp (disch := first | omega | rfl) only [e127_0, e127_1, e127_2, e127_3, e127_6, e127_9, e127_10, e127_13, e127_14, e127_15, e127_18, e127_19, e127_20, e127_21, e127_24, e127_27, WpV_some, WpH_some, ↓ite_t, ↓ite_f, M_f0, M_f1, M_f2, M_f3, M_f4, M_f5, M_f6, M_f7, M_f8, M_f9, M_f10, M_p0, M_p3, M_p6, M_p7, M_p10, M_g_0, M_g_1, M_g_2, M_g_3, M_g_4, M_g_5, M_s_0, M_s_1, M_s_2, M_s_3, M_s_4, M_s_5]
  | succ d ih =>
    intro i hi
    have q := ih (i + 1) (by omega)
    simp only [Int.natCast_add, Int.cast_ofNat_Int] at q
    rw [e127_2]
    simp (disch := first | omega | rfl) only [e127_0, e127_1, e127_3, e127_6, e127_9, e127_10, e127_13, e127_14, e127_15, e127_18, e127_19, e127_20, e127_21, e127_24, e127_27, WpV_some, WpH_some, ↓ite_t, ↓ite_f, M_f0, M_f1, M_f2, M_f3, M_f4, M_f5, M_f6, M_f7, M_f8, M_f9, M_f10, M_p0, M_p3, M_p6, M_p7, M_p10, M_g_0, M_g_1, M_g_2, M_g_3, M_g_4, M_g_5, M_s_0, M_s_1, M_s_2, M_s_3, M_s_4, M_s_5, wrp_id, Int.toNat_natCast, mAr_same, mAr_mAr, mAr_1, mAr_h, mS_2, mS_same, mS_mS, mAr_mS, mh_1, mh_2, mh_h, mAr_01, mAr_02, mAr_03, mAr_04, mAr_05, mAr_10, mAr_12, mAr_13, mAr_14, mAr_15, mAr_20, mAr_21, mAr_23, mAr_24, mAr_25, mAr_30, mAr_31, mAr_32, mAr_34, mAr_35, mAr_40, mAr_41, mAr_42, mAr_43, mAr_45, mAr_50, mAr_51, mAr_52, mAr_53, mAr_54, mS_01, mS_02, mS_03, mS_10, mS_12, mS_13, mS_20, mS_21, mS_23, mS_30, mS_31, mS_32, fu_up, q]
theorem m127 : Runs xs 127 [vr 190] μ (putM f M) (.inl none) μ (putM f (mAr M 0 (M.2.1 2))) := Runs.iff fun Q hQ => by
  show Wp xs 127 0 [vr 190, vu] [] μ (putM f M) Q
  have q := bbk_loop (xs := xs) (f := f) (μ := μ) (Q := Q) (M := M) 347 0 rfl
  have e : mAr M 0 (fun j => if j < 0 then M.2.1 2 j else M.2.1 0 j) = M := mAr_self M 0
  rw [e] at q
  simp only [Int.cast_ofNat_Int] at q
  simp (disch := first | omega | rfl) only [e127_0, e127_1, e127_3, e127_6, e127_9, e127_10, e127_13, e127_14, e127_15, e127_18, e127_19, e127_20, e127_21, e127_24, e127_27, WpV_some, WpH_some, ↓ite_t, ↓ite_f, q]
  exact hQ
theorem gon_loop (rule : Int) (hr : rule = 0 ∨ rule = 1 ∨ rule = 2) : ∀ (d : Nat) (σ : SG) (M : MG) (n : Int) (l3 l4 : AV), rel σ (M.2.1 0) → σ.2 1 + d = σ.2 0 → 0 ≤ n → n + d ≤ 1000 → (Wp xs 126 7 [vr 190, vi rule, vi n, l3, l4] [] μ (putM f M) Q = Q (.inl (some (vi (gmn (M.2.1 0) rule n d)))) μ (putM f (mS (mAr M 0 (gmz (M.2.1 0) rule d)) 3 (gmf (M.2.1 0) rule (M.1 3) d)))) := by
  intro d
  induction d with
  | zero =>
    intro σ M n l3 l4 h hd h0 h1
    obtain ⟨n0, n1, n2⟩ := h.n
    unfold gmn gmz gmf
    rw [mAr_self, mS_self]
    simp (disch := first | omega | rfl) only [e126_0, e126_1, e126_2, e126_3, e126_4, e126_7, e126_8, e126_11, e126_12, e126_13, e126_14, e126_17, e126_18, e126_19, e126_22, e126_23, e126_26, e126_27, e126_28, e126_29, e126_30, e126_31, e126_34, e126_36, e126_37, e126_39, e126_42, e126_43, e126_46, e126_47, e126_50, e126_51, e126_54, e126_55, e126_58, e126_61, e126_62, e126_64, e126_67, e126_68, e126_71, e126_72, e126_73, e126_74, e126_77, e126_78, WpV_some, WpH_some, ↓ite_t, ↓ite_f, M_f0, M_f1, M_f2, M_f3, M_f4, M_f5, M_f6, M_f7, M_f8, M_f9, M_f10, M_p0, M_p3, M_p6, M_p7, M_p10, M_g_0, M_g_1, M_g_2, M_g_3, M_g_4, M_g_5, M_s_0, M_s_1, M_s_2, M_s_3, M_s_4, M_s_5, Int.reduceToNat, n0, n1]
  | succ d ih =>
    intro σ M n l3 l4 h hd h0 h1
    obtain ⟨n0, n1, n2⟩ := h.n
    have e := dnx_21 h (by omega) rule
    have h2 := h.dnxE (by omega) rule hr
    have q1 := cI_v (m96 (xs := xs) (f := f) (M := M) (μ := μ) h (by omega) rule hr) M_o h190
    have q := fun (fr n' : Int) (l3 l4 : AV) (g0 : 0 ≤ n') (g1 : n' + d ≤ 1000) => ih (dnx σ rule) (mS (mAr M 0 (dnm (M.2.1 0) rule)) 3 fr) n' l3 l4 (by rw [mS_2, mAr_same]; exact h2) (by omega) g0 g1
    simp only [mAr_same, mAr_mAr, mAr_1, mAr_h, mS_2, mS_same, mS_mS, mAr_mS, mh_1, mh_2, mh_h, mAr_01, mAr_02, mAr_03, mAr_04, mAr_05, mAr_10, mAr_12, mAr_13, mAr_14, mAr_15, mAr_20, mAr_21, mAr_23, mAr_24, mAr_25, mAr_30, mAr_31, mAr_32, mAr_34, mAr_35, mAr_40, mAr_41, mAr_42, mAr_43, mAr_45, mAr_50, mAr_51, mAr_52, mAr_53, mAr_54, mS_01, mS_02, mS_03, mS_10, mS_12, mS_13, mS_20, mS_21, mS_23, mS_30, mS_31, mS_32] at q
    rw [e126_7]
    unfold gmn gmz gmf
    rcases dnr_01 (M.2.1 0) with c | c
    · rw [c] at q1 ⊢
      simp (disch := first | omega | rfl) only [e126_0, e126_1, e126_2, e126_3, e126_4, e126_8, e126_11, e126_12, e126_13, e126_14, e126_17, e126_18, e126_19, e126_22, e126_23, e126_26, e126_27, e126_28, e126_29, e126_30, e126_31, e126_34, e126_36, e126_37, e126_39, e126_42, e126_43, e126_46, e126_47, e126_50, e126_51, e126_54, e126_55, e126_58, e126_61, e126_62, e126_64, e126_67, e126_68, e126_71, e126_72, e126_73, e126_74, e126_77, e126_78, WpV_some, WpH_some, ↓ite_t, ↓ite_f, M_f0, M_f1, M_f2, M_f3, M_f4, M_f5, M_f6, M_f7, M_f8, M_f9, M_f10, M_p0, M_p3, M_p6, M_p7, M_p10, M_g_0, M_g_1, M_g_2, M_g_3, M_g_4, M_g_5, M_s_0, M_s_1, M_s_2, M_s_3, M_s_4, M_s_5, Int.reduceToNat, n0, n1, q1, mAr_same, mAr_mAr, mAr_1, mAr_h, mS_2, mS_same, mS_mS, mAr_mS, mh_1, mh_2, mh_h, mAr_01, mAr_02, mAr_03, mAr_04, mAr_05, mAr_10, mAr_12, mAr_13, mAr_14, mAr_15, mAr_20, mAr_21, mAr_23, mAr_24, mAr_25, mAr_30, mAr_31, mAr_32, mAr_34, mAr_35, mAr_40, mAr_41, mAr_42, mAr_43, mAr_45, mAr_50, mAr_51, mAr_52, mAr_53, mAr_54, mS_01, mS_02, mS_03, mS_10, mS_12, mS_13, mS_20, mS_21, mS_23, mS_30, mS_31, mS_32, wrp_id, Int.add_zero, Int.zero_add, ne_eq, Int.reduceEq, not_true_eq_false, not_false_eq_true, false_and, ↓reduceIte]
      rw [q _ _ _ _ h0 (by omega)]
    · rw [c] at q1 ⊢
      by_cases c3 : M.1 3 = -1
      · simp (disch := first | omega | rfl) only [e126_0, e126_1, e126_2, e126_3, e126_4, e126_8, e126_11, e126_12, e126_13, e126_14, e126_17, e126_18, e126_19, e126_22, e126_23, e126_26, e126_27, e126_28, e126_29, e126_30, e126_31, e126_34, e126_36, e126_37, e126_39, e126_42, e126_43, e126_46, e126_47, e126_50, e126_51, e126_54, e126_55, e126_58, e126_61, e126_62, e126_64, e126_67, e126_68, e126_71, e126_72, e126_73, e126_74, e126_77, e126_78, WpV_some, WpH_some, ↓ite_t, ↓ite_f, M_f0, M_f1, M_f2, M_f3, M_f4, M_f5, M_f6, M_f7, M_f8, M_f9, M_f10, M_p0, M_p3, M_p6, M_p7, M_p10, M_g_0, M_g_1, M_g_2, M_g_3, M_g_4, M_g_5, M_s_0, M_s_1, M_s_2, M_s_3, M_s_4, M_s_5, Int.reduceToNat, n0, n1, q1, mAr_same, mAr_mAr, mAr_1, mAr_h, mS_2, mS_same, mS_mS, mAr_mS, mh_1, mh_2, mh_h, mAr_01, mAr_02, mAr_03, mAr_04, mAr_05, mAr_10, mAr_12, mAr_13, mAr_14, mAr_15, mAr_20, mAr_21, mAr_23, mAr_24, mAr_25, mAr_30, mAr_31, mAr_32, mAr_34, mAr_35, mAr_40, mAr_41, mAr_42, mAr_43, mAr_45, mAr_50, mAr_51, mAr_52, mAr_53, mAr_54, mS_01, mS_02, mS_03, mS_10, mS_12, mS_13, mS_20, mS_21, mS_23, mS_30, mS_31, mS_32, wrp_id, c3, ne_eq, Int.reduceEq, not_true_eq_false, not_false_eq_true, true_and, ↓reduceIte]
        rw [q _ _ _ _ (by omega) (by omega)]
      · simp (disch := first | omega | rfl) only [e126_0, e126_1, e126_2, e126_3, e126_4, e126_8, e126_11, e126_12, e126_13, e126_14, e126_17, e126_18, e126_19, e126_22, e126_23, e126_26, e126_27, e126_28, e126_29, e126_30, e126_31, e126_34, e126_36, e126_37, e126_39, e126_42, e126_43, e126_46, e126_47, e126_50, e126_51, e126_54, e126_55, e126_58, e126_61, e126_62, e126_64, e126_67, e126_68, e126_71, e126_72, e126_73, e126_74, e126_77, e126_78, WpV_some, WpH_some, ↓ite_t, ↓ite_f, M_f0, M_f1, M_f2, M_f3, M_f4, M_f5, M_f6, M_f7, M_f8, M_f9, M_f10, M_p0, M_p3, M_p6, M_p7, M_p10, M_g_0, M_g_1, M_g_2, M_g_3, M_g_4, M_g_5, M_s_0, M_s_1, M_s_2, M_s_3, M_s_4, M_s_5, Int.reduceToNat, n0, n1, q1, mAr_same, mAr_mAr, mAr_1, mAr_h, mS_2, mS_same, mS_mS, mAr_mS, mh_1, mh_2, mh_h, mAr_01, mAr_02, mAr_03, mAr_04, mAr_05, mAr_10, mAr_12, mAr_13, mAr_14, mAr_15, mAr_20, mAr_21, mAr_23, mAr_24, mAr_25, mAr_30, mAr_31, mAr_32, mAr_34, mAr_35, mAr_40, mAr_41, mAr_42, mAr_43, mAr_45, mAr_50, mAr_51, mAr_52, mAr_53, mAr_54, mS_01, mS_02, mS_03, mS_10, mS_12, mS_13, mS_20, mS_21, mS_23, mS_30, mS_31, mS_32, wrp_id, c3, ne_eq, Int.reduceEq, not_true_eq_false, not_false_eq_true, true_and, ↓reduceIte]
        rw [q _ _ _ _ (by omega) (by omega)]
/-- the rest of the plan, done by a rule -/
theorem m126 (h : rel σ (M.2.1 0)) (rule : Int) (hr : rule = 0 ∨ rule = 1 ∨ rule = 2) : ∃ zz, rel (fn σ rule) zz ∧ Runs xs 126 [vr 190, vi rule] μ (putM f M) (.inl (some (vi (rdO (fn σ rule) σ)))) μ (putM f (mS (mAr M 0 zz) 3 (frd ((fn σ rule).1 2) (σ.2 1).toNat (((fn σ rule).2 1).toNat - (σ.2 1).toNat)))) := by
  obtain ⟨w1, w2, w3, w4, w5⟩ := h.wf
  have g1 := gmz_rel rule hr (σ.2 0 - σ.2 1).toNat σ _ h (by omega)
  have g2 := gmn_q rule hr (σ.2 0 - σ.2 1).toNat σ _ 0 h (by omega)
  have g3 := gmf_q rule hr (σ.2 0 - σ.2 1).toNat σ _ (-1) h (by omega)
  have fd : ∀ (d : Nat) (σ : SG) (z : Nat → Int), rel σ z → σ.2 1 + d ≤ σ.2 0 → (fin σ rule d).2 1 = σ.2 1 + d := by
    intro d
    induction d with
    | zero => intro σ z h hd; unfold fin; omega
    | succ d ih =>
      intro σ z h hd
      have e := dnx_21 h (by omega) rule
      unfold fin
      rw [ih _ _ (h.dnxE (by omega) rule hr) (by omega)]
      omega
  have g4 := fd (σ.2 0 - σ.2 1).toNat σ _ h (by omega)
  refine ⟨gmz (M.2.1 0) rule (σ.2 0 - σ.2 1).toNat, g1, Runs.iff fun Q hQ => ?_⟩
  show Wp xs 126 0 [vr 190, vi rule, vu, vu, vu] [] μ (putM f M) Q
  have q := gon_loop (xs := xs) (f := f) (μ := μ) (Q := Q) rule hr (σ.2 0 - σ.2 1).toNat σ (mS M 3 (-1)) 0 vu vu (by rw [mS_2]; exact h) (by omega) (by omega) (by omega)
  simp only [mAr_same, mAr_mAr, mAr_1, mAr_h, mS_2, mS_same, mS_mS, mAr_mS, mh_1, mh_2, mh_h, mAr_01, mAr_02, mAr_03, mAr_04, mAr_05, mAr_10, mAr_12, mAr_13, mAr_14, mAr_15, mAr_20, mAr_21, mAr_23, mAr_24, mAr_25, mAr_30, mAr_31, mAr_32, mAr_34, mAr_35, mAr_40, mAr_41, mAr_42, mAr_43, mAr_45, mAr_50, mAr_51, mAr_52, mAr_53, mAr_54, mS_01, mS_02, mS_03, mS_10, mS_12, mS_13, mS_20, mS_21, mS_23, mS_30, mS_31, mS_32] at q
  simp (disch := first | omega | rfl) only [e126_0, e126_1, e126_2, e126_3, e126_4, e126_8, e126_11, e126_12, e126_13, e126_14, e126_17, e126_18, e126_19, e126_22, e126_23, e126_26, e126_27, e126_28, e126_29, e126_30, e126_31, e126_34, e126_36, e126_37, e126_39, e126_42, e126_43, e126_46, e126_47, e126_50, e126_51, e126_54, e126_55, e126_58, e126_61, e126_62, e126_64, e126_67, e126_68, e126_71, e126_72, e126_73, e126_74, e126_77, e126_78, WpV_some, WpH_some, ↓ite_t, ↓ite_f, M_f0, M_f1, M_f2, M_f3, M_f4, M_f5, M_f6, M_f7, M_f8, M_f9, M_f10, M_p0, M_p3, M_p6, M_p7, M_p10, M_g_0, M_g_1, M_g_2, M_g_3, M_g_4, M_g_5, M_s_0, M_s_1, M_s_2, M_s_3, M_s_4, M_s_5, q]
  have s1 := h.s8
  have s2 := g1.s8
  have e1 : gmn (M.2.1 0) rule 0 (σ.2 0 - σ.2 1).toNat = rdO (fn σ rule) σ := by
    rw [g2]
    unfold rdO fn
    rw [s1.1, s2.1, wrp_id (by omega) (by omega)]
    omega
  have e2 : gmf (M.2.1 0) rule (-1) (σ.2 0 - σ.2 1).toNat = frd ((fn σ rule).1 2) (σ.2 1).toNat (((fn σ rule).2 1).toNat - (σ.2 1).toNat) := by
    rw [g3, if_pos rfl]
    unfold fn
    rw [g4, show (σ.2 1 + ((σ.2 0 - σ.2 1).toNat : Int)).toNat - (σ.2 1).toNat = (σ.2 0 - σ.2 1).toNat by omega]
  rw [e1, e2]
  exact hQ
theorem rdO_r (h : rel σ z) {τ : SG} {z' : Nat → Int} (h' : rel τ z') : rdO τ σ = sm8 (τ.1 9) - sm8 (σ.1 9) ∧ rdO τ σ ≤ 640 := by
  have s1 := h.s8
  have s2 := h'.s8
  unfold rdO
  rw [s1.1, s2.1, wrp_id (by omega) (by omega)]
  omega
theorem m124 (h : rel σ (M.2.1 0)) (r k : Int) (hr : r = 0 ∨ r = 1 ∨ r = 2) (h0 : 0 ≤ k) (h1 : k < 3) : ∃ M', sim M M' ∧ Runs xs 124 [vr 190, vi r, vi k] μ (putM f M) (.inl (some (vi (byr (fn σ r) σ k.toNat)))) μ (putM f M') := by
  obtain ⟨zz, hz, hrun⟩ := m126 (xs := xs) (f := f) (μ := μ) (M := mAr M 2 (M.2.1 0)) (by rw [mAr_20]; exact h) r hr
  refine ⟨mAr (mS (mAr (mAr M 2 (M.2.1 0)) 0 zz) 3 (frd ((fn σ r).1 2) (σ.2 1).toNat (((fn σ r).2 1).toNat - (σ.2 1).toNat))) 0 (M.2.1 0), ⟨rfl, rfl, rfl, rfl, rfl, rfl, rfl⟩, Runs.iff fun Q hQ => ?_⟩
  show Wp xs 124 0 [vr 190, vi r, vi k, vu, vu] [] μ (putM f M) Q
  have q2 := fun M' : MG => cI_v (m120 (xs := xs) (f := f) (M := M') (μ := μ) (k := 19) (kn := 19) rfl (by decide)) M_o h190
  have e1 := hz.s10
  have e2 := h.s10
  simp only [mAr_same, mAr_mAr, mAr_1, mAr_h, mS_2, mS_same, mS_mS, mAr_mS, mh_1, mh_2, mh_h, mAr_01, mAr_02, mAr_03, mAr_04, mAr_05, mAr_10, mAr_12, mAr_13, mAr_14, mAr_15, mAr_20, mAr_21, mAr_23, mAr_24, mAr_25, mAr_30, mAr_31, mAr_32, mAr_34, mAr_35, mAr_40, mAr_41, mAr_42, mAr_43, mAr_45, mAr_50, mAr_51, mAr_52, mAr_53, mAr_54, mS_01, mS_02, mS_03, mS_10, mS_12, mS_13, mS_20, mS_21, mS_23, mS_30, mS_31, mS_32] at hQ
  have hk : k = 0 ∨ k = 1 ∨ k = 2 := by omega
  rcases hk with rfl | rfl | rfl
  · simp (disch := first | omega | rfl) only [e124_0, e124_1, e124_4, e124_5, e124_6, e124_9, e124_10, e124_11, e124_13, e124_16, e124_18, e124_19, e124_22, e124_23, e124_26, e124_27, e124_30, e124_31, e124_32, e124_35, e124_37, e124_38, e124_40, e124_43, e124_44, e124_47, e124_48, e124_51, WpV_some, WpH_some, ↓ite_t, ↓ite_f, M_f0, M_f1, M_f2, M_f3, M_f4, M_f5, M_f6, M_f7, M_f8, M_f9, M_f10, M_p0, M_p3, M_p6, M_p7, M_p10, M_g_0, M_g_1, M_g_2, M_g_3, M_g_4, M_g_5, M_s_0, M_s_1, M_s_2, M_s_3, M_s_4, M_s_5, cI_n m125 M_o h190, cI_n m127 M_o h190, cI_v hrun M_o h190, q2, mAr_same, mAr_mAr, mAr_1, mAr_h, mS_2, mS_same, mS_mS, mAr_mS, mh_1, mh_2, mh_h, mAr_01, mAr_02, mAr_03, mAr_04, mAr_05, mAr_10, mAr_12, mAr_13, mAr_14, mAr_15, mAr_20, mAr_21, mAr_23, mAr_24, mAr_25, mAr_30, mAr_31, mAr_32, mAr_34, mAr_35, mAr_40, mAr_41, mAr_42, mAr_43, mAr_45, mAr_50, mAr_51, mAr_52, mAr_53, mAr_54, mS_01, mS_02, mS_03, mS_10, mS_12, mS_13, mS_20, mS_21, mS_23, mS_30, mS_31, mS_32, e1, e2, ne_eq, Int.reduceEq, not_true_eq_false, not_false_eq_true, ↓reduceIte]
    exact hQ
  · simp (disch := first | omega | rfl) only [e124_0, e124_1, e124_4, e124_5, e124_6, e124_9, e124_10, e124_11, e124_13, e124_16, e124_18, e124_19, e124_22, e124_23, e124_26, e124_27, e124_30, e124_31, e124_32, e124_35, e124_37, e124_38, e124_40, e124_43, e124_44, e124_47, e124_48, e124_51, WpV_some, WpH_some, ↓ite_t, ↓ite_f, M_f0, M_f1, M_f2, M_f3, M_f4, M_f5, M_f6, M_f7, M_f8, M_f9, M_f10, M_p0, M_p3, M_p6, M_p7, M_p10, M_g_0, M_g_1, M_g_2, M_g_3, M_g_4, M_g_5, M_s_0, M_s_1, M_s_2, M_s_3, M_s_4, M_s_5, cI_n m125 M_o h190, cI_n m127 M_o h190, cI_v hrun M_o h190, q2, mAr_same, mAr_mAr, mAr_1, mAr_h, mS_2, mS_same, mS_mS, mAr_mS, mh_1, mh_2, mh_h, mAr_01, mAr_02, mAr_03, mAr_04, mAr_05, mAr_10, mAr_12, mAr_13, mAr_14, mAr_15, mAr_20, mAr_21, mAr_23, mAr_24, mAr_25, mAr_30, mAr_31, mAr_32, mAr_34, mAr_35, mAr_40, mAr_41, mAr_42, mAr_43, mAr_45, mAr_50, mAr_51, mAr_52, mAr_53, mAr_54, mS_01, mS_02, mS_03, mS_10, mS_12, mS_13, mS_20, mS_21, mS_23, mS_30, mS_31, mS_32, e1, e2, ne_eq, Int.reduceEq, not_true_eq_false, not_false_eq_true, ↓reduceIte]
    exact hQ
  · simp (disch := first | omega | rfl) only [e124_0, e124_1, e124_4, e124_5, e124_6, e124_9, e124_10, e124_11, e124_13, e124_16, e124_18, e124_19, e124_22, e124_23, e124_26, e124_27, e124_30, e124_31, e124_32, e124_35, e124_37, e124_38, e124_40, e124_43, e124_44, e124_47, e124_48, e124_51, WpV_some, WpH_some, ↓ite_t, ↓ite_f, M_f0, M_f1, M_f2, M_f3, M_f4, M_f5, M_f6, M_f7, M_f8, M_f9, M_f10, M_p0, M_p3, M_p6, M_p7, M_p10, M_g_0, M_g_1, M_g_2, M_g_3, M_g_4, M_g_5, M_s_0, M_s_1, M_s_2, M_s_3, M_s_4, M_s_5, cI_n m125 M_o h190, cI_n m127 M_o h190, cI_v hrun M_o h190, q2, mAr_same, mAr_mAr, mAr_1, mAr_h, mS_2, mS_same, mS_mS, mAr_mS, mh_1, mh_2, mh_h, mAr_01, mAr_02, mAr_03, mAr_04, mAr_05, mAr_10, mAr_12, mAr_13, mAr_14, mAr_15, mAr_20, mAr_21, mAr_23, mAr_24, mAr_25, mAr_30, mAr_31, mAr_32, mAr_34, mAr_35, mAr_40, mAr_41, mAr_42, mAr_43, mAr_45, mAr_50, mAr_51, mAr_52, mAr_53, mAr_54, mS_01, mS_02, mS_03, mS_10, mS_12, mS_13, mS_20, mS_21, mS_23, mS_30, mS_31, mS_32, e1, e2, ne_eq, Int.reduceEq, not_true_eq_false, not_false_eq_true, ↓reduceIte]
    exact hQ
end MT
