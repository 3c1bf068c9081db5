/-! PlannedPages$Text: the buffer -/
abbrev TG : Type := (Nat → Int) × Int
def txC (t : Nat) (τ : TG) (o : Nat) : AC := if o = 0 then oC 2 [vr (t + 1), vi τ.2] else if o = 1 then oC 0 [vr (t + 2)] else iC (tab 40 τ.1)
def putT (f : AH) (t : Nat) (τ : TG) : AH := fun a => if t ≤ a ∧ a < t + 3 then some (txC t τ (a - t)) else f a
theorem putT_in (f : AH) (t : Nat) (τ : TG) {o : Nat} (h : o < 3) : putT f t τ (t + o) = some (txC t τ o) := by
  unfold putT
  rw [if_pos (by omega), Nat.add_sub_cancel_left]
theorem putT_0 (f : AH) (t : Nat) (τ : TG) : putT f t τ t = some (txC t τ 0) := putT_in f t τ (o := 0) (by omega)
theorem putT_out (f : AH) {t a : Nat} (τ : TG) (h : a < t ∨ t + 3 ≤ a) : putT f t τ a = f a := by
  unfold putT
  rw [if_neg (by omega)]
def cA (τ : TG) (i : Int) : Int := if i < τ.2 then rg 40 τ.1 i else -1
def pgA (c : Int) : Int := if 97 ≤ c ∧ c ≤ 104 then c - 97 else if 65 ≤ c ∧ c ≤ 72 then c - 65 else -1
def wrA (c : Int) : Int := if 65 ≤ c ∧ c ≤ 72 then 1 else 0
def dgA (c : Int) : Int := if 50 ≤ c ∧ c ≤ 57 then 1 else 0
def tmA (τ : TG) (i : Int) : Int := if pgA (cA τ i) = -1 then 0 else if dgA (cA τ (i + 1)) = 1 then cA τ (i + 1) - 48 else 1
def tld (τ : TG) (i : Nat) : Nat → Int
  | 0 => 0
  | d + 1 => tmA τ i + tld τ (i + 1) d
def bad (τ : TG) (i : Int) : Prop := pgA (cA τ i) = -1 ∧ (dgA (cA τ i) = 0 ∨ pgA (cA τ (i - 1)) = -1)
def fwr (τ : TG) (i : Nat) : Nat → Int
  | 0 => τ.2
  | d + 1 => if pgA (cA τ i) = -1 then (if dgA (cA τ i) = 0 then (i : Int) else if pgA (cA τ (i - 1)) = -1 then (i : Int) else fwr τ (i + 1) d) else fwr τ (i + 1) d
def wfT (τ : TG) : Prop := 0 ≤ τ.2 ∧ τ.2 ≤ 40 ∧ ∀ j, -1 ≤ τ.1 j ∧ τ.1 j ≤ 1000
section TX
variable {xs : List Int} {f : AH} {t : Nat} {τ : TG} {μ : Mu} {y pc : Nat} {L st : List AV} {Q : Out → Mu → AH → Prop}
theorem pT_o : isO (putT f t τ) t 2 = true := by unfold isO; rw [putT_0]; rfl
theorem pT_f0 : gf (putT f t τ) t 2 0 = some (vr (t + 1)) := by unfold gf; rw [putT_0]; rfl
theorem pT_f1 : gf (putT f t τ) t 2 1 = some (vi τ.2) := by unfold gf; rw [putT_0]; rfl
theorem pT_row (ht : t ≠ 0) : rowAt (putT f t τ) (t + 1) (t + 2) 40 τ.1 := ⟨by rw [putT_in f t τ (by omega)]; rfl, by rw [putT_in f t τ (by omega)]; rfl, by omega, by omega, by omega⟩
theorem pT_p1 (v : Int) : pf (putT f t τ) t 2 1 (vi v) = some (putT f t (τ.1, v)) := by
  unfold pf
  rw [putT_0]
  show some (aup (putT f t τ) t (txC t (τ.1, v) 0)) = _
  congr 1
  funext a
  by_cases h1 : a = t
  · subst h1; rw [aup_same, putT_0]
  · rw [aup_ne _ _ h1]
    by_cases h2 : t ≤ a ∧ a < t + 3
    · obtain ⟨o, rfl⟩ : ∃ o, a = t + o := ⟨a - t, by omega⟩
      rw [putT_in f t _ (by omega), putT_in f t _ (by omega)]
      have h3 : ¬ o = 0 := by omega
      unfold txC
      rw [if_neg h3, if_neg h3]
    · rw [putT_out f _ (by omega), putT_out f _ (by omega)]
theorem aT_row (g : Nat → Int) : aup (putT f t τ) (t + 2) (iC (tab 40 g)) = putT f t (g, τ.2) := by
  funext a
  by_cases h1 : a = t + 2
  · subst h1; rw [aup_same, putT_in f t _ (by omega)]; rfl
  · rw [aup_ne _ _ h1]
    by_cases h2 : t ≤ a ∧ a < t + 3
    · obtain ⟨o, rfl⟩ : ∃ o, a = t + o := ⟨a - t, by omega⟩
      rw [putT_in f t _ (by omega), putT_in f t _ (by omega)]
      unfold txC
      by_cases h3 : o = 0
      · rw [if_pos h3, if_pos h3]
      · rw [if_neg h3, if_neg h3, if_pos (by omega), if_pos (by omega)]
    · rw [putT_out f _ (by omega), putT_out f _ (by omega)]
theorem cA_r (hw : wfT τ) (i : Int) : -1 ≤ cA τ i ∧ cA τ i ≤ 1000 := by
  obtain ⟨w1, w2, w3⟩ := hw
  unfold cA rg
  split
  · split
    · exact w3 _
    · omega
  · omega
theorem m34 (ht : t ≠ 0) (i : Int) : Runs xs 34 [vr t, vi i] μ (putT f t τ) (.inl (some (vi (cA τ i)))) μ (putT f t τ) := Runs.iff fun Q hQ => by
  show Wp xs 34 0 [vr t, vi i] [] μ (putT f t τ) Q
  unfold cA at hQ
  by_cases h : i < τ.2
  · rw [if_pos h] at hQ
    simp (disch := first | omega | rfl) only [e34_0, e34_1, e34_2, e34_5, e34_8, e34_9, e34_12, e34_13, e34_16, e34_19, e34_20, WpV_some, WpH_some, ↓ite_t, ↓ite_f, pT_f0, pT_f1, cI_v (get_runs (pT_row ht) i) (pT_row ht).o (show t + 1 ≠ 0 by omega)]
    exact hQ
  · rw [if_neg h] at hQ
    simp (disch := first | omega | rfl) only [e34_0, e34_1, e34_2, e34_5, e34_8, e34_9, e34_12, e34_13, e34_16, e34_19, e34_20, WpV_some, WpH_some, ↓ite_t, ↓ite_f, pT_f0, pT_f1]
    exact hQ
theorem m33 (ht : t ≠ 0) (hw : wfT τ) (i : Int) : Runs xs 33 [vr t, vi i] μ (putT f t τ) (.inl (some (vi (pgA (cA τ i))))) μ (putT f t τ) := Runs.iff fun Q hQ => by
  have hr := cA_r hw i
  show Wp xs 33 0 [vr t, vi i, vu] [] μ (putT f t τ) Q
  unfold pgA at hQ
  by_cases h1 : 97 ≤ cA τ i
  · by_cases h2 : cA τ i ≤ 104
    · rw [if_pos ⟨h1, h2⟩] at hQ
      simp (disch := first | omega | rfl) only [e33_0, e33_1, e33_2, e33_5, e33_6, e33_7, e33_9, e33_12, e33_13, e33_15, e33_18, e33_19, e33_21, e33_22, e33_23, e33_24, e33_26, e33_29, e33_30, e33_32, e33_35, e33_36, e33_38, e33_39, e33_42, e33_43, WpV_some, WpH_some, ↓ite_t, ↓ite_f, cI_v (m34 ht i) pT_o ht, wrp_id]
      exact hQ
    · rw [if_neg (by omega), if_neg (by omega)] at hQ
      simp (disch := first | omega | rfl) only [e33_0, e33_1, e33_2, e33_5, e33_6, e33_7, e33_9, e33_12, e33_13, e33_15, e33_18, e33_19, e33_21, e33_22, e33_23, e33_24, e33_26, e33_29, e33_30, e33_32, e33_35, e33_36, e33_38, e33_39, e33_42, e33_43, WpV_some, WpH_some, ↓ite_t, ↓ite_f, cI_v (m34 ht i) pT_o ht, wrp_id]
      exact hQ
  · rw [if_neg (by omega)] at hQ
    by_cases h3 : 65 ≤ cA τ i
    · by_cases h4 : cA τ i ≤ 72
      · rw [if_pos ⟨h3, h4⟩] at hQ
        simp (disch := first | omega | rfl) only [e33_0, e33_1, e33_2, e33_5, e33_6, e33_7, e33_9, e33_12, e33_13, e33_15, e33_18, e33_19, e33_21, e33_22, e33_23, e33_24, e33_26, e33_29, e33_30, e33_32, e33_35, e33_36, e33_38, e33_39, e33_42, e33_43, WpV_some, WpH_some, ↓ite_t, ↓ite_f, cI_v (m34 ht i) pT_o ht, wrp_id]
        exact hQ
      · rw [if_neg (by omega)] at hQ
        simp (disch := first | omega | rfl) only [e33_0, e33_1, e33_2, e33_5, e33_6, e33_7, e33_9, e33_12, e33_13, e33_15, e33_18, e33_19, e33_21, e33_22, e33_23, e33_24, e33_26, e33_29, e33_30, e33_32, e33_35, e33_36, e33_38, e33_39, e33_42, e33_43, WpV_some, WpH_some, ↓ite_t, ↓ite_f, cI_v (m34 ht i) pT_o ht, wrp_id]
        exact hQ
    · rw [if_neg (by omega)] at hQ
      simp (disch := first | omega | rfl) only [e33_0, e33_1, e33_2, e33_5, e33_6, e33_7, e33_9, e33_12, e33_13, e33_15, e33_18, e33_19, e33_21, e33_22, e33_23, e33_24, e33_26, e33_29, e33_30, e33_32, e33_35, e33_36, e33_38, e33_39, e33_42, e33_43, WpV_some, WpH_some, ↓ite_t, ↓ite_f, cI_v (m34 ht i) pT_o ht, wrp_id]
      exact hQ
theorem m39 (ht : t ≠ 0) (i : Int) : Runs xs 39 [vr t, vi i] μ (putT f t τ) (.inl (some (vi (wrA (cA τ i))))) μ (putT f t τ) := Runs.iff fun Q hQ => by
  show Wp xs 39 0 [vr t, vi i, vu] [] μ (putT f t τ) Q
  unfold wrA at hQ
  by_cases h3 : 65 ≤ cA τ i
  · by_cases h4 : cA τ i ≤ 72
    · rw [if_pos ⟨h3, h4⟩] at hQ
      simp (disch := first | omega | rfl) only [e39_0, e39_1, e39_2, e39_5, e39_6, e39_7, e39_9, e39_12, e39_13, e39_15, e39_18, e39_19, e39_22, e39_23, WpV_some, WpH_some, ↓ite_t, ↓ite_f, cI_v (m34 ht i) pT_o ht]
      exact hQ
    · rw [if_neg (by omega)] at hQ
      simp (disch := first | omega | rfl) only [e39_0, e39_1, e39_2, e39_5, e39_6, e39_7, e39_9, e39_12, e39_13, e39_15, e39_18, e39_19, e39_22, e39_23, WpV_some, WpH_some, ↓ite_t, ↓ite_f, cI_v (m34 ht i) pT_o ht]
      exact hQ
  · rw [if_neg (by omega)] at hQ
    simp (disch := first | omega | rfl) only [e39_0, e39_1, e39_2, e39_5, e39_6, e39_7, e39_9, e39_12, e39_13, e39_15, e39_18, e39_19, e39_22, e39_23, WpV_some, WpH_some, ↓ite_t, ↓ite_f, cI_v (m34 ht i) pT_o ht]
    exact hQ
theorem m35 (ht : t ≠ 0) (i : Int) : Runs xs 35 [vr t, vi i] μ (putT f t τ) (.inl (some (vi (dgA (cA τ i))))) μ (putT f t τ) := Runs.iff fun Q hQ => by
  show Wp xs 35 0 [vr t, vi i, vu] [] μ (putT f t τ) Q
  unfold dgA at hQ
  by_cases h3 : 50 ≤ cA τ i
  · by_cases h4 : cA τ i ≤ 57
    · rw [if_pos ⟨h3, h4⟩] at hQ
      simp (disch := first | omega | rfl) only [e35_0, e35_1, e35_2, e35_5, e35_6, e35_7, e35_9, e35_12, e35_13, e35_15, e35_18, e35_19, e35_22, e35_23, WpV_some, WpH_some, ↓ite_t, ↓ite_f, cI_v (m34 ht i) pT_o ht]
      exact hQ
    · rw [if_neg (by omega)] at hQ
      simp (disch := first | omega | rfl) only [e35_0, e35_1, e35_2, e35_5, e35_6, e35_7, e35_9, e35_12, e35_13, e35_15, e35_18, e35_19, e35_22, e35_23, WpV_some, WpH_some, ↓ite_t, ↓ite_f, cI_v (m34 ht i) pT_o ht]
      exact hQ
  · rw [if_neg (by omega)] at hQ
    simp (disch := first | omega | rfl) only [e35_0, e35_1, e35_2, e35_5, e35_6, e35_7, e35_9, e35_12, e35_13, e35_15, e35_18, e35_19, e35_22, e35_23, WpV_some, WpH_some, ↓ite_t, ↓ite_f, cI_v (m34 ht i) pT_o ht]
    exact hQ
theorem dgA_01 (c : Int) : dgA c = 0 ∨ dgA c = 1 := by unfold dgA; split <;> simp
theorem m38 (ht : t ≠ 0) (hw : wfT τ) (i : Int) (h0 : 0 ≤ i) (h1 : i ≤ 1000) : Runs xs 38 [vr t, vi i] μ (putT f t τ) (.inl (some (vi (tmA τ i)))) μ (putT f t τ) := Runs.iff fun Q hQ => by
  have hr := cA_r hw (i + 1)
  show Wp xs 38 0 [vr t, vi i] [] μ (putT f t τ) Q
  unfold tmA at hQ
  by_cases h : pgA (cA τ i) = -1
  · rw [if_pos h] at hQ
    simp (disch := first | omega | rfl) only [e38_0, e38_1, e38_2, e38_5, e38_6, e38_9, e38_10, e38_11, e38_12, e38_13, e38_14, e38_15, e38_18, e38_21, e38_22, e38_23, e38_24, e38_25, e38_28, e38_30, e38_31, e38_34, e38_35, WpV_some, WpH_some, ↓ite_t, ↓ite_f, cI_v (m33 ht hw i) pT_o ht, h, ne_eq, not_true_eq_false, ↓reduceIte]
    exact hQ
  · rw [if_neg h] at hQ
    rcases dgA_01 (cA τ (i + 1)) with h2 | h2
    · rw [if_neg (by omega)] at hQ
      simp (disch := first | omega | rfl) only [e38_0, e38_1, e38_2, e38_5, e38_6, e38_9, e38_10, e38_11, e38_12, e38_13, e38_14, e38_15, e38_18, e38_21, e38_22, e38_23, e38_24, e38_25, e38_28, e38_30, e38_31, e38_34, e38_35, WpV_some, WpH_some, ↓ite_t, ↓ite_f, cI_v (m33 ht hw i) pT_o ht, cI_v (m35 ht _) pT_o ht, wrp_id, h, h2, ne_eq, not_false_eq_true, ↓reduceIte]
      exact hQ
    · rw [if_pos h2] at hQ
      simp (disch := first | omega | rfl) only [e38_0, e38_1, e38_2, e38_5, e38_6, e38_9, e38_10, e38_11, e38_12, e38_13, e38_14, e38_15, e38_18, e38_21, e38_22, e38_23, e38_24, e38_25, e38_28, e38_30, e38_31, e38_34, e38_35, WpV_some, WpH_some, ↓ite_t, ↓ite_f, cI_v (m33 ht hw i) pT_o ht, cI_v (m35 ht _) pT_o ht, cI_v (m34 ht _) pT_o ht, wrp_id, h, h2, ne_eq, not_false_eq_true, ↓reduceIte]
      exact hQ
theorem tmA_r (τ : TG) (i : Int) : 0 ≤ tmA τ i ∧ tmA τ i ≤ 9 := by
  unfold tmA
  split
  · omega
  · split
    · rename_i h
      unfold dgA at h
      split at h
      · omega
      · omega
    · omega
theorem tld_loop (ht : t ≠ 0) (hw : wfT τ) : ∀ (d i : Nat) (w : Int), (i : Int) + d = τ.2 → 0 ≤ w → w ≤ 9 * i → (Wp xs 37 4 [vr t, vi w, vi i] [] μ (putT f t τ) Q = Q (.inl (some (vi (w + tld τ i d)))) μ (putT f t τ)) := by
  have hw0 := hw
  obtain ⟨w1, w2, w3⟩ := hw0
  intro d
  induction d with
  | zero =>
    intro i w hi h0 h1
    simp (disch := first | omega | rfl) only [e37_0, e37_1, e37_2, e37_3, e37_4, e37_5, e37_6, e37_9, e37_12, e37_13, e37_14, e37_15, e37_18, e37_19, e37_20, e37_23, e37_26, e37_27, WpV_some, WpH_some, ↓ite_t, ↓ite_f, pT_f1, tld, Int.add_zero]
  | succ d ih =>
    intro i w hi h0 h1
    have hr := tmA_r τ i
    have q := ih (i + 1) (w + tmA τ i) (by omega) (by omega) (by omega)
    simp only [Int.natCast_add, Int.cast_ofNat_Int] at q
    rw [e37_4]
    simp (disch := first | omega | rfl) only [e37_0, e37_1, e37_2, e37_3, e37_5, e37_6, e37_9, e37_12, e37_13, e37_14, e37_15, e37_18, e37_19, e37_20, e37_23, e37_26, e37_27, WpV_some, WpH_some, ↓ite_t, ↓ite_f, pT_f1, cI_v (m38 ht hw i (by omega) (by omega)) pT_o ht, wrp_id, q, tld, Int.add_assoc]
theorem m37 (ht : t ≠ 0) (hw : wfT τ) : Runs xs 37 [vr t] μ (putT f t τ) (.inl (some (vi (tld τ 0 τ.2.toNat)))) μ (putT f t τ) := Runs.iff fun Q hQ => by
  show Wp xs 37 0 [vr t, vu, vu] [] μ (putT f t τ) Q
  simp (disch := first | omega | rfl) only [e37_0, e37_1, e37_2, e37_3, e37_5, e37_6, e37_9, e37_12, e37_13, e37_14, e37_15, e37_18, e37_19, e37_20, e37_23, e37_26, e37_27, WpV_some, WpH_some, ↓ite_t, ↓ite_f]
  have q := tld_loop (xs := xs) (f := f) (μ := μ) (Q := Q) ht hw τ.2.toNat 0 0 (by obtain ⟨w1, w2, w3⟩ := hw; omega) (by omega) (by omega)
  simp only [Int.cast_ofNat_Int, Int.zero_add] at q
  rw [q]
  exact hQ
theorem fwr_loop (ht : t ≠ 0) (hw : wfT τ) : ∀ (d i : Nat) (l2 l3 : AV), (i : Int) + d = τ.2 → (Wp xs 32 2 [vr t, vi i, l2, l3] [] μ (putT f t τ) Q = Q (.inl (some (vi (fwr τ i d)))) μ (putT f t τ)) := by
  have hw0 := hw
  obtain ⟨w1, w2, w3⟩ := hw0
  intro d
  induction d with
  | zero =>
    intro i l2 l3 hi
    simp (disch := first | omega | rfl) only [e32_0, e32_1, e32_2, e32_3, e32_4, e32_7, e32_10, e32_11, e32_12, e32_15, e32_16, e32_19, e32_20, e32_23, e32_24, e32_25, e32_26, e32_27, e32_30, e32_33, e32_34, e32_35, e32_36, e32_37, e32_40, e32_41, e32_44, e32_45, e32_48, e32_49, e32_50, e32_51, e32_54, e32_55, e32_58, e32_59, e32_60, e32_63, e32_66, e32_67, e32_70, WpV_some, WpH_some, ↓ite_t, ↓ite_f, pT_f1, fwr]
  | succ d ih =>
    intro i l2 l3 hi
    have q := fun l2 l3 => ih (i + 1) l2 l3 (by omega)
    simp only [Int.natCast_add, Int.cast_ofNat_Int] at q
    rw [e32_2]
    by_cases h1 : pgA (cA τ i) = -1
    · rcases dgA_01 (cA τ i) with h2 | h2
      · simp (disch := first | omega | rfl) only [e32_0, e32_1, e32_3, e32_4, e32_7, e32_10, e32_11, e32_12, e32_15, e32_16, e32_19, e32_20, e32_23, e32_24, e32_25, e32_26, e32_27, e32_30, e32_33, e32_34, e32_35, e32_36, e32_37, e32_40, e32_41, e32_44, e32_45, e32_48, e32_49, e32_50, e32_51, e32_54, e32_55, e32_58, e32_59, e32_60, e32_63, e32_66, e32_67, e32_70, WpV_some, WpH_some, ↓ite_t, ↓ite_f, pT_f1, cI_v (m33 ht hw _) pT_o ht, cI_v (m35 ht _) pT_o ht, wrp_id, q, fwr, h1, h2, show ¬ (1:Int) = 0 from (by decide), ne_eq, not_true_eq_false, not_false_eq_true, ↓reduceIte]
      · by_cases h3 : pgA (cA τ ((i : Int) - 1)) = -1
        · simp (disch := first | omega | rfl) only [e32_0, e32_1, e32_3, e32_4, e32_7, e32_10, e32_11, e32_12, e32_15, e32_16, e32_19, e32_20, e32_23, e32_24, e32_25, e32_26, e32_27, e32_30, e32_33, e32_34, e32_35, e32_36, e32_37, e32_40, e32_41, e32_44, e32_45, e32_48, e32_49, e32_50, e32_51, e32_54, e32_55, e32_58, e32_59, e32_60, e32_63, e32_66, e32_67, e32_70, WpV_some, WpH_some, ↓ite_t, ↓ite_f, pT_f1, cI_v (m33 ht hw _) pT_o ht, cI_v (m35 ht _) pT_o ht, wrp_id, q, fwr, h1, h2, h3, show ¬ (1:Int) = 0 from (by decide), ne_eq, not_true_eq_false, not_false_eq_true, ↓reduceIte]
        · simp (disch := first | omega | rfl) only [e32_0, e32_1, e32_3, e32_4, e32_7, e32_10, e32_11, e32_12, e32_15, e32_16, e32_19, e32_20, e32_23, e32_24, e32_25, e32_26, e32_27, e32_30, e32_33, e32_34, e32_35, e32_36, e32_37, e32_40, e32_41, e32_44, e32_45, e32_48, e32_49, e32_50, e32_51, e32_54, e32_55, e32_58, e32_59, e32_60, e32_63, e32_66, e32_67, e32_70, WpV_some, WpH_some, ↓ite_t, ↓ite_f, pT_f1, cI_v (m33 ht hw _) pT_o ht, cI_v (m35 ht _) pT_o ht, wrp_id, q, fwr, h1, h2, h3, show ¬ (1:Int) = 0 from (by decide), ne_eq, not_true_eq_false, not_false_eq_true, ↓reduceIte]
    · rcases dgA_01 (cA τ i) with h2 | h2
      · simp (disch := first | omega | rfl) only [e32_0, e32_1, e32_3, e32_4, e32_7, e32_10, e32_11, e32_12, e32_15, e32_16, e32_19, e32_20, e32_23, e32_24, e32_25, e32_26, e32_27, e32_30, e32_33, e32_34, e32_35, e32_36, e32_37, e32_40, e32_41, e32_44, e32_45, e32_48, e32_49, e32_50, e32_51, e32_54, e32_55, e32_58, e32_59, e32_60, e32_63, e32_66, e32_67, e32_70, WpV_some, WpH_some, ↓ite_t, ↓ite_f, pT_f1, cI_v (m33 ht hw _) pT_o ht, cI_v (m35 ht _) pT_o ht, wrp_id, q, fwr, h1, h2, show ¬ (1:Int) = 0 from (by decide), ne_eq, not_true_eq_false, not_false_eq_true, ↓reduceIte]
      · by_cases h3 : pgA (cA τ ((i : Int) - 1)) = -1
        · simp (disch := first | omega | rfl) only [e32_0, e32_1, e32_3, e32_4, e32_7, e32_10, e32_11, e32_12, e32_15, e32_16, e32_19, e32_20, e32_23, e32_24, e32_25, e32_26, e32_27, e32_30, e32_33, e32_34, e32_35, e32_36, e32_37, e32_40, e32_41, e32_44, e32_45, e32_48, e32_49, e32_50, e32_51, e32_54, e32_55, e32_58, e32_59, e32_60, e32_63, e32_66, e32_67, e32_70, WpV_some, WpH_some, ↓ite_t, ↓ite_f, pT_f1, cI_v (m33 ht hw _) pT_o ht, cI_v (m35 ht _) pT_o ht, wrp_id, q, fwr, h1, h2, h3, show ¬ (1:Int) = 0 from (by decide), ne_eq, not_true_eq_false, not_false_eq_true, ↓reduceIte]
        · simp (disch := first | omega | rfl) only [e32_0, e32_1, e32_3, e32_4, e32_7, e32_10, e32_11, e32_12, e32_15, e32_16, e32_19, e32_20, e32_23, e32_24, e32_25, e32_26, e32_27, e32_30, e32_33, e32_34, e32_35, e32_36, e32_37, e32_40, e32_41, e32_44, e32_45, e32_48, e32_49, e32_50, e32_51, e32_54, e32_55, e32_58, e32_59, e32_60, e32_63, e32_66, e32_67, e32_70, WpV_some, WpH_some, ↓ite_t, ↓ite_f, pT_f1, cI_v (m33 ht hw _) pT_o ht, cI_v (m35 ht _) pT_o ht, wrp_id, q, fwr, h1, h2, h3, show ¬ (1:Int) = 0 from (by decide), ne_eq, not_true_eq_false, not_false_eq_true, ↓reduceIte]
theorem m32 (ht : t ≠ 0) (hw : wfT τ) : Runs xs 32 [vr t] μ (putT f t τ) (.inl (some (vi (fwr τ 0 τ.2.toNat)))) μ (putT f t τ) := Runs.iff fun Q hQ => by
  show Wp xs 32 0 [vr t, vu, vu, vu] [] μ (putT f t τ) Q
  simp (disch := first | omega | rfl) only [e32_0, e32_1, e32_3, e32_4, e32_7, e32_10, e32_11, e32_12, e32_15, e32_16, e32_19, e32_20, e32_23, e32_24, e32_25, e32_26, e32_27, e32_30, e32_33, e32_34, e32_35, e32_36, e32_37, e32_40, e32_41, e32_44, e32_45, e32_48, e32_49, e32_50, e32_51, e32_54, e32_55, e32_58, e32_59, e32_60, e32_63, e32_66, e32_67, e32_70, WpV_some, WpH_some, ↓ite_t, ↓ite_f]
  have q := fwr_loop (xs := xs) (f := f) (μ := μ) (Q := Q) ht hw τ.2.toNat 0 vu vu (by obtain ⟨w1, w2, w3⟩ := hw; omega)
  simp only [Int.cast_ofNat_Int] at q
  rw [q]
  exact hQ
theorem m36 (ht : t ≠ 0) (hw : wfT τ) : Runs xs 36 [vr t] μ (putT f t τ) (.inl (some (vi (if 0 < τ.2 ∧ fwr τ 0 τ.2.toNat = τ.2 then 1 else 0)))) μ (putT f t τ) := Runs.iff fun Q hQ => by
  show Wp xs 36 0 [vr t] [] μ (putT f t τ) Q
  by_cases h1 : 0 < τ.2
  · by_cases h2 : fwr τ 0 τ.2.toNat = τ.2
    · rw [if_pos ⟨h1, h2⟩] at hQ
      simp (disch := first | omega | rfl) only [e36_0, e36_1, e36_4, e36_7, e36_8, e36_11, e36_12, e36_15, e36_18, e36_19, e36_22, e36_23, WpV_some, WpH_some, ↓ite_t, ↓ite_f, pT_f1, cI_v (m32 ht hw) pT_o ht, h2, ne_eq, not_true_eq_false, ↓reduceIte]
      exact hQ
    · rw [if_neg (fun h => h2 h.2)] at hQ
      simp (disch := first | omega | rfl) only [e36_0, e36_1, e36_4, e36_7, e36_8, e36_11, e36_12, e36_15, e36_18, e36_19, e36_22, e36_23, WpV_some, WpH_some, ↓ite_t, ↓ite_f, pT_f1, cI_v (m32 ht hw) pT_o ht, h2, ne_eq, not_false_eq_true, ↓reduceIte]
      exact hQ
  · rw [if_neg (fun h => h1 h.1)] at hQ
    simp (disch := first | omega | rfl) only [e36_0, e36_1, e36_4, e36_7, e36_8, e36_11, e36_12, e36_15, e36_18, e36_19, e36_22, e36_23, WpV_some, WpH_some, ↓ite_t, ↓ite_f, pT_f1]
    exact hQ
theorem m31 {c s : Nat} (ht : t ≠ 0) (hf : f t = some (oC 2 (dfs 2))) : Runs xs 31 [vr t] (t, (c, s)) f (.inl none) (t + 2, (c + 2, s + 41)) (putT f t (fun _ => 0, 0)) := Runs.iff fun Q hQ => by
  show Wp xs 31 0 [vr t] [] (t, (c, s)) f Q
  rw [← aup_self hf]
  have e0 : dfs 2 = [vn, vi 0] := rfl
  rw [e0]
  simp (disch := first | omega | (simp; done) | rfl) only [e31_0, e31_1, e31_4, e31_5, e31_8, e31_9, e31_11, e31_12, e31_15, e31_18, e31_19, e31_20, e31_23, WpV_some, WpH_some, ↓ite_t, ↓ite_f, new_row, pf_top, List.set_cons_zero, List.set_cons_succ, Nat.add_assoc, Nat.reduceAdd, aup_aup, show cF 0 = 1 from rfl, Int.reduceToNat]
  have e : aup (aup (aup f (t + 1) (oC 0 [vr (t + 2)])) (t + 2) (iC (tab 40 (fun _ => 0)))) t (oC 2 [vr (t + 1), vi 0]) = putT f t (fun _ => 0, 0) := by
    funext a
    by_cases ha : t ≤ a ∧ a < t + 3
    · obtain ⟨o, rfl⟩ : ∃ o, a = t + o := ⟨a - t, by omega⟩
      have ho : o < 3 := by omega
      rw [putT_in f t _ ho]
      match o, ho with
      | 0, _ => simp [aup, txC]
      | 1, _ => simp [aup, txC]
      | 2, _ => simp [aup, txC]
    · rw [putT_out f _ (by omega)]
      have h0 : ¬ a = t := fun e => ha (by omega)
      have h1 : ¬ a = t + 1 := fun e => ha (by omega)
      have h2 : ¬ a = t + 2 := fun e => ha (by omega)
      simp only [aup, h0, h1, h2, ↓reduceIte]
  rw [← e] at hQ
  exact hQ
end TX
