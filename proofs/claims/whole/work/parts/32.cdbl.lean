/-! the share of hits, and its bits -/
def shr (h d : Int) : UInt64 := if d < 1 then FP.dconst1 else FP.ddiv (iD h) (iD d)
def bsl (e : Int64) (x : UInt64) : Nat → Option (Int64 × UInt64)
  | 0 => none
  | k + 1 => if 0 ≤ (Op.cmpValue (FP.dcmp x FP.dconst1) .g).toInt then some (e, x) else if (lg_cmp e 1).toInt ≤ 0 then some (e, x) else if nn64 (FP.dmul x 4611686018427387904) = true then bsl (e - 1) (FP.dmul x 4611686018427387904) k else none
def bsE (r : Int64 × UInt64) : Option Int64 := if nn64 (FP.dsub r.2 FP.dconst1) = true ∧ nn64 (FP.dmul (FP.dsub r.2 FP.dconst1) 4841369599423283200) = true then some (lSh r.1 52 + FP.d2l (FP.dmul (FP.dsub r.2 FP.dconst1) 4841369599423283200)) else none
def bsF (x : UInt64) : Option Int64 := if 0 < (Op.cmpValue (FP.dcmp x FP.dconst0) .g).toInt then (match bsl 1023 x 10 with | some r => bsE r | none => none) else some 0
section CB
variable {xs : List Int} {f : AH} {sc : Int} {T : TG} {τ σ : SG} {μ : Mu} {y pc : Nat} {L st : List AV} {Q : Out → Mu → AH → Prop}
theorem bsl_loop : ∀ (k : Nat) (e : Int64) (x : UInt64) (r : Int64 × UInt64) (l0 l6 l7 : AV), bsl e x k = some r → (Wp xs 61 15 [l0, vu, vd x, vu, vl e, vu, l6, l7] [] μ f Q = Wp xs 61 43 [l0, vu, vd r.2, vu, vl r.1, vu, l6, l7] [] μ f Q) := by
  intro k
  induction k with
  | zero => intro e x r l0 l6 l7 h; exact nomatch h
  | succ k ih =>
    intro e x r l0 l6 l7 h
    unfold bsl at h
    rw [e61_15]
    by_cases c1 : 0 ≤ (Op.cmpValue (FP.dcmp x FP.dconst1) .g).toInt
    · rw [if_pos c1] at h
      injection h with h
      subst h
      simp only [e61_16, e61_17, e61_18, c1, ↓reduceIte]
    · rw [if_neg c1] at h
      by_cases c2 : (lg_cmp e 1).toInt ≤ 0
      · rw [if_pos c2] at h
        injection h with h
        subst h
        simp only [e61_16, e61_17, e61_18, e61_21, e61_23, e61_24, e61_25, c1, c2, ↓reduceIte]
      · rw [if_neg c2] at h
        by_cases c3 : nn64 (FP.dmul x 4611686018427387904) = true
        · rw [if_pos c3] at h
          have q := ih _ _ r l0 l6 l7 h
          simp only [e61_16, e61_17, e61_18, e61_21, e61_23, e61_24, e61_25, e61_28, e61_29, e61_32 c3, e61_33, e61_34, e61_36, e61_37, e61_38, e61_40, c1, c2, ↓reduceIte, q]
        · rw [if_neg c3] at h; exact nomatch h
theorem m61 {x : UInt64} {v : Int64} (h : bsF x = some v) : Runs xs 61 [vd x] μ f (.inl (some (vl v))) μ f := Runs.iff fun Q hQ => by
  show Wp xs 61 0 [vd x, vu, vu, vu, vu, vu, vu, vu] [] μ f Q
  unfold bsF at h
  by_cases c : 0 < (Op.cmpValue (FP.dcmp x FP.dconst0) .g).toInt
  · rw [if_pos c] at h
    cases hr : bsl 1023 x 10 with
    | none => rw [hr] at h; exact nomatch h
    | some r =>
      rw [hr] at h
      dsimp only at h
      unfold bsE at h
      split at h
      · rename_i hn
        injection h with h
        subst h
        have q := bsl_loop (xs := xs) (f := f) (μ := μ) (Q := Q) 10 1023 x r (vd x) vu vu hr
        simp only [e61_0, e61_1, e61_2, e61_3, e61_8, e61_9, e61_10, e61_13, c, ↓reduceIte, q, e61_43, e61_46, e61_48, e61_50, e61_52, e61_53, e61_54, e61_55 hn.1, e61_56, e61_58 hn.2, e61_59, e61_60, e61_61]
        exact hQ
      · exact nomatch h
  · rw [if_neg c] at h
    injection h with h
    subst h
    simp only [e61_0, e61_1, e61_2, e61_3, e61_6, e61_7, c, ↓reduceIte]
    exact hQ
theorem m50 (hw : wfS σ) (hn : nn64 (shr (co (σ.1 2) 0 0 (σ.2 1).toNat) (σ.2 1)) = true) : Runs xs 50 [vr 1] μ (PP f sc T τ σ) (.inl (some (vd (shr (co (σ.1 2) 0 0 (σ.2 1).toNat) (σ.2 1))))) μ (PP f sc T τ σ) := Runs.iff fun Q hQ => by
  show Wp xs 50 0 [vr 1] [] μ (PP f sc T τ σ) Q
  unfold shr at hQ hn
  by_cases c : σ.2 1 < 1
  · rw [if_pos c] at hQ hn
    simp (disch := first | assumption | omega | rfl) only [e50_0, e50_1, e50_4, e50_7, e50_8, e50_11, e50_12, e50_13, e50_14, e50_17, e50_20, e50_21, e50_22, e50_25, e50_28, e50_29, e50_30, WpV_some, WpH_some, ↓ite_t, ↓ite_f, P_f0, P_f1, P_f2, P_f3, P_f4, P_n0, P_n1, P_n2, P_n3, P_n4, P_n5, P_n6, P_n7, P_n8, P_n9, P_n10, P_n11, P_n12, P_n13, P_t0, P_t1, P_t2, P_t3, P_t4, P_t5, P_t6, P_t7, P_t8, P_t9, P_t10, P_t11, P_t12, P_t13, P_x0, P_x1]
    exact hQ
  · rw [if_neg c] at hQ hn
    simp (disch := first | assumption | omega | rfl) only [e50_0, e50_1, e50_4, e50_7, e50_8, e50_11, e50_12, e50_13, e50_14, e50_17, e50_20, e50_21, e50_22, e50_25, e50_28, e50_29, e50_30, WpV_some, WpH_some, ↓ite_t, ↓ite_f, P_f0, P_f1, P_f2, P_f3, P_f4, P_n0, P_n1, P_n2, P_n3, P_n4, P_n5, P_n6, P_n7, P_n8, P_n9, P_n10, P_n11, P_n12, P_n13, P_t0, P_t1, P_t2, P_t3, P_t4, P_t5, P_t6, P_t7, P_t8, P_t9, P_t10, P_t11, P_t12, P_t13, P_x0, P_x1, cI_v (Rn (m25 h2 hw)) P_on h2]
    exact hQ
/-! the model's bits -/
def bmu (e : Int64) (x : UInt64) : Nat → Option (Int64 × UInt64)
  | 0 => none
  | k + 1 => if (Op.cmpValue (FP.dcmp x 4611686018427387904) .l).toInt < 0 then some (e, x) else if nn64 (FP.ddiv x 4611686018427387904) = true then bmu (e + 1) (FP.ddiv x 4611686018427387904) k else none
def bmd (e : Int64) (x : UInt64) : Nat → Option (Int64 × UInt64)
  | 0 => none
  | k + 1 => if 0 ≤ (Op.cmpValue (FP.dcmp x FP.dconst1) .g).toInt then some (e, x) else if nn64 (FP.dmul x 4611686018427387904) = true then bmd (e - 1) (FP.dmul x 4611686018427387904) k else none
def bmE (r : Int64 × UInt64) : Option Int64 := if nn64 (FP.dmul r.2 4841369599423283200) = true then some (lSh r.1 52 + FP.d2l (FP.dmul r.2 4841369599423283200) - 4503599627370496) else none
def bmF (x : UInt64) : Option Int64 := if (Op.cmpValue (FP.dcmp x FP.dconst0) .l).toInt = 0 then some 0 else (match bmu 1023 x 3 with | some r => (match bmd r.1 r.2 10 with | some s => bmE s | none => none) | none => none)
theorem bmu_loop : ∀ (k : Nat) (e : Int64) (x : UInt64) (r : Int64 × UInt64) (l0 : AV), bmu e x k = some r → (Wp xs 143 15 [l0, vu, vd x, vu, vl e, vu] [] μ f Q = Wp xs 143 38 [l0, vu, vd r.2, vu, vl r.1, vu] [] μ f Q) := by
  intro k
  induction k with
  | zero => intro e x r l0 h; exact nomatch h
  | succ k ih =>
    intro e x r l0 h
    unfold bmu at h
    rw [e143_15]
    by_cases c1 : (Op.cmpValue (FP.dcmp x 4611686018427387904) .l).toInt < 0
    · rw [if_pos c1] at h
      injection h with h
      subst h
      simp only [e143_16, e143_19, e143_20, c1, ↓reduceIte]
    · rw [if_neg c1] at h
      by_cases c3 : nn64 (FP.ddiv x 4611686018427387904) = true
      · rw [if_pos c3] at h
        have q := ih _ _ r l0 h
        simp only [e143_16, e143_19, e143_20, e143_23, e143_24, e143_27 c3, e143_28, e143_29, e143_31, e143_32, e143_33, e143_35, c1, ↓reduceIte, q]
      · rw [if_neg c3] at h; exact nomatch h
theorem bmd_loop : ∀ (k : Nat) (e : Int64) (x : UInt64) (r : Int64 × UInt64) (l0 : AV), bmd e x k = some r → (Wp xs 143 38 [l0, vu, vd x, vu, vl e, vu] [] μ f Q = Wp xs 143 59 [l0, vu, vd r.2, vu, vl r.1, vu] [] μ f Q) := by
  intro k
  induction k with
  | zero => intro e x r l0 h; exact nomatch h
  | succ k ih =>
    intro e x r l0 h
    unfold bmd at h
    rw [e143_38]
    by_cases c1 : 0 ≤ (Op.cmpValue (FP.dcmp x FP.dconst1) .g).toInt
    · rw [if_pos c1] at h
      injection h with h
      subst h
      simp only [e143_39, e143_40, e143_41, c1, ↓reduceIte]
    · rw [if_neg c1] at h
      by_cases c3 : nn64 (FP.dmul x 4611686018427387904) = true
      · rw [if_pos c3] at h
        have q := ih _ _ r l0 h
        simp only [e143_39, e143_40, e143_41, e143_44, e143_45, e143_48 c3, e143_49, e143_50, e143_52, e143_53, e143_54, e143_56, c1, ↓reduceIte, q]
      · rw [if_neg c3] at h; exact nomatch h
theorem m143 {x : UInt64} {v : Int64} (h : bmF x = some v) : Runs xs 143 [vd x] μ f (.inl (some (vl v))) μ f := Runs.iff fun Q hQ => by
  show Wp xs 143 0 [vd x, vu, vu, vu, vu, vu] [] μ f Q
  unfold bmF at h
  by_cases c : (Op.cmpValue (FP.dcmp x FP.dconst0) .l).toInt = 0
  · rw [if_pos c] at h
    injection h with h
    subst h
    simp only [e143_0, e143_1, e143_2, e143_3, e143_6, e143_7, c, ne_eq, not_true_eq_false, ↓reduceIte]
    exact hQ
  · rw [if_neg c] at h
    cases hr : bmu 1023 x 3 with
    | none => rw [hr] at h; exact nomatch h
    | some r =>
      rw [hr] at h
      dsimp only at h
      cases hs : bmd r.1 r.2 10 with
      | none => rw [hs] at h; exact nomatch h
      | some s =>
        rw [hs] at h
        dsimp only at h
        unfold bmE at h
        split at h
        · rename_i hn
          injection h with h
          subst h
          have q := bmu_loop (xs := xs) (f := f) (μ := μ) (Q := Q) 3 1023 x r (vd x) hr
          have q2 := bmd_loop (xs := xs) (f := f) (μ := μ) (Q := Q) 10 r.1 r.2 s (vd x) hs
          simp only [e143_0, e143_1, e143_2, e143_3, e143_8, e143_9, e143_10, e143_13, c, ne_eq, not_false_eq_true, ↓reduceIte, q, q2, e143_59, e143_61, e143_63, e143_64, e143_65, e143_68 hn, e143_69, e143_70, e143_71, e143_74, e143_75]
          exact hQ
        · exact nomatch h
end CB
