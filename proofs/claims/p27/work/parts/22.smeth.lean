/-! THE METHODS OF PlannedPages$State -/
def wfS (σ : SG) : Prop := 0 ≤ σ.2 1 ∧ σ.2 1 ≤ σ.2 0 ∧ σ.2 0 ≤ 80 ∧ 1 ≤ σ.2 2 ∧ σ.2 2 ≤ 6
def lef (g : Nat → Int) (i : Nat) : Nat → Int
  | 0 => -1
  | d + 1 => if fo g i 0 8 = -1 then (i : Int) else lef g (i + 1) d
def nxu (σ : SG) (p : Int) (i : Nat) : Int := if fo (σ.1 0) p i ((σ.2 0).toNat - i) = -1 then 80 else fo (σ.1 0) p i ((σ.2 0).toNat - i)
def frd (g : Nat → Int) (i : Nat) : Nat → Int
  | 0 => -1
  | d + 1 => if g i = 0 then frd g (i + 1) d else (i : Int)
def age (σ : SG) (rule : Int) (i : Nat) (p : Int) : Int := if rule = 0 then nxu σ p i else if rule = 1 then wrp (-(rg 8 (σ.1 7) p)) else wrp (-(rg 8 (σ.1 8) p))
def vb (σ : SG) (rule : Int) (i : Nat) (best great : Int) (p : Nat) : Nat → Int
  | 0 => best
  | d + 1 => if rg 8 (σ.1 4) p = -1 then vb σ rule i best great (p + 1) d else if rg 8 (σ.1 6) p ≠ 0 then vb σ rule i best great (p + 1) d
    else if best = -1 then vb σ rule i p (age σ rule i p) (p + 1) d else if age σ rule i p ≤ great then vb σ rule i best great (p + 1) d else vb σ rule i p (age σ rule i p) (p + 1) d
def wbk (σ : SG) (p : Int) : SG := if rg 8 (σ.1 5) p = 1 then sR (sR σ 5 (rs 8 (σ.1 5) p 0)) 10 (rs 8 (σ.1 10) p (wrp (rg 8 (σ.1 10) p + 1))) else σ
def tko (σ : SG) (p : Int) : SG := sR (wbk σ p) 4 (rs 8 ((wbk σ p).1 4) p (-1))
def rdi (σ : SG) (fr p : Int) : SG := sR (sR (sR σ 4 (rs 8 (σ.1 4) p fr)) 8 (rs 8 (σ.1 8) p (σ.2 1))) 9 (rs 8 (σ.1 9) p (wrp (rg 8 (σ.1 9) p + 1)))
def mkd (σ : SG) (p why v : Int) : SG := sS (sR (sR (sR (if rg 80 (σ.1 1) (σ.2 1) = 1 then sR σ 5 (rs 8 (σ.1 5) p 1) else σ) 2 (rs 80 (σ.1 2) (σ.2 1) why)) 3 (rs 80 (σ.1 3) (σ.2 1) v)) 7 (rs 8 (σ.1 7) p (σ.2 1))) 1 (wrp (σ.2 1 + 1))
def dnx (σ : SG) (rule : Int) : SG :=
  if σ.2 0 ≤ σ.2 1 then σ
  else if rg 8 (σ.1 4) (rg 80 (σ.1 0) (σ.2 1)) ≠ -1 then mkd σ (rg 80 (σ.1 0) (σ.2 1)) 0 (-1)
  else if lef (σ.1 4) 0 (σ.2 2).toNat ≠ -1 then mkd (rdi σ (lef (σ.1 4) 0 (σ.2 2).toNat) (rg 80 (σ.1 0) (σ.2 1))) (rg 80 (σ.1 0) (σ.2 1)) 1 (-1)
  else mkd (rdi (tko σ (vb σ rule (σ.2 1 + 1).toNat (-1) 0 0 8)) (rg 8 (σ.1 4) (vb σ rule (σ.2 1 + 1).toNat (-1) 0 0 8)) (rg 80 (σ.1 0) (σ.2 1))) (rg 80 (σ.1 0) (σ.2 1)) (if rg 8 (σ.1 5) (vb σ rule (σ.2 1 + 1).toNat (-1) 0 0 8) = 1 then 3 else 2) (vb σ rule (σ.2 1 + 1).toNat (-1) 0 0 8)
section SM
variable {xs : List Int} {f : AH} {b : Nat} {σ : SG} {μ : Mu} {y pc : Nat} {L st : List AV} {Q : Out → Mu → AH → Prop}
theorem co_r (g : Nat → Int) (v : Int) (i d : Nat) : 0 ≤ co g v i d ∧ co g v i d ≤ d := co_le g v d i
theorem fo_r (g : Nat → Int) (v : Int) : ∀ d i : Nat, -1 ≤ fo g v i d ∧ fo g v i d < (i + d : Nat) := by
  intro d
  induction d with
  | zero => intro i; simp only [fo]; omega
  | succ d ih =>
    intro i
    have q := ih (i + 1)
    simp only [fo]
    split <;> omega
theorem m14 (hb : b ≠ 0) (hw : wfS σ) : Runs xs 14 [vr b] μ (putS f b σ) (.inl (some (vi (σ.2 0 - σ.2 1)))) μ (putS f b σ) := Runs.iff fun Q hQ => by
  obtain ⟨w1, w2, w3, w4, w5⟩ := hw
  show Wp xs 14 0 [vr b] [] μ (putS f b σ) Q
  simp (disch := omega) only [e14_0, e14_1, e14_4, e14_5, e14_8, e14_9, WpV_some, WpH_some, ↓ite_t, ↓ite_f, pS_f0, pS_f1, pS_f2, pS_f3, pS_f4, pS_f5, pS_f6, pS_f7, pS_f8, pS_f9, pS_f10, pS_f11, pS_f12, pS_f13, wrp_id]
  exact hQ
theorem m25 (hb : b ≠ 0) (hw : wfS σ) : Runs xs 25 [vr b] μ (putS f b σ) (.inl (some (vi (co (σ.1 2) 0 0 (σ.2 1).toNat)))) μ (putS f b σ) := Runs.iff fun Q hQ => by
  obtain ⟨w1, w2, w3, w4, w5⟩ := hw
  show Wp xs 25 0 [vr b] [] μ (putS f b σ) Q
  simp (disch := omega) only [e25_0, e25_1, e25_4, e25_5, e25_6, e25_7, e25_10, e25_13, WpV_some, WpH_some, ↓ite_t, ↓ite_f, pS_f0, pS_f1, pS_f2, pS_f3, pS_f4, pS_f5, pS_f6, pS_f7, pS_f8, pS_f9, pS_f10, pS_f11, pS_f12, pS_f13, S_co_2 hb]
  rw [show min (σ.2 1).toNat 80 - Int.toNat 0 = (σ.2 1).toNat by omega]
  exact hQ
theorem m26 (hb : b ≠ 0) : Runs xs 26 [vr b] μ (putS f b σ) (.inl (some (vi (8 - co (σ.1 4) (-1) 0 8)))) μ (putS f b σ) := Runs.iff fun Q hQ => by
  have h := co_r (σ.1 4) (-1) 0 8
  show Wp xs 26 0 [vr b] [] μ (putS f b σ) Q
  simp (disch := omega) only [e26_0, e26_2, e26_3, e26_6, e26_7, e26_8, e26_10, e26_13, e26_14, WpV_some, WpH_some, ↓ite_t, ↓ite_f, pS_f0, pS_f1, pS_f2, pS_f3, pS_f4, pS_f5, pS_f6, pS_f7, pS_f8, pS_f9, pS_f10, pS_f11, pS_f12, pS_f13, S_co_4 hb]
  rw [show min (Int.toNat 8) 8 - Int.toNat 0 = 8 by decide, show Int.toNat 0 = 0 from rfl, wrp_id (by omega) (by omega)]
  exact hQ
theorem m24 (hb : b ≠ 0) : Runs xs 24 [vr b] μ (putS f b σ) (.inl (some (vi (sm 0 (σ.1 6) 0 8)))) μ (putS f b σ) := Runs.iff fun Q hQ => by
  show Wp xs 24 0 [vr b] [] μ (putS f b σ) Q
  simp (disch := omega) only [e24_0, e24_1, e24_4, e24_7, WpV_some, WpH_some, ↓ite_t, ↓ite_f, pS_f0, pS_f1, pS_f2, pS_f3, pS_f4, pS_f5, pS_f6, pS_f7, pS_f8, pS_f9, pS_f10, pS_f11, pS_f12, pS_f13, S_sm_6 hb]
  exact hQ
theorem m23 (hb : b ≠ 0) (hw : wfS σ) : Runs xs 23 [vr b] μ (putS f b σ) (.inl (some (vi (if sm 0 (σ.1 6) 0 8 < σ.2 2 - 1 then 1 else 0)))) μ (putS f b σ) := Runs.iff fun Q hQ => by
  obtain ⟨w1, w2, w3, w4, w5⟩ := hw
  show Wp xs 23 0 [vr b] [] μ (putS f b σ) Q
  simp (disch := omega) only [e23_0, e23_1, e23_4, e23_5, e23_8, e23_9, e23_10, e23_13, e23_14, e23_17, e23_18, WpV_some, WpH_some, ↓ite_t, ↓ite_f, pS_f0, pS_f1, pS_f2, pS_f3, pS_f4, pS_f5, pS_f6, pS_f7, pS_f8, pS_f9, pS_f10, pS_f11, pS_f12, pS_f13, cI_v (m24 hb) (pS_o f b σ) hb, wrp_id]
  by_cases h : sm 0 (σ.1 6) 0 8 < σ.2 2 - 1
  · rw [if_pos h] at hQ
    simp (disch := omega) only [WpV_some, WpH_some, ↓ite_t, ↓ite_f]; exact hQ
  · rw [if_neg h] at hQ
    simp (disch := omega) only [WpV_some, WpH_some, ↓ite_t, ↓ite_f]; exact hQ
theorem m16 (hb : b ≠ 0) (fr : Int) : Runs xs 16 [vr b, vi fr] μ (putS f b σ) (.inl (some (vi (fo (σ.1 4) fr 0 8)))) μ (putS f b σ) := Runs.iff fun Q hQ => by
  show Wp xs 16 0 [vr b, vi fr] [] μ (putS f b σ) Q
  simp (disch := omega) only [e16_0, e16_1, e16_4, e16_5, e16_6, e16_8, e16_11, WpV_some, WpH_some, ↓ite_t, ↓ite_f, pS_f0, pS_f1, pS_f2, pS_f3, pS_f4, pS_f5, pS_f6, pS_f7, pS_f8, pS_f9, pS_f10, pS_f11, pS_f12, pS_f13, S_fo_4 hb]
  exact hQ
theorem lef_loop (hb : b ≠ 0) (hw : wfS σ) : ∀ (d i : Nat), (i : Int) + d = σ.2 2 → (Wp xs 15 2 [vr b, vi i] [] μ (putS f b σ) Q = Q (.inl (some (vi (lef (σ.1 4) i d)))) μ (putS f b σ)) := by
  obtain ⟨w1, w2, w3, w4, w5⟩ := hw
  intro d
  induction d with
  | zero =>
    intro i hi
    simp (disch := omega) only [e15_0, e15_1, e15_2, e15_3, e15_4, e15_7, e15_10, e15_11, e15_12, e15_15, e15_16, e15_19, e15_20, e15_21, e15_24, e15_27, e15_28, WpV_some, WpH_some, ↓ite_t, ↓ite_f, pS_f0, pS_f1, pS_f2, pS_f3, pS_f4, pS_f5, pS_f6, pS_f7, pS_f8, pS_f9, pS_f10, pS_f11, pS_f12, pS_f13, lef]
  | succ d ih =>
    intro i hi
    have q := ih (i + 1) (by omega)
    simp only [Int.natCast_add, Int.cast_ofNat_Int] at q
    rw [e15_2]
    simp (disch := omega) only [e15_0, e15_1, e15_3, e15_4, e15_7, e15_10, e15_11, e15_12, e15_15, e15_16, e15_19, e15_20, e15_21, e15_24, e15_27, e15_28, WpV_some, WpH_some, ↓ite_t, ↓ite_f, pS_f0, pS_f1, pS_f2, pS_f3, pS_f4, pS_f5, pS_f6, pS_f7, pS_f8, pS_f9, pS_f10, pS_f11, pS_f12, pS_f13, cI_v (m16 hb _) (pS_o f b σ) hb, wrp_id, q, lef]
    by_cases h : fo (σ.1 4) i 0 8 = -1
    · simp only [h, ↓reduceIte, ne_eq, not_true_eq_false]
    · simp only [h, ↓reduceIte, ne_eq, not_false_eq_true]
theorem m15 (hb : b ≠ 0) (hw : wfS σ) : Runs xs 15 [vr b] μ (putS f b σ) (.inl (some (vi (lef (σ.1 4) 0 (σ.2 2).toNat)))) μ (putS f b σ) := Runs.iff fun Q hQ => by
  show Wp xs 15 0 [vr b, vu] [] μ (putS f b σ) Q
  simp (disch := first | omega | rfl) only [e15_0, e15_1, e15_3, e15_4, e15_7, e15_10, e15_11, e15_12, e15_15, e15_16, e15_19, e15_20, e15_21, e15_24, e15_27, e15_28, WpV_some, WpH_some, ↓ite_t, ↓ite_f]
  have q := lef_loop (xs := xs) (f := f) (μ := μ) (Q := Q) hb hw (σ.2 2).toNat 0 (by obtain ⟨w1, w2, w3, w4, w5⟩ := hw; omega)
  simp only [Int.cast_ofNat_Int] at q
  rw [q]
  exact hQ
theorem m18 (hb : b ≠ 0) (hw : wfS σ) (p i : Int) (h0 : 0 ≤ i) (h1 : i ≤ 1000) : Runs xs 18 [vr b, vi p, vi i] μ (putS f b σ) (.inl (some (vi (nxu σ p i.toNat)))) μ (putS f b σ) := Runs.iff fun Q hQ => by
  obtain ⟨w1, w2, w3, w4, w5⟩ := hw
  show Wp xs 18 0 [vr b, vi p, vi i, vu] [] μ (putS f b σ) Q
  simp (disch := first | omega | rfl) only [e18_0, e18_1, e18_4, e18_5, e18_6, e18_7, e18_10, e18_13, e18_14, e18_15, e18_16, e18_19, e18_21, e18_24, e18_25, WpV_some, WpH_some, ↓ite_t, ↓ite_f, pS_f0, pS_f1, pS_f2, pS_f3, pS_f4, pS_f5, pS_f6, pS_f7, pS_f8, pS_f9, pS_f10, pS_f11, pS_f12, pS_f13, S_fo_0 hb]
  rw [show min (σ.2 0).toNat 80 - i.toNat = (σ.2 0).toNat - i.toNat by omega]
  unfold nxu at hQ
  by_cases h : fo (σ.1 0) p i.toNat ((σ.2 0).toNat - i.toNat) = -1
  · rw [if_pos h] at hQ
    simp only [h, ↓reduceIte, ne_eq, not_true_eq_false]; exact hQ
  · rw [if_neg h] at hQ
    simp only [h, ↓reduceIte, ne_eq, not_false_eq_true]; exact hQ
theorem frd_loop (hb : b ≠ 0) (hw : wfS σ) (a : Int) : ∀ (d i : Nat), d = (σ.2 1).toNat - i → i ≤ 1000 → (Wp xs 27 2 [vr b, vi a, vi i] [] μ (putS f b σ) Q = Q (.inl (some (vi (frd (σ.1 2) i d)))) μ (putS f b σ)) := by
  obtain ⟨w1, w2, w3, w4, w5⟩ := hw
  intro d
  induction d with
  | zero =>
    intro i hi h1
    simp (disch := omega) only [e27_0, e27_1, e27_2, e27_3, e27_4, e27_7, e27_10, e27_11, e27_14, e27_15, e27_18, e27_21, e27_22, e27_23, e27_26, e27_29, e27_30, WpV_some, WpH_some, ↓ite_t, ↓ite_f, pS_f0, pS_f1, pS_f2, pS_f3, pS_f4, pS_f5, pS_f6, pS_f7, pS_f8, pS_f9, pS_f10, pS_f11, pS_f12, pS_f13, frd]
  | succ d ih =>
    intro i hi h1
    have q := ih (i + 1) (by omega) (by omega)
    simp only [Int.natCast_add, Int.cast_ofNat_Int] at q
    rw [e27_2]
    have e : rg 80 (σ.1 2) i = σ.1 2 i := by unfold rg; rw [if_pos (by omega), Int.toNat_natCast]
    simp (disch := omega) only [e27_0, e27_1, e27_3, e27_4, e27_7, e27_10, e27_11, e27_14, e27_15, e27_18, e27_21, e27_22, e27_23, e27_26, e27_29, e27_30, WpV_some, WpH_some, ↓ite_t, ↓ite_f, pS_f0, pS_f1, pS_f2, pS_f3, pS_f4, pS_f5, pS_f6, pS_f7, pS_f8, pS_f9, pS_f10, pS_f11, pS_f12, pS_f13, S_get_2 hb, wrp_id, q, frd, e]
    by_cases h : σ.1 2 i = 0
    · simp only [h, ↓reduceIte]
    · simp only [h, ↓reduceIte]
theorem m27 (hb : b ≠ 0) (hw : wfS σ) (i : Int) (h0 : 0 ≤ i) (h1 : i ≤ 1000) : Runs xs 27 [vr b, vi i] μ (putS f b σ) (.inl (some (vi (frd (σ.1 2) i.toNat ((σ.2 1).toNat - i.toNat))))) μ (putS f b σ) := Runs.iff fun Q hQ => by
  show Wp xs 27 0 [vr b, vi i, vu] [] μ (putS f b σ) Q
  simp (disch := first | omega | rfl) only [e27_0, e27_1, e27_3, e27_4, e27_7, e27_10, e27_11, e27_14, e27_15, e27_18, e27_21, e27_22, e27_23, e27_26, e27_29, e27_30, WpV_some, WpH_some, ↓ite_t, ↓ite_f]
  have q := frd_loop (xs := xs) (f := f) (μ := μ) (Q := Q) hb hw i _ i.toNat rfl (by omega)
  rw [Int.toNat_of_nonneg h0] at q
  rw [q]
  exact hQ
theorem vb_loop (hb : b ≠ 0) (hw : wfS σ) (rule i : Int) (h0 : 0 ≤ i) (h1 : i ≤ 1000) : ∀ (d p : Nat) (best great : Int) (l6 : AV), p + d = 8 → (Wp xs 17 8 [vr b, vi rule, vi i, vi best, vi great, vi p, l6] [] μ (putS f b σ) Q = Q (.inl (some (vi (vb σ rule i.toNat best great p d)))) μ (putS f b σ)) := by
  intro d
  induction d with
  | zero =>
    intro p best great l6 hp
    simp (disch := omega) only [e17_0, e17_1, e17_2, e17_3, e17_5, e17_6, e17_8, e17_10, e17_12, e17_15, e17_16, e17_19, e17_21, e17_24, e17_25, e17_28, e17_29, e17_32, e17_34, e17_37, e17_40, e17_41, e17_44, e17_45, e17_47, e17_48, e17_51, e17_54, e17_55, e17_56, e17_59, e17_60, e17_63, e17_65, e17_68, e17_69, e17_72, e17_73, e17_76, e17_78, e17_81, e17_82, e17_84, e17_85, e17_86, e17_89, e17_91, e17_93, e17_96, e17_98, e17_99, e17_101, e17_103, e17_106, e17_109, e17_110, WpV_some, WpH_some, ↓ite_t, ↓ite_f, vb]
  | succ d ih =>
    intro p best great l6 hp
    have q : ∀ (best great : Int) (l6 : AV), Wp xs 17 8 [vr b, vi rule, vi i, vi best, vi great, vi ((p : Int) + 1), l6] [] μ (putS f b σ) Q = Q (.inl (some (vi (vb σ rule i.toNat best great (p + 1) d)))) μ (putS f b σ) := fun best great l6 => by
      have q := ih (p + 1) best great l6 (by omega)
      simp only [Int.natCast_add, Int.cast_ofNat_Int] at q
      exact q
    rw [e17_8]
    simp (disch := first | omega | rfl) only [e17_0, e17_1, e17_2, e17_3, e17_5, e17_6, e17_10, e17_12, e17_15, e17_16, e17_19, e17_21, e17_24, e17_25, e17_28, e17_29, e17_32, e17_34, e17_37, e17_40, e17_41, e17_44, e17_45, e17_47, e17_48, e17_51, e17_54, e17_55, e17_56, e17_59, e17_60, e17_63, e17_65, e17_68, e17_69, e17_72, e17_73, e17_76, e17_78, e17_81, e17_82, e17_84, e17_85, e17_86, e17_89, e17_91, e17_93, e17_96, e17_98, e17_99, e17_101, e17_103, e17_106, e17_109, e17_110, WpV_some, WpH_some, ↓ite_t, ↓ite_f, pS_f0, pS_f1, pS_f2, pS_f3, pS_f4, pS_f5, pS_f6, pS_f7, pS_f8, pS_f9, pS_f10, pS_f11, pS_f12, pS_f13, S_get_4 hb, S_get_6 hb, S_get_7 hb, S_get_8 hb, cI_v (m18 hb hw _ _ h0 h1) (pS_o f b σ) hb, wrp_id, q, vb]
    by_cases c1 : rg 8 (σ.1 4) p = -1
    · simp only [c1, ↓reduceIte]
    · by_cases c2 : rg 8 (σ.1 6) p = 0
      · by_cases c3 : rule = 0
        · subst c3
          by_cases c5 : best = -1
          · simp only [c1, c2, c5, age, ↓reduceIte, ne_eq, not_true_eq_false]
          · by_cases c6 : nxu σ p i.toNat ≤ great
            · simp only [c1, c2, c5, c6, age, ↓reduceIte, ne_eq, not_true_eq_false]
            · simp only [c1, c2, c5, c6, age, ↓reduceIte, ne_eq, not_true_eq_false]
        · by_cases c4 : rule = 1
          · subst c4
            by_cases c5 : best = -1
            · simp only [c1, c2, c5, age, ↓reduceIte, ne_eq, not_true_eq_false, not_false_eq_true, Int.reduceEq]
            · by_cases c6 : wrp (-rg 8 (σ.1 7) p) ≤ great
              · simp only [c1, c2, c5, c6, age, ↓reduceIte, ne_eq, not_true_eq_false, not_false_eq_true, Int.reduceEq]
              · simp only [c1, c2, c5, c6, age, ↓reduceIte, ne_eq, not_true_eq_false, not_false_eq_true, Int.reduceEq]
          · by_cases c5 : best = -1
            · simp only [c1, c2, c3, c4, c5, age, ↓reduceIte, ne_eq, not_true_eq_false, not_false_eq_true]
            · by_cases c6 : wrp (-rg 8 (σ.1 8) p) ≤ great
              · simp only [c1, c2, c3, c4, c5, c6, age, ↓reduceIte, ne_eq, not_true_eq_false, not_false_eq_true]
              · simp only [c1, c2, c3, c4, c5, c6, age, ↓reduceIte, ne_eq, not_true_eq_false, not_false_eq_true]
      · simp only [c1, c2, ↓reduceIte, ne_eq, not_false_eq_true]
theorem m17 (hb : b ≠ 0) (hw : wfS σ) (rule i : Int) (h0 : 0 ≤ i) (h1 : i ≤ 1000) : Runs xs 17 [vr b, vi rule, vi i] μ (putS f b σ) (.inl (some (vi (vb σ rule i.toNat (-1) 0 0 8)))) μ (putS f b σ) := Runs.iff fun Q hQ => by
  show Wp xs 17 0 [vr b, vi rule, vi i, vu, vu, vu, vu] [] μ (putS f b σ) Q
  simp (disch := first | omega | rfl) only [e17_0, e17_1, e17_2, e17_3, e17_5, e17_6, e17_10, e17_12, e17_15, e17_16, e17_19, e17_21, e17_24, e17_25, e17_28, e17_29, e17_32, e17_34, e17_37, e17_40, e17_41, e17_44, e17_45, e17_47, e17_48, e17_51, e17_54, e17_55, e17_56, e17_59, e17_60, e17_63, e17_65, e17_68, e17_69, e17_72, e17_73, e17_76, e17_78, e17_81, e17_82, e17_84, e17_85, e17_86, e17_89, e17_91, e17_93, e17_96, e17_98, e17_99, e17_101, e17_103, e17_106, e17_109, e17_110, WpV_some, WpH_some, ↓ite_t, ↓ite_f]
  have q := vb_loop (xs := xs) (f := f) (μ := μ) (Q := Q) hb hw rule i h0 h1 8 0 (-1) 0 vu (by omega)
  simp only [Int.cast_ofNat_Int] at q
  rw [q]
  exact hQ
theorem m13 (hb : b ≠ 0) (p : Int) : Runs xs 13 [vr b, vi p] μ (putS f b σ) (.inl none) μ (putS f b (wbk σ p)) := Runs.iff fun Q hQ => by
  show Wp xs 13 0 [vr b, vi p] [] μ (putS f b σ) Q
  unfold wbk at hQ
  by_cases h : rg 8 (σ.1 5) p = 1
  · rw [if_pos h] at hQ
    simp (disch := first | omega | rfl) only [e13_0, e13_1, e13_4, e13_5, e13_8, e13_9, e13_12, e13_13, e13_16, e13_17, e13_18, e13_21, e13_22, e13_25, e13_26, e13_27, e13_30, e13_31, e13_34, e13_35, e13_36, e13_39, WpV_some, WpH_some, ↓ite_t, ↓ite_f, pS_f0, pS_f1, pS_f2, pS_f3, pS_f4, pS_f5, pS_f6, pS_f7, pS_f8, pS_f9, pS_f10, pS_f11, pS_f12, pS_f13, S_get_5 hb, S_get_10 hb, S_set_5 hb, S_set_10 hb, h, ne_eq, not_true_eq_false, ↓reduceIte, sR_1, Nat.reduceEqDiff]
    exact hQ
  · rw [if_neg h] at hQ
    simp (disch := first | omega | rfl) only [e13_0, e13_1, e13_4, e13_5, e13_8, e13_9, e13_12, e13_13, e13_16, e13_17, e13_18, e13_21, e13_22, e13_25, e13_26, e13_27, e13_30, e13_31, e13_34, e13_35, e13_36, e13_39, WpV_some, WpH_some, ↓ite_t, ↓ite_f, pS_f0, pS_f1, pS_f2, pS_f3, pS_f4, pS_f5, pS_f6, pS_f7, pS_f8, pS_f9, pS_f10, pS_f11, pS_f12, pS_f13, S_get_5 hb, h, ne_eq, not_false_eq_true, ↓reduceIte]
    exact hQ
theorem m20 (hb : b ≠ 0) (p : Int) : Runs xs 20 [vr b, vi p] μ (putS f b σ) (.inl none) μ (putS f b (tko σ p)) := Runs.iff fun Q hQ => by
  show Wp xs 20 0 [vr b, vi p] [] μ (putS f b σ) Q
  simp (disch := first | omega | rfl) only [e20_0, e20_1, e20_2, e20_5, e20_6, e20_9, e20_10, e20_11, e20_14, WpV_some, WpH_some, ↓ite_t, ↓ite_f, pS_f0, pS_f1, pS_f2, pS_f3, pS_f4, pS_f5, pS_f6, pS_f7, pS_f8, pS_f9, pS_f10, pS_f11, pS_f12, pS_f13, cI_n (m13 hb p) (pS_o f b σ) hb, S_set_4 hb]
  exact hQ
theorem m21 (hb : b ≠ 0) (fr p : Int) : Runs xs 21 [vr b, vi fr, vi p] μ (putS f b σ) (.inl none) μ (putS f b (rdi σ fr p)) := Runs.iff fun Q hQ => by
  show Wp xs 21 0 [vr b, vi fr, vi p] [] μ (putS f b σ) Q
  simp (disch := first | omega | rfl) only [e21_0, e21_1, e21_4, e21_5, e21_6, e21_9, e21_10, e21_13, e21_14, e21_15, e21_18, e21_21, e21_22, e21_25, e21_26, e21_27, e21_30, e21_31, e21_34, e21_35, e21_36, e21_39, WpV_some, WpH_some, ↓ite_t, ↓ite_f, pS_f0, pS_f1, pS_f2, pS_f3, pS_f4, pS_f5, pS_f6, pS_f7, pS_f8, pS_f9, pS_f10, pS_f11, pS_f12, pS_f13, S_set_4 hb, S_set_8 hb, S_set_9 hb, S_get_9 hb, sR_1, sR_2, Nat.reduceEqDiff, ↓reduceIte]
  exact hQ
theorem m22 (hb : b ≠ 0) (p why v : Int) : Runs xs 22 [vr b, vi p, vi why, vi v] μ (putS f b σ) (.inl none) μ (putS f b (mkd σ p why v)) := Runs.iff fun Q hQ => by
  show Wp xs 22 0 [vr b, vi p, vi why, vi v] [] μ (putS f b σ) Q
  unfold mkd at hQ
  by_cases h : rg 80 (σ.1 1) (σ.2 1) = 1
  · rw [if_pos h] at hQ
    simp (disch := first | omega | rfl) only [e22_0, e22_1, e22_4, e22_5, e22_8, e22_11, e22_12, e22_15, e22_16, e22_19, e22_20, e22_21, e22_24, e22_25, e22_28, e22_29, e22_32, e22_33, e22_36, e22_37, e22_40, e22_41, e22_44, e22_45, e22_48, e22_49, e22_52, e22_53, e22_54, e22_57, e22_60, e22_61, e22_62, e22_65, e22_66, e22_67, e22_70, WpV_some, WpH_some, ↓ite_t, ↓ite_f, pS_f0, pS_f1, pS_f2, pS_f3, pS_f4, pS_f5, pS_f6, pS_f7, pS_f8, pS_f9, pS_f10, pS_f11, pS_f12, pS_f13, S_set_5 hb, S_set_2 hb, S_set_3 hb, S_set_7 hb, S_get_1 hb, h, sR_1, sR_2, Nat.reduceEqDiff, ↓reduceIte, ne_eq, not_true_eq_false, pS_p1]
    exact hQ
  · rw [if_neg h] at hQ
    simp (disch := first | omega | rfl) only [e22_0, e22_1, e22_4, e22_5, e22_8, e22_11, e22_12, e22_15, e22_16, e22_19, e22_20, e22_21, e22_24, e22_25, e22_28, e22_29, e22_32, e22_33, e22_36, e22_37, e22_40, e22_41, e22_44, e22_45, e22_48, e22_49, e22_52, e22_53, e22_54, e22_57, e22_60, e22_61, e22_62, e22_65, e22_66, e22_67, e22_70, WpV_some, WpH_some, ↓ite_t, ↓ite_f, pS_f0, pS_f1, pS_f2, pS_f3, pS_f4, pS_f5, pS_f6, pS_f7, pS_f8, pS_f9, pS_f10, pS_f11, pS_f12, pS_f13, S_set_5 hb, S_set_2 hb, S_set_3 hb, S_set_7 hb, S_get_1 hb, h, sR_1, sR_2, Nat.reduceEqDiff, ↓reduceIte, ne_eq, not_false_eq_true, pS_p1]
    exact hQ
theorem m19 (hb : b ≠ 0) (hw : wfS σ) (rule : Int) : Runs xs 19 [vr b, vi rule] μ (putS f b σ) (.inl none) μ (putS f b (dnx σ rule)) := Runs.iff fun Q hQ => by
  have hw0 := hw
  obtain ⟨w1, w2, w3, w4, w5⟩ := hw0
  show Wp xs 19 0 [vr b, vi rule, vu, vu, vu, vu] [] μ (putS f b σ) Q
  unfold dnx at hQ
  by_cases c1 : σ.2 0 ≤ σ.2 1
  · rw [if_pos c1] at hQ
    simp (disch := first | omega | rfl) only [e19_0, e19_1, e19_4, e19_5, e19_8, e19_11, e19_12, e19_13, e19_16, e19_17, e19_20, e19_23, e19_24, e19_25, e19_26, e19_27, e19_29, e19_30, e19_33, e19_34, e19_37, e19_38, e19_41, e19_42, e19_45, e19_47, e19_48, e19_49, e19_51, e19_52, e19_55, e19_56, e19_57, e19_58, e19_61, e19_62, e19_63, e19_66, e19_68, e19_69, e19_72, e19_74, e19_77, e19_78, e19_81, e19_82, e19_85, e19_86, e19_87, e19_88, e19_91, e19_93, e19_96, e19_98, e19_99, e19_101, e19_104, e19_105, e19_107, e19_108, e19_111, e19_112, e19_113, e19_114, e19_116, e19_119, WpV_some, WpH_some, ↓ite_t, ↓ite_f, pS_f0, pS_f1, pS_f2, pS_f3, pS_f4, pS_f5, pS_f6, pS_f7, pS_f8, pS_f9, pS_f10, pS_f11, pS_f12, pS_f13]
    exact hQ
  · rw [if_neg c1] at hQ
    by_cases c2 : rg 8 (σ.1 4) (rg 80 (σ.1 0) (σ.2 1)) = -1
    · rw [if_neg (fun h => h c2)] at hQ
      by_cases c3 : lef (σ.1 4) 0 (σ.2 2).toNat = -1
      · rw [if_neg (fun h => h c3)] at hQ
        by_cases c4 : rg 8 (σ.1 5) (vb σ rule (σ.2 1 + 1).toNat (-1) 0 0 8) = 1
        · rw [if_pos c4] at hQ
          simp (disch := first | omega | rfl) only [e19_0, e19_1, e19_4, e19_5, e19_8, e19_11, e19_12, e19_13, e19_16, e19_17, e19_20, e19_23, e19_24, e19_25, e19_26, e19_27, e19_29, e19_30, e19_33, e19_34, e19_37, e19_38, e19_41, e19_42, e19_45, e19_47, e19_48, e19_49, e19_51, e19_52, e19_55, e19_56, e19_57, e19_58, e19_61, e19_62, e19_63, e19_66, e19_68, e19_69, e19_72, e19_74, e19_77, e19_78, e19_81, e19_82, e19_85, e19_86, e19_87, e19_88, e19_91, e19_93, e19_96, e19_98, e19_99, e19_101, e19_104, e19_105, e19_107, e19_108, e19_111, e19_112, e19_113, e19_114, e19_116, e19_119, WpV_some, WpH_some, ↓ite_t, ↓ite_f, pS_f0, pS_f1, pS_f2, pS_f3, pS_f4, pS_f5, pS_f6, pS_f7, pS_f8, pS_f9, pS_f10, pS_f11, pS_f12, pS_f13, S_get_0 hb, S_get_4 hb, S_get_5 hb, cI_v (m15 hb hw) (pS_o f b σ) hb, wrp_id, cI_v (m17 hb hw rule (σ.2 1 + 1) (by omega) (by omega)) (pS_o f b σ) hb, c2, c3, c4, ne_eq, not_true_eq_false, ↓reduceIte, cI_n (m20 hb _) (pS_o f b _) hb, cI_n (m21 hb _ _) (pS_o f b _) hb, cI_n (m22 hb _ _ _) (pS_o f b _) hb]
          exact hQ
        · rw [if_neg c4] at hQ
          simp (disch := first | omega | rfl) only [e19_0, e19_1, e19_4, e19_5, e19_8, e19_11, e19_12, e19_13, e19_16, e19_17, e19_20, e19_23, e19_24, e19_25, e19_26, e19_27, e19_29, e19_30, e19_33, e19_34, e19_37, e19_38, e19_41, e19_42, e19_45, e19_47, e19_48, e19_49, e19_51, e19_52, e19_55, e19_56, e19_57, e19_58, e19_61, e19_62, e19_63, e19_66, e19_68, e19_69, e19_72, e19_74, e19_77, e19_78, e19_81, e19_82, e19_85, e19_86, e19_87, e19_88, e19_91, e19_93, e19_96, e19_98, e19_99, e19_101, e19_104, e19_105, e19_107, e19_108, e19_111, e19_112, e19_113, e19_114, e19_116, e19_119, WpV_some, WpH_some, ↓ite_t, ↓ite_f, pS_f0, pS_f1, pS_f2, pS_f3, pS_f4, pS_f5, pS_f6, pS_f7, pS_f8, pS_f9, pS_f10, pS_f11, pS_f12, pS_f13, S_get_0 hb, S_get_4 hb, S_get_5 hb, cI_v (m15 hb hw) (pS_o f b σ) hb, wrp_id, cI_v (m17 hb hw rule (σ.2 1 + 1) (by omega) (by omega)) (pS_o f b σ) hb, c2, c3, c4, ne_eq, not_true_eq_false, not_false_eq_true, ↓reduceIte, cI_n (m20 hb _) (pS_o f b _) hb, cI_n (m21 hb _ _) (pS_o f b _) hb, cI_n (m22 hb _ _ _) (pS_o f b _) hb]
          exact hQ
      · rw [if_pos c3] at hQ
        simp (disch := first | omega | rfl) only [e19_0, e19_1, e19_4, e19_5, e19_8, e19_11, e19_12, e19_13, e19_16, e19_17, e19_20, e19_23, e19_24, e19_25, e19_26, e19_27, e19_29, e19_30, e19_33, e19_34, e19_37, e19_38, e19_41, e19_42, e19_45, e19_47, e19_48, e19_49, e19_51, e19_52, e19_55, e19_56, e19_57, e19_58, e19_61, e19_62, e19_63, e19_66, e19_68, e19_69, e19_72, e19_74, e19_77, e19_78, e19_81, e19_82, e19_85, e19_86, e19_87, e19_88, e19_91, e19_93, e19_96, e19_98, e19_99, e19_101, e19_104, e19_105, e19_107, e19_108, e19_111, e19_112, e19_113, e19_114, e19_116, e19_119, WpV_some, WpH_some, ↓ite_t, ↓ite_f, pS_f0, pS_f1, pS_f2, pS_f3, pS_f4, pS_f5, pS_f6, pS_f7, pS_f8, pS_f9, pS_f10, pS_f11, pS_f12, pS_f13, S_get_0 hb, S_get_4 hb, cI_v (m15 hb hw) (pS_o f b σ) hb, c2, c3, ne_eq, not_true_eq_false, not_false_eq_true, ↓reduceIte, cI_n (m21 hb _ _) (pS_o f b _) hb, cI_n (m22 hb _ _ _) (pS_o f b _) hb]
        exact hQ
    · rw [if_pos c2] at hQ
      simp (disch := first | omega | rfl) only [e19_0, e19_1, e19_4, e19_5, e19_8, e19_11, e19_12, e19_13, e19_16, e19_17, e19_20, e19_23, e19_24, e19_25, e19_26, e19_27, e19_29, e19_30, e19_33, e19_34, e19_37, e19_38, e19_41, e19_42, e19_45, e19_47, e19_48, e19_49, e19_51, e19_52, e19_55, e19_56, e19_57, e19_58, e19_61, e19_62, e19_63, e19_66, e19_68, e19_69, e19_72, e19_74, e19_77, e19_78, e19_81, e19_82, e19_85, e19_86, e19_87, e19_88, e19_91, e19_93, e19_96, e19_98, e19_99, e19_101, e19_104, e19_105, e19_107, e19_108, e19_111, e19_112, e19_113, e19_114, e19_116, e19_119, WpV_some, WpH_some, ↓ite_t, ↓ite_f, pS_f0, pS_f1, pS_f2, pS_f3, pS_f4, pS_f5, pS_f6, pS_f7, pS_f8, pS_f9, pS_f10, pS_f11, pS_f12, pS_f13, S_get_0 hb, S_get_4 hb, c2, ne_eq, not_false_eq_true, ↓reduceIte, cI_n (m22 hb _ _ _) (pS_o f b _) hb]
      exact hQ
end SM
