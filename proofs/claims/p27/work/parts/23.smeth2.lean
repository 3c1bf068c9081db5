/-! PlannedPages$State: plan changes, moving down, copying, making -/
section S2
variable {xs : List Int} {f : AH} {b : Nat} {σ : SG} {μ : Mu} {y pc : Nat} {L st : List AV} {Q : Out → Mu → AH → Prop}
def tka (σ : SG) (p : Int) : SG := sS (sR (sR σ 0 (cls (σ.1 0) p.toNat 80)) 1 (cls (σ.1 1) p.toNat 80)) 0 (σ.2 0 - 1)
def pta (σ : SG) (p pg wr : Int) : SG := sS (sR (sR σ 0 (opn (σ.1 0) p.toNat pg)) 1 (opn (σ.1 1) p.toNat wr)) 0 (σ.2 0 + 1)
theorem m28 (hb : b ≠ 0) (hw : wfS σ) (p : Int) (h0 : 0 ≤ p) (h1 : p < 80) : Runs xs 28 [vr b, vi p] μ (putS f b σ) (.inl none) μ (putS f b (tka σ p)) := Runs.iff fun Q hQ => by
  obtain ⟨w1, w2, w3, w4, w5⟩ := hw
  show Wp xs 28 0 [vr b, vi p] [] μ (putS f b σ) Q
  simp (disch := first | omega | rfl) only [e28_0, e28_1, e28_4, e28_5, e28_8, e28_9, e28_12, e28_13, e28_16, e28_17, e28_18, e28_21, e28_22, e28_23, e28_26, WpV_some, WpH_some, ↓ite_t, ↓ite_f, pS_f0, pS_f1, pS_f2, pS_f3, pS_f4, pS_f5, pS_f6, pS_f7, pS_f8, pS_f9, pS_f10, pS_f11, pS_f12, pS_f13, S_cl_0 hb, S_cl_1 hb, sR_1, sR_2, Nat.reduceEqDiff, ↓reduceIte, wrp_id, pS_p0]
  exact hQ
theorem m29 (hb : b ≠ 0) (hw : wfS σ) (p pg wr : Int) (h0 : 0 ≤ p) (h1 : p < 80) : Runs xs 29 [vr b, vi p, vi pg, vi wr] μ (putS f b σ) (.inl none) μ (putS f b (pta σ p pg wr)) := Runs.iff fun Q hQ => by
  obtain ⟨w1, w2, w3, w4, w5⟩ := hw
  show Wp xs 29 0 [vr b, vi p, vi pg, vi wr] [] μ (putS f b σ) Q
  simp (disch := first | omega | rfl) only [e29_0, e29_1, e29_4, e29_5, e29_6, e29_9, e29_10, e29_13, e29_14, e29_15, e29_18, e29_19, e29_20, e29_23, e29_24, e29_25, e29_28, WpV_some, WpH_some, ↓ite_t, ↓ite_f, pS_f0, pS_f1, pS_f2, pS_f3, pS_f4, pS_f5, pS_f6, pS_f7, pS_f8, pS_f9, pS_f10, pS_f11, pS_f12, pS_f13, S_op_0 hb, S_op_1 hb, sR_1, sR_2, Nat.reduceEqDiff, ↓reduceIte, wrp_id, pS_p0]
  exact hQ
def mvd (σ : SG) (lo fr : Nat) : Nat → SG
  | 0 => σ
  | d + 1 => if fo (σ.1 4) fr 0 8 = -1 then mvd σ lo (fr + 1) d else mvd (sR σ 4 (rs 8 (σ.1 4) (fo (σ.1 4) fr 0 8) lo)) (lo + 1) (fr + 1) d
theorem mvd_loop (hb : b ≠ 0) : ∀ (d i lo : Nat) (σ : SG) (l3 : AV), wfS σ → (i : Int) + d = σ.2 2 → lo ≤ i → (Wp xs 30 4 [vr b, vi lo, vi i, l3] [] μ (putS f b σ) Q = Q (.inl none) μ (putS f b (mvd σ lo i d))) := by
  intro d
  induction d with
  | zero =>
    intro i lo σ l3 hw hi hl
    obtain ⟨w1, w2, w3, w4, w5⟩ := hw
    simp (disch := omega) only [e30_0, e30_1, e30_2, e30_3, e30_4, e30_5, e30_6, e30_9, e30_12, e30_13, e30_14, e30_17, e30_18, e30_19, e30_20, e30_23, e30_24, e30_27, e30_28, e30_29, e30_32, e30_35, e30_38, e30_41, WpV_some, WpH_some, ↓ite_t, ↓ite_f, pS_f0, pS_f1, pS_f2, pS_f3, pS_f4, pS_f5, pS_f6, pS_f7, pS_f8, pS_f9, pS_f10, pS_f11, pS_f12, pS_f13, mvd]
  | succ d ih =>
    intro i lo σ l3 hw hi hl
    have hw0 := hw
    obtain ⟨w1, w2, w3, w4, w5⟩ := hw0
    rw [e30_4]
    by_cases h : fo (σ.1 4) i 0 8 = -1
    · have q := fun l3 => ih (i + 1) lo σ l3 hw (by omega) (by omega)
      simp only [Int.natCast_add, Int.cast_ofNat_Int] at q
      simp (disch := first | omega | rfl) only [e30_0, e30_1, e30_2, e30_3, e30_5, e30_6, e30_9, e30_12, e30_13, e30_14, e30_17, e30_18, e30_19, e30_20, e30_23, e30_24, e30_27, e30_28, e30_29, e30_32, e30_35, e30_38, e30_41, WpV_some, WpH_some, ↓ite_t, ↓ite_f, pS_f0, pS_f1, pS_f2, pS_f3, pS_f4, pS_f5, pS_f6, pS_f7, pS_f8, pS_f9, pS_f10, pS_f11, pS_f12, pS_f13, cI_v (m16 hb _) (pS_o f b σ) hb, wrp_id, q, mvd, h, ↓reduceIte]
    · have q := fun l3 => ih (i + 1) (lo + 1) (sR σ 4 (rs 8 (σ.1 4) (fo (σ.1 4) i 0 8) lo)) l3 hw (by rw [sR_2]; omega) (by omega)
      simp only [Int.natCast_add, Int.cast_ofNat_Int] at q
      simp (disch := first | omega | rfl) only [e30_0, e30_1, e30_2, e30_3, e30_5, e30_6, e30_9, e30_12, e30_13, e30_14, e30_17, e30_18, e30_19, e30_20, e30_23, e30_24, e30_27, e30_28, e30_29, e30_32, e30_35, e30_38, e30_41, WpV_some, WpH_some, ↓ite_t, ↓ite_f, pS_f0, pS_f1, pS_f2, pS_f3, pS_f4, pS_f5, pS_f6, pS_f7, pS_f8, pS_f9, pS_f10, pS_f11, pS_f12, pS_f13, cI_v (m16 hb _) (pS_o f b σ) hb, wrp_id, S_set_4 hb, q, mvd, h, ↓reduceIte]
theorem m30 (hb : b ≠ 0) (hw : wfS σ) : Runs xs 30 [vr b] μ (putS f b σ) (.inl none) μ (putS f b (mvd σ 0 0 (σ.2 2).toNat)) := Runs.iff fun Q hQ => by
  show Wp xs 30 0 [vr b, vu, vu, vu] [] μ (putS f b σ) Q
  simp (disch := first | omega | rfl) only [e30_0, e30_1, e30_2, e30_3, e30_5, e30_6, e30_9, e30_12, e30_13, e30_14, e30_17, e30_18, e30_19, e30_20, e30_23, e30_24, e30_27, e30_28, e30_29, e30_32, e30_35, e30_38, e30_41, WpV_some, WpH_some, ↓ite_t, ↓ite_f]
  have q := mvd_loop (xs := xs) (f := f) (μ := μ) (Q := Q) hb (σ.2 2).toNat 0 0 σ vu hw (by obtain ⟨w1, w2, w3, w4, w5⟩ := hw; omega) (Nat.le_refl _)
  simp only [Int.cast_ofNat_Int] at q
  rw [q]
  exact hQ
theorem putS_ext {σ τ : SG} (h : ∀ k, k < 11 → σ.1 k = τ.1 k) (h0 : σ.2 0 = τ.2 0) (h1 : σ.2 1 = τ.2 1) (h2 : σ.2 2 = τ.2 2) : putS f b σ = putS f b τ := by
  funext a
  by_cases ha : b ≤ a ∧ a < b + 23
  · obtain ⟨o, rfl⟩ : ∃ o, a = b + o := ⟨a - b, by omega⟩
    rw [putS_in f b _ (by omega), putS_in f b _ (by omega)]
    unfold stC
    by_cases o0 : o = 0
    · rw [if_pos o0, if_pos o0, h0, h1, h2]
    · rw [if_neg o0, if_neg o0]
      by_cases o1 : o % 2 = 1
      · rw [if_pos o1, if_pos o1]
      · rw [if_neg o1, if_neg o1, h (o / 2 - 1) (by omega)]
  · rw [putS_out f _ (by omega), putS_out f _ (by omega)]
variable {d : Nat} {τ : SG}
theorem pD_f0 (hd : b + 23 ≤ d ∨ d + 23 ≤ b) : gf (putS (putS f d τ) b σ) d 1 0 = gf (putS f d τ) d 1 0 := by
  rw [putS_comm f τ σ (by omega), pS_f0, pS_f0]
theorem pD_f1 (hd : b + 23 ≤ d ∨ d + 23 ≤ b) : gf (putS (putS f d τ) b σ) d 1 1 = gf (putS f d τ) d 1 1 := by
  rw [putS_comm f τ σ (by omega), pS_f1, pS_f1]
theorem pD_f2 (hd : b + 23 ≤ d ∨ d + 23 ≤ b) : gf (putS (putS f d τ) b σ) d 1 2 = gf (putS f d τ) d 1 2 := by
  rw [putS_comm f τ σ (by omega), pS_f2, pS_f2]
theorem pD_f3 (hd : b + 23 ≤ d ∨ d + 23 ≤ b) : gf (putS (putS f d τ) b σ) d 1 3 = gf (putS f d τ) d 1 3 := by
  rw [putS_comm f τ σ (by omega), pS_f3, pS_f3]
theorem pD_f4 (hd : b + 23 ≤ d ∨ d + 23 ≤ b) : gf (putS (putS f d τ) b σ) d 1 4 = gf (putS f d τ) d 1 4 := by
  rw [putS_comm f τ σ (by omega), pS_f4, pS_f4]
theorem pD_f5 (hd : b + 23 ≤ d ∨ d + 23 ≤ b) : gf (putS (putS f d τ) b σ) d 1 5 = gf (putS f d τ) d 1 5 := by
  rw [putS_comm f τ σ (by omega), pS_f5, pS_f5]
theorem pD_f6 (hd : b + 23 ≤ d ∨ d + 23 ≤ b) : gf (putS (putS f d τ) b σ) d 1 6 = gf (putS f d τ) d 1 6 := by
  rw [putS_comm f τ σ (by omega), pS_f6, pS_f6]
theorem pD_f7 (hd : b + 23 ≤ d ∨ d + 23 ≤ b) : gf (putS (putS f d τ) b σ) d 1 7 = gf (putS f d τ) d 1 7 := by
  rw [putS_comm f τ σ (by omega), pS_f7, pS_f7]
theorem pD_f8 (hd : b + 23 ≤ d ∨ d + 23 ≤ b) : gf (putS (putS f d τ) b σ) d 1 8 = gf (putS f d τ) d 1 8 := by
  rw [putS_comm f τ σ (by omega), pS_f8, pS_f8]
theorem pD_f9 (hd : b + 23 ≤ d ∨ d + 23 ≤ b) : gf (putS (putS f d τ) b σ) d 1 9 = gf (putS f d τ) d 1 9 := by
  rw [putS_comm f τ σ (by omega), pS_f9, pS_f9]
theorem pD_f10 (hd : b + 23 ≤ d ∨ d + 23 ≤ b) : gf (putS (putS f d τ) b σ) d 1 10 = gf (putS f d τ) d 1 10 := by
  rw [putS_comm f τ σ (by omega), pS_f10, pS_f10]
theorem pD_f11 (hd : b + 23 ≤ d ∨ d + 23 ≤ b) : gf (putS (putS f d τ) b σ) d 1 11 = gf (putS f d τ) d 1 11 := by
  rw [putS_comm f τ σ (by omega), pS_f11, pS_f11]
theorem pD_f12 (hd : b + 23 ≤ d ∨ d + 23 ≤ b) : gf (putS (putS f d τ) b σ) d 1 12 = gf (putS f d τ) d 1 12 := by
  rw [putS_comm f τ σ (by omega), pS_f12, pS_f12]
theorem pD_f13 (hd : b + 23 ≤ d ∨ d + 23 ≤ b) : gf (putS (putS f d τ) b σ) d 1 13 = gf (putS f d τ) d 1 13 := by
  rw [putS_comm f τ σ (by omega), pS_f13, pS_f13]
theorem S_cp_0 (hb : b ≠ 0) (hd0 : d ≠ 0) (hd : b + 23 ≤ d ∨ d + 23 ≤ b) : WpI xs (isO (putS (putS f d τ) b σ) (b + 1) 0) (b + 1) 2 [vr (b + 1), vr (d + 1)] y pc L st μ (putS (putS f d τ) b σ) Q = Wp xs y pc L st μ (putS (putS f d τ) b (sR σ 0 (τ.1 0))) Q := by
  have h2 : rowAt (putS (putS f d τ) b σ) (d + 1) (d + 2) 80 (τ.1 0) := by
    rw [putS_comm f τ σ (by omega)]
    exact pR_0 hd0
  rw [cI_n (copy_runs (pR_0 hb) h2) (pR_0 hb).o (by omega) y pc L st Q, aR_0]
theorem S_cp_1 (hb : b ≠ 0) (hd0 : d ≠ 0) (hd : b + 23 ≤ d ∨ d + 23 ≤ b) : WpI xs (isO (putS (putS f d τ) b σ) (b + 3) 0) (b + 3) 2 [vr (b + 3), vr (d + 3)] y pc L st μ (putS (putS f d τ) b σ) Q = Wp xs y pc L st μ (putS (putS f d τ) b (sR σ 1 (τ.1 1))) Q := by
  have h2 : rowAt (putS (putS f d τ) b σ) (d + 3) (d + 4) 80 (τ.1 1) := by
    rw [putS_comm f τ σ (by omega)]
    exact pR_1 hd0
  rw [cI_n (copy_runs (pR_1 hb) h2) (pR_1 hb).o (by omega) y pc L st Q, aR_1]
theorem S_cp_2 (hb : b ≠ 0) (hd0 : d ≠ 0) (hd : b + 23 ≤ d ∨ d + 23 ≤ b) : WpI xs (isO (putS (putS f d τ) b σ) (b + 5) 0) (b + 5) 2 [vr (b + 5), vr (d + 5)] y pc L st μ (putS (putS f d τ) b σ) Q = Wp xs y pc L st μ (putS (putS f d τ) b (sR σ 2 (τ.1 2))) Q := by
  have h2 : rowAt (putS (putS f d τ) b σ) (d + 5) (d + 6) 80 (τ.1 2) := by
    rw [putS_comm f τ σ (by omega)]
    exact pR_2 hd0
  rw [cI_n (copy_runs (pR_2 hb) h2) (pR_2 hb).o (by omega) y pc L st Q, aR_2]
theorem S_cp_3 (hb : b ≠ 0) (hd0 : d ≠ 0) (hd : b + 23 ≤ d ∨ d + 23 ≤ b) : WpI xs (isO (putS (putS f d τ) b σ) (b + 7) 0) (b + 7) 2 [vr (b + 7), vr (d + 7)] y pc L st μ (putS (putS f d τ) b σ) Q = Wp xs y pc L st μ (putS (putS f d τ) b (sR σ 3 (τ.1 3))) Q := by
  have h2 : rowAt (putS (putS f d τ) b σ) (d + 7) (d + 8) 80 (τ.1 3) := by
    rw [putS_comm f τ σ (by omega)]
    exact pR_3 hd0
  rw [cI_n (copy_runs (pR_3 hb) h2) (pR_3 hb).o (by omega) y pc L st Q, aR_3]
theorem S_cp_4 (hb : b ≠ 0) (hd0 : d ≠ 0) (hd : b + 23 ≤ d ∨ d + 23 ≤ b) : WpI xs (isO (putS (putS f d τ) b σ) (b + 9) 0) (b + 9) 2 [vr (b + 9), vr (d + 9)] y pc L st μ (putS (putS f d τ) b σ) Q = Wp xs y pc L st μ (putS (putS f d τ) b (sR σ 4 (τ.1 4))) Q := by
  have h2 : rowAt (putS (putS f d τ) b σ) (d + 9) (d + 10) 8 (τ.1 4) := by
    rw [putS_comm f τ σ (by omega)]
    exact pR_4 hd0
  rw [cI_n (copy_runs (pR_4 hb) h2) (pR_4 hb).o (by omega) y pc L st Q, aR_4]
theorem S_cp_5 (hb : b ≠ 0) (hd0 : d ≠ 0) (hd : b + 23 ≤ d ∨ d + 23 ≤ b) : WpI xs (isO (putS (putS f d τ) b σ) (b + 11) 0) (b + 11) 2 [vr (b + 11), vr (d + 11)] y pc L st μ (putS (putS f d τ) b σ) Q = Wp xs y pc L st μ (putS (putS f d τ) b (sR σ 5 (τ.1 5))) Q := by
  have h2 : rowAt (putS (putS f d τ) b σ) (d + 11) (d + 12) 8 (τ.1 5) := by
    rw [putS_comm f τ σ (by omega)]
    exact pR_5 hd0
  rw [cI_n (copy_runs (pR_5 hb) h2) (pR_5 hb).o (by omega) y pc L st Q, aR_5]
theorem S_cp_6 (hb : b ≠ 0) (hd0 : d ≠ 0) (hd : b + 23 ≤ d ∨ d + 23 ≤ b) : WpI xs (isO (putS (putS f d τ) b σ) (b + 13) 0) (b + 13) 2 [vr (b + 13), vr (d + 13)] y pc L st μ (putS (putS f d τ) b σ) Q = Wp xs y pc L st μ (putS (putS f d τ) b (sR σ 6 (τ.1 6))) Q := by
  have h2 : rowAt (putS (putS f d τ) b σ) (d + 13) (d + 14) 8 (τ.1 6) := by
    rw [putS_comm f τ σ (by omega)]
    exact pR_6 hd0
  rw [cI_n (copy_runs (pR_6 hb) h2) (pR_6 hb).o (by omega) y pc L st Q, aR_6]
theorem S_cp_7 (hb : b ≠ 0) (hd0 : d ≠ 0) (hd : b + 23 ≤ d ∨ d + 23 ≤ b) : WpI xs (isO (putS (putS f d τ) b σ) (b + 15) 0) (b + 15) 2 [vr (b + 15), vr (d + 15)] y pc L st μ (putS (putS f d τ) b σ) Q = Wp xs y pc L st μ (putS (putS f d τ) b (sR σ 7 (τ.1 7))) Q := by
  have h2 : rowAt (putS (putS f d τ) b σ) (d + 15) (d + 16) 8 (τ.1 7) := by
    rw [putS_comm f τ σ (by omega)]
    exact pR_7 hd0
  rw [cI_n (copy_runs (pR_7 hb) h2) (pR_7 hb).o (by omega) y pc L st Q, aR_7]
theorem S_cp_8 (hb : b ≠ 0) (hd0 : d ≠ 0) (hd : b + 23 ≤ d ∨ d + 23 ≤ b) : WpI xs (isO (putS (putS f d τ) b σ) (b + 17) 0) (b + 17) 2 [vr (b + 17), vr (d + 17)] y pc L st μ (putS (putS f d τ) b σ) Q = Wp xs y pc L st μ (putS (putS f d τ) b (sR σ 8 (τ.1 8))) Q := by
  have h2 : rowAt (putS (putS f d τ) b σ) (d + 17) (d + 18) 8 (τ.1 8) := by
    rw [putS_comm f τ σ (by omega)]
    exact pR_8 hd0
  rw [cI_n (copy_runs (pR_8 hb) h2) (pR_8 hb).o (by omega) y pc L st Q, aR_8]
theorem S_cp_9 (hb : b ≠ 0) (hd0 : d ≠ 0) (hd : b + 23 ≤ d ∨ d + 23 ≤ b) : WpI xs (isO (putS (putS f d τ) b σ) (b + 19) 0) (b + 19) 2 [vr (b + 19), vr (d + 19)] y pc L st μ (putS (putS f d τ) b σ) Q = Wp xs y pc L st μ (putS (putS f d τ) b (sR σ 9 (τ.1 9))) Q := by
  have h2 : rowAt (putS (putS f d τ) b σ) (d + 19) (d + 20) 8 (τ.1 9) := by
    rw [putS_comm f τ σ (by omega)]
    exact pR_9 hd0
  rw [cI_n (copy_runs (pR_9 hb) h2) (pR_9 hb).o (by omega) y pc L st Q, aR_9]
theorem S_cp_10 (hb : b ≠ 0) (hd0 : d ≠ 0) (hd : b + 23 ≤ d ∨ d + 23 ≤ b) : WpI xs (isO (putS (putS f d τ) b σ) (b + 21) 0) (b + 21) 2 [vr (b + 21), vr (d + 21)] y pc L st μ (putS (putS f d τ) b σ) Q = Wp xs y pc L st μ (putS (putS f d τ) b (sR σ 10 (τ.1 10))) Q := by
  have h2 : rowAt (putS (putS f d τ) b σ) (d + 21) (d + 22) 8 (τ.1 10) := by
    rw [putS_comm f τ σ (by omega)]
    exact pR_10 hd0
  rw [cI_n (copy_runs (pR_10 hb) h2) (pR_10 hb).o (by omega) y pc L st Q, aR_10]
theorem m12 (hb : b ≠ 0) (hd0 : d ≠ 0) (hd : b + 23 ≤ d ∨ d + 23 ≤ b) : Runs xs 12 [vr b, vr d] μ (putS (putS f d τ) b σ) (.inl none) μ (putS (putS f d τ) b τ) := Runs.iff fun Q hQ => by
  show Wp xs 12 0 [vr b, vr d] [] μ (putS (putS f d τ) b σ) Q
  simp (disch := first | omega | assumption | rfl) only [e12_0, e12_1, e12_4, e12_5, e12_8, e12_11, e12_12, e12_15, e12_16, e12_19, e12_22, e12_23, e12_26, e12_27, e12_30, e12_33, e12_34, e12_37, e12_38, e12_41, e12_44, e12_45, e12_46, e12_49, e12_52, e12_53, e12_54, e12_57, e12_60, e12_61, e12_62, e12_65, e12_68, e12_69, e12_72, e12_73, e12_76, e12_79, e12_80, e12_83, e12_84, e12_87, e12_90, e12_91, e12_94, e12_95, e12_98, e12_101, e12_102, e12_105, e12_106, e12_109, e12_112, e12_113, e12_116, e12_117, e12_120, e12_123, e12_124, e12_127, e12_128, e12_131, e12_134, e12_135, e12_138, e12_139, e12_142, e12_145, WpV_some, WpH_some, ↓ite_t, ↓ite_f, pS_f0, pS_f1, pS_f2, pS_f3, pS_f4, pS_f5, pS_f6, pS_f7, pS_f8, pS_f9, pS_f10, pS_f11, pS_f12, pS_f13, pD_f0 (f := f) (τ := τ) hd, pD_f1 (f := f) (τ := τ) hd, pD_f2 (f := f) (τ := τ) hd, pD_f3 (f := f) (τ := τ) hd, pD_f4 (f := f) (τ := τ) hd, pD_f5 (f := f) (τ := τ) hd, pD_f6 (f := f) (τ := τ) hd, pD_f7 (f := f) (τ := τ) hd, pD_f8 (f := f) (τ := τ) hd, pD_f9 (f := f) (τ := τ) hd, pD_f10 (f := f) (τ := τ) hd, pD_f11 (f := f) (τ := τ) hd, pD_f12 (f := f) (τ := τ) hd, pD_f13 (f := f) (τ := τ) hd, S_cp_0 hb hd0 hd, S_cp_1 hb hd0 hd, S_cp_2 hb hd0 hd, S_cp_3 hb hd0 hd, S_cp_4 hb hd0 hd, S_cp_5 hb hd0 hd, S_cp_6 hb hd0 hd, S_cp_7 hb hd0 hd, S_cp_8 hb hd0 hd, S_cp_9 hb hd0 hd, S_cp_10 hb hd0 hd, pS_p0, pS_p1, pS_p2]
  have e : ∀ σ9 : SG, (∀ k, k < 11 → σ9.1 k = τ.1 k) → σ9.2 0 = τ.2 0 → σ9.2 1 = τ.2 1 → σ9.2 2 = τ.2 2 → Q (.inl none) μ (putS (putS f d τ) b σ9) := fun σ9 h h0 h1 h2 => by
    rw [putS_ext h h0 h1 h2]; exact hQ
  refine e _ (fun k hk => ?_) rfl rfl rfl
  · match k, hk with
    | 0, _ => rfl
    | 1, _ => rfl
    | 2, _ => rfl
    | 3, _ => rfl
    | 4, _ => rfl
    | 5, _ => rfl
    | 6, _ => rfl
    | 7, _ => rfl
    | 8, _ => rfl
    | 9, _ => rfl
    | 10, _ => rfl
    | n + 11, h => omega
end S2
/-! a new State -/
def sg0 : SG := (fun k => match k with
  | 2 => fun _ => -1
  | 3 => fun _ => -1
  | 4 => fun _ => -1
  | 7 => fun _ => -1
  | 8 => fun _ => -1
  | _ => fun _ => 0, fun j => if j = 2 then 3 else 0)
theorem aup_comm (f : AH) {a b : Nat} (c d : AC) (h : a ≠ b) : aup (aup f a c) b d = aup (aup f b d) a c := by
  funext x; unfold aup
  by_cases h1 : x = b
  · subst h1; simp [Ne.symm h]
  · simp [h1]
theorem pf_top (f : AH) (b c k : Nat) (fs : List AV) (v : AV) (h : k < fs.length) : pf (aup f b (oC c fs)) b c k v = some (aup f b (oC c (fs.set k v))) := by
  unfold pf
  rw [aup_same]
  dsimp only
  rw [if_pos ⟨rfl, h⟩, aup_aup]
section S3
variable {xs : List Int} {f : AH} {b : Nat} {μ : Mu} {y pc : Nat} {L st : List AV} {Q : Out → Mu → AH → Prop}
theorem new_row {X : AC} {N c s : Nat} (hb : b ≤ N) (n v : Int) (h0 : 0 ≤ n) (h1 : n ≤ 1000) : WpI xs (isO (aup (aup f b X) (N + 1) (oC 0 (dfs 0))) (N + 1) 0) (N + 1) 1 [vr (N + 1), vi n, vi v] y pc L st (N + 1, (c, s)) (aup (aup f b X) (N + 1) (oC 0 (dfs 0))) Q = Wp xs y pc L st (N + 2, (c + 1, s + n.toNat)) (aup (aup (aup f (N + 1) (oC 0 [vr (N + 2)])) (N + 2) (iC (tab n.toNat (fun _ => v)))) b X) Q := by
  have h := cI_n (c := 0) (init_runs (xs := xs) (r := N + 1) (μ := (N + 1, (c, s))) (f := aup (aup f b X) (N + 1) (oC 0 (dfs 0))) (by omega) (Nat.le_refl _) (aup_same _ _ _) n.toNat (by omega) v) (by unfold isO; rw [aup_same]; rfl) (by omega) y pc L st Q
  rw [Int.toNat_of_nonneg h0] at h
  rw [h]
  have e : aup (aup (aup (aup f b X) (N + 1) (oC 0 (dfs 0))) (N + 1) (oC 0 [vr (N + 1 + 1)])) (N + 1 + 1) (iC (tab n.toNat (fun _ => v))) = aup (aup (aup f (N + 1) (oC 0 [vr (N + 2)])) (N + 2) (iC (tab n.toNat (fun _ => v)))) b X := by
    rw [aup_aup, aup_comm f X _ (by omega), aup_comm _ X _ (by omega)]
  rw [← e]
theorem st_new : aup (aup (aup (aup (aup (aup (aup (aup (aup (aup (aup (aup (aup (aup (aup (aup (aup (aup (aup (aup (aup (aup (aup (f) (b + 1) (oC 0 [vr (b + 2)])) (b + 2) (iC (tab 80 (fun _ => 0)))) (b + 3) (oC 0 [vr (b + 4)])) (b + 4) (iC (tab 80 (fun _ => 0)))) (b + 5) (oC 0 [vr (b + 6)])) (b + 6) (iC (tab 80 (fun _ => -1)))) (b + 7) (oC 0 [vr (b + 8)])) (b + 8) (iC (tab 80 (fun _ => -1)))) (b + 9) (oC 0 [vr (b + 10)])) (b + 10) (iC (tab 8 (fun _ => -1)))) (b + 11) (oC 0 [vr (b + 12)])) (b + 12) (iC (tab 8 (fun _ => 0)))) (b + 13) (oC 0 [vr (b + 14)])) (b + 14) (iC (tab 8 (fun _ => 0)))) (b + 15) (oC 0 [vr (b + 16)])) (b + 16) (iC (tab 8 (fun _ => -1)))) (b + 17) (oC 0 [vr (b + 18)])) (b + 18) (iC (tab 8 (fun _ => -1)))) (b + 19) (oC 0 [vr (b + 20)])) (b + 20) (iC (tab 8 (fun _ => 0)))) (b + 21) (oC 0 [vr (b + 22)])) (b + 22) (iC (tab 8 (fun _ => 0)))) b (oC 1 [vr (b + 1), vr (b + 3), vr (b + 5), vr (b + 7), vi 0, vi 0, vi 3, vr (b + 9), vr (b + 11), vr (b + 13), vr (b + 15), vr (b + 17), vr (b + 19), vr (b + 21)]) = putS f b sg0 := by
  funext a
  by_cases ha : b ≤ a ∧ a < b + 23
  · obtain ⟨o, rfl⟩ : ∃ o, a = b + o := ⟨a - b, by omega⟩
    have ho : o < 23 := by omega
    rw [putS_in f b _ ho]
    match o, ho with
    | 0, _ => simp [aup, stC, sg0, rlen]
    | 1, _ => simp [aup, stC, sg0, rlen]
    | 2, _ => simp [aup, stC, sg0, rlen]
    | 3, _ => simp [aup, stC, sg0, rlen]
    | 4, _ => simp [aup, stC, sg0, rlen]
    | 5, _ => simp [aup, stC, sg0, rlen]
    | 6, _ => simp [aup, stC, sg0, rlen]
    | 7, _ => simp [aup, stC, sg0, rlen]
    | 8, _ => simp [aup, stC, sg0, rlen]
    | 9, _ => simp [aup, stC, sg0, rlen]
    | 10, _ => simp [aup, stC, sg0, rlen]
    | 11, _ => simp [aup, stC, sg0, rlen]
    | 12, _ => simp [aup, stC, sg0, rlen]
    | 13, _ => simp [aup, stC, sg0, rlen]
    | 14, _ => simp [aup, stC, sg0, rlen]
    | 15, _ => simp [aup, stC, sg0, rlen]
    | 16, _ => simp [aup, stC, sg0, rlen]
    | 17, _ => simp [aup, stC, sg0, rlen]
    | 18, _ => simp [aup, stC, sg0, rlen]
    | 19, _ => simp [aup, stC, sg0, rlen]
    | 20, _ => simp [aup, stC, sg0, rlen]
    | 21, _ => simp [aup, stC, sg0, rlen]
    | 22, _ => simp [aup, stC, sg0, rlen]
    | n + 23, h => omega
  · rw [putS_out f _ (by omega)]
    have hn : ∀ o, o < 23 → ¬ a = b + o := fun o ho e => ha (by omega)
    have h0 : ¬ a = b := fun e => ha (by omega)
    simp only [aup, h0, ↓reduceIte, hn 1 (by omega), hn 2 (by omega), hn 3 (by omega), hn 4 (by omega), hn 5 (by omega), hn 6 (by omega), hn 7 (by omega), hn 8 (by omega), hn 9 (by omega), hn 10 (by omega), hn 11 (by omega), hn 12 (by omega), hn 13 (by omega), hn 14 (by omega), hn 15 (by omega), hn 16 (by omega), hn 17 (by omega), hn 18 (by omega), hn 19 (by omega), hn 20 (by omega), hn 21 (by omega), hn 22 (by omega)]
theorem m11 {c s : Nat} (hb : b ≠ 0) (hf : f b = some (oC 1 (dfs 1))) : Runs xs 11 [vr b] (b, (c, s)) f (.inl none) (b + 22, (c + 22, s + 387)) (putS f b sg0) := Runs.iff fun Q hQ => by
  show Wp xs 11 0 [vr b] [] (b, (c, s)) f Q
  rw [← aup_self hf]
  have e0 : dfs 1 = [vn, vn, vn, vn, vi 0, vi 0, vi 0, vn, vn, vn, vn, vn, vn, vn] := rfl
  rw [e0]
  simp (disch := first | omega | (simp; done) | rfl) only [e11_0, e11_1, e11_4, e11_5, e11_8, e11_9, e11_11, e11_12, e11_15, e11_18, e11_19, e11_22, e11_23, e11_25, e11_26, e11_29, e11_32, e11_33, e11_36, e11_37, e11_39, e11_40, e11_43, e11_46, e11_47, e11_50, e11_51, e11_53, e11_54, e11_57, e11_60, e11_61, e11_62, e11_65, e11_66, e11_67, e11_70, e11_71, e11_72, e11_75, e11_76, e11_79, e11_80, e11_82, e11_83, e11_86, e11_89, e11_90, e11_93, e11_94, e11_96, e11_97, e11_100, e11_103, e11_104, e11_107, e11_108, e11_110, e11_111, e11_114, e11_117, e11_118, e11_121, e11_122, e11_124, e11_125, e11_128, e11_131, e11_132, e11_135, e11_136, e11_138, e11_139, e11_142, e11_145, e11_146, e11_149, e11_150, e11_152, e11_153, e11_156, e11_159, e11_160, e11_163, e11_164, e11_166, e11_167, e11_170, e11_173, WpV_some, WpH_some, ↓ite_t, ↓ite_f, new_row, pf_top, List.set_cons_zero, List.set_cons_succ, Nat.add_assoc, Nat.reduceAdd, aup_aup, show cF 0 = 1 from rfl, Int.reduceToNat]
  rw [← st_new] at hQ
  exact hQ
end S3
