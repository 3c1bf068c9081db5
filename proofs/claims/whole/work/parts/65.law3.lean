/-! THE LAW: each call keeps both alike -/
/-- from pc to the end of the loop's body, both still alike -/
def stp (xs : List Int) (pc : Nat) (i : Int) (l5 l6 l7 l8 : AV) (μ : Mu) (H : AH) : Prop := ∃ (c : Int64) (V : VG) (sc : Int) (T : TG) (τ σ : SG) (M : MG) (μ' : Mu) (k5 k6 k7 k8 : AV), inv σ T V sc M ∧ μ'.2.1 ≤ μ.2.1 + 1 ∧ μ'.2.2 ≤ μ.2.2 + 6 ∧ ∀ Q : Out → Mu → AH → Prop, Wp xs 0 pc [vr 0, vr 1, vr 190, vr 197, vi i, l5, l6, l7, l8] [] μ H Q = Wp xs 0 1241 [vr 0, vr 1, vr 190, vr 197, vi i, k5, k6, k7, k8] [] μ' (GG c V sc T τ σ M) Q
section OP
variable {xs : List Int} {μ : Mu} {i : Int} {c : Int64} {l5 l6 l7 l8 : AV} {V : VG} {sc : Int} {T : TG} {τ σ : SG} {M : MG}
theorem m74k {t : Int} (h : M.1 0 = t) : Runs xs 74 [vr 190] μ (GG c V sc T τ σ M) (.inl (some (vi t))) μ (GG c V sc T τ σ M) := h ▸ m74G
theorem no1 {k : Int} {p : Prop} (h : k ≠ 0) : k = 0 → p := fun e => absurd e h
theorem op_0 (h : inv σ T V sc M) : stp xs 148 i l5 l6 l7 l8 μ (GG c V sc T τ σ M) := by
  have hw := h.1.wf
  have hT := h.2.1.1
  have hV := h.2.2.2.2.2.1
  have h0 := h.2.2.2.1
  have h6 := h.2.2.2.2.1
  by_cases c1 : 0 < T.2 ∧ fwr T 0 T.2.toNat = T.2
  · by_cases c2 : σ.2 0 + tld T 0 T.2.toNat ≤ 80
    · have hc : Runs xs 62 [vr 1] μ (GG c V sc T τ σ M) (.inl (some (vi ((exn T σ 0 T.2.toNat).2 0)))) μ (GG c (svV V sc σ) (svC sc) ((T.1, 0)) (τ) (exn T σ 0 T.2.toNat) M) := m62 hw hT hV h0 h6 c1 c2
      have a := w144 (H'' := GG (iL ((exn T σ 0 T.2.toNat).2 0)) (svV V sc σ) (svC sc) ((T.1, 0)) (τ) (exn T σ 0 T.2.toNat) M) hc G_oC (G_pl _)
      obtain ⟨M', hi, ht, hY⟩ := m82 (xs := xs) (μ := μ) (f := PP (putV (G0 (iL ((exn T σ 0 T.2.toNat).2 0))) (svV V sc σ)) (svC sc) ((T.1, 0)) (τ) (exn T σ 0 T.2.toNat)) h c1 c2
      exact ⟨iL ((exn T σ 0 T.2.toNat).2 0), svV V sc σ, svC sc, (T.1, 0), τ, exn T σ 0 T.2.toNat, M', μ, vi 0, vi ((exn T σ 0 T.2.toNat).2 0), l7, l8, hi, Nat.le_add_right _ _, Nat.le_add_right _ _, fun Q => sg_0 a G_oM (Rm hY) G_oM (m74k ht) G_gl (fun _ => rfl)⟩
    · have hc : Runs xs 62 [vr 1] μ (GG c V sc T τ σ M) (.inr 1) (bump μ) (GG c V sc T τ σ M) := m62s hw hT c1 (by omega)
      have a := w144_1 hc G_oC
      have hY : Runs xs 82 [vr 190] (bump μ) (putM (PP (putV (G0 c) V) sc T τ σ) M) (.inl (some (vi 0))) (bump μ) (putM (PP (putV (G0 c) V) sc T τ σ) (mS M 0 2)) := m82s h c1 (by omega)
      exact ⟨c, V, sc, T, τ, σ, mS M 0 2, bump μ, vi 2, vi 0, l7, l8, (sml.mS M 2).inv h, Nat.le_refl _, Nat.le_refl _, fun Q => sg_0 a G_oM (Rm hY) G_oM (m74k rfl) G_gl (no1 (by decide))⟩
  · have hc : Runs xs 62 [vr 1] μ (GG c V sc T τ σ M) (.inr 0) (bump μ) (GG c V sc T τ σ M) := m62a hT c1
    have a := w144_0 hc G_oC
    have hY : Runs xs 82 [vr 190] (bump μ) (putM (PP (putV (G0 c) V) sc T τ σ) M) (.inl (some (vi 0))) (bump μ) (putM (PP (putV (G0 c) V) sc T τ σ) (mS M 0 1)) := m82a h c1
    exact ⟨c, V, sc, T, τ, σ, mS M 0 1, bump μ, vi 1, vi 0, l7, l8, (sml.mS M 1).inv h, Nat.le_refl _, Nat.le_refl _, fun Q => sg_0 a G_oM (Rm hY) G_oM (m74k rfl) G_gl (no1 (by decide))⟩
theorem op_1 (h : inv σ T V sc M) (i0 : 0 ≤ i) (i1 : i + 3 < xs.length) (il : xs.length ≤ 2048) : stp xs 192 i l5 l6 l7 l8 μ (GG c V sc T τ σ M) := by
  have hw := h.1.wf
  have hT := h.2.1.1
  have hV := h.2.2.2.2.2.1
  have h0 := h.2.2.2.1
  have h6 := h.2.2.2.2.1
  by_cases c1 : σ.2 1 ≤ (xs.getD (i + 1).toNat 0) ∧ (xs.getD (i + 1).toNat 0) ≤ σ.2 0
  · by_cases c2 : 0 ≤ (xs.getD (i + 2).toNat 0) ∧ (xs.getD (i + 2).toNat 0) < 8
    · by_cases c3 : σ.2 0 < 80
      · have hc : Runs xs 63 [vr 1, vi (xs.getD (i + 1).toNat 0), vi (xs.getD (i + 2).toNat 0), vi (if xs.getD (i + 3).toNat 0 = 0 then 0 else 1)] μ (GG c V sc T τ σ M) (.inl (some (vi (σ.2 0 + 1 - σ.2 1)))) μ (GG c (svV V sc σ) (svC sc) (T) (τ) (pta σ (xs.getD (i + 1).toNat 0) (xs.getD (i + 2).toNat 0) (if (if xs.getD (i + 3).toNat 0 = 0 then (0 : Int) else 1) = 0 then 0 else 1)) M) := m63 hw hV h0 h6 (xs.getD (i + 1).toNat 0) (xs.getD (i + 2).toNat 0) (if xs.getD (i + 3).toNat 0 = 0 then (0 : Int) else 1) c1.1 c1.2 c2.1 c2.2 c3
        have a := w145 (H'' := GG (iL (σ.2 0 + 1 - σ.2 1)) (svV V sc σ) (svC sc) (T) (τ) (pta σ (xs.getD (i + 1).toNat 0) (xs.getD (i + 2).toNat 0) (if (if xs.getD (i + 3).toNat 0 = 0 then (0 : Int) else 1) = 0 then 0 else 1)) M) hc G_oC (G_pl _)
        obtain ⟨M', hi, ht, hY⟩ := m88 (xs := xs) (μ := μ) (f := PP (putV (G0 (iL (σ.2 0 + 1 - σ.2 1))) (svV V sc σ)) (svC sc) (T) (τ) (pta σ (xs.getD (i + 1).toNat 0) (xs.getD (i + 2).toNat 0) (if (if xs.getD (i + 3).toNat 0 = 0 then (0 : Int) else 1) = 0 then 0 else 1))) h (i := (xs.getD (i + 1).toNat 0)) (p := (xs.getD (i + 2).toNat 0)) (if xs.getD (i + 3).toNat 0 = 0 then (0 : Int) else 1) c1.1 c1.2 c2.1 c2.2 c3
        exact ⟨iL (σ.2 0 + 1 - σ.2 1), svV V sc σ, svC sc, T, τ, pta σ (xs.getD (i + 1).toNat 0) (xs.getD (i + 2).toNat 0) (if (if xs.getD (i + 3).toNat 0 = 0 then (0 : Int) else 1) = 0 then 0 else 1), M', μ, vi 0, vi (σ.2 0 + 1 - σ.2 1), l7, l8, hi, Nat.le_add_right _ _, Nat.le_add_right _ _, fun Q => sg_1 i0 i1 il a G_oM (Rm hY) G_oM (m74k ht) G_gl (fun _ => rfl)⟩
      · have hc : Runs xs 63 [vr 1, vi (xs.getD (i + 1).toNat 0), vi (xs.getD (i + 2).toNat 0), vi (if xs.getD (i + 3).toNat 0 = 0 then 0 else 1)] μ (GG c V sc T τ σ M) (.inr 1) (bump μ) (GG c V sc T τ σ M) := m63s (xs.getD (i + 1).toNat 0) (xs.getD (i + 2).toNat 0) (if xs.getD (i + 3).toNat 0 = 0 then (0 : Int) else 1) c1.1 c1.2 c2.1 c2.2 (by omega)
        have a := w145_1 hc G_oC
        have hY : Runs xs 88 [vr 190, vi (xs.getD (i + 1).toNat 0), vi (xs.getD (i + 2).toNat 0), vi (if xs.getD (i + 3).toNat 0 = 0 then 0 else 1)] (bump μ) (putM (PP (putV (G0 c) V) sc T τ σ) M) (.inl (some (vi 0))) (bump μ) (putM (PP (putV (G0 c) V) sc T τ σ) (mS M 0 3)) := m88s h (xs.getD (i + 1).toNat 0) (xs.getD (i + 2).toNat 0) (if xs.getD (i + 3).toNat 0 = 0 then (0 : Int) else 1) c1.1 c1.2 c2.1 c2.2 (by omega)
        exact ⟨c, V, sc, T, τ, σ, mS M 0 3, bump μ, vi 3, vi 0, l7, l8, (sml.mS M 3).inv h, Nat.le_refl _, Nat.le_refl _, fun Q => sg_1 i0 i1 il a G_oM (Rm hY) G_oM (m74k rfl) G_gl (no1 (by decide))⟩
    · have hc : Runs xs 63 [vr 1, vi (xs.getD (i + 1).toNat 0), vi (xs.getD (i + 2).toNat 0), vi (if xs.getD (i + 3).toNat 0 = 0 then 0 else 1)] μ (GG c V sc T τ σ M) (.inr 0) (bump μ) (GG c V sc T τ σ M) := m63p (xs.getD (i + 1).toNat 0) (xs.getD (i + 2).toNat 0) (if xs.getD (i + 3).toNat 0 = 0 then (0 : Int) else 1) c1.1 c1.2 (by omega)
      have a := w145_0 hc G_oC
      have hY : Runs xs 88 [vr 190, vi (xs.getD (i + 1).toNat 0), vi (xs.getD (i + 2).toNat 0), vi (if xs.getD (i + 3).toNat 0 = 0 then 0 else 1)] (bump μ) (putM (PP (putV (G0 c) V) sc T τ σ) M) (.inl (some (vi 0))) (bump μ) (putM (PP (putV (G0 c) V) sc T τ σ) (mS M 0 2)) := m88p h (xs.getD (i + 1).toNat 0) (xs.getD (i + 2).toNat 0) (if xs.getD (i + 3).toNat 0 = 0 then (0 : Int) else 1) c1.1 c1.2 (by omega)
      exact ⟨c, V, sc, T, τ, σ, mS M 0 2, bump μ, vi 2, vi 0, l7, l8, (sml.mS M 2).inv h, Nat.le_refl _, Nat.le_refl _, fun Q => sg_1 i0 i1 il a G_oM (Rm hY) G_oM (m74k rfl) G_gl (no1 (by decide))⟩
  · have hc : Runs xs 63 [vr 1, vi (xs.getD (i + 1).toNat 0), vi (xs.getD (i + 2).toNat 0), vi (if xs.getD (i + 3).toNat 0 = 0 then 0 else 1)] μ (GG c V sc T τ σ M) (.inr 2) (bump μ) (GG c V sc T τ σ M) := m63i (xs.getD (i + 1).toNat 0) (xs.getD (i + 2).toNat 0) (if xs.getD (i + 3).toNat 0 = 0 then (0 : Int) else 1) (by omega)
    have a := w145_2 hc G_oC
    have hY : Runs xs 88 [vr 190, vi (xs.getD (i + 1).toNat 0), vi (xs.getD (i + 2).toNat 0), vi (if xs.getD (i + 3).toNat 0 = 0 then 0 else 1)] (bump μ) (putM (PP (putV (G0 c) V) sc T τ σ) M) (.inl (some (vi 0))) (bump μ) (putM (PP (putV (G0 c) V) sc T τ σ) (mS M 0 1)) := m88i h (xs.getD (i + 1).toNat 0) (xs.getD (i + 2).toNat 0) (if xs.getD (i + 3).toNat 0 = 0 then (0 : Int) else 1) (by omega)
    exact ⟨c, V, sc, T, τ, σ, mS M 0 1, bump μ, vi 1, vi 0, l7, l8, (sml.mS M 1).inv h, Nat.le_refl _, Nat.le_refl _, fun Q => sg_1 i0 i1 il a G_oM (Rm hY) G_oM (m74k rfl) G_gl (no1 (by decide))⟩
theorem op_2 (h : inv σ T V sc M) (i0 : 0 ≤ i) (i1 : i + 3 < xs.length) (il : xs.length ≤ 2048) : stp xs 288 i l5 l6 l7 l8 μ (GG c V sc T τ σ M) := by
  have hw := h.1.wf
  have hT := h.2.1.1
  have hV := h.2.2.2.2.2.1
  have h0 := h.2.2.2.1
  have h6 := h.2.2.2.2.1
  by_cases c1 : σ.2 1 ≤ (xs.getD (i + 1).toNat 0) ∧ (xs.getD (i + 1).toNat 0) < σ.2 0
  · have hc : Runs xs 64 [vr 1, vi (xs.getD (i + 1).toNat 0)] μ (GG c V sc T τ σ M) (.inl (some (vi (rg 80 (σ.1 0) (xs.getD (i + 1).toNat 0))))) μ (GG c (svV V sc σ) (svC sc) (T) (τ) (tka σ (xs.getD (i + 1).toNat 0)) M) := m64 hw hV h0 h6 (xs.getD (i + 1).toNat 0) c1.1 c1.2
    have a := w146 (H'' := GG (iL (rg 80 (σ.1 0) (xs.getD (i + 1).toNat 0))) (svV V sc σ) (svC sc) (T) (τ) (tka σ (xs.getD (i + 1).toNat 0)) M) hc G_oC (G_pl _)
    obtain ⟨M', hi, ht, hY⟩ := m90 (xs := xs) (μ := μ) (f := PP (putV (G0 (iL (rg 80 (σ.1 0) (xs.getD (i + 1).toNat 0)))) (svV V sc σ)) (svC sc) (T) (τ) (tka σ (xs.getD (i + 1).toNat 0))) h (i := (xs.getD (i + 1).toNat 0)) c1.1 c1.2
    exact ⟨iL (rg 80 (σ.1 0) (xs.getD (i + 1).toNat 0)), svV V sc σ, svC sc, T, τ, tka σ (xs.getD (i + 1).toNat 0), M', μ, vi 0, vi (rg 80 (σ.1 0) (xs.getD (i + 1).toNat 0)), l7, l8, hi, Nat.le_add_right _ _, Nat.le_add_right _ _, fun Q => sg_2 i0 i1 il a G_oM (Rm hY) G_oM (m74k ht) G_gl (fun _ => rfl)⟩
  · have hc : Runs xs 64 [vr 1, vi (xs.getD (i + 1).toNat 0)] μ (GG c V sc T τ σ M) (.inr 2) (bump μ) (GG c V sc T τ σ M) := m64e (xs.getD (i + 1).toNat 0) (by omega)
    have a := w146_2 hc G_oC
    have hY : Runs xs 90 [vr 190, vi (xs.getD (i + 1).toNat 0)] (bump μ) (putM (PP (putV (G0 c) V) sc T τ σ) M) (.inl (some (vi 0))) (bump μ) (putM (PP (putV (G0 c) V) sc T τ σ) (mS M 0 1)) := m90e h (xs.getD (i + 1).toNat 0) (by omega)
    exact ⟨c, V, sc, T, τ, σ, mS M 0 1, bump μ, vi 1, vi 0, l7, l8, (sml.mS M 1).inv h, Nat.le_refl _, Nat.le_refl _, fun Q => sg_2 i0 i1 il a G_oM (Rm hY) G_oM (m74k rfl) G_gl (no1 (by decide))⟩
theorem op_3 (h : inv σ T V sc M) (i0 : 0 ≤ i) (i1 : i + 3 < xs.length) (il : xs.length ≤ 2048) : stp xs 344 i l5 l6 l7 l8 μ (GG c V sc T τ σ M) := by
  have hw := h.1.wf
  have hT := h.2.1.1
  have hV := h.2.2.2.2.2.1
  have h0 := h.2.2.2.1
  have h6 := h.2.2.2.2.1
  by_cases c1 : σ.2 1 ≤ (xs.getD (i + 1).toNat 0) ∧ (xs.getD (i + 1).toNat 0) < σ.2 0
  · by_cases c2 : σ.2 1 ≤ (xs.getD (i + 2).toNat 0) ∧ (xs.getD (i + 2).toNat 0) < σ.2 0
    · have hc : Runs xs 65 [vr 1, vi (xs.getD (i + 1).toNat 0), vi (xs.getD (i + 2).toNat 0)] μ (GG c V sc T τ σ M) (.inl (some (vi (rg 80 ((swp σ (xs.getD (i + 1).toNat 0) (xs.getD (i + 2).toNat 0)).1 0) (xs.getD (i + 1).toNat 0))))) μ (GG c (svV V sc σ) (svC sc) (T) (τ) (swp σ (xs.getD (i + 1).toNat 0) (xs.getD (i + 2).toNat 0)) M) := m65 hV h0 h6 (xs.getD (i + 1).toNat 0) (xs.getD (i + 2).toNat 0) c1.1 c1.2 c2.1 c2.2
      have a := w147 (H'' := GG (iL (rg 80 ((swp σ (xs.getD (i + 1).toNat 0) (xs.getD (i + 2).toNat 0)).1 0) (xs.getD (i + 1).toNat 0))) (svV V sc σ) (svC sc) (T) (τ) (swp σ (xs.getD (i + 1).toNat 0) (xs.getD (i + 2).toNat 0)) M) hc G_oC (G_pl _)
      obtain ⟨M', hi, ht, hY⟩ := m94 (xs := xs) (μ := μ) (f := PP (putV (G0 (iL (rg 80 ((swp σ (xs.getD (i + 1).toNat 0) (xs.getD (i + 2).toNat 0)).1 0) (xs.getD (i + 1).toNat 0)))) (svV V sc σ)) (svC sc) (T) (τ) (swp σ (xs.getD (i + 1).toNat 0) (xs.getD (i + 2).toNat 0))) h (i := (xs.getD (i + 1).toNat 0)) (j := (xs.getD (i + 2).toNat 0)) c1.1 c1.2 c2.1 c2.2
      exact ⟨iL (rg 80 ((swp σ (xs.getD (i + 1).toNat 0) (xs.getD (i + 2).toNat 0)).1 0) (xs.getD (i + 1).toNat 0)), svV V sc σ, svC sc, T, τ, swp σ (xs.getD (i + 1).toNat 0) (xs.getD (i + 2).toNat 0), M', μ, vi 0, vi (rg 80 ((swp σ (xs.getD (i + 1).toNat 0) (xs.getD (i + 2).toNat 0)).1 0) (xs.getD (i + 1).toNat 0)), l7, l8, hi, Nat.le_add_right _ _, Nat.le_add_right _ _, fun Q => sg_3 i0 i1 il a G_oM (Rm hY) G_oM (m74k ht) G_gl (fun _ => rfl)⟩
    · have hc : Runs xs 65 [vr 1, vi (xs.getD (i + 1).toNat 0), vi (xs.getD (i + 2).toNat 0)] μ (GG c V sc T τ σ M) (.inr 2) (bump μ) (GG c V sc T τ σ M) := m65j (xs.getD (i + 1).toNat 0) (xs.getD (i + 2).toNat 0) c1.1 c1.2 (by omega)
      have a := w147_2 hc G_oC
      have hY : Runs xs 94 [vr 190, vi (xs.getD (i + 1).toNat 0), vi (xs.getD (i + 2).toNat 0)] (bump μ) (putM (PP (putV (G0 c) V) sc T τ σ) M) (.inl (some (vi 0))) (bump μ) (putM (PP (putV (G0 c) V) sc T τ σ) (mS M 0 1)) := m94e h (xs.getD (i + 1).toNat 0) (xs.getD (i + 2).toNat 0) (by omega)
      exact ⟨c, V, sc, T, τ, σ, mS M 0 1, bump μ, vi 1, vi 0, l7, l8, (sml.mS M 1).inv h, Nat.le_refl _, Nat.le_refl _, fun Q => sg_3 i0 i1 il a G_oM (Rm hY) G_oM (m74k rfl) G_gl (no1 (by decide))⟩
  · have hc : Runs xs 65 [vr 1, vi (xs.getD (i + 1).toNat 0), vi (xs.getD (i + 2).toNat 0)] μ (GG c V sc T τ σ M) (.inr 2) (bump μ) (GG c V sc T τ σ M) := m65i (xs.getD (i + 1).toNat 0) (xs.getD (i + 2).toNat 0) (by omega)
    have a := w147_2 hc G_oC
    have hY : Runs xs 94 [vr 190, vi (xs.getD (i + 1).toNat 0), vi (xs.getD (i + 2).toNat 0)] (bump μ) (putM (PP (putV (G0 c) V) sc T τ σ) M) (.inl (some (vi 0))) (bump μ) (putM (PP (putV (G0 c) V) sc T τ σ) (mS M 0 1)) := m94e h (xs.getD (i + 1).toNat 0) (xs.getD (i + 2).toNat 0) (by omega)
    exact ⟨c, V, sc, T, τ, σ, mS M 0 1, bump μ, vi 1, vi 0, l7, l8, (sml.mS M 1).inv h, Nat.le_refl _, Nat.le_refl _, fun Q => sg_3 i0 i1 il a G_oM (Rm hY) G_oM (m74k rfl) G_gl (no1 (by decide))⟩
theorem op_4 (h : inv σ T V sc M) (i0 : 0 ≤ i) (i1 : i + 3 < xs.length) (il : xs.length ≤ 2048) : stp xs 412 i l5 l6 l7 l8 μ (GG c V sc T τ σ M) := by
  have hw := h.1.wf
  have hT := h.2.1.1
  have hV := h.2.2.2.2.2.1
  have h0 := h.2.2.2.1
  have h6 := h.2.2.2.2.1
  by_cases c1 : 1 ≤ (xs.getD (i + 1).toNat 0) ∧ (xs.getD (i + 1).toNat 0) ≤ 80
  · have hc : Runs xs 66 [vr 1, vi (xs.getD (i + 1).toNat 0)] μ (GG c V sc T τ σ M) (.inl (some (vi (rdO (fin σ 0 (xs.getD (i + 1).toNat 0).toNat) σ)))) μ (GG c (svV V sc σ) (svC sc) (T) (τ) (fin σ 0 (xs.getD (i + 1).toNat 0).toNat) M) := m66 hw hV h0 h6 (xs.getD (i + 1).toNat 0) c1.1 c1.2
    have a := w148 (H'' := GG (iL (rdO (fin σ 0 (xs.getD (i + 1).toNat 0).toNat) σ)) (svV V sc σ) (svC sc) (T) (τ) (fin σ 0 (xs.getD (i + 1).toNat 0).toNat) M) hc G_oC (G_pl _)
    obtain ⟨M', hi, ht, hY⟩ := m95 (xs := xs) (μ := μ) (f := PP (putV (G0 (iL (rdO (fin σ 0 (xs.getD (i + 1).toNat 0).toNat) σ))) (svV V sc σ)) (svC sc) (T) (τ) (fin σ 0 (xs.getD (i + 1).toNat 0).toNat)) h (xs.getD (i + 1).toNat 0) c1.1 c1.2
    exact ⟨iL (rdO (fin σ 0 (xs.getD (i + 1).toNat 0).toNat) σ), svV V sc σ, svC sc, T, τ, fin σ 0 (xs.getD (i + 1).toNat 0).toNat, M', μ, vi 0, vi (rdO (fin σ 0 (xs.getD (i + 1).toNat 0).toNat) σ), l7, l8, hi, Nat.le_add_right _ _, Nat.le_add_right _ _, fun Q => sg_4 i0 i1 il a G_oM (Rm hY) G_oM (m74k ht) G_gl (fun _ => rfl)⟩
  · have hc : Runs xs 66 [vr 1, vi (xs.getD (i + 1).toNat 0)] μ (GG c V sc T τ σ M) (.inr 0) (bump μ) (GG c V sc T τ σ M) := m66e (xs.getD (i + 1).toNat 0) (by omega)
    have a := w148_0 hc G_oC
    have hY : Runs xs 95 [vr 190, vi (xs.getD (i + 1).toNat 0)] (bump μ) (putM (PP (putV (G0 c) V) sc T τ σ) M) (.inl (some (vi 0))) (bump μ) (putM (PP (putV (G0 c) V) sc T τ σ) (mS M 0 1)) := m95e (xs.getD (i + 1).toNat 0) (by omega)
    exact ⟨c, V, sc, T, τ, σ, mS M 0 1, bump μ, vi 1, vi 0, l7, l8, (sml.mS M 1).inv h, Nat.le_refl _, Nat.le_refl _, fun Q => sg_4 i0 i1 il a G_oM (Rm hY) G_oM (m74k rfl) G_gl (no1 (by decide))⟩
theorem op_5 (h : inv σ T V sc M) (i0 : 0 ≤ i) (i1 : i + 3 < xs.length) (il : xs.length ≤ 2048) : stp xs 468 i l5 l6 l7 l8 μ (GG c V sc T τ σ M) := by
  have hw := h.1.wf
  have hT := h.2.1.1
  have hV := h.2.2.2.2.2.1
  have h0 := h.2.2.2.1
  have h6 := h.2.2.2.2.1
  by_cases c1 : 0 ≤ (xs.getD (i + 1).toNat 0) ∧ (xs.getD (i + 1).toNat 0) < 8
  · by_cases c2 : rg 8 (σ.1 6) (xs.getD (i + 1).toNat 0) = 0 → sm 0 (σ.1 6) 0 8 < σ.2 2 - 1
    · have hc : Runs xs 67 [vr 1, vi (xs.getD (i + 1).toNat 0)] μ (GG c V sc T τ σ M) (.inl (some (vi (sm 0 ((pnd σ (xs.getD (i + 1).toNat 0)).1 6) 0 8)))) μ (GG c (svV V sc σ) (svC sc) (T) (τ) (pnd σ (xs.getD (i + 1).toNat 0)) M) := m67 hw hV h0 h6 (xs.getD (i + 1).toNat 0) c1.1 c1.2 c2
      have a := w149 (H'' := GG (iL (sm 0 ((pnd σ (xs.getD (i + 1).toNat 0)).1 6) 0 8)) (svV V sc σ) (svC sc) (T) (τ) (pnd σ (xs.getD (i + 1).toNat 0)) M) hc G_oC (G_pl _)
      obtain ⟨M', hi, ht, hY⟩ := m105 (xs := xs) (μ := μ) (f := PP (putV (G0 (iL (sm 0 ((pnd σ (xs.getD (i + 1).toNat 0)).1 6) 0 8))) (svV V sc σ)) (svC sc) (T) (τ) (pnd σ (xs.getD (i + 1).toNat 0))) h (p := (xs.getD (i + 1).toNat 0)) c1.1 c1.2 c2
      exact ⟨iL (sm 0 ((pnd σ (xs.getD (i + 1).toNat 0)).1 6) 0 8), svV V sc σ, svC sc, T, τ, pnd σ (xs.getD (i + 1).toNat 0), M', μ, vi 0, vi (sm 0 ((pnd σ (xs.getD (i + 1).toNat 0)).1 6) 0 8), l7, l8, hi, Nat.le_add_right _ _, Nat.le_add_right _ _, fun Q => sg_5 i0 i1 il a G_oM (Rm hY) G_oM (m74k ht) G_gl (fun _ => rfl)⟩
    · have c3 : rg 8 (σ.1 6) (xs.getD (i + 1).toNat 0) = 0 := Classical.byContradiction fun x => c2 (fun y => absurd y x)
      have c4 : ¬ sm 0 (σ.1 6) 0 8 < σ.2 2 - 1 := fun x => c2 (fun _ => x)
      have hc : Runs xs 67 [vr 1, vi (xs.getD (i + 1).toNat 0)] μ (GG c V sc T τ σ M) (.inr 1) (bump μ) (GG c V sc T τ σ M) := m67s hw (xs.getD (i + 1).toNat 0) c1.1 c1.2 c3 c4
      have a := w149_1 hc G_oC
      have hY : Runs xs 105 [vr 190, vi (xs.getD (i + 1).toNat 0)] (bump μ) (putM (PP (putV (G0 c) V) sc T τ σ) M) (.inl (some (vi 0))) (bump μ) (putM (PP (putV (G0 c) V) sc T τ σ) (mS M 0 2)) := m105s h c1.1 c1.2 c3 c4
      exact ⟨c, V, sc, T, τ, σ, mS M 0 2, bump μ, vi 2, vi 0, l7, l8, (sml.mS M 2).inv h, Nat.le_refl _, Nat.le_refl _, fun Q => sg_5 i0 i1 il a G_oM (Rm hY) G_oM (m74k rfl) G_gl (no1 (by decide))⟩
  · have hc : Runs xs 67 [vr 1, vi (xs.getD (i + 1).toNat 0)] μ (GG c V sc T τ σ M) (.inr 0) (bump μ) (GG c V sc T τ σ M) := m67p (xs.getD (i + 1).toNat 0) (by omega)
    have a := w149_0 hc G_oC
    have hY : Runs xs 105 [vr 190, vi (xs.getD (i + 1).toNat 0)] (bump μ) (putM (PP (putV (G0 c) V) sc T τ σ) M) (.inl (some (vi 0))) (bump μ) (putM (PP (putV (G0 c) V) sc T τ σ) (mS M 0 1)) := m105p (xs.getD (i + 1).toNat 0) (by omega)
    exact ⟨c, V, sc, T, τ, σ, mS M 0 1, bump μ, vi 1, vi 0, l7, l8, (sml.mS M 1).inv h, Nat.le_refl _, Nat.le_refl _, fun Q => sg_5 i0 i1 il a G_oM (Rm hY) G_oM (m74k rfl) G_gl (no1 (by decide))⟩
theorem op_6 (h : inv σ T V sc M) (i0 : 0 ≤ i) (i1 : i + 3 < xs.length) (il : xs.length ≤ 2048) : stp xs 524 i l5 l6 l7 l8 μ (GG c V sc T τ σ M) := by
  have hw := h.1.wf
  have hT := h.2.1.1
  have hV := h.2.2.2.2.2.1
  have h0 := h.2.2.2.1
  have h6 := h.2.2.2.2.1
  by_cases c1 : 1 ≤ (xs.getD (i + 1).toNat 0) ∧ (xs.getD (i + 1).toNat 0) ≤ 6
  · by_cases c2 : sm 0 (σ.1 6) 0 8 ≤ (xs.getD (i + 1).toNat 0) - 1
    · have hc : Runs xs 68 [vr 1, vi (xs.getD (i + 1).toNat 0)] μ (GG c V sc T τ σ M) (.inl (some (vi ((frs (xs.getD (i + 1).toNat 0) σ).2)))) μ (GG c (svV V sc σ) (svC sc) (T) (τ) ((frs (xs.getD (i + 1).toNat 0) σ).1) M) := m68 hw hV h0 h6 (xs.getD (i + 1).toNat 0) c1.1 c1.2 c2
      have a := w150 (H'' := GG (iL ((frs (xs.getD (i + 1).toNat 0) σ).2)) (svV V sc σ) (svC sc) (T) (τ) ((frs (xs.getD (i + 1).toNat 0) σ).1) M) hc G_oC (G_pl _)
      obtain ⟨M', hi, ht, hY⟩ := m107 (xs := xs) (μ := μ) (f := PP (putV (G0 (iL ((frs (xs.getD (i + 1).toNat 0) σ).2))) (svV V sc σ)) (svC sc) (T) (τ) ((frs (xs.getD (i + 1).toNat 0) σ).1)) h (xs.getD (i + 1).toNat 0) c1.1 c1.2 c2
      exact ⟨iL ((frs (xs.getD (i + 1).toNat 0) σ).2), svV V sc σ, svC sc, T, τ, (frs (xs.getD (i + 1).toNat 0) σ).1, M', μ, vi 0, vi ((frs (xs.getD (i + 1).toNat 0) σ).2), l7, l8, hi, Nat.le_add_right _ _, Nat.le_add_right _ _, fun Q => sg_6 i0 i1 il a G_oM (Rm hY) G_oM (m74k ht) G_gl (fun _ => rfl)⟩
    · have hc : Runs xs 68 [vr 1, vi (xs.getD (i + 1).toNat 0)] μ (GG c V sc T τ σ M) (.inr 1) (bump μ) (GG c V sc T τ σ M) := m68s (xs.getD (i + 1).toNat 0) c1.1 c1.2 (by omega)
      have a := w150_1 hc G_oC
      have hY : Runs xs 107 [vr 190, vi (xs.getD (i + 1).toNat 0)] (bump μ) (putM (PP (putV (G0 c) V) sc T τ σ) M) (.inl (some (vi 0))) (bump μ) (putM (PP (putV (G0 c) V) sc T τ σ) (mS M 0 2)) := m107s h (xs.getD (i + 1).toNat 0) c1.1 c1.2 (by omega)
      exact ⟨c, V, sc, T, τ, σ, mS M 0 2, bump μ, vi 2, vi 0, l7, l8, (sml.mS M 2).inv h, Nat.le_refl _, Nat.le_refl _, fun Q => sg_6 i0 i1 il a G_oM (Rm hY) G_oM (m74k rfl) G_gl (no1 (by decide))⟩
  · have hc : Runs xs 68 [vr 1, vi (xs.getD (i + 1).toNat 0)] μ (GG c V sc T τ σ M) (.inr 0) (bump μ) (GG c V sc T τ σ M) := m68a (xs.getD (i + 1).toNat 0) (by omega)
    have a := w150_0 hc G_oC
    have hY : Runs xs 107 [vr 190, vi (xs.getD (i + 1).toNat 0)] (bump μ) (putM (PP (putV (G0 c) V) sc T τ σ) M) (.inl (some (vi 0))) (bump μ) (putM (PP (putV (G0 c) V) sc T τ σ) (mS M 0 1)) := m107a (xs.getD (i + 1).toNat 0) (by omega)
    exact ⟨c, V, sc, T, τ, σ, mS M 0 1, bump μ, vi 1, vi 0, l7, l8, (sml.mS M 1).inv h, Nat.le_refl _, Nat.le_refl _, fun Q => sg_6 i0 i1 il a G_oM (Rm hY) G_oM (m74k rfl) G_gl (no1 (by decide))⟩
theorem op_7 (h : inv σ T V sc M) : stp xs 580 i l5 l6 l7 l8 μ (GG c V sc T τ σ M) := by
  have hw := h.1.wf
  have hT := h.2.1.1
  have hV := h.2.2.2.2.2.1
  have h0 := h.2.2.2.1
  have h6 := h.2.2.2.2.1
  have hc : Runs xs 41 [vr 1] μ (GG c V sc T τ σ M) (.inl (some (vi (wbO (wba σ 0 8) σ)))) μ (GG c (svV V sc σ) (svC sc) (T) (τ) (wba σ 0 8) M) := m41 hV h0 h6
  obtain ⟨M', hi, ht, hY⟩ := m110 (xs := xs) (μ := μ) (f := PP (putV (G0 c) (svV V sc σ)) (svC sc) (T) (τ) (wba σ 0 8)) h
  exact ⟨c, svV V sc σ, svC sc, T, τ, wba σ 0 8, M', μ, l5, l6, l7, l8, hi, Nat.le_add_right _ _, Nat.le_add_right _ _, fun Q => sg_7 hc G_oC G_oM (Rm hY)⟩
theorem op_8 (h : inv σ T V sc M) (i0 : 0 ≤ i) (i1 : i + 3 < xs.length) (il : xs.length ≤ 2048) : stp xs 593 i l5 l6 l7 l8 μ (GG c V sc T τ σ M) := by
  have hw := h.1.wf
  have hT := h.2.1.1
  have hV := h.2.2.2.2.2.1
  have h0 := h.2.2.2.1
  have h6 := h.2.2.2.2.1
  by_cases c1 : 33 ≤ (xs.getD (i + 1).toNat 0) ∧ (xs.getD (i + 1).toNat 0) ≤ 126
  · by_cases c2 : T.2 < 40
    · have hc : Runs xs 69 [vr 1, vi (xs.getD (i + 1).toNat 0)] μ (GG c V sc T τ σ M) (.inl (some (vi (T.2 + 1)))) μ (GG c (V) (sc) (apd T (xs.getD (i + 1).toNat 0)) (τ) (σ) M) := m69 hT (xs.getD (i + 1).toNat 0) c1.1 c1.2 c2
      have a := w151 (H'' := GG (iL (T.2 + 1)) (V) (sc) (apd T (xs.getD (i + 1).toNat 0)) (τ) (σ) M) hc G_oC (G_pl _)
      obtain ⟨M', g1, g2, g3, g4, ht, hY⟩ := m76 (xs := xs) (μ := μ) (f := PP (putV (G0 (iL (T.2 + 1))) (V)) (sc) (apd T (xs.getD (i + 1).toNat 0)) (τ) (σ)) h.2.1 (xs.getD (i + 1).toNat 0) c1.1 c1.2 c2
      have hi : inv σ (apd T (xs.getD (i + 1).toNat 0)) V sc M' := ⟨by rw [g2]; exact h.1, g1, by rw [g4]; exact h.2.2.1, h0, h6, by rw [g3]; exact h.2.2.2.2.2⟩
      exact ⟨iL (T.2 + 1), V, sc, apd T (xs.getD (i + 1).toNat 0), τ, σ, M', μ, vi 0, vi (T.2 + 1), l7, l8, hi, Nat.le_add_right _ _, Nat.le_add_right _ _, fun Q => sg_8 i0 i1 il a G_oM (Rm hY) G_oM (m74k ht) G_gl (fun _ => rfl)⟩
    · have hc : Runs xs 69 [vr 1, vi (xs.getD (i + 1).toNat 0)] μ (GG c V sc T τ σ M) (.inr 1) (bump μ) (GG c V sc T τ σ M) := m69s (xs.getD (i + 1).toNat 0) c1.1 c1.2 (by omega)
      have a := w151_1 hc G_oC
      have hY : Runs xs 76 [vr 190, vi (xs.getD (i + 1).toNat 0)] (bump μ) (putM (PP (putV (G0 c) V) sc T τ σ) M) (.inl (some (vi 0))) (bump μ) (putM (PP (putV (G0 c) V) sc T τ σ) (mS M 0 2)) := m76s h.2.1 (xs.getD (i + 1).toNat 0) c1.1 c1.2 (by omega)
      exact ⟨c, V, sc, T, τ, σ, mS M 0 2, bump μ, vi 2, vi 0, l7, l8, (sml.mS M 2).inv h, Nat.le_refl _, Nat.le_refl _, fun Q => sg_8 i0 i1 il a G_oM (Rm hY) G_oM (m74k rfl) G_gl (no1 (by decide))⟩
  · have hc : Runs xs 69 [vr 1, vi (xs.getD (i + 1).toNat 0)] μ (GG c V sc T τ σ M) (.inr 0) (bump μ) (GG c V sc T τ σ M) := m69a (xs.getD (i + 1).toNat 0) (by omega)
    have a := w151_0 hc G_oC
    have hY : Runs xs 76 [vr 190, vi (xs.getD (i + 1).toNat 0)] (bump μ) (putM (PP (putV (G0 c) V) sc T τ σ) M) (.inl (some (vi 0))) (bump μ) (putM (PP (putV (G0 c) V) sc T τ σ) (mS M 0 1)) := m76a (xs.getD (i + 1).toNat 0) (by omega)
    exact ⟨c, V, sc, T, τ, σ, mS M 0 1, bump μ, vi 1, vi 0, l7, l8, (sml.mS M 1).inv h, Nat.le_refl _, Nat.le_refl _, fun Q => sg_8 i0 i1 il a G_oM (Rm hY) G_oM (m74k rfl) G_gl (no1 (by decide))⟩
theorem op_9 (h : inv σ T V sc M) : stp xs 649 i l5 l6 l7 l8 μ (GG c V sc T τ σ M) := by
  have hw := h.1.wf
  have hT := h.2.1.1
  have hV := h.2.2.2.2.2.1
  have h0 := h.2.2.2.1
  have h6 := h.2.2.2.2.1
  have hc : Runs xs 44 [vr 1] μ (GG c V sc T τ σ M) (.inl (some (vi (T.2)))) μ (GG c (V) (sc) ((T.1, 0)) (τ) (σ) M) := m44
  obtain ⟨M', hi, hY⟩ := m78E (xs := xs) (μ := μ) (f := PP (putV (G0 c) (V)) (sc) ((T.1, 0)) (τ) (σ)) h
  exact ⟨c, V, sc, (T.1, 0), τ, σ, M', μ, l5, l6, l7, l8, hi, Nat.le_add_right _ _, Nat.le_add_right _ _, fun Q => sg_9 hc G_oC G_oM (Rm hY)⟩
theorem op_10 (h : inv σ T V sc M) : stp xs 662 i l5 l6 l7 l8 μ (GG c V sc T τ σ M) := by
  have hw := h.1.wf
  have hT := h.2.1.1
  have hV := h.2.2.2.2.2.1
  have h0 := h.2.2.2.1
  have h6 := h.2.2.2.2.1
  have hc : Runs xs 45 [vr 1] μ (GG c V sc T τ σ M) (.inl (some (vi (fwr T 0 T.2.toNat)))) μ (GG c V sc T (τ) σ M) := m45 hT
  exact ⟨c, V, sc, T, τ, σ, mS M 0 0, μ, l5, l6, l7, l8, (sml.mS M 0).inv h, Nat.le_add_right _ _, Nat.le_add_right _ _, fun Q => sg_10 hc G_oC G_oM (Rm (m79 h.2.1))⟩
theorem op_11 (h : inv σ T V sc M) : stp xs 675 i l5 l6 l7 l8 μ (GG c V sc T τ σ M) := by
  have hw := h.1.wf
  have hT := h.2.1.1
  have hV := h.2.2.2.2.2.1
  have h0 := h.2.2.2.1
  have h6 := h.2.2.2.2.1
  by_cases c1 : 1 ≤ sc
  · have hc : Runs xs 70 [vr 1] μ (GG c V sc T τ σ M) (.inl (some (vi (sc - 1)))) μ (GG c (V) (sc - 1) (T) (τ) (V.2 (V.1 (sc - 1).toNat)) M) := m70 hV c1 h6
    have a := w152 (H'' := GG (iL (sc - 1)) (V) (sc - 1) (T) (τ) (V.2 (V.1 (sc - 1).toNat)) M) hc G_oC (G_pl _)
    obtain ⟨M', hi, ht, hY⟩ := m75 (xs := xs) (μ := μ) (f := PP (putV (G0 (iL (sc - 1))) (V)) (sc - 1) (T) (τ) (V.2 (V.1 (sc - 1).toNat))) h c1
    exact ⟨iL (sc - 1), V, sc - 1, T, τ, V.2 (V.1 (sc - 1).toNat), M', μ, vi 0, vi (sc - 1), l7, l8, hi, Nat.le_add_right _ _, Nat.le_add_right _ _, fun Q => sg_11 a G_oM (Rm hY) G_oM (m74k ht) G_gl (fun _ => rfl)⟩
  · have hc : Runs xs 70 [vr 1] μ (GG c V sc T τ σ M) (.inr 1) (bump μ) (GG c V sc T τ σ M) := m70e (by omega)
    have a := w152_1 hc G_oC
    have hY : Runs xs 75 [vr 190] (bump μ) (putM (PP (putV (G0 c) V) sc T τ σ) M) (.inl (some (vi 0))) (bump μ) (putM (PP (putV (G0 c) V) sc T τ σ) (mS M 0 1)) := m75e h (by omega)
    exact ⟨c, V, sc, T, τ, σ, mS M 0 1, bump μ, vi 1, vi 0, l7, l8, (sml.mS M 1).inv h, Nat.le_refl _, Nat.le_refl _, fun Q => sg_11 a G_oM (Rm hY) G_oM (m74k rfl) G_gl (no1 (by decide))⟩
theorem op_12 (h : inv σ T V sc M) (i0 : 0 ≤ i) (i1 : i + 3 < xs.length) (il : xs.length ≤ 2048) : stp xs 719 i l5 l6 l7 l8 μ (GG c V sc T τ σ M) := by
  have hw := h.1.wf
  have hT := h.2.1.1
  have hV := h.2.2.2.2.2.1
  have h0 := h.2.2.2.1
  have h6 := h.2.2.2.2.1
  by_cases c1 : 0 ≤ (xs.getD (i + 1).toNat 0) ∧ (xs.getD (i + 1).toNat 0) < σ.2 0
  · by_cases c2 : 0 ≤ (xs.getD (i + 2).toNat 0) ∧ (xs.getD (i + 2).toNat 0) ≤ 3
    · have hc : Runs xs 54 [vr 1, vi (xs.getD (i + 1).toNat 0), vi (xs.getD (i + 2).toNat 0)] μ (GG c V sc T τ σ M) (.inl (some (vi (askv σ (xs.getD (i + 1).toNat 0) (xs.getD (i + 2).toNat 0).toNat)))) μ (GG c V sc T (τ) σ M) := m54 (xs.getD (i + 1).toNat 0) (xs.getD (i + 2).toNat 0) c1.1 c1.2 c2.1 c2.2
      have a := w153 (H'' := GG (iL (askv σ (xs.getD (i + 1).toNat 0) (xs.getD (i + 2).toNat 0).toNat)) V sc T (τ) σ M) hc G_oC (G_pl _)
      exact ⟨iL (askv σ (xs.getD (i + 1).toNat 0) (xs.getD (i + 2).toNat 0).toNat), V, sc, T, τ, σ, mS M 0 0, μ, vi 0, vi (askv σ (xs.getD (i + 1).toNat 0) (xs.getD (i + 2).toNat 0).toNat), l7, l8, (sml.mS M 0).inv h, Nat.le_add_right _ _, Nat.le_add_right _ _, fun Q => sg_12 i0 i1 il a G_oM (Rm (m111 h.1 (xs.getD (i + 1).toNat 0) (xs.getD (i + 2).toNat 0) c1.1 c1.2 c2.1 c2.2)) G_oM (m74k rfl) G_gl (fun _ => rfl)⟩
    · have hc : Runs xs 54 [vr 1, vi (xs.getD (i + 1).toNat 0), vi (xs.getD (i + 2).toNat 0)] μ (GG c V sc T τ σ M) (.inr 0) (bump μ) (GG c V sc T τ σ M) := m54a (xs.getD (i + 1).toNat 0) (xs.getD (i + 2).toNat 0) c1.1 c1.2 (by omega)
      have a := w153_0 hc G_oC
      have hY : Runs xs 111 [vr 190, vi (xs.getD (i + 1).toNat 0), vi (xs.getD (i + 2).toNat 0)] (bump μ) (putM (PP (putV (G0 c) V) sc T τ σ) M) (.inl (some (vi 0))) (bump μ) (putM (PP (putV (G0 c) V) sc T τ σ) (mS M 0 2)) := m111a h.1 (xs.getD (i + 1).toNat 0) (xs.getD (i + 2).toNat 0) c1.1 c1.2 (by omega)
      exact ⟨c, V, sc, T, τ, σ, mS M 0 2, bump μ, vi 2, vi 0, l7, l8, (sml.mS M 2).inv h, Nat.le_refl _, Nat.le_refl _, fun Q => sg_12 i0 i1 il a G_oM (Rm hY) G_oM (m74k rfl) G_gl (no1 (by decide))⟩
  · have hc : Runs xs 54 [vr 1, vi (xs.getD (i + 1).toNat 0), vi (xs.getD (i + 2).toNat 0)] μ (GG c V sc T τ σ M) (.inr 2) (bump μ) (GG c V sc T τ σ M) := m54b (xs.getD (i + 1).toNat 0) (xs.getD (i + 2).toNat 0) (by omega)
    have a := w153_2 hc G_oC
    have hY : Runs xs 111 [vr 190, vi (xs.getD (i + 1).toNat 0), vi (xs.getD (i + 2).toNat 0)] (bump μ) (putM (PP (putV (G0 c) V) sc T τ σ) M) (.inl (some (vi 0))) (bump μ) (putM (PP (putV (G0 c) V) sc T τ σ) (mS M 0 1)) := m111b h.1 (xs.getD (i + 1).toNat 0) (xs.getD (i + 2).toNat 0) (by omega)
    exact ⟨c, V, sc, T, τ, σ, mS M 0 1, bump μ, vi 1, vi 0, l7, l8, (sml.mS M 1).inv h, Nat.le_refl _, Nat.le_refl _, fun Q => sg_12 i0 i1 il a G_oM (Rm hY) G_oM (m74k rfl) G_gl (no1 (by decide))⟩
theorem op_13 (h : inv σ T V sc M) (i0 : 0 ≤ i) (i1 : i + 3 < xs.length) (il : xs.length ≤ 2048) : stp xs 787 i l5 l6 l7 l8 μ (GG c V sc T τ σ M) := by
  have hw := h.1.wf
  have hT := h.2.1.1
  have hV := h.2.2.2.2.2.1
  have h0 := h.2.2.2.1
  have h6 := h.2.2.2.2.1
  by_cases c1 : 0 ≤ (xs.getD (i + 1).toNat 0) ∧ (xs.getD (i + 1).toNat 0) < 8
  · by_cases c2 : 0 ≤ (xs.getD (i + 2).toNat 0) ∧ (xs.getD (i + 2).toNat 0) ≤ 7
    · have hc : Runs xs 55 [vr 1, vi (xs.getD (i + 1).toNat 0), vi (xs.getD (i + 2).toNat 0)] μ (GG c V sc T τ σ M) (.inl (some (vi (pgv σ (xs.getD (i + 1).toNat 0) (xs.getD (i + 2).toNat 0).toNat)))) μ (GG c V sc T (τ) σ M) := m55 hw (xs.getD (i + 1).toNat 0) (xs.getD (i + 2).toNat 0) c1.1 c1.2 c2.1 c2.2
      have a := w154 (H'' := GG (iL (pgv σ (xs.getD (i + 1).toNat 0) (xs.getD (i + 2).toNat 0).toNat)) V sc T (τ) σ M) hc G_oC (G_pl _)
      exact ⟨iL (pgv σ (xs.getD (i + 1).toNat 0) (xs.getD (i + 2).toNat 0).toNat), V, sc, T, τ, σ, mS M 0 0, μ, vi 0, vi (pgv σ (xs.getD (i + 1).toNat 0) (xs.getD (i + 2).toNat 0).toNat), l7, l8, (sml.mS M 0).inv h, Nat.le_add_right _ _, Nat.le_add_right _ _, fun Q => sg_13 i0 i1 il a G_oM (Rm (m113 h.1 (xs.getD (i + 1).toNat 0) (xs.getD (i + 2).toNat 0) c1.1 c1.2 c2.1 c2.2)) G_oM (m74k rfl) G_gl (fun _ => rfl)⟩
    · have hc : Runs xs 55 [vr 1, vi (xs.getD (i + 1).toNat 0), vi (xs.getD (i + 2).toNat 0)] μ (GG c V sc T τ σ M) (.inr 0) (bump μ) (GG c V sc T τ σ M) := m55e (xs.getD (i + 1).toNat 0) (xs.getD (i + 2).toNat 0) c1.1 c1.2 (by omega)
      have a := w154_0 hc G_oC
      have hY : Runs xs 113 [vr 190, vi (xs.getD (i + 1).toNat 0), vi (xs.getD (i + 2).toNat 0)] (bump μ) (putM (PP (putV (G0 c) V) sc T τ σ) M) (.inl (some (vi 0))) (bump μ) (putM (PP (putV (G0 c) V) sc T τ σ) (mS M 0 1)) := m113e (xs.getD (i + 1).toNat 0) (xs.getD (i + 2).toNat 0) (by omega)
      exact ⟨c, V, sc, T, τ, σ, mS M 0 1, bump μ, vi 1, vi 0, l7, l8, (sml.mS M 1).inv h, Nat.le_refl _, Nat.le_refl _, fun Q => sg_13 i0 i1 il a G_oM (Rm hY) G_oM (m74k rfl) G_gl (no1 (by decide))⟩
  · have hc : Runs xs 55 [vr 1, vi (xs.getD (i + 1).toNat 0), vi (xs.getD (i + 2).toNat 0)] μ (GG c V sc T τ σ M) (.inr 0) (bump μ) (GG c V sc T τ σ M) := m55p (xs.getD (i + 1).toNat 0) (xs.getD (i + 2).toNat 0) (by omega)
    have a := w154_0 hc G_oC
    have hY : Runs xs 113 [vr 190, vi (xs.getD (i + 1).toNat 0), vi (xs.getD (i + 2).toNat 0)] (bump μ) (putM (PP (putV (G0 c) V) sc T τ σ) M) (.inl (some (vi 0))) (bump μ) (putM (PP (putV (G0 c) V) sc T τ σ) (mS M 0 1)) := m113e (xs.getD (i + 1).toNat 0) (xs.getD (i + 2).toNat 0) (by omega)
    exact ⟨c, V, sc, T, τ, σ, mS M 0 1, bump μ, vi 1, vi 0, l7, l8, (sml.mS M 1).inv h, Nat.le_refl _, Nat.le_refl _, fun Q => sg_13 i0 i1 il a G_oM (Rm hY) G_oM (m74k rfl) G_gl (no1 (by decide))⟩
theorem op_14 (h : inv σ T V sc M) (i0 : 0 ≤ i) (i1 : i + 3 < xs.length) (il : xs.length ≤ 2048) : stp xs 855 i l5 l6 l7 l8 μ (GG c V sc T τ σ M) := by
  have hw := h.1.wf
  have hT := h.2.1.1
  have hV := h.2.2.2.2.2.1
  have h0 := h.2.2.2.1
  have h6 := h.2.2.2.2.1
  by_cases c1 : 0 ≤ (xs.getD (i + 1).toNat 0) ∧ (xs.getD (i + 1).toNat 0) < σ.2 2
  · have hc : Runs xs 72 [vr 1, vi (xs.getD (i + 1).toNat 0)] μ (GG c V sc T τ σ M) (.inl (some (vi (fo (σ.1 4) (xs.getD (i + 1).toNat 0) 0 8)))) μ (GG c V sc T (τ) σ M) := m72 (xs.getD (i + 1).toNat 0) c1.1 c1.2
    have a := w155 (H'' := GG (iL (fo (σ.1 4) (xs.getD (i + 1).toNat 0) 0 8)) V sc T (τ) σ M) hc G_oC (G_pl _)
    exact ⟨iL (fo (σ.1 4) (xs.getD (i + 1).toNat 0) 0 8), V, sc, T, τ, σ, mS M 0 0, μ, vi 0, vi (fo (σ.1 4) (xs.getD (i + 1).toNat 0) 0 8), l7, l8, (sml.mS M 0).inv h, Nat.le_add_right _ _, Nat.le_add_right _ _, fun Q => sg_14 i0 i1 il a G_oM (Rm (m116 h.1 (xs.getD (i + 1).toNat 0) c1.1 c1.2)) G_oM (m74k rfl) G_gl (fun _ => rfl)⟩
  · have hc : Runs xs 72 [vr 1, vi (xs.getD (i + 1).toNat 0)] μ (GG c V sc T τ σ M) (.inr 2) (bump μ) (GG c V sc T τ σ M) := m72e (xs.getD (i + 1).toNat 0) (by omega)
    have a := w155_2 hc G_oC
    have hY : Runs xs 116 [vr 190, vi (xs.getD (i + 1).toNat 0)] (bump μ) (putM (PP (putV (G0 c) V) sc T τ σ) M) (.inl (some (vi 0))) (bump μ) (putM (PP (putV (G0 c) V) sc T τ σ) (mS M 0 1)) := m116e h.1 (xs.getD (i + 1).toNat 0) (by omega)
    exact ⟨c, V, sc, T, τ, σ, mS M 0 1, bump μ, vi 1, vi 0, l7, l8, (sml.mS M 1).inv h, Nat.le_refl _, Nat.le_refl _, fun Q => sg_14 i0 i1 il a G_oM (Rm hY) G_oM (m74k rfl) G_gl (no1 (by decide))⟩
theorem op_15 (h : inv σ T V sc M) (i0 : 0 ≤ i) (i1 : i + 3 < xs.length) (il : xs.length ≤ 2048) : stp xs 911 i l5 l6 l7 l8 μ (GG c V sc T τ σ M) := by
  have hw := h.1.wf
  have hT := h.2.1.1
  have hV := h.2.2.2.2.2.1
  have h0 := h.2.2.2.1
  have h6 := h.2.2.2.2.1
  by_cases c1 : 0 ≤ (xs.getD (i + 1).toNat 0) ∧ (xs.getD (i + 1).toNat 0) ≤ 9
  · have hc : Runs xs 52 [vr 1, vi (xs.getD (i + 1).toNat 0)] μ (GG c V sc T τ σ M) (.inl (some (vi (cnt sc σ (xs.getD (i + 1).toNat 0).toNat)))) μ (GG c V sc T (τ) σ M) := m52 hw (xs.getD (i + 1).toNat 0) c1.1 c1.2
    have a := w156 (H'' := GG (iL (cnt sc σ (xs.getD (i + 1).toNat 0).toNat)) V sc T (τ) σ M) hc G_oC (G_pl _)
    exact ⟨iL (cnt sc σ (xs.getD (i + 1).toNat 0).toNat), V, sc, T, τ, σ, mS M 0 0, μ, vi 0, vi (cnt sc σ (xs.getD (i + 1).toNat 0).toNat), l7, l8, (sml.mS M 0).inv h, Nat.le_add_right _ _, Nat.le_add_right _ _, fun Q => sg_15 i0 i1 il a G_oM (Rm (m117 h.1 h.2.2.1 (xs.getD (i + 1).toNat 0) c1.1 c1.2)) G_oM (m74k rfl) G_gl (fun _ => rfl)⟩
  · have hc : Runs xs 52 [vr 1, vi (xs.getD (i + 1).toNat 0)] μ (GG c V sc T τ σ M) (.inr 0) (bump μ) (GG c V sc T τ σ M) := m52e (xs.getD (i + 1).toNat 0) (by omega)
    have a := w156_0 hc G_oC
    have hY : Runs xs 117 [vr 190, vi (xs.getD (i + 1).toNat 0)] (bump μ) (putM (PP (putV (G0 c) V) sc T τ σ) M) (.inl (some (vi 0))) (bump μ) (putM (PP (putV (G0 c) V) sc T τ σ) (mS M 0 1)) := m117e (xs.getD (i + 1).toNat 0) (by omega)
    exact ⟨c, V, sc, T, τ, σ, mS M 0 1, bump μ, vi 1, vi 0, l7, l8, (sml.mS M 1).inv h, Nat.le_refl _, Nat.le_refl _, fun Q => sg_15 i0 i1 il a G_oM (Rm hY) G_oM (m74k rfl) G_gl (no1 (by decide))⟩
theorem op_16 (h : inv σ T V sc M) : stp xs 967 i l5 l6 l7 l8 μ (GG c V sc T τ σ M) := by
  have hw := h.1.wf
  have hT := h.2.1.1
  have hV := h.2.2.2.2.2.1
  have h0 := h.2.2.2.1
  have h6 := h.2.2.2.2.1
  have hc : Runs xs 46 [vr 1] μ (GG c V sc T τ σ M) (.inl (some (vi (vic σ)))) μ (GG c V sc T (τ) σ M) := m46 hw
  exact ⟨c, V, sc, T, τ, σ, mS M 0 0, μ, l5, l6, l7, l8, (sml.mS M 0).inv h, Nat.le_add_right _ _, Nat.le_add_right _ _, fun Q => sg_16 hc G_oC G_oM (Rm (m121 h.1))⟩
theorem op_17 (h : inv σ T V sc M) (i0 : 0 ≤ i) (i1 : i + 3 < xs.length) (il : xs.length ≤ 2048) : stp xs 980 i l5 l6 l7 l8 μ (GG c V sc T τ σ M) := by
  have hw := h.1.wf
  have hT := h.2.1.1
  have hV := h.2.2.2.2.2.1
  have h0 := h.2.2.2.1
  have h6 := h.2.2.2.2.1
  by_cases c1 : 0 ≤ (xs.getD (i + 1).toNat 0) ∧ (xs.getD (i + 1).toNat 0) ≤ 2
  · by_cases c2 : 0 ≤ (xs.getD (i + 2).toNat 0) ∧ (xs.getD (i + 2).toNat 0) < 3
    · have hc : Runs xs 57 [vr 1, vi (xs.getD (i + 1).toNat 0), vi (xs.getD (i + 2).toNat 0)] μ (GG c V sc T τ σ M) (.inl (some (vi (byr (fn σ (xs.getD (i + 1).toNat 0)) σ (xs.getD (i + 2).toNat 0).toNat)))) μ (GG c V sc T (fn σ (xs.getD (i + 1).toNat 0)) σ M) := m57 hw (xs.getD (i + 1).toNat 0) (xs.getD (i + 2).toNat 0) c1.1 c1.2 c2.1 c2.2
      have a := w157 (H'' := GG (iL (byr (fn σ (xs.getD (i + 1).toNat 0)) σ (xs.getD (i + 2).toNat 0).toNat)) V sc T (fn σ (xs.getD (i + 1).toNat 0)) σ M) hc G_oC (G_pl _)
      obtain ⟨M', hs, hY⟩ := m123 (xs := xs) (μ := μ) (f := PP (putV (G0 (iL (byr (fn σ (xs.getD (i + 1).toNat 0)) σ (xs.getD (i + 2).toNat 0).toNat))) V) sc T (fn σ (xs.getD (i + 1).toNat 0)) σ) h.1 (xs.getD (i + 1).toNat 0) (xs.getD (i + 2).toNat 0) c1.1 c1.2 c2.1 c2.2
      exact ⟨iL (byr (fn σ (xs.getD (i + 1).toNat 0)) σ (xs.getD (i + 2).toNat 0).toNat), V, sc, T, fn σ (xs.getD (i + 1).toNat 0), σ, M', μ, vi 0, vi (byr (fn σ (xs.getD (i + 1).toNat 0)) σ (xs.getD (i + 2).toNat 0).toNat), l7, l8, hs.inv h, Nat.le_add_right _ _, Nat.le_add_right _ _, fun Q => sg_17 i0 i1 il a G_oM (Rm hY) G_oM (m74k hs.2.2.2.1) G_gl (fun _ => rfl)⟩
    · have hc : Runs xs 57 [vr 1, vi (xs.getD (i + 1).toNat 0), vi (xs.getD (i + 2).toNat 0)] μ (GG c V sc T τ σ M) (.inr 0) (bump μ) (GG c V sc T τ σ M) := m57k (xs.getD (i + 1).toNat 0) (xs.getD (i + 2).toNat 0) c1.1 c1.2 (by omega)
      have a := w157_0 hc G_oC
      have hY : Runs xs 123 [vr 190, vi (xs.getD (i + 1).toNat 0), vi (xs.getD (i + 2).toNat 0)] (bump μ) (putM (PP (putV (G0 c) V) sc T τ σ) M) (.inl (some (vi 0))) (bump μ) (putM (PP (putV (G0 c) V) sc T τ σ) (mS M 0 1)) := m123e (xs.getD (i + 1).toNat 0) (xs.getD (i + 2).toNat 0) (by omega)
      exact ⟨c, V, sc, T, τ, σ, mS M 0 1, bump μ, vi 1, vi 0, l7, l8, (sml.mS M 1).inv h, Nat.le_refl _, Nat.le_refl _, fun Q => sg_17 i0 i1 il a G_oM (Rm hY) G_oM (m74k rfl) G_gl (no1 (by decide))⟩
  · have hc : Runs xs 57 [vr 1, vi (xs.getD (i + 1).toNat 0), vi (xs.getD (i + 2).toNat 0)] μ (GG c V sc T τ σ M) (.inr 0) (bump μ) (GG c V sc T τ σ M) := m57r (xs.getD (i + 1).toNat 0) (xs.getD (i + 2).toNat 0) (by omega)
    have a := w157_0 hc G_oC
    have hY : Runs xs 123 [vr 190, vi (xs.getD (i + 1).toNat 0), vi (xs.getD (i + 2).toNat 0)] (bump μ) (putM (PP (putV (G0 c) V) sc T τ σ) M) (.inl (some (vi 0))) (bump μ) (putM (PP (putV (G0 c) V) sc T τ σ) (mS M 0 1)) := m123e (xs.getD (i + 1).toNat 0) (xs.getD (i + 2).toNat 0) (by omega)
    exact ⟨c, V, sc, T, τ, σ, mS M 0 1, bump μ, vi 1, vi 0, l7, l8, (sml.mS M 1).inv h, Nat.le_refl _, Nat.le_refl _, fun Q => sg_17 i0 i1 il a G_oM (Rm hY) G_oM (m74k rfl) G_gl (no1 (by decide))⟩
theorem op_18 (h : inv σ T V sc M) : stp xs 1048 i l5 l6 l7 l8 μ (GG c V sc T τ σ M) := by
  have hw := h.1.wf
  have hT := h.2.1.1
  have hV := h.2.2.2.2.2.1
  have h0 := h.2.2.2.1
  have h6 := h.2.2.2.2.1
  have hc : Runs xs 47 [vr 1] μ (GG c V sc T τ σ M) (.inl (some (vi (rdO (fn σ 0) σ)))) μ (GG c V sc T (fn σ 0) σ M) := m47 hw
  obtain ⟨M', hs, hY⟩ := m128 (xs := xs) (μ := μ) (f := PP (putV (G0 c) V) sc T (fn σ 0) σ) h.1
  exact ⟨c, V, sc, T, fn σ 0, σ, M', μ, l5, l6, l7, l8, hs.inv h, Nat.le_add_right _ _, Nat.le_add_right _ _, fun Q => sg_18 hc G_oC G_oM (Rm hY)⟩
theorem op_19 (h : inv σ T V sc M) (i0 : 0 ≤ i) (i1 : i + 3 < xs.length) (il : xs.length ≤ 2048) : stp xs 1061 i l5 l6 l7 l8 μ (GG c V sc T τ σ M) := by
  have hw := h.1.wf
  have hT := h.2.1.1
  have hV := h.2.2.2.2.2.1
  have h0 := h.2.2.2.1
  have h6 := h.2.2.2.2.1
  by_cases c1 : 0 ≤ (xs.getD (i + 1).toNat 0)
  · have hc : Runs xs 58 [vr 1, vi (xs.getD (i + 1).toNat 0)] μ (GG c V sc T τ σ M) (.inl (some (vi ((ffr σ (xs.getD (i + 1).toNat 0) τ (σ.2 2).toNat (7 - (σ.2 2).toNat)).1)))) μ (GG c V sc T ((ffr σ (xs.getD (i + 1).toNat 0) τ (σ.2 2).toNat (7 - (σ.2 2).toNat)).2) σ M) := m58 hw (xs.getD (i + 1).toNat 0) c1
    have a := w158 (H'' := GG (iL ((ffr σ (xs.getD (i + 1).toNat 0) τ (σ.2 2).toNat (7 - (σ.2 2).toNat)).1)) V sc T ((ffr σ (xs.getD (i + 1).toNat 0) τ (σ.2 2).toNat (7 - (σ.2 2).toNat)).2) σ M) hc G_oC (G_pl _)
    obtain ⟨M', hs, hY⟩ := m132 (xs := xs) (μ := μ) (f := PP (putV (G0 (iL ((ffr σ (xs.getD (i + 1).toNat 0) τ (σ.2 2).toNat (7 - (σ.2 2).toNat)).1))) V) sc T ((ffr σ (xs.getD (i + 1).toNat 0) τ (σ.2 2).toNat (7 - (σ.2 2).toNat)).2) σ) h.1 (xs.getD (i + 1).toNat 0) c1 τ
    exact ⟨iL ((ffr σ (xs.getD (i + 1).toNat 0) τ (σ.2 2).toNat (7 - (σ.2 2).toNat)).1), V, sc, T, (ffr σ (xs.getD (i + 1).toNat 0) τ (σ.2 2).toNat (7 - (σ.2 2).toNat)).2, σ, M', μ, vi 0, vi ((ffr σ (xs.getD (i + 1).toNat 0) τ (σ.2 2).toNat (7 - (σ.2 2).toNat)).1), l7, l8, hs.inv h, Nat.le_add_right _ _, Nat.le_add_right _ _, fun Q => sg_19 i0 i1 il a G_oM (Rm hY) G_oM (m74k hs.2.2.2.1) G_gl (fun _ => rfl)⟩
  · have hc : Runs xs 58 [vr 1, vi (xs.getD (i + 1).toNat 0)] μ (GG c V sc T τ σ M) (.inr 0) (bump μ) (GG c V sc T τ σ M) := m58e (xs.getD (i + 1).toNat 0) (by omega)
    have a := w158_0 hc G_oC
    have hY : Runs xs 132 [vr 190, vi (xs.getD (i + 1).toNat 0)] (bump μ) (putM (PP (putV (G0 c) V) sc T τ σ) M) (.inl (some (vi 0))) (bump μ) (putM (PP (putV (G0 c) V) sc T τ σ) (mS M 0 1)) := m132e (xs.getD (i + 1).toNat 0) (by omega)
    exact ⟨c, V, sc, T, τ, σ, mS M 0 1, bump μ, vi 1, vi 0, l7, l8, (sml.mS M 1).inv h, Nat.le_refl _, Nat.le_refl _, fun Q => sg_19 i0 i1 il a G_oM (Rm hY) G_oM (m74k rfl) G_gl (no1 (by decide))⟩
theorem op_20 (h : inv σ T V sc M) (i0 : 0 ≤ i) (i1 : i + 3 < xs.length) (il : xs.length ≤ 2048) : stp xs 1117 i l5 l6 l7 l8 μ (GG c V sc T τ σ M) := by
  have hw := h.1.wf
  have hT := h.2.1.1
  have hV := h.2.2.2.2.2.1
  have h0 := h.2.2.2.1
  have h6 := h.2.2.2.2.1
  by_cases c1 : σ.2 1 ≤ (xs.getD (i + 1).toNat 0) ∧ (xs.getD (i + 1).toNat 0) < σ.2 0
  · have hc : Runs xs 59 [vr 1, vi (xs.getD (i + 1).toNat 0)] μ (GG c V sc T τ σ M) (.inl (some (vi (rdO (fn (tka σ (xs.getD (i + 1).toNat 0)) 0) σ)))) μ (GG c V sc T (fn (tka σ (xs.getD (i + 1).toNat 0)) 0) σ M) := m59 hw (xs.getD (i + 1).toNat 0) c1.1 c1.2
    have a := w159 (H'' := GG (iL (rdO (fn (tka σ (xs.getD (i + 1).toNat 0)) 0) σ)) V sc T (fn (tka σ (xs.getD (i + 1).toNat 0)) 0) σ M) hc G_oC (G_pl _)
    obtain ⟨M', hs, hY⟩ := m134 (xs := xs) (μ := μ) (f := PP (putV (G0 (iL (rdO (fn (tka σ (xs.getD (i + 1).toNat 0)) 0) σ))) V) sc T (fn (tka σ (xs.getD (i + 1).toNat 0)) 0) σ) h.1 (xs.getD (i + 1).toNat 0) c1.1 c1.2
    exact ⟨iL (rdO (fn (tka σ (xs.getD (i + 1).toNat 0)) 0) σ), V, sc, T, fn (tka σ (xs.getD (i + 1).toNat 0)) 0, σ, M', μ, vi 0, vi (rdO (fn (tka σ (xs.getD (i + 1).toNat 0)) 0) σ), l7, l8, hs.inv h, Nat.le_add_right _ _, Nat.le_add_right _ _, fun Q => sg_20 i0 i1 il a G_oM (Rm hY) G_oM (m74k hs.2.2.2.1) G_gl (fun _ => rfl)⟩
  · have hc : Runs xs 59 [vr 1, vi (xs.getD (i + 1).toNat 0)] μ (GG c V sc T τ σ M) (.inr 2) (bump μ) (GG c V sc T τ σ M) := m59e (xs.getD (i + 1).toNat 0) (by omega)
    have a := w159_2 hc G_oC
    have hY : Runs xs 134 [vr 190, vi (xs.getD (i + 1).toNat 0)] (bump μ) (putM (PP (putV (G0 c) V) sc T τ σ) M) (.inl (some (vi 0))) (bump μ) (putM (PP (putV (G0 c) V) sc T τ σ) (mS M 0 1)) := m134e h.1 (xs.getD (i + 1).toNat 0) (by omega)
    exact ⟨c, V, sc, T, τ, σ, mS M 0 1, bump μ, vi 1, vi 0, l7, l8, (sml.mS M 1).inv h, Nat.le_refl _, Nat.le_refl _, fun Q => sg_20 i0 i1 il a G_oM (Rm hY) G_oM (m74k rfl) G_gl (no1 (by decide))⟩
theorem op_21 (h : inv σ T V sc M) : stp xs 1173 i l5 l6 l7 l8 μ (GG c V sc T τ σ M) := by
  have hw := h.1.wf
  have hT := h.2.1.1
  have hV := h.2.2.2.2.2.1
  have h0 := h.2.2.2.1
  have h6 := h.2.2.2.2.1
  have hc : Runs xs 49 [vr 1] μ (GG c V sc T τ σ M) (.inl (some (vi ((bp σ τ).1)))) μ (GG c V sc T ((bp σ τ).2) σ M) := m49 hw
  obtain ⟨M', hs, hY⟩ := m136 (xs := xs) (μ := μ) (f := PP (putV (G0 c) V) sc T ((bp σ τ).2) σ) h.1 τ
  exact ⟨c, V, sc, T, (bp σ τ).2, σ, M', μ, l5, l6, l7, l8, hs.inv h, Nat.le_add_right _ _, Nat.le_add_right _ _, fun Q => sg_21 hc G_oC G_oM (Rm hY)⟩
theorem hit_r {z : Nat → Int} (h : rel σ z) : nn64 (shr (co (σ.1 2) 0 0 (σ.2 1).toNat) (σ.2 1)) = true ∧ ∃ b, bsF (shr (co (σ.1 2) 0 0 (σ.2 1).toNat) (σ.2 1)) = some b ∧ bmF (shr (co (σ.1 2) 0 0 (σ.2 1).toNat) (σ.2 1)) = some b := by
  obtain ⟨w1, w2, w3, w4, w5⟩ := h.wf
  have r := co_r (σ.1 2) 0 0 (σ.2 1).toNat
  exact b_ok (by omega) (by omega) (by omega)
theorem op_22 (h : inv σ T V sc M) : stp xs 1186 i l5 l6 l7 l8 μ (GG c V sc T τ σ M) := by
  obtain ⟨hn, -⟩ := hit_r h.1
  have hc : Runs xs 50 [vr 1] μ (GG c V sc T τ σ M) (.inl (some (vd (shr (co (σ.1 2) 0 0 (σ.2 1).toNat) (σ.2 1))))) μ (GG c V sc T τ σ M) := m50 h.1.wf hn
  exact ⟨c, V, sc, T, τ, σ, mS M 0 0, μ, _, _, _, _, (sml.mS M 0).inv h, Nat.le_add_right _ _, Nat.le_add_right _ _, fun Q => sg_22 hc G_oC G_oM (Rm (m138 h.1 hn))⟩
theorem op_23 (h : inv σ T V sc M) : stp xs 1227 i l5 l6 l7 l8 μ (GG c V sc T τ σ M) := by
  obtain ⟨hn, b, hb1, hb2⟩ := hit_r h.1
  have hc : Runs xs 51 [vr 1] μ (GG c V sc T τ σ M) (.inl (some (vl (dgs sc T σ b)))) μ (GG c V sc T (bp σ (dt3 σ (dt2 σ))).2 σ M) := m51 h.1.wf h.2.1.1 b hn hb1
  obtain ⟨M', hs, hY⟩ := m140 (xs := xs) (μ := μ) (f := PP (putV (G0 c) V) sc T (bp σ (dt3 σ (dt2 σ))).2 σ) h.1 h.2.1 h.2.2.1 b hn hb2
  have hs2 : sml M M' 0 := ⟨hs.1, hs.2.1, hs.2.2.1, hs.2.2.2.1, hs.2.2.2.2.1, hs.2.2.2.2.2.1⟩
  exact ⟨c, V, sc, T, _, σ, M', μ, l5, l6, l7, l8, hs2.inv h, Nat.le_add_right _ _, Nat.le_add_right _ _, fun Q => sg_23 hc G_oC G_oM (Rm hY)⟩
end OP
