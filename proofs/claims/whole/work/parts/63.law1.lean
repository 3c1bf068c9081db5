/-! THE LAW: the heap of both objects, the wrappers -/
def G0 (c : Int64) : AH := aup (fun _ => none) 197 (lC [c])
def GG (c : Int64) (V : VG) (sc : Int) (T : TG) (τ σ : SG) (M : MG) : AH := PP (putV (putM (G0 c) M) V) sc T τ σ
section LW
variable {xs : List Int} {f : AH} {μ μ' : Mu} {y pc : Nat} {L st : List AV} {Q : Out → Mu → AH → Prop} {c : Int64} {V : VG} {sc : Int} {T : TG} {τ σ : SG} {M : MG} {H H' H'' : AH}
theorem PP_hi (g : AH) {a : Nat} (h : 190 ≤ a) : PP (putV g V) sc T τ σ a = g a := by
  have h1 : ¬ (2 ≤ a ∧ a < 2 + 23) := by omega
  have h2 : ¬ (25 ≤ a ∧ a < 25 + 23) := by omega
  have h3 : ¬ (187 ≤ a ∧ a < 187 + 3) := by omega
  have h4 : ¬ a = 1 := by omega
  have h5 : ¬ (48 ≤ a ∧ a < 187) := by omega
  unfold PP putS putT aup putV
  simp only [h1, h2, h3, h4, h5, ↓reduceIte]
theorem PP_lo (g g' : AH) {a : Nat} (h : a < 190) (e : g a = g' a) : PP (putV g V) sc T τ σ a = PP (putV g' V) sc T τ σ a := by
  unfold PP putS putT aup putV
  simp only [e]
theorem GG_m : GG c V sc T τ σ M = putM (PP (putV (G0 c) V) sc T τ σ) M := by
  funext a
  unfold GG
  by_cases h : 190 ≤ a
  · rw [PP_hi _ h]
    unfold putM
    split
    · rfl
    · rw [PP_hi _ h]
  · have e : putM (G0 c) M a = G0 c a := putM_out _ _ (by omega)
    rw [PP_lo _ (G0 c) (by omega) e, putM_out _ _ (by omega)]
theorem G_197 : GG c V sc T τ σ M 197 = some (lC [c]) := by
  unfold GG
  rw [PP_hi _ (by decide), putM_out _ _ (by omega)]
  unfold G0
  rw [aup_same]
theorem G_gl : gl (GG c V sc T τ σ M) 197 0 = some (vl c) := by
  unfold gl
  rw [G_197]
  rfl
theorem G_pl (v : Int64) : pl (GG c V sc T τ σ M) 197 0 v = some (GG v V sc T τ σ M) := by
  unfold pl
  rw [G_197]
  show some (aup (GG c V sc T τ σ M) 197 (lC [v])) = _
  congr 1
  funext a
  unfold aup
  by_cases h : a = 197
  · subst h; rw [if_pos rfl, G_197]
  · rw [if_neg h]
    unfold GG
    by_cases h2 : 190 ≤ a
    · rw [PP_hi _ h2, PP_hi _ h2]
      by_cases h3 : a < 197
      · obtain ⟨k, rfl⟩ : ∃ k, a = 190 + k := ⟨a - 190, by omega⟩
        rw [putM_in _ _ (by omega), putM_in _ _ (by omega)]
      · rw [putM_out _ _ (by omega), putM_out _ _ (by omega)]
        unfold G0
        rw [aup_ne _ _ h, aup_ne _ _ h]
    · refine PP_lo _ _ (by omega) ?_
      rw [putM_out _ _ (by omega), putM_out _ _ (by omega)]
      unfold G0
      rw [aup_ne _ _ h, aup_ne _ _ h]
theorem G_oC : isO (GG c V sc T τ σ M) 1 3 = true := P_o
theorem G_oM : isO (GG c V sc T τ σ M) 190 4 = true := by rw [GG_m]; exact M_o
/-- the model's runs over the heap of both -/
theorem Rm {as : List AV} {o : Out} {M' : MG} (h : Runs xs y as μ (putM (PP (putV (G0 c) V) sc T τ σ) M) o μ' (putM (PP (putV (G0 c) V) sc T τ σ) M')) : Runs xs y as μ (GG c V sc T τ σ M) o μ' (GG c V sc T τ σ M') := by rw [GG_m, GG_m]; exact h
theorem m74G : Runs xs 74 [vr 190] μ (GG c V sc T τ σ M) (.inl (some (vi (M.1 0)))) μ (GG c V sc T τ σ M) := Rm m74
theorem WpK_ca {E j h0 h l w : Nat} (hl : lk hTab y E = some (j, (h0, (h, (l, w))))) (hv : hcov y (pc - 3) = true) : WpK xs y pc L st Q (.inr E) μ f = Wp xs y h (List.replicate (mL y) vu) [] μ f Q := by
  unfold WpK
  dsimp only
  rw [hl]
  exact propext ⟨fun q => q.2, fun q => ⟨hv, q⟩⟩
theorem law_g {i : Int} (h0 : 0 ≤ i) (h1 : i < xs.length) : gI xs 0 f 0 i = some (vi (xs.getD i.toNat 0)) := by
  unfold gI sG
  rw [if_pos rfl, if_pos ⟨rfl, h0, h1⟩]
theorem law_n : aN xs 0 f 0 = some (vi xs.length) := by
  unfold aN
  rw [if_pos rfl, if_pos rfl]
theorem w144 {r : Int} (hc : Runs xs 62 [vr 1] μ H (.inl (some (vi r))) μ' H') (ho : isO H 1 3 = true) (hp : pl H' 197 0 (iL r) = some H'') : Runs xs 144 [vr 1, vr 197] μ H (.inl (some (vi 0))) μ' H'' := Runs.iff fun Q hQ => by
  show Wp xs 144 0 [vr 1, vr 197, vu] [] μ H Q
  simp (disch := first | omega | rfl) only [e144_0, e144_1, e144_2, e144_3, e144_6, e144_7, e144_8, e144_12, e144_13, e144_15, e144_16, e144_17, e144_18, WpV_some, WpH_some, ↓ite_t, ↓ite_f, cI_v hc ho h1', hp]
  exact hQ
theorem w144_0 (hc : Runs xs 62 [vr 1] μ H (.inr 0) μ' H') (ho : isO H 1 3 = true) : Runs xs 144 [vr 1, vr 197] μ H (.inl (some (vi 1))) μ' H' := Runs.iff fun Q hQ => by
  show Wp xs 144 0 [vr 1, vr 197, vu] [] μ H Q
  simp (disch := first | omega | rfl) only [e144_0, e144_1, e144_2, e144_3, e144_6, e144_7, e144_8, e144_12, e144_13, e144_15, e144_16, e144_17, e144_18, WpV_some, WpH_some, ↓ite_t, ↓ite_f, cI_e hc ho h1']
  rw [WpK_ca (h := 12) (by rfl) (by decide +kernel)]
  show Wp xs 144 12 [vu, vu, vu] [] μ' H' Q
  simp (disch := first | omega | rfl) only [e144_0, e144_1, e144_2, e144_3, e144_6, e144_7, e144_8, e144_12, e144_13, e144_15, e144_16, e144_17, e144_18, WpV_some, WpH_some, ↓ite_t, ↓ite_f]
  exact hQ
theorem w144_1 (hc : Runs xs 62 [vr 1] μ H (.inr 1) μ' H') (ho : isO H 1 3 = true) : Runs xs 144 [vr 1, vr 197] μ H (.inl (some (vi 2))) μ' H' := Runs.iff fun Q hQ => by
  show Wp xs 144 0 [vr 1, vr 197, vu] [] μ H Q
  simp (disch := first | omega | rfl) only [e144_0, e144_1, e144_2, e144_3, e144_6, e144_7, e144_8, e144_12, e144_13, e144_15, e144_16, e144_17, e144_18, WpV_some, WpH_some, ↓ite_t, ↓ite_f, cI_e hc ho h1']
  rw [WpK_ca (h := 15) (by rfl) (by decide +kernel)]
  show Wp xs 144 15 [vu, vu, vu] [] μ' H' Q
  simp (disch := first | omega | rfl) only [e144_0, e144_1, e144_2, e144_3, e144_6, e144_7, e144_8, e144_12, e144_13, e144_15, e144_16, e144_17, e144_18, WpV_some, WpH_some, ↓ite_t, ↓ite_f]
  exact hQ
theorem w145 {p0 p1 p2 : Int} {r : Int} (hc : Runs xs 63 [vr 1, vi p0, vi p1, vi p2] μ H (.inl (some (vi r))) μ' H') (ho : isO H 1 3 = true) (hp : pl H' 197 0 (iL r) = some H'') : Runs xs 145 [vr 1, vi p0, vi p1, vi p2, vr 197] μ H (.inl (some (vi 0))) μ' H'' := Runs.iff fun Q hQ => by
  show Wp xs 145 0 [vr 1, vi p0, vi p1, vi p2, vr 197, vu] [] μ H Q
  simp (disch := first | omega | rfl) only [e145_0, e145_2, e145_3, e145_4, e145_5, e145_6, e145_7, e145_10, e145_11, e145_12, e145_17, e145_18, e145_21, e145_22, e145_25, e145_26, e145_27, e145_28, WpV_some, WpH_some, ↓ite_t, ↓ite_f, cI_v hc ho h1', hp]
  exact hQ
theorem w145_0 {p0 p1 p2 : Int} (hc : Runs xs 63 [vr 1, vi p0, vi p1, vi p2] μ H (.inr 0) μ' H') (ho : isO H 1 3 = true) : Runs xs 145 [vr 1, vi p0, vi p1, vi p2, vr 197] μ H (.inl (some (vi 2))) μ' H' := Runs.iff fun Q hQ => by
  show Wp xs 145 0 [vr 1, vi p0, vi p1, vi p2, vr 197, vu] [] μ H Q
  simp (disch := first | omega | rfl) only [e145_0, e145_2, e145_3, e145_4, e145_5, e145_6, e145_7, e145_10, e145_11, e145_12, e145_17, e145_18, e145_21, e145_22, e145_25, e145_26, e145_27, e145_28, WpV_some, WpH_some, ↓ite_t, ↓ite_f, cI_e hc ho h1']
  rw [WpK_ca (h := 21) (by rfl) (by decide +kernel)]
  show Wp xs 145 21 [vu, vu, vu, vu, vu, vu] [] μ' H' Q
  simp (disch := first | omega | rfl) only [e145_0, e145_2, e145_3, e145_4, e145_5, e145_6, e145_7, e145_10, e145_11, e145_12, e145_17, e145_18, e145_21, e145_22, e145_25, e145_26, e145_27, e145_28, WpV_some, WpH_some, ↓ite_t, ↓ite_f]
  exact hQ
theorem w145_1 {p0 p1 p2 : Int} (hc : Runs xs 63 [vr 1, vi p0, vi p1, vi p2] μ H (.inr 1) μ' H') (ho : isO H 1 3 = true) : Runs xs 145 [vr 1, vi p0, vi p1, vi p2, vr 197] μ H (.inl (some (vi 3))) μ' H' := Runs.iff fun Q hQ => by
  show Wp xs 145 0 [vr 1, vi p0, vi p1, vi p2, vr 197, vu] [] μ H Q
  simp (disch := first | omega | rfl) only [e145_0, e145_2, e145_3, e145_4, e145_5, e145_6, e145_7, e145_10, e145_11, e145_12, e145_17, e145_18, e145_21, e145_22, e145_25, e145_26, e145_27, e145_28, WpV_some, WpH_some, ↓ite_t, ↓ite_f, cI_e hc ho h1']
  rw [WpK_ca (h := 25) (by rfl) (by decide +kernel)]
  show Wp xs 145 25 [vu, vu, vu, vu, vu, vu] [] μ' H' Q
  simp (disch := first | omega | rfl) only [e145_0, e145_2, e145_3, e145_4, e145_5, e145_6, e145_7, e145_10, e145_11, e145_12, e145_17, e145_18, e145_21, e145_22, e145_25, e145_26, e145_27, e145_28, WpV_some, WpH_some, ↓ite_t, ↓ite_f]
  exact hQ
theorem w145_2 {p0 p1 p2 : Int} (hc : Runs xs 63 [vr 1, vi p0, vi p1, vi p2] μ H (.inr 2) μ' H') (ho : isO H 1 3 = true) : Runs xs 145 [vr 1, vi p0, vi p1, vi p2, vr 197] μ H (.inl (some (vi 1))) μ' H' := Runs.iff fun Q hQ => by
  show Wp xs 145 0 [vr 1, vi p0, vi p1, vi p2, vr 197, vu] [] μ H Q
  simp (disch := first | omega | rfl) only [e145_0, e145_2, e145_3, e145_4, e145_5, e145_6, e145_7, e145_10, e145_11, e145_12, e145_17, e145_18, e145_21, e145_22, e145_25, e145_26, e145_27, e145_28, WpV_some, WpH_some, ↓ite_t, ↓ite_f, cI_e hc ho h1']
  rw [WpK_ca (h := 17) (by rfl) (by decide +kernel)]
  show Wp xs 145 17 [vu, vu, vu, vu, vu, vu] [] μ' H' Q
  simp (disch := first | omega | rfl) only [e145_0, e145_2, e145_3, e145_4, e145_5, e145_6, e145_7, e145_10, e145_11, e145_12, e145_17, e145_18, e145_21, e145_22, e145_25, e145_26, e145_27, e145_28, WpV_some, WpH_some, ↓ite_t, ↓ite_f]
  exact hQ
theorem w146 {p0 : Int} {r : Int} (hc : Runs xs 64 [vr 1, vi p0] μ H (.inl (some (vi r))) μ' H') (ho : isO H 1 3 = true) (hp : pl H' 197 0 (iL r) = some H'') : Runs xs 146 [vr 1, vi p0, vr 197] μ H (.inl (some (vi 0))) μ' H'' := Runs.iff fun Q hQ => by
  show Wp xs 146 0 [vr 1, vi p0, vr 197, vu] [] μ H Q
  simp (disch := first | omega | rfl) only [e146_0, e146_1, e146_2, e146_3, e146_4, e146_7, e146_8, e146_9, e146_13, e146_14, e146_15, e146_16, WpV_some, WpH_some, ↓ite_t, ↓ite_f, cI_v hc ho h1', hp]
  exact hQ
theorem w146_2 {p0 : Int} (hc : Runs xs 64 [vr 1, vi p0] μ H (.inr 2) μ' H') (ho : isO H 1 3 = true) : Runs xs 146 [vr 1, vi p0, vr 197] μ H (.inl (some (vi 1))) μ' H' := Runs.iff fun Q hQ => by
  show Wp xs 146 0 [vr 1, vi p0, vr 197, vu] [] μ H Q
  simp (disch := first | omega | rfl) only [e146_0, e146_1, e146_2, e146_3, e146_4, e146_7, e146_8, e146_9, e146_13, e146_14, e146_15, e146_16, WpV_some, WpH_some, ↓ite_t, ↓ite_f, cI_e hc ho h1']
  rw [WpK_ca (h := 13) (by rfl) (by decide +kernel)]
  show Wp xs 146 13 [vu, vu, vu, vu] [] μ' H' Q
  simp (disch := first | omega | rfl) only [e146_0, e146_1, e146_2, e146_3, e146_4, e146_7, e146_8, e146_9, e146_13, e146_14, e146_15, e146_16, WpV_some, WpH_some, ↓ite_t, ↓ite_f]
  exact hQ
theorem w147 {p0 p1 : Int} {r : Int} (hc : Runs xs 65 [vr 1, vi p0, vi p1] μ H (.inl (some (vi r))) μ' H') (ho : isO H 1 3 = true) (hp : pl H' 197 0 (iL r) = some H'') : Runs xs 147 [vr 1, vi p0, vi p1, vr 197] μ H (.inl (some (vi 0))) μ' H'' := Runs.iff fun Q hQ => by
  show Wp xs 147 0 [vr 1, vi p0, vi p1, vr 197, vu] [] μ H Q
  simp (disch := first | omega | rfl) only [e147_0, e147_1, e147_2, e147_3, e147_4, e147_5, e147_8, e147_9, e147_10, e147_15, e147_16, e147_17, e147_18, WpV_some, WpH_some, ↓ite_t, ↓ite_f, cI_v hc ho h1', hp]
  exact hQ
theorem w147_2 {p0 p1 : Int} (hc : Runs xs 65 [vr 1, vi p0, vi p1] μ H (.inr 2) μ' H') (ho : isO H 1 3 = true) : Runs xs 147 [vr 1, vi p0, vi p1, vr 197] μ H (.inl (some (vi 1))) μ' H' := Runs.iff fun Q hQ => by
  show Wp xs 147 0 [vr 1, vi p0, vi p1, vr 197, vu] [] μ H Q
  simp (disch := first | omega | rfl) only [e147_0, e147_1, e147_2, e147_3, e147_4, e147_5, e147_8, e147_9, e147_10, e147_15, e147_16, e147_17, e147_18, WpV_some, WpH_some, ↓ite_t, ↓ite_f, cI_e hc ho h1']
  rw [WpK_ca (h := 15) (by rfl) (by decide +kernel)]
  show Wp xs 147 15 [vu, vu, vu, vu, vu] [] μ' H' Q
  simp (disch := first | omega | rfl) only [e147_0, e147_1, e147_2, e147_3, e147_4, e147_5, e147_8, e147_9, e147_10, e147_15, e147_16, e147_17, e147_18, WpV_some, WpH_some, ↓ite_t, ↓ite_f]
  exact hQ
theorem w148 {p0 : Int} {r : Int} (hc : Runs xs 66 [vr 1, vi p0] μ H (.inl (some (vi r))) μ' H') (ho : isO H 1 3 = true) (hp : pl H' 197 0 (iL r) = some H'') : Runs xs 148 [vr 1, vi p0, vr 197] μ H (.inl (some (vi 0))) μ' H'' := Runs.iff fun Q hQ => by
  show Wp xs 148 0 [vr 1, vi p0, vr 197, vu] [] μ H Q
  simp (disch := first | omega | rfl) only [e148_0, e148_1, e148_2, e148_3, e148_4, e148_7, e148_8, e148_9, e148_13, e148_14, e148_15, e148_16, WpV_some, WpH_some, ↓ite_t, ↓ite_f, cI_v hc ho h1', hp]
  exact hQ
theorem w148_0 {p0 : Int} (hc : Runs xs 66 [vr 1, vi p0] μ H (.inr 0) μ' H') (ho : isO H 1 3 = true) : Runs xs 148 [vr 1, vi p0, vr 197] μ H (.inl (some (vi 1))) μ' H' := Runs.iff fun Q hQ => by
  show Wp xs 148 0 [vr 1, vi p0, vr 197, vu] [] μ H Q
  simp (disch := first | omega | rfl) only [e148_0, e148_1, e148_2, e148_3, e148_4, e148_7, e148_8, e148_9, e148_13, e148_14, e148_15, e148_16, WpV_some, WpH_some, ↓ite_t, ↓ite_f, cI_e hc ho h1']
  rw [WpK_ca (h := 13) (by rfl) (by decide +kernel)]
  show Wp xs 148 13 [vu, vu, vu, vu] [] μ' H' Q
  simp (disch := first | omega | rfl) only [e148_0, e148_1, e148_2, e148_3, e148_4, e148_7, e148_8, e148_9, e148_13, e148_14, e148_15, e148_16, WpV_some, WpH_some, ↓ite_t, ↓ite_f]
  exact hQ
theorem w149 {p0 : Int} {r : Int} (hc : Runs xs 67 [vr 1, vi p0] μ H (.inl (some (vi r))) μ' H') (ho : isO H 1 3 = true) (hp : pl H' 197 0 (iL r) = some H'') : Runs xs 149 [vr 1, vi p0, vr 197] μ H (.inl (some (vi 0))) μ' H'' := Runs.iff fun Q hQ => by
  show Wp xs 149 0 [vr 1, vi p0, vr 197, vu] [] μ H Q
  simp (disch := first | omega | rfl) only [e149_0, e149_1, e149_2, e149_3, e149_4, e149_7, e149_8, e149_9, e149_13, e149_14, e149_16, e149_17, e149_18, e149_19, WpV_some, WpH_some, ↓ite_t, ↓ite_f, cI_v hc ho h1', hp]
  exact hQ
theorem w149_0 {p0 : Int} (hc : Runs xs 67 [vr 1, vi p0] μ H (.inr 0) μ' H') (ho : isO H 1 3 = true) : Runs xs 149 [vr 1, vi p0, vr 197] μ H (.inl (some (vi 1))) μ' H' := Runs.iff fun Q hQ => by
  show Wp xs 149 0 [vr 1, vi p0, vr 197, vu] [] μ H Q
  simp (disch := first | omega | rfl) only [e149_0, e149_1, e149_2, e149_3, e149_4, e149_7, e149_8, e149_9, e149_13, e149_14, e149_16, e149_17, e149_18, e149_19, WpV_some, WpH_some, ↓ite_t, ↓ite_f, cI_e hc ho h1']
  rw [WpK_ca (h := 13) (by rfl) (by decide +kernel)]
  show Wp xs 149 13 [vu, vu, vu, vu] [] μ' H' Q
  simp (disch := first | omega | rfl) only [e149_0, e149_1, e149_2, e149_3, e149_4, e149_7, e149_8, e149_9, e149_13, e149_14, e149_16, e149_17, e149_18, e149_19, WpV_some, WpH_some, ↓ite_t, ↓ite_f]
  exact hQ
theorem w149_1 {p0 : Int} (hc : Runs xs 67 [vr 1, vi p0] μ H (.inr 1) μ' H') (ho : isO H 1 3 = true) : Runs xs 149 [vr 1, vi p0, vr 197] μ H (.inl (some (vi 2))) μ' H' := Runs.iff fun Q hQ => by
  show Wp xs 149 0 [vr 1, vi p0, vr 197, vu] [] μ H Q
  simp (disch := first | omega | rfl) only [e149_0, e149_1, e149_2, e149_3, e149_4, e149_7, e149_8, e149_9, e149_13, e149_14, e149_16, e149_17, e149_18, e149_19, WpV_some, WpH_some, ↓ite_t, ↓ite_f, cI_e hc ho h1']
  rw [WpK_ca (h := 16) (by rfl) (by decide +kernel)]
  show Wp xs 149 16 [vu, vu, vu, vu] [] μ' H' Q
  simp (disch := first | omega | rfl) only [e149_0, e149_1, e149_2, e149_3, e149_4, e149_7, e149_8, e149_9, e149_13, e149_14, e149_16, e149_17, e149_18, e149_19, WpV_some, WpH_some, ↓ite_t, ↓ite_f]
  exact hQ
theorem w150 {p0 : Int} {r : Int} (hc : Runs xs 68 [vr 1, vi p0] μ H (.inl (some (vi r))) μ' H') (ho : isO H 1 3 = true) (hp : pl H' 197 0 (iL r) = some H'') : Runs xs 150 [vr 1, vi p0, vr 197] μ H (.inl (some (vi 0))) μ' H'' := Runs.iff fun Q hQ => by
  show Wp xs 150 0 [vr 1, vi p0, vr 197, vu] [] μ H Q
  simp (disch := first | omega | rfl) only [e150_0, e150_1, e150_2, e150_3, e150_4, e150_7, e150_8, e150_9, e150_13, e150_14, e150_16, e150_17, e150_18, e150_19, WpV_some, WpH_some, ↓ite_t, ↓ite_f, cI_v hc ho h1', hp]
  exact hQ
theorem w150_0 {p0 : Int} (hc : Runs xs 68 [vr 1, vi p0] μ H (.inr 0) μ' H') (ho : isO H 1 3 = true) : Runs xs 150 [vr 1, vi p0, vr 197] μ H (.inl (some (vi 1))) μ' H' := Runs.iff fun Q hQ => by
  show Wp xs 150 0 [vr 1, vi p0, vr 197, vu] [] μ H Q
  simp (disch := first | omega | rfl) only [e150_0, e150_1, e150_2, e150_3, e150_4, e150_7, e150_8, e150_9, e150_13, e150_14, e150_16, e150_17, e150_18, e150_19, WpV_some, WpH_some, ↓ite_t, ↓ite_f, cI_e hc ho h1']
  rw [WpK_ca (h := 13) (by rfl) (by decide +kernel)]
  show Wp xs 150 13 [vu, vu, vu, vu] [] μ' H' Q
  simp (disch := first | omega | rfl) only [e150_0, e150_1, e150_2, e150_3, e150_4, e150_7, e150_8, e150_9, e150_13, e150_14, e150_16, e150_17, e150_18, e150_19, WpV_some, WpH_some, ↓ite_t, ↓ite_f]
  exact hQ
theorem w150_1 {p0 : Int} (hc : Runs xs 68 [vr 1, vi p0] μ H (.inr 1) μ' H') (ho : isO H 1 3 = true) : Runs xs 150 [vr 1, vi p0, vr 197] μ H (.inl (some (vi 2))) μ' H' := Runs.iff fun Q hQ => by
  show Wp xs 150 0 [vr 1, vi p0, vr 197, vu] [] μ H Q
  simp (disch := first | omega | rfl) only [e150_0, e150_1, e150_2, e150_3, e150_4, e150_7, e150_8, e150_9, e150_13, e150_14, e150_16, e150_17, e150_18, e150_19, WpV_some, WpH_some, ↓ite_t, ↓ite_f, cI_e hc ho h1']
  rw [WpK_ca (h := 16) (by rfl) (by decide +kernel)]
  show Wp xs 150 16 [vu, vu, vu, vu] [] μ' H' Q
  simp (disch := first | omega | rfl) only [e150_0, e150_1, e150_2, e150_3, e150_4, e150_7, e150_8, e150_9, e150_13, e150_14, e150_16, e150_17, e150_18, e150_19, WpV_some, WpH_some, ↓ite_t, ↓ite_f]
  exact hQ
theorem w151 {p0 : Int} {r : Int} (hc : Runs xs 69 [vr 1, vi p0] μ H (.inl (some (vi r))) μ' H') (ho : isO H 1 3 = true) (hp : pl H' 197 0 (iL r) = some H'') : Runs xs 151 [vr 1, vi p0, vr 197] μ H (.inl (some (vi 0))) μ' H'' := Runs.iff fun Q hQ => by
  show Wp xs 151 0 [vr 1, vi p0, vr 197, vu] [] μ H Q
  simp (disch := first | omega | rfl) only [e151_0, e151_1, e151_2, e151_3, e151_4, e151_7, e151_8, e151_9, e151_13, e151_14, e151_16, e151_17, e151_18, e151_19, WpV_some, WpH_some, ↓ite_t, ↓ite_f, cI_v hc ho h1', hp]
  exact hQ
theorem w151_0 {p0 : Int} (hc : Runs xs 69 [vr 1, vi p0] μ H (.inr 0) μ' H') (ho : isO H 1 3 = true) : Runs xs 151 [vr 1, vi p0, vr 197] μ H (.inl (some (vi 1))) μ' H' := Runs.iff fun Q hQ => by
  show Wp xs 151 0 [vr 1, vi p0, vr 197, vu] [] μ H Q
  simp (disch := first | omega | rfl) only [e151_0, e151_1, e151_2, e151_3, e151_4, e151_7, e151_8, e151_9, e151_13, e151_14, e151_16, e151_17, e151_18, e151_19, WpV_some, WpH_some, ↓ite_t, ↓ite_f, cI_e hc ho h1']
  rw [WpK_ca (h := 13) (by rfl) (by decide +kernel)]
  show Wp xs 151 13 [vu, vu, vu, vu] [] μ' H' Q
  simp (disch := first | omega | rfl) only [e151_0, e151_1, e151_2, e151_3, e151_4, e151_7, e151_8, e151_9, e151_13, e151_14, e151_16, e151_17, e151_18, e151_19, WpV_some, WpH_some, ↓ite_t, ↓ite_f]
  exact hQ
theorem w151_1 {p0 : Int} (hc : Runs xs 69 [vr 1, vi p0] μ H (.inr 1) μ' H') (ho : isO H 1 3 = true) : Runs xs 151 [vr 1, vi p0, vr 197] μ H (.inl (some (vi 2))) μ' H' := Runs.iff fun Q hQ => by
  show Wp xs 151 0 [vr 1, vi p0, vr 197, vu] [] μ H Q
  simp (disch := first | omega | rfl) only [e151_0, e151_1, e151_2, e151_3, e151_4, e151_7, e151_8, e151_9, e151_13, e151_14, e151_16, e151_17, e151_18, e151_19, WpV_some, WpH_some, ↓ite_t, ↓ite_f, cI_e hc ho h1']
  rw [WpK_ca (h := 16) (by rfl) (by decide +kernel)]
  show Wp xs 151 16 [vu, vu, vu, vu] [] μ' H' Q
  simp (disch := first | omega | rfl) only [e151_0, e151_1, e151_2, e151_3, e151_4, e151_7, e151_8, e151_9, e151_13, e151_14, e151_16, e151_17, e151_18, e151_19, WpV_some, WpH_some, ↓ite_t, ↓ite_f]
  exact hQ
theorem w152 {r : Int} (hc : Runs xs 70 [vr 1] μ H (.inl (some (vi r))) μ' H') (ho : isO H 1 3 = true) (hp : pl H' 197 0 (iL r) = some H'') : Runs xs 152 [vr 1, vr 197] μ H (.inl (some (vi 0))) μ' H'' := Runs.iff fun Q hQ => by
  show Wp xs 152 0 [vr 1, vr 197, vu] [] μ H Q
  simp (disch := first | omega | rfl) only [e152_0, e152_1, e152_2, e152_3, e152_6, e152_7, e152_8, e152_12, e152_13, e152_14, e152_15, WpV_some, WpH_some, ↓ite_t, ↓ite_f, cI_v hc ho h1', hp]
  exact hQ
theorem w152_1 (hc : Runs xs 70 [vr 1] μ H (.inr 1) μ' H') (ho : isO H 1 3 = true) : Runs xs 152 [vr 1, vr 197] μ H (.inl (some (vi 1))) μ' H' := Runs.iff fun Q hQ => by
  show Wp xs 152 0 [vr 1, vr 197, vu] [] μ H Q
  simp (disch := first | omega | rfl) only [e152_0, e152_1, e152_2, e152_3, e152_6, e152_7, e152_8, e152_12, e152_13, e152_14, e152_15, WpV_some, WpH_some, ↓ite_t, ↓ite_f, cI_e hc ho h1']
  rw [WpK_ca (h := 12) (by rfl) (by decide +kernel)]
  show Wp xs 152 12 [vu, vu, vu] [] μ' H' Q
  simp (disch := first | omega | rfl) only [e152_0, e152_1, e152_2, e152_3, e152_6, e152_7, e152_8, e152_12, e152_13, e152_14, e152_15, WpV_some, WpH_some, ↓ite_t, ↓ite_f]
  exact hQ
theorem w153 {p0 p1 : Int} {r : Int} (hc : Runs xs 54 [vr 1, vi p0, vi p1] μ H (.inl (some (vi r))) μ' H') (ho : isO H 1 3 = true) (hp : pl H' 197 0 (iL r) = some H'') : Runs xs 153 [vr 1, vi p0, vi p1, vr 197] μ H (.inl (some (vi 0))) μ' H'' := Runs.iff fun Q hQ => by
  show Wp xs 153 0 [vr 1, vi p0, vi p1, vr 197, vu] [] μ H Q
  simp (disch := first | omega | rfl) only [e153_0, e153_1, e153_2, e153_3, e153_4, e153_5, e153_8, e153_9, e153_10, e153_15, e153_16, e153_19, e153_20, e153_21, e153_22, WpV_some, WpH_some, ↓ite_t, ↓ite_f, cI_v hc ho h1', hp]
  exact hQ
theorem w153_0 {p0 p1 : Int} (hc : Runs xs 54 [vr 1, vi p0, vi p1] μ H (.inr 0) μ' H') (ho : isO H 1 3 = true) : Runs xs 153 [vr 1, vi p0, vi p1, vr 197] μ H (.inl (some (vi 2))) μ' H' := Runs.iff fun Q hQ => by
  show Wp xs 153 0 [vr 1, vi p0, vi p1, vr 197, vu] [] μ H Q
  simp (disch := first | omega | rfl) only [e153_0, e153_1, e153_2, e153_3, e153_4, e153_5, e153_8, e153_9, e153_10, e153_15, e153_16, e153_19, e153_20, e153_21, e153_22, WpV_some, WpH_some, ↓ite_t, ↓ite_f, cI_e hc ho h1']
  rw [WpK_ca (h := 19) (by rfl) (by decide +kernel)]
  show Wp xs 153 19 [vu, vu, vu, vu, vu] [] μ' H' Q
  simp (disch := first | omega | rfl) only [e153_0, e153_1, e153_2, e153_3, e153_4, e153_5, e153_8, e153_9, e153_10, e153_15, e153_16, e153_19, e153_20, e153_21, e153_22, WpV_some, WpH_some, ↓ite_t, ↓ite_f]
  exact hQ
theorem w153_2 {p0 p1 : Int} (hc : Runs xs 54 [vr 1, vi p0, vi p1] μ H (.inr 2) μ' H') (ho : isO H 1 3 = true) : Runs xs 153 [vr 1, vi p0, vi p1, vr 197] μ H (.inl (some (vi 1))) μ' H' := Runs.iff fun Q hQ => by
  show Wp xs 153 0 [vr 1, vi p0, vi p1, vr 197, vu] [] μ H Q
  simp (disch := first | omega | rfl) only [e153_0, e153_1, e153_2, e153_3, e153_4, e153_5, e153_8, e153_9, e153_10, e153_15, e153_16, e153_19, e153_20, e153_21, e153_22, WpV_some, WpH_some, ↓ite_t, ↓ite_f, cI_e hc ho h1']
  rw [WpK_ca (h := 15) (by rfl) (by decide +kernel)]
  show Wp xs 153 15 [vu, vu, vu, vu, vu] [] μ' H' Q
  simp (disch := first | omega | rfl) only [e153_0, e153_1, e153_2, e153_3, e153_4, e153_5, e153_8, e153_9, e153_10, e153_15, e153_16, e153_19, e153_20, e153_21, e153_22, WpV_some, WpH_some, ↓ite_t, ↓ite_f]
  exact hQ
theorem w154 {p0 p1 : Int} {r : Int} (hc : Runs xs 55 [vr 1, vi p0, vi p1] μ H (.inl (some (vi r))) μ' H') (ho : isO H 1 3 = true) (hp : pl H' 197 0 (iL r) = some H'') : Runs xs 154 [vr 1, vi p0, vi p1, vr 197] μ H (.inl (some (vi 0))) μ' H'' := Runs.iff fun Q hQ => by
  show Wp xs 154 0 [vr 1, vi p0, vi p1, vr 197, vu] [] μ H Q
  simp (disch := first | omega | rfl) only [e154_0, e154_1, e154_2, e154_3, e154_4, e154_5, e154_8, e154_9, e154_10, e154_15, e154_16, e154_17, e154_18, WpV_some, WpH_some, ↓ite_t, ↓ite_f, cI_v hc ho h1', hp]
  exact hQ
theorem w154_0 {p0 p1 : Int} (hc : Runs xs 55 [vr 1, vi p0, vi p1] μ H (.inr 0) μ' H') (ho : isO H 1 3 = true) : Runs xs 154 [vr 1, vi p0, vi p1, vr 197] μ H (.inl (some (vi 1))) μ' H' := Runs.iff fun Q hQ => by
  show Wp xs 154 0 [vr 1, vi p0, vi p1, vr 197, vu] [] μ H Q
  simp (disch := first | omega | rfl) only [e154_0, e154_1, e154_2, e154_3, e154_4, e154_5, e154_8, e154_9, e154_10, e154_15, e154_16, e154_17, e154_18, WpV_some, WpH_some, ↓ite_t, ↓ite_f, cI_e hc ho h1']
  rw [WpK_ca (h := 15) (by rfl) (by decide +kernel)]
  show Wp xs 154 15 [vu, vu, vu, vu, vu] [] μ' H' Q
  simp (disch := first | omega | rfl) only [e154_0, e154_1, e154_2, e154_3, e154_4, e154_5, e154_8, e154_9, e154_10, e154_15, e154_16, e154_17, e154_18, WpV_some, WpH_some, ↓ite_t, ↓ite_f]
  exact hQ
theorem w155 {p0 : Int} {r : Int} (hc : Runs xs 72 [vr 1, vi p0] μ H (.inl (some (vi r))) μ' H') (ho : isO H 1 3 = true) (hp : pl H' 197 0 (iL r) = some H'') : Runs xs 155 [vr 1, vi p0, vr 197] μ H (.inl (some (vi 0))) μ' H'' := Runs.iff fun Q hQ => by
  show Wp xs 155 0 [vr 1, vi p0, vr 197, vu] [] μ H Q
  simp (disch := first | omega | rfl) only [e155_0, e155_1, e155_2, e155_3, e155_4, e155_7, e155_8, e155_9, e155_13, e155_14, e155_15, e155_16, WpV_some, WpH_some, ↓ite_t, ↓ite_f, cI_v hc ho h1', hp]
  exact hQ
theorem w155_2 {p0 : Int} (hc : Runs xs 72 [vr 1, vi p0] μ H (.inr 2) μ' H') (ho : isO H 1 3 = true) : Runs xs 155 [vr 1, vi p0, vr 197] μ H (.inl (some (vi 1))) μ' H' := Runs.iff fun Q hQ => by
  show Wp xs 155 0 [vr 1, vi p0, vr 197, vu] [] μ H Q
  simp (disch := first | omega | rfl) only [e155_0, e155_1, e155_2, e155_3, e155_4, e155_7, e155_8, e155_9, e155_13, e155_14, e155_15, e155_16, WpV_some, WpH_some, ↓ite_t, ↓ite_f, cI_e hc ho h1']
  rw [WpK_ca (h := 13) (by rfl) (by decide +kernel)]
  show Wp xs 155 13 [vu, vu, vu, vu] [] μ' H' Q
  simp (disch := first | omega | rfl) only [e155_0, e155_1, e155_2, e155_3, e155_4, e155_7, e155_8, e155_9, e155_13, e155_14, e155_15, e155_16, WpV_some, WpH_some, ↓ite_t, ↓ite_f]
  exact hQ
theorem w156 {p0 : Int} {r : Int} (hc : Runs xs 52 [vr 1, vi p0] μ H (.inl (some (vi r))) μ' H') (ho : isO H 1 3 = true) (hp : pl H' 197 0 (iL r) = some H'') : Runs xs 156 [vr 1, vi p0, vr 197] μ H (.inl (some (vi 0))) μ' H'' := Runs.iff fun Q hQ => by
  show Wp xs 156 0 [vr 1, vi p0, vr 197, vu] [] μ H Q
  simp (disch := first | omega | rfl) only [e156_0, e156_1, e156_2, e156_3, e156_4, e156_7, e156_8, e156_9, e156_13, e156_14, e156_15, e156_16, WpV_some, WpH_some, ↓ite_t, ↓ite_f, cI_v hc ho h1', hp]
  exact hQ
theorem w156_0 {p0 : Int} (hc : Runs xs 52 [vr 1, vi p0] μ H (.inr 0) μ' H') (ho : isO H 1 3 = true) : Runs xs 156 [vr 1, vi p0, vr 197] μ H (.inl (some (vi 1))) μ' H' := Runs.iff fun Q hQ => by
  show Wp xs 156 0 [vr 1, vi p0, vr 197, vu] [] μ H Q
  simp (disch := first | omega | rfl) only [e156_0, e156_1, e156_2, e156_3, e156_4, e156_7, e156_8, e156_9, e156_13, e156_14, e156_15, e156_16, WpV_some, WpH_some, ↓ite_t, ↓ite_f, cI_e hc ho h1']
  rw [WpK_ca (h := 13) (by rfl) (by decide +kernel)]
  show Wp xs 156 13 [vu, vu, vu, vu] [] μ' H' Q
  simp (disch := first | omega | rfl) only [e156_0, e156_1, e156_2, e156_3, e156_4, e156_7, e156_8, e156_9, e156_13, e156_14, e156_15, e156_16, WpV_some, WpH_some, ↓ite_t, ↓ite_f]
  exact hQ
theorem w157 {p0 p1 : Int} {r : Int} (hc : Runs xs 57 [vr 1, vi p0, vi p1] μ H (.inl (some (vi r))) μ' H') (ho : isO H 1 3 = true) (hp : pl H' 197 0 (iL r) = some H'') : Runs xs 157 [vr 1, vi p0, vi p1, vr 197] μ H (.inl (some (vi 0))) μ' H'' := Runs.iff fun Q hQ => by
  show Wp xs 157 0 [vr 1, vi p0, vi p1, vr 197, vu] [] μ H Q
  simp (disch := first | omega | rfl) only [e157_0, e157_1, e157_2, e157_3, e157_4, e157_5, e157_8, e157_9, e157_10, e157_15, e157_16, e157_17, e157_18, WpV_some, WpH_some, ↓ite_t, ↓ite_f, cI_v hc ho h1', hp]
  exact hQ
theorem w157_0 {p0 p1 : Int} (hc : Runs xs 57 [vr 1, vi p0, vi p1] μ H (.inr 0) μ' H') (ho : isO H 1 3 = true) : Runs xs 157 [vr 1, vi p0, vi p1, vr 197] μ H (.inl (some (vi 1))) μ' H' := Runs.iff fun Q hQ => by
  show Wp xs 157 0 [vr 1, vi p0, vi p1, vr 197, vu] [] μ H Q
  simp (disch := first | omega | rfl) only [e157_0, e157_1, e157_2, e157_3, e157_4, e157_5, e157_8, e157_9, e157_10, e157_15, e157_16, e157_17, e157_18, WpV_some, WpH_some, ↓ite_t, ↓ite_f, cI_e hc ho h1']
  rw [WpK_ca (h := 15) (by rfl) (by decide +kernel)]
  show Wp xs 157 15 [vu, vu, vu, vu, vu] [] μ' H' Q
  simp (disch := first | omega | rfl) only [e157_0, e157_1, e157_2, e157_3, e157_4, e157_5, e157_8, e157_9, e157_10, e157_15, e157_16, e157_17, e157_18, WpV_some, WpH_some, ↓ite_t, ↓ite_f]
  exact hQ
theorem w158 {p0 : Int} {r : Int} (hc : Runs xs 58 [vr 1, vi p0] μ H (.inl (some (vi r))) μ' H') (ho : isO H 1 3 = true) (hp : pl H' 197 0 (iL r) = some H'') : Runs xs 158 [vr 1, vi p0, vr 197] μ H (.inl (some (vi 0))) μ' H'' := Runs.iff fun Q hQ => by
  show Wp xs 158 0 [vr 1, vi p0, vr 197, vu] [] μ H Q
  simp (disch := first | omega | rfl) only [e158_0, e158_1, e158_2, e158_3, e158_4, e158_7, e158_8, e158_9, e158_13, e158_14, e158_15, e158_16, WpV_some, WpH_some, ↓ite_t, ↓ite_f, cI_v hc ho h1', hp]
  exact hQ
theorem w158_0 {p0 : Int} (hc : Runs xs 58 [vr 1, vi p0] μ H (.inr 0) μ' H') (ho : isO H 1 3 = true) : Runs xs 158 [vr 1, vi p0, vr 197] μ H (.inl (some (vi 1))) μ' H' := Runs.iff fun Q hQ => by
  show Wp xs 158 0 [vr 1, vi p0, vr 197, vu] [] μ H Q
  simp (disch := first | omega | rfl) only [e158_0, e158_1, e158_2, e158_3, e158_4, e158_7, e158_8, e158_9, e158_13, e158_14, e158_15, e158_16, WpV_some, WpH_some, ↓ite_t, ↓ite_f, cI_e hc ho h1']
  rw [WpK_ca (h := 13) (by rfl) (by decide +kernel)]
  show Wp xs 158 13 [vu, vu, vu, vu] [] μ' H' Q
  simp (disch := first | omega | rfl) only [e158_0, e158_1, e158_2, e158_3, e158_4, e158_7, e158_8, e158_9, e158_13, e158_14, e158_15, e158_16, WpV_some, WpH_some, ↓ite_t, ↓ite_f]
  exact hQ
theorem w159 {p0 : Int} {r : Int} (hc : Runs xs 59 [vr 1, vi p0] μ H (.inl (some (vi r))) μ' H') (ho : isO H 1 3 = true) (hp : pl H' 197 0 (iL r) = some H'') : Runs xs 159 [vr 1, vi p0, vr 197] μ H (.inl (some (vi 0))) μ' H'' := Runs.iff fun Q hQ => by
  show Wp xs 159 0 [vr 1, vi p0, vr 197, vu] [] μ H Q
  simp (disch := first | omega | rfl) only [e159_0, e159_1, e159_2, e159_3, e159_4, e159_7, e159_8, e159_9, e159_13, e159_14, e159_15, e159_16, WpV_some, WpH_some, ↓ite_t, ↓ite_f, cI_v hc ho h1', hp]
  exact hQ
theorem w159_2 {p0 : Int} (hc : Runs xs 59 [vr 1, vi p0] μ H (.inr 2) μ' H') (ho : isO H 1 3 = true) : Runs xs 159 [vr 1, vi p0, vr 197] μ H (.inl (some (vi 1))) μ' H' := Runs.iff fun Q hQ => by
  show Wp xs 159 0 [vr 1, vi p0, vr 197, vu] [] μ H Q
  simp (disch := first | omega | rfl) only [e159_0, e159_1, e159_2, e159_3, e159_4, e159_7, e159_8, e159_9, e159_13, e159_14, e159_15, e159_16, WpV_some, WpH_some, ↓ite_t, ↓ite_f, cI_e hc ho h1']
  rw [WpK_ca (h := 13) (by rfl) (by decide +kernel)]
  show Wp xs 159 13 [vu, vu, vu, vu] [] μ' H' Q
  simp (disch := first | omega | rfl) only [e159_0, e159_1, e159_2, e159_3, e159_4, e159_7, e159_8, e159_9, e159_13, e159_14, e159_15, e159_16, WpV_some, WpH_some, ↓ite_t, ↓ite_f]
  exact hQ
end LW
section LI
variable {xs : List Int} {f g : AH} {μ : Mu} {y pc : Nat} {L st : List AV} {Q : Out → Mu → AH → Prop}
theorem pf_un (g : AH) (a c k : Nat) (fs : List AV) (v : AV) (X : AC) (ha : a ≠ 190) (h : k < fs.length) : pf (aup (aup g 190 (oC c fs)) a X) 190 c k v = some (aup (aup g a X) 190 (oC c (fs.set k v))) := by
  unfold pf
  rw [aup_ne _ _ (Ne.symm ha), aup_same]
  dsimp only
  rw [if_pos ⟨rfl, h⟩, aup_comm _ _ _ (Ne.symm ha), aup_aup]
theorem gf_top (g : AH) (c k : Nat) (fs : List AV) : gf (aup g 190 (oC c fs)) 190 c k = fs[k]? := by
  unfold gf
  rw [aup_same]
  dsimp only
  rw [if_pos rfl]
def M9z : MG := (fun _ => 0, (fun _ _ => 0, 0))
theorem ini_heap : aup (aup (aup (aup (aup (aup (aup f 191 (iC (tab 347 (fun _ => 0)))) 192 (iC (tab 2082 (fun _ => 0)))) 193 (iC (tab 347 (fun _ => 0)))) 194 (iC (tab 40 (fun _ => 0)))) 195 (iC (tab 256 (fun _ => 0)))) 196 (iC (tab 256 (fun _ => 0)))) 190 (oC 4 [vi 0, vr 191, vr 192, vi 0, vr 193, vr 194, vi 0, vi 0, vr 195, vr 196, vl 0]) = putM f M9z := by
  funext a
  by_cases h : 190 ≤ a ∧ a < 197
  · obtain ⟨k, rfl⟩ : ∃ k, a = 190 + k := ⟨a - 190, by omega⟩
    have hk : k < 7 := by omega
    rw [putM_in _ _ hk]
    match k, hk with
    | 0, _ => rw [Nat.add_zero, aup_same]; rfl
    | 1, _ => rw [aup_ne _ _ (by decide), aup_ne _ _ (by decide), aup_ne _ _ (by decide), aup_ne _ _ (by decide), aup_ne _ _ (by decide), aup_ne _ _ (by decide), aup_same]; exact congrArg some (mC_row M9z 0).symm
    | 2, _ => rw [aup_ne _ _ (by decide), aup_ne _ _ (by decide), aup_ne _ _ (by decide), aup_ne _ _ (by decide), aup_ne _ _ (by decide), aup_same]; exact congrArg some (mC_row M9z 1).symm
    | 3, _ => rw [aup_ne _ _ (by decide), aup_ne _ _ (by decide), aup_ne _ _ (by decide), aup_ne _ _ (by decide), aup_same]; exact congrArg some (mC_row M9z 2).symm
    | 4, _ => rw [aup_ne _ _ (by decide), aup_ne _ _ (by decide), aup_ne _ _ (by decide), aup_same]; exact congrArg some (mC_row M9z 3).symm
    | 5, _ => rw [aup_ne _ _ (by decide), aup_ne _ _ (by decide), aup_same]; exact congrArg some (mC_row M9z 4).symm
    | 6, _ => rw [aup_ne _ _ (by decide), aup_same]; exact congrArg some (mC_row M9z 5).symm
    | n + 7, h => omega
  · rw [putM_out _ _ (by omega), aup_ne _ _ (by omega), aup_ne _ _ (by omega), aup_ne _ _ (by omega), aup_ne _ _ (by omega), aup_ne _ _ (by omega), aup_ne _ _ (by omega), aup_ne _ _ (by omega)]
theorem m73 {c s : Nat} (hf : f 190 = some (oC 4 (dfs 4))) : Runs xs 73 [vr 190] (190, (c, s)) f (.inl none) (196, (c + 6, s + 3328)) (putM f M0) := Runs.iff fun Q hQ => by
  show Wp xs 73 0 [vr 190, vu] [] (190, (c, s)) f Q
  have q := ini_loop (xs := xs) (f := f) (μ := (196, (c + 6, s + 3328))) (Q := Q) 6 0 M9z rfl
  have e1 : mAr M9z 0 z0 = M0 := rfl
  have e2 : (fun j => if 5 + 0 ≤ j ∧ j < 11 then M9z.2.1 0 j else z0 j) = fu (fun _ => 0) 2 3 := by
    funext j
    show (if 5 + 0 ≤ j ∧ j < 11 then (0 : Int) else z0 j) = if j = 2 then 3 else 0
    unfold z0
    by_cases c : j = 2
    · rw [if_neg (by omega), if_pos c, if_pos c]
    · rw [if_neg c, if_neg c]
      by_cases c2 : 5 + 0 ≤ j ∧ j < 11
      · rw [if_pos c2]
      · rw [if_neg c2, if_neg (by omega)]
  have e3 : M9z.2.1 0 = fun _ => 0 := rfl
  rw [e1, e2] at q
  simp only [Int.cast_ofNat_Int] at q
  rw [← aup_self hf]
  have e0 : dfs 4 = [vi 0, vn, vn, vi 0, vn, vn, vi 0, vi 0, vn, vn, vl 0] := rfl
  rw [e0]
  simp (disch := first | omega | (simp; done) | rfl) only [e73_0, e73_1, e73_4, e73_5, e73_8, e73_10, e73_13, e73_14, e73_17, e73_19, e73_22, e73_23, e73_26, e73_28, e73_31, e73_32, e73_34, e73_36, e73_39, e73_40, e73_43, e73_45, e73_48, e73_49, e73_52, e73_54, e73_57, e73_58, e73_67, e73_69, e73_72, e73_73, e73_76, e73_77, e73_78, e73_79, e73_80, e73_81, e73_84, e73_87, WpV_some, WpH_some, ↓ite_t, ↓ite_f, tab_const, pf_un, List.set_cons_zero, List.set_cons_succ, Nat.add_assoc, Nat.reduceAdd, Int.reduceToNat, gf_top, List.getElem?_cons_zero, List.getElem?_cons_succ, ini_heap]
  simp (disch := first | omega | rfl) only [e73_61, e73_62, e73_63, e73_64, e73_65, WpV_some, WpH_some, ↓ite_t, ↓ite_f, M_f0, M_f1, M_f2, M_f3, M_f4, M_f5, M_f6, M_f7, M_f8, M_f9, M_f10, M_p0, M_p3, M_p6, M_p7, M_p10, M_g_0, M_g_1, M_g_2, M_g_3, M_g_4, M_g_5, M_s_0, M_s_1, M_s_2, M_s_3, M_s_4, M_s_5, Int.reduceToNat, e3, q]
  exact hQ
end LI
