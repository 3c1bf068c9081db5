/-! THE SAVED STATES -/
def su (S : Nat → SG) (k : Nat) (σ : SG) : Nat → SG := fun j => if j = k then σ else S j
def pu (p : Nat → Nat) (k v : Nat) : Nat → Nat := fun j => if j = k then v else p j
theorem pu_s (p : Nat → Nat) (k v : Nat) : pu p k v k = v := by simp [pu]
theorem pu_n (p : Nat → Nat) {k j : Nat} (v : Nat) (h : j ≠ k) : pu p k v j = p j := by simp [pu, h]
def rot (p : Nat → Nat) : Nat → Nat := fun i => if i < 5 then p (i + 1) else if i = 5 then p 0 else p i
def wfV (V : VG) : Prop := V.1 0 < 6 ∧ V.1 1 < 6 ∧ V.1 2 < 6 ∧ V.1 3 < 6 ∧ V.1 4 < 6 ∧ V.1 5 < 6
theorem wfV.lt {V : VG} (h : wfV V) {i : Nat} (hi : i < 6) : V.1 i < 6 := by
  obtain ⟨h0, h1, h2, h3, h4, h5⟩ := h
  match i, hi with
  | 0, _ => exact h0
  | 1, _ => exact h1
  | 2, _ => exact h2
  | 3, _ => exact h3
  | 4, _ => exact h4
  | 5, _ => exact h5
theorem putV_in (f : AH) (V : VG) {a : Nat} (h : 48 ≤ a ∧ a < 187) : putV f V a = some (vC V a) := by unfold putV; rw [if_pos h]
theorem putV_ext {f : AH} {V W : VG} (h1 : ∀ i, i < 6 → V.1 i = W.1 i) (h2 : ∀ i, i < 6 → V.2 i = W.2 i) : putV f V = putV f W := by
  funext a
  by_cases h : 48 ≤ a ∧ a < 187
  · rw [putV_in f V h, putV_in f W h]
    unfold vC
    by_cases h3 : a = 48
    · rw [if_pos h3, if_pos h3]
      congr 2
      exact List.map_congr_left fun i hi => by rw [h1 i (List.mem_range.mp hi)]
    · rw [if_neg h3, if_neg h3, h2 _ (by omega)]
  · unfold putV; rw [if_neg h, if_neg h]
theorem putV_S (f : AH) (V : VG) {k : Nat} (hk : k < 6) (σ : SG) : putS (putV f V) (49 + 23 * k) σ = putV f (V.1, su V.2 k σ) := by
  funext a
  by_cases h1 : 49 + 23 * k ≤ a ∧ a < 49 + 23 * k + 23
  · have e1 : (a - 49) / 23 = k := by omega
    have e2 : (a - 49) % 23 = a - (49 + 23 * k) := by omega
    rw [putV_in _ _ (by omega)]
    unfold putS vC
    rw [if_pos h1, if_neg (by omega), e1, e2]
    unfold su
    dsimp only
    rw [if_pos rfl]
  · rw [putS_out _ _ (by omega)]
    by_cases h : 48 ≤ a ∧ a < 187
    · rw [putV_in f _ h, putV_in f _ h]
      unfold vC
      by_cases h3 : a = 48
      · rw [if_pos h3, if_pos h3]
      · have e1 : ¬ (a - 49) / 23 = k := by omega
        rw [if_neg h3, if_neg h3]
        unfold su
        dsimp only
        rw [if_neg e1]
    · unfold putV; rw [if_neg h, if_neg h]
theorem su_self (S : Nat → SG) (k : Nat) : su S k (S k) = S := by
  funext j; unfold su
  by_cases h : j = k
  · rw [if_pos h, h]
  · rw [if_neg h]
theorem PP_putS (g : AH) (sc : Int) (T : TG) (τ σ s : SG) {b : Nat} (h : 48 ≤ b ∧ b + 23 ≤ 187) : PP (putS g b s) sc T τ σ = putS (PP g sc T τ σ) b s := by
  unfold PP
  rw [aup_putS _ _ _ (by omega), putT_putS _ _ _ (by omega), putS_comm (b := b) (d := 25) _ s τ (by omega), putS_comm (b := b) (d := 2) _ s σ (by omega)]
section CV
variable {xs : List Int} {f : AH} {V : VG} {sc : Int} {T : TG} {τ σ : SG} {μ : Mu} {y pc : Nat} {L st : List AV} {Q : Out → Mu → AH → Prop}
theorem PV_in {a : Nat} (h : 48 ≤ a ∧ a < 187) : PP (putV f V) sc T τ σ a = some (vC V a) := by
  rw [PP_V, putV_in _ _ h]
theorem V_48 : PP (putV f V) sc T τ σ 48 = some (rC ((List.range 6).map fun i => some (49 + 23 * V.1 i))) := PV_in (by omega)
theorem V_q {i : Int} (h0 : 0 ≤ i) (h1 : i < 6) : gq (PP (putV f V) sc T τ σ) 48 i = some (vr (49 + 23 * V.1 i.toNat)) := by
  unfold gq
  rw [V_48]
  have e : ((List.range 6).map fun i => some (49 + 23 * V.1 i)).getD i.toNat none = some (49 + 23 * V.1 i.toNat) := by
    have hi : i.toNat < 6 := by omega
    simp [List.getD, hi]
  dsimp only [rC]
  rw [if_pos ⟨h0, by simp; omega⟩, e]
theorem V_n : aN xs y (PP (putV f V) sc T τ σ) 48 = some (vi 6) := by
  unfold aN an
  rw [V_48]
  rfl
theorem V_o {k : Nat} (hk : k < 6) : isO (PP (putV f V) sc T τ σ) (49 + 23 * k) 1 = true := by
  unfold isO
  rw [PV_in (by omega)]
  unfold vC
  rw [if_neg (by omega), show (49 + 23 * k - 49) % 23 = 0 by omega]
  rfl
theorem V_p {i : Int} {k : Nat} (h0 : 0 ≤ i) (h1 : i < 6) (hk : k < 6) : pq (PP (putV f V) sc T τ σ) 48 i (49 + 23 * k) = some (PP (putV f (pu V.1 i.toNat k, V.2)) sc T τ σ) := by
  unfold pq
  rw [V_48]
  dsimp only [rC]
  rw [if_pos ⟨h0, by simp; omega, V_o hk⟩]
  have hi : i.toNat < 6 := by omega
  congr 1
  rw [PP_V, PP_V]
  funext a
  by_cases ha : a = 48
  · subst ha
    rw [aup_same, putV_in _ _ (by omega)]
    unfold vC
    rw [if_pos rfl]
    show some (rC _) = some (rC _)
    congr 2
    apply List.ext_getElem
    · simp
    · intro n h2 h3
      simp only [List.length_set, List.length_map, List.length_range] at h2
      rw [List.getElem_set, List.getElem_map, List.getElem_map, List.getElem_range]
      unfold pu
      by_cases hn : i.toNat = n
      · simp [hn]
      · have hn2 : ¬ n = i.toNat := fun e => hn e.symm
        simp [hn, hn2]
  · rw [aup_ne _ _ ha]
    by_cases h : 48 ≤ a ∧ a < 187
    · rw [putV_in _ _ h, putV_in _ _ h]
      unfold vC
      rw [if_neg ha, if_neg ha]
    · unfold putV; rw [if_neg h, if_neg h]
theorem m12V {k : Nat} (hk : k < 6) : Runs xs 12 [vr (49 + 23 * k), vr 2] μ (PP (putV f V) sc T τ σ) (.inl none) μ (PP (putV f (V.1, su V.2 k σ)) sc T τ σ) := by
  have h := m12 (xs := xs) (μ := μ) (f := putS (putT (aup (putV f V) 1 (c1 sc)) 187 T) 25 τ) (b := 49 + 23 * k) (d := 2) (σ := V.2 k) (τ := σ) (by omega) (by decide) (by omega)
  have e : PP (putV f V) sc T τ σ = putS (PP (putV f V) sc T τ σ) (49 + 23 * k) (V.2 k) := by
    rw [← PP_putS _ _ _ _ _ _ (by omega), putV_S _ _ hk, su_self]
  rw [← putV_S f V hk σ, PP_putS _ _ _ _ _ _ (by omega)]
  generalize hg : putS (PP (putV f V) sc T τ σ) (49 + 23 * k) σ = H
  rw [e, ← hg]
  exact h
theorem m12U {k : Nat} (hk : k < 6) : Runs xs 12 [vr 2, vr (49 + 23 * k)] μ (PP (putV f V) sc T τ σ) (.inl none) μ (PP (putV f V) sc T τ (V.2 k)) := by
  have h := m12 (xs := xs) (μ := μ) (f := putS (putT (aup (putV f V) 1 (c1 sc)) 187 T) 25 τ) (b := 2) (d := 49 + 23 * k) (σ := σ) (τ := V.2 k) (by decide) (by omega) (by omega)
  have e : putS (putS (putT (aup (putV f V) 1 (c1 sc)) 187 T) 25 τ) (49 + 23 * k) (V.2 k) = putS (putT (aup (putV f V) 1 (c1 sc)) 187 T) 25 τ := by
    rw [putS_comm (b := 25) (d := 49 + 23 * k) _ τ (V.2 k) (by omega), ← putT_putS _ _ _ (by omega), ← aup_putS _ _ _ (by omega), putV_S _ _ hk, su_self]
  rw [e] at h
  exact h
theorem m43 (hV : wfV V) : Runs xs 43 [vr 1] μ (PP (putV f V) sc T τ σ) (.inl none) μ (PP (putV f (rot V.1, V.2)) 5 T τ σ) := Runs.iff fun Q hQ => by
  obtain ⟨h0, h1, h2, h3, h4, h5⟩ := hV
  show Wp xs 43 0 [vr 1, vu, vu] [] μ (PP (putV f V) sc T τ σ) Q
  have e : (PP (putV f (rot V.1, V.2)) 5 T τ σ) = PP (putV f (pu (pu (pu (pu (pu (pu (pu (pu (pu (pu V.1 0 (V.1 1)) 1 (V.1 0)) 1 (V.1 2)) 2 (V.1 0)) 2 (V.1 3)) 3 (V.1 0)) 3 (V.1 4)) 4 (V.1 0)) 4 (V.1 5)) 5 (V.1 0), V.2)) 5 T τ σ := by
    congr 1
  rw [e] at hQ
  simp (disch := first | assumption | omega | rfl) only [e43_0, e43_1, e43_2, e43_3, e43_4, e43_7, e43_8, e43_11, e43_12, e43_15, e43_16, e43_17, e43_18, e43_19, e43_20, e43_21, e43_24, e43_25, e43_26, e43_27, e43_28, e43_31, e43_32, e43_33, e43_34, e43_35, e43_38, e43_39, e43_40, e43_41, e43_44, e43_47, e43_48, e43_49, e43_52, e43_53, e43_54, e43_55, e43_58, WpV_some, WpH_some, ↓ite_t, ↓ite_f, P_f0, P_f1, P_f2, P_f3, P_f4, P_n0, P_n1, P_n2, P_n3, P_n4, P_n5, P_n6, P_n7, P_n8, P_n9, P_n10, P_n11, P_n12, P_n13, P_t0, P_t1, P_t2, P_t3, P_t4, P_t5, P_t6, P_t7, P_t8, P_t9, P_t10, P_t11, P_t12, P_t13, P_x0, P_x1, V_n, V_q, V_p, P_p3, wrp_id, Int.reduceAdd, Int.reduceSub, Int.reduceToNat, pu_s, pu_n]
  exact hQ
def svV (V : VG) (sc : Int) (σ : SG) : VG := if sc < 6 then (V.1, su V.2 (V.1 sc.toNat) σ) else (rot V.1, su V.2 (V.1 0) σ)
def svC (sc : Int) : Int := if sc < 6 then sc + 1 else 6
theorem m42 (hV : wfV V) (h0 : 0 ≤ sc) (h6 : sc ≤ 6) : Runs xs 42 [vr 1] μ (PP (putV f V) sc T τ σ) (.inl none) μ (PP (putV f (svV V sc σ)) (svC sc) T τ σ) := Runs.iff fun Q hQ => by
  show Wp xs 42 0 [vr 1, vu] [] μ (PP (putV f V) sc T τ σ) Q
  unfold svV svC at hQ
  by_cases h : sc < 6
  · rw [if_pos h, if_pos h] at hQ
    have hk := hV.lt (show sc.toNat < 6 by omega)
    simp (disch := first | assumption | omega | rfl) only [e42_0, e42_1, e42_4, e42_5, e42_8, e42_9, e42_12, e42_13, e42_16, e42_17, e42_20, e42_23, e42_24, e42_27, e42_28, e42_31, e42_32, e42_35, e42_36, e42_39, e42_40, e42_43, e42_44, e42_45, e42_46, e42_49, e42_50, e42_51, e42_54, e42_57, e42_58, e42_59, e42_62, e42_63, e42_64, e42_67, WpV_some, WpH_some, ↓ite_t, ↓ite_f, P_f0, P_f1, P_f2, P_f3, P_f4, P_n0, P_n1, P_n2, P_n3, P_n4, P_n5, P_n6, P_n7, P_n8, P_n9, P_n10, P_n11, P_n12, P_n13, P_t0, P_t1, P_t2, P_t3, P_t4, P_t5, P_t6, P_t7, P_t8, P_t9, P_t10, P_t11, P_t12, P_t13, P_x0, P_x1, V_n, V_q, cI_n (m12V hk) (V_o hk) (show 49 + 23 * V.1 sc.toNat ≠ 0 by omega), P_p3, wrp_id]
    exact hQ
  · rw [if_neg h, if_neg h] at hQ
    have hk := hV.lt (show 0 < 6 by omega)
    have hV2 : rot V.1 (5 : Int).toNat = V.1 0 := rfl
    simp (disch := first | assumption | omega | rfl) only [e42_0, e42_1, e42_4, e42_5, e42_8, e42_9, e42_12, e42_13, e42_16, e42_17, e42_20, e42_23, e42_24, e42_27, e42_28, e42_31, e42_32, e42_35, e42_36, e42_39, e42_40, e42_43, e42_44, e42_45, e42_46, e42_49, e42_50, e42_51, e42_54, e42_57, e42_58, e42_59, e42_62, e42_63, e42_64, e42_67, WpV_some, WpH_some, ↓ite_t, ↓ite_f, P_f0, P_f1, P_f2, P_f3, P_f4, P_n0, P_n1, P_n2, P_n3, P_n4, P_n5, P_n6, P_n7, P_n8, P_n9, P_n10, P_n11, P_n12, P_n13, P_t0, P_t1, P_t2, P_t3, P_t4, P_t5, P_t6, P_t7, P_t8, P_t9, P_t10, P_t11, P_t12, P_t13, P_x0, P_x1, V_n, cI_n (m43 hV) P_o (show 1 ≠ 0 by decide), V_q, hV2, cI_n (m12V (V := (rot V.1, V.2)) hk) (V_o hk) (show 49 + 23 * V.1 0 ≠ 0 by omega), P_p3, wrp_id, Int.reduceAdd]
    exact hQ
end CV
