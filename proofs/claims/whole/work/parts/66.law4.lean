/-! THE LAW: its loop, its run -/
section LP
variable {xs : List Int} {μ : Mu} {i : Int} {c : Int64} {l5 l6 l7 l8 : AV} {V : VG} {sc : Int} {T : TG} {τ σ : SG} {M : MG} {H : AH}
theorem stp.of {a b : Nat} (h : stp xs b i l5 l6 l7 l8 μ H) (e : ∀ Q : Out → Mu → AH → Prop, Wp xs 0 a [vr 0, vr 1, vr 190, vr 197, vi i, l5, l6, l7, l8] [] μ H Q = Wp xs 0 b [vr 0, vr 1, vr 190, vr 197, vi i, l5, l6, l7, l8] [] μ H Q) : stp xs a i l5 l6 l7 l8 μ H := by
  obtain ⟨c, V, sc, T, τ, σ, M, μ', k5, k6, k7, k8, h1, h2, h3, h4⟩ := h
  exact ⟨c, V, sc, T, τ, σ, M, μ', k5, k6, k7, k8, h1, h2, h3, fun Q => (e Q).trans (h4 Q)⟩
theorem body_sw (h : inv σ T V sc M) (i0 : 0 ≤ i) (i1 : i + 3 < xs.length) (il : xs.length ≤ 2048) : stp xs 32 i l5 l6 l7 l8 μ (GG c V sc T τ σ M) := by
  have hd : ∀ Q : Out → Mu → AH → Prop, Wp xs 0 32 [vr 0, vr 1, vr 190, vr 197, vi i, l5, l6, l7, l8] [] μ (GG c V sc T τ σ M) Q = Wp xs 0 39 [vr 0, vr 1, vr 190, vr 197, vi i, l5, l6, l7, l8] [vi (iAnd (xs.getD i.toNat 0) 31)] μ (GG c V sc T τ σ M) Q := fun Q => by
    simp (disch := first | omega | rfl) only [e0_32, e0_33, e0_35, e0_36, e0_38, WpV_some, WpH_some, ↓ite_t, ↓ite_f, law_g]
  generalize iAnd (xs.getD i.toNat 0) 31 = w at hd
  by_cases c0 : w < 0 ∨ 23 < w
  · refine stp.of (b := 1241) ⟨c, V, sc, T, τ, σ, M, μ, l5, l6, l7, l8, h, Nat.le_add_right _ _, Nat.le_add_right _ _, fun Q => rfl⟩ fun Q => ?_
    rw [hd, e0_39_d c0]
  · have hw : w = 0 ∨ w = 1 ∨ w = 2 ∨ w = 3 ∨ w = 4 ∨ w = 5 ∨ w = 6 ∨ w = 7 ∨ w = 8 ∨ w = 9 ∨ w = 10 ∨ w = 11 ∨ w = 12 ∨ w = 13 ∨ w = 14 ∨ w = 15 ∨ w = 16 ∨ w = 17 ∨ w = 18 ∨ w = 19 ∨ w = 20 ∨ w = 21 ∨ w = 22 ∨ w = 23 := by omega
    rcases hw with rfl | rfl | rfl | rfl | rfl | rfl | rfl | rfl | rfl | rfl | rfl | rfl | rfl | rfl | rfl | rfl | rfl | rfl | rfl | rfl | rfl | rfl | rfl | rfl
    · exact (op_0 h).of fun Q => by rw [hd, e0_39_0]
    · exact (op_1 h i0 i1 il).of fun Q => by rw [hd, e0_39_1]
    · exact (op_2 h i0 i1 il).of fun Q => by rw [hd, e0_39_2]
    · exact (op_3 h i0 i1 il).of fun Q => by rw [hd, e0_39_3]
    · exact (op_4 h i0 i1 il).of fun Q => by rw [hd, e0_39_4]
    · exact (op_5 h i0 i1 il).of fun Q => by rw [hd, e0_39_5]
    · exact (op_6 h i0 i1 il).of fun Q => by rw [hd, e0_39_6]
    · exact (op_7 h).of fun Q => by rw [hd, e0_39_7]
    · exact (op_8 h i0 i1 il).of fun Q => by rw [hd, e0_39_8]
    · exact (op_9 h).of fun Q => by rw [hd, e0_39_9]
    · exact (op_10 h).of fun Q => by rw [hd, e0_39_10]
    · exact (op_11 h).of fun Q => by rw [hd, e0_39_11]
    · exact (op_12 h i0 i1 il).of fun Q => by rw [hd, e0_39_12]
    · exact (op_13 h i0 i1 il).of fun Q => by rw [hd, e0_39_13]
    · exact (op_14 h i0 i1 il).of fun Q => by rw [hd, e0_39_14]
    · exact (op_15 h i0 i1 il).of fun Q => by rw [hd, e0_39_15]
    · exact (op_16 h).of fun Q => by rw [hd, e0_39_16]
    · exact (op_17 h i0 i1 il).of fun Q => by rw [hd, e0_39_17]
    · exact (op_18 h).of fun Q => by rw [hd, e0_39_18]
    · exact (op_19 h i0 i1 il).of fun Q => by rw [hd, e0_39_19]
    · exact (op_20 h i0 i1 il).of fun Q => by rw [hd, e0_39_20]
    · exact (op_21 h).of fun Q => by rw [hd, e0_39_21]
    · exact (op_22 h).of fun Q => by rw [hd, e0_39_22]
    · exact (op_23 h).of fun Q => by rw [hd, e0_39_23]
theorem law_loop (il : xs.length ≤ 2048) : ∀ (n : Nat) (i : Int) (c : Int64) (V : VG) (sc : Int) (T : TG) (τ σ : SG) (M : MG) (μ : Mu) (l5 l6 l7 l8 : AV), 0 ≤ i → i ≤ 4096 → (xs.length : Int) - i < 4 * (n + 1) → inv σ T V sc M → μ.2.1 + n ≤ 601024 → μ.2.2 + 6 * n ≤ 7293033 → Wp xs 0 23 [vr 0, vr 1, vr 190, vr 197, vi i, l5, l6, l7, l8] [] μ (GG c V sc T τ σ M) (fun o μ' _ => o = .inl (some (vi 1)) ∧ μ'.2.1 ≤ 601024 ∧ μ'.2.2 ≤ 7293033) := by
  intro n
  induction n with
  | zero =>
    intro i c V sc T τ σ M μ l5 l6 l7 l8 i0 i4 hi h m1 m2
    simp (disch := first | omega | rfl) only [e0_23, e0_25, e0_26, e0_27, e0_28, e0_29, e0_1247, e0_1248, WpV_some, WpH_some, ↓ite_t, ↓ite_f, law_n, wrp_id]
    exact ⟨trivial, by omega, by omega⟩
  | succ n ih =>
    intro i c V sc T τ σ M μ l5 l6 l7 l8 i0 i4 hi h m1 m2
    by_cases c1 : (xs.length : Int) - 4 < i
    · simp (disch := first | omega | rfl) only [e0_23, e0_25, e0_26, e0_27, e0_28, e0_29, e0_1247, e0_1248, WpV_some, WpH_some, ↓ite_t, ↓ite_f, law_n, wrp_id]
      exact ⟨trivial, by omega, by omega⟩
    · obtain ⟨c', V', sc', T', τ', σ', M', μ', k5, k6, k7, k8, h1, h2, h3, h4⟩ := body_sw (xs := xs) (μ := μ) (c := c) (τ := τ) (l5 := l5) (l6 := l6) (l7 := l7) (l8 := l8) h i0 (by omega) il
      have q := ih (i + 4) c' V' sc' T' τ' σ' M' μ' k5 k6 k7 k8 (by omega) (by omega) (by omega) h1 (by omega) (by omega)
      simp (disch := first | omega | rfl) only [e0_23, e0_25, e0_26, e0_27, e0_28, e0_29, WpV_some, WpH_some, ↓ite_t, ↓ite_f, law_n, wrp_id]
      rw [h4]
      simp (disch := first | omega | rfl) only [e0_1241, e0_1244, wrp_id]
      exact q
theorem rel0 : rel sg0 z0 := by
  have e4 : ∀ f : Nat, f < 6 → z0 (5 + f) = -1 := fun f hf => by unfold z0; rw [if_neg (by omega), if_pos (by omega)]
  have eh : ∀ j : Nat, 11 ≤ j → z0 j = 0 := fun j hj => by unfold z0; rw [if_neg (by omega), if_neg (by omega)]
  refine ⟨⟨⟨by decide, by decide, by decide, by decide, by decide⟩, rfl, rfl, rfl⟩, ⟨fun i hi => ?_, fun i hi => ?_, fun i hi hj => ?_⟩, ⟨⟨0, by decide, rfl, fun p hp => ?_⟩, ⟨0, by decide, rfl, fun p hp => ?_⟩, ⟨fun p hp => ?_, fun f hf => ?_, fun f p hf hp => ?_⟩⟩, fun p hp => ⟨rfl, rfl⟩, fun p hp => ?_, ?_⟩
  · have hi : (i : Int) < 0 := hi
    omega
  · have hi : (i : Int) < 0 := hi
    omega
  · have hj : (i : Int) < 0 := hj
    omega
  · show (0 : Int) = bI 0 p
    unfold bI
    rw [if_neg (by simp)]
  · show (0 : Int) = bI 0 p
    unfold bI
    rw [if_neg (by simp)]
  · show -1 ≤ (-1 : Int) ∧ (-1 : Int) < 3
    omega
  · rw [e4 f hf]; omega
  · rw [e4 f hf]
    show (-1 : Int) = p ↔ (-1 : Int) = f
    omega
  · rw [eh _ (by omega), eh _ (by omega)]
    show (0 : Int) = 0 ∧ (0 : Int) = 0 ∧ (0 : Int) ≤ 0 ∧ (0 : Int) ≤ 0 ∧ (0 : Int) ≤ 0 ∧ (0 : Int) + 0 ≤ 0
    omega
  · show sm8 (fun _ => 0) ≤ 3 - 1
    decide
theorem inv0 : inv sg0 T0 V0 0 M0 := by
  refine ⟨rel0, ⟨⟨Int.le_refl 0, (by decide : (0 : Int) ≤ 40), fun j => ?_⟩, rfl, fun i hi => ?_⟩, rfl, Int.le_refl 0, (by decide : (0 : Int) ≤ 6), ⟨by decide, by decide, by decide, by decide, by decide, by decide⟩, fun i j _ _ e => e, fun k hk => ?_⟩
  · show -1 ≤ (0 : Int) ∧ (0 : Int) ≤ 1000
    omega
  · have hi : (i : Int) < 0 := hi
    omega
  · omega
theorem heap0 (X Y : AC) : aup (putM (aup (PP (putV (aup (fun _ => none) 1 X) V0) 0 T0 sg0 sg0) 190 Y) M0) 197 (lC [0]) = GG 0 V0 0 T0 sg0 sg0 M0 := by
  rw [GG_m]
  funext a
  by_cases h : a = 197
  · subst h
    rw [aup_same, putM_out _ _ (by omega), PP_hi _ (by decide)]
    unfold G0
    rw [aup_same]
  · rw [aup_ne _ _ h]
    by_cases h2 : 190 ≤ a ∧ a < 197
    · obtain ⟨k, rfl⟩ : ∃ k, a = 190 + k := ⟨a - 190, by omega⟩
      rw [putM_in _ _ (by omega), putM_in _ _ (by omega)]
    · rw [putM_out _ _ (by omega), putM_out _ _ (by omega), aup_ne _ _ (by omega)]
      by_cases h3 : a = 1
      · subst h3; rw [PP_1, PP_1]
      · by_cases h4 : a < 190
        · refine PP_lo _ _ h4 ?_
          unfold G0
          rw [aup_ne _ _ h3, aup_ne _ _ h]
        · rw [PP_hi _ (by omega), PP_hi _ (by omega)]
          unfold G0
          rw [aup_ne _ _ h3, aup_ne _ _ h]
theorem law_runs (il : xs.length ≤ 2048) : LawRuns xs := by
  have key : Wp xs 0 0 (ini 0 [vr 0]) [] (0, (0, 0)) (fun _ => none) (fun o μ' _ => o = .inl (some (vi 1)) ∧ μ'.2.1 ≤ 601024 ∧ μ'.2.2 ≤ 7293033) := by
    show Wp xs 0 0 [vr 0, vu, vu, vu, vu, vu, vu, vu, vu] [] (0, (0, 0)) (fun _ => none) _
    have q := law_loop (xs := xs) il 512 0 0 V0 0 T0 sg0 sg0 M0 (197, (197, 6602)) vu vu vu vu (by decide) (by decide) (by omega) inv0 (by decide) (by decide)
    have o1 : isO (aup (fun _ => none) 1 (oC 3 (dfs 3))) 1 3 = true := by unfold isO; rw [aup_same]; rfl
    have q1 := cI_n (m40 (xs := xs) (c := 1) (s := 5) (f := aup (fun _ => none) 1 (oC 3 (dfs 3))) (aup_same _ _ _)) o1 h1'
    have o2 : isO (aup (PP (putV (aup (fun _ => none) 1 (oC 3 (dfs 3))) V0) 0 T0 sg0 sg0) 190 (oC 4 (dfs 4))) 190 4 = true := by unfold isO; rw [aup_same]; rfl
    have q2 := cI_n (m73 (xs := xs) (c := 190) (s := 3273) (f := aup (PP (putV (aup (fun _ => none) 1 (oC 3 (dfs 3))) V0) 0 T0 sg0 sg0) 190 (oC 4 (dfs 4))) (aup_same _ _ _)) o2 h190
    have e3 : List.replicate 1 (0 : Int64) = [0] := rfl
    simp (disch := first | omega | rfl) only [e0_0, e0_3, e0_4, e0_7, e0_8, e0_11, e0_12, e0_15, e0_16, e0_17, e0_19, e0_20, e0_21, WpV_some, WpH_some, ↓ite_t, ↓ite_f, show cF 3 = 5 from rfl, show cF 4 = 11 from rfl, Nat.zero_add, Nat.reduceAdd, q1, q2, Int.reduceToNat, e3, heap0]
    exact q
  obtain ⟨k, o, μ', f', hk, rfl, h1, h2⟩ := key
  exact ⟨k, μ', f', hk, h1, h2⟩
end LP
