/-! THE LAW: which call, what is told behind it, the loop, the start -/
section LLP
variable {xs : List Int} {f H : AH} {X Y : LG} {V V' : VG} {sc sc' : Int} {T T' : TG} {τ τ' σ σ' s : SG} {μ : Mu} {y pc : Nat} {L st : List AV} {Q : Out → Mu → AH → Prop}
section SK
variable {a1 : Nat} {k hv kd al lf : Int} {l11 l12 l13 l14 : AV}
theorem s114 (hk : 4 ≤ kd) (c : 9 ≤ kd ∨ lf ≤ 0) : Wp xs 0 114 [vr 0, vr 1, vr 190, vr 191, vr 192, vi k, vi hv, vi kd, vi al, vi lf, vi 1, l11, l12, l13, l14] [] μ H Q = Wp xs 0 281 [vr 0, vr 1, vr 190, vr 191, vr 192, vi k, vi hv, vi kd, vi al, vi lf, vi 1, l11, l12, l13, l14] [] μ H Q := by
  by_cases c2 : 9 ≤ kd
  · simp (disch := first | omega | rfl) only [e0_114, e0_116, e0_117, e0_186, e0_188, e0_190, WpV_some, WpH_some, ↓ite_t, ↓ite_f, hk, c2, ↓reduceIte]
  · have c3 : lf ≤ 0 := by omega
    simp (disch := first | omega | rfl) only [e0_114, e0_116, e0_117, e0_186, e0_188, e0_190, e0_193, e0_195, WpV_some, WpH_some, ↓ite_t, ↓ite_f, hk, c2, c3, ↓reduceIte]
theorem s281 (c : kd ≠ 9) : Wp xs 0 281 [vr 0, vr 1, vr 190, vr 191, vr 192, vi k, vi hv, vi kd, vi al, vi lf, vi 1, l11, l12, l13, l14] [] μ H Q = Wp xs 0 401 [vr 0, vr 1, vr 190, vr 191, vr 192, vi k, vi hv, vi kd, vi al, vi lf, vi 1, l11, l12, l13, l14] [] μ H Q := by
  simp (disch := first | assumption | omega | rfl) only [e0_281, e0_283, e0_285, WpV_some, WpH_some, ↓ite_t, ↓ite_f]
theorem s401 (c : kd ≠ 10) : Wp xs 0 401 [vr 0, vr 1, vr 190, vr 191, vr 192, vi k, vi hv, vi kd, vi al, vi lf, vi 1, l11, l12, l13, l14] [] μ H Q = Wp xs 0 492 [vr 0, vr 1, vr 190, vr 191, vr 192, vi k, vi hv, vi kd, vi al, vi lf, vi 1, l11, l12, l13, l14] [] μ H Q := by
  simp (disch := first | assumption | omega | rfl) only [e0_401, e0_403, e0_405, WpV_some, WpH_some, ↓ite_t, ↓ite_f]
theorem s492 (c : kd ≠ 11) : Wp xs 0 492 [vr 0, vr 1, vr 190, vr 191, vr 192, vi k, vi hv, vi kd, vi al, vi lf, vi 1, l11, l12, l13, l14] [] μ H Q = Wp xs 0 565 [vr 0, vr 1, vr 190, vr 191, vr 192, vi k, vi hv, vi kd, vi al, vi lf, vi 1, l11, l12, l13, l14] [] μ H Q := by
  simp (disch := first | assumption | omega | rfl) only [e0_492, e0_494, e0_496, WpV_some, WpH_some, ↓ite_t, ↓ite_f]
theorem s565 (c : kd ≠ 12 ∨ 80 ≤ al) : Wp xs 0 565 [vr 0, vr 1, vr 190, vr 191, vr 192, vi k, vi hv, vi kd, vi al, vi lf, vi 1, l11, l12, l13, l14] [] μ H Q = Wp xs 0 734 [vr 0, vr 1, vr 190, vr 191, vr 192, vi k, vi hv, vi kd, vi al, vi lf, vi 1, l11, l12, l13, l14] [] μ H Q := by
  by_cases c2 : kd ≠ 12
  · simp (disch := first | assumption | omega | rfl) only [e0_565, e0_567, e0_569, WpV_some, WpH_some, ↓ite_t, ↓ite_f]
  · have c3 : 80 ≤ al := by omega
    simp (disch := first | omega | rfl) only [e0_565, e0_567, e0_569, e0_572, e0_574, e0_576, WpV_some, WpH_some, ↓ite_t, ↓ite_f, c2, c3, ↓reduceIte]
theorem s734 (c : kd ≠ 13 ∨ lf ≤ 0) : Wp xs 0 734 [vr 0, vr 1, vr 190, vr 191, vr 192, vi k, vi hv, vi kd, vi al, vi lf, vi 1, l11, l12, l13, l14] [] μ H Q = Wp xs 0 845 [vr 0, vr 1, vr 190, vr 191, vr 192, vi k, vi hv, vi kd, vi al, vi lf, vi 1, l11, l12, l13, l14] [] μ H Q := by
  by_cases c2 : kd ≠ 13
  · simp (disch := first | assumption | omega | rfl) only [e0_734, e0_736, e0_738, WpV_some, WpH_some, ↓ite_t, ↓ite_f]
  · have c3 : lf ≤ 0 := by omega
    simp (disch := first | omega | rfl) only [e0_734, e0_736, e0_738, e0_741, e0_743, WpV_some, WpH_some, ↓ite_t, ↓ite_f, c2, c3, ↓reduceIte]
theorem s845 (c : kd ≠ 14 ∨ lf ≤ 0) : Wp xs 0 845 [vr 0, vr 1, vr 190, vr 191, vr 192, vi k, vi hv, vi kd, vi al, vi lf, vi 1, l11, l12, l13, l14] [] μ H Q = Wp xs 0 940 [vr 0, vr 1, vr 190, vr 191, vr 192, vi k, vi hv, vi kd, vi al, vi lf, vi 1, l11, l12, l13, l14] [] μ H Q := by
  by_cases c2 : kd ≠ 14
  · simp (disch := first | assumption | omega | rfl) only [e0_845, e0_847, e0_849, WpV_some, WpH_some, ↓ite_t, ↓ite_f]
  · have c3 : lf ≤ 0 := by omega
    simp (disch := first | omega | rfl) only [e0_845, e0_847, e0_849, e0_852, e0_854, WpV_some, WpH_some, ↓ite_t, ↓ite_f, c2, c3, ↓reduceIte]
end SK
theorem kd_all (h : ks σ) (hV : wfV V) (h0 : 0 ≤ sc) (h6 : sc ≤ 6) (hT : wfT T) {k hv kd : Int} (l11 l12 l13 l14 : AV) (hN : ND xs k hv kd (σ.2 0) (σ.2 0 - σ.2 1) μ Q) : Wp xs 0 114 [vr 0, vr 1, vr 190, vr 191, vr 192, vi k, vi hv, vi kd, vi (σ.2 0), vi (σ.2 0 - σ.2 1), vi 1, l11, l12, l13, l14] [] μ (PP (putL (putV f V) 190 (lw σ)) sc T τ σ) Q := by
  obtain ⟨w1, w2, w3, w4, w5⟩ := id h.wf
  by_cases c0 : kd < 4
  · exact kd_ext h hV h0 h6 hT c0 l11 l12 l13 l14 hN
  by_cases c1 : kd < 9 ∧ σ.2 1 < σ.2 0
  · exact kd_go h hV h0 h6 hT (by omega) c1.1 c1.2 l11 l12 l13 l14 hN
  rw [s114 (by omega) (by omega)]
  by_cases c9 : kd = 9
  · subst c9; exact kd_pin h hV h0 h6 hT l11 l12 l13 l14 hN
  rw [s281 c9]
  by_cases c10 : kd = 10
  · subst c10; exact kd_frames h hV h0 h6 hT l11 l12 l13 l14 hN
  rw [s401 c10]
  by_cases c11 : kd = 11
  · subst c11; exact kd_flush h hV h0 h6 hT l11 l12 l13 l14 hN
  rw [s492 c11]
  by_cases c12 : kd = 12 ∧ σ.2 0 < 80
  · obtain ⟨rfl, c⟩ := c12; exact kd_insert h hV h0 h6 hT c l11 l12 l13 l14 hN
  rw [s565 (by omega)]
  by_cases c13 : kd = 13 ∧ σ.2 1 < σ.2 0
  · obtain ⟨rfl, c⟩ := c13; exact kd_drop h hV h0 h6 hT c l11 l12 l13 l14 hN
  rw [s734 (by omega)]
  by_cases c14 : kd = 14 ∧ σ.2 1 < σ.2 0
  · obtain ⟨rfl, c⟩ := c14; exact kd_swap h hV h0 h6 hT c l11 l12 l13 l14 hN
  rw [s845 (by omega)]
  exact hN f V sc T τ σ h hV h0 h6 hT _ _ _ _
theorem tail (h : ks σ) (hm : 192 ≤ μ.1) {k : Nat} (hk : k < 48) (hv kd al lf : Int) (l11 l12 l13 l14 : AV) (hX : ∀ (f' : AH) (τ' : SG) (μ' : Mu), 192 ≤ μ'.1 → μ'.2.1 ≤ μ.2.1 + 6 → μ'.2.2 ≤ μ.2.2 + 114 → ∀ l6 l7 l8 l9 l10 l11 l12 l13 l14 : AV, Wp xs 0 71 [vr 0, vr 1, vr 190, vr 191, vr 192, vi ((k : Int) + 1), l6, l7, l8, l9, l10, l11, l12, l13, l14] [] μ' (PP (putL (putV f' V) 190 (lw σ)) sc T τ' σ) Q) : Wp xs 0 940 [vr 0, vr 1, vr 190, vr 191, vr 192, vi k, vi hv, vi kd, vi al, vi lf, vi 1, l11, l12, l13, l14] [] μ (PP (putL (putV f V) 190 (lw σ)) sc T τ σ) Q := by
  have r3 := lwv_r (iShr hv 18) (n := 3) (by decide) (by decide)
  have k80 := cC_v (n80 (xs := xs) (f := putV f V) (sc := sc) (T := T) (τ := τ) (μ := μ) h)
  have k4 : iRem (k : Int) 4 = ((k % 4 : Nat) : Int) := iRem_n (m := 4) (by omega) (by omega) (by omega)
  have k12 : iRem (k : Int) 12 = ((k % 12 : Nat) : Int) := iRem_n (m := 12) (by omega) (by omega) (by omega)
  have one : ¬ (1 : Int) = 0 := by decide
  have one' : (1 : Int) ≠ 0 := by decide
  generalize hr : lwv (iShr hv 18) 3 = rule at r3
  have hru : rule = 0 ∨ rule = 1 ∨ rule = 2 := by omega
  have k81 := cC_v (n81 (xs := xs) (f := f) (V := V) (sc := sc) (T := T) (τ := τ) (μ := μ) h hm hru)
  have k81z := cC_v (n81 (xs := xs) (f := f) (V := V) (sc := sc) (T := T) (τ := τ) (μ := μ) h hm (rule := 0) (Or.inl rfl))
  have k81y := cC_v (n81 (xs := xs) (f := putL f (μ.1 + 1) (lw (fn σ rule))) (V := V) (sc := sc) (T := T) (τ := fn σ 0) (μ := (μ.1 + 3, (μ.2.1 + 3, μ.2.2 + 57))) h (Nat.le_trans hm (Nat.le_add_right _ _)) (rule := 0) (Or.inl rfl))
  have lo := cC_v (m74 (xs := xs) (g := PP (putL (putV f V) 190 (lw σ)) sc T τ σ) (μ := μ) (iShr hv 18) (n := 3) (by decide))
  rw [hr] at lo
  have ek : wrp ((k : Int) + 1) = (k : Int) + 1 := wrp_id (by omega) (by omega)
  by_cases c4 : k % 4 = 3
  · have c4' : ¬ (((k % 4 : Nat) : Int) ≠ 3) := by omega
    by_cases c12 : k % 12 = 11
    · have c12' : ¬ (((k % 12 : Nat) : Int) ≠ 11) := by omega
      simp (disch := first | omega | rfl) only [e0_940, e0_942, e0_945, e0_946, e0_947, e0_948, e0_950, e0_953, e0_956, e0_958, e0_959, e0_960, e0_961, e0_964, e0_965, e0_966, e0_967, e0_969, e0_971, e0_973, e0_974, e0_975, e0_978, e0_981, e0_984, e0_986, e0_988, e0_989, e0_991, e0_994, e0_995, e0_996, e0_997, e0_999, e0_1000, e0_1003, e0_1006, e0_1007, e0_1008, e0_1011, WpV_some, WpH_some, ↓ite_t, ↓ite_f, k80, k4, k12, k81, k81y, lo, one, one', c4', c12', ek, ↓reduceIte]
      exact hX _ _ _ (by show 192 ≤ μ.1 + 3 + 3; omega) (by show μ.2.1 + 3 + 3 ≤ _; omega) (by show μ.2.2 + 57 + 57 ≤ _; omega) _ _ _ _ _ _ _ _ _
    · have c12' : ((k % 12 : Nat) : Int) ≠ 11 := by omega
      simp (disch := first | omega | rfl) only [e0_940, e0_942, e0_945, e0_946, e0_947, e0_948, e0_950, e0_953, e0_956, e0_958, e0_959, e0_960, e0_961, e0_964, e0_965, e0_966, e0_967, e0_969, e0_971, e0_973, e0_974, e0_975, e0_978, e0_981, e0_984, e0_986, e0_988, e0_989, e0_991, e0_994, e0_995, e0_996, e0_997, e0_999, e0_1000, e0_1003, e0_1006, e0_1007, e0_1008, e0_1011, WpV_some, WpH_some, ↓ite_t, ↓ite_f, k80, k4, k12, k81, lo, one, c4', c12', ek, ↓reduceIte]
      exact hX _ _ _ (by show 192 ≤ μ.1 + 3; omega) (by show μ.2.1 + 3 ≤ _; omega) (by show μ.2.2 + 57 ≤ _; omega) _ _ _ _ _ _ _ _ _
  · have c4' : ((k % 4 : Nat) : Int) ≠ 3 := by omega
    by_cases c12 : k % 12 = 11
    · omega
    · have c12' : ((k % 12 : Nat) : Int) ≠ 11 := by omega
      simp (disch := first | omega | rfl) only [e0_940, e0_942, e0_945, e0_946, e0_947, e0_948, e0_950, e0_953, e0_956, e0_958, e0_959, e0_960, e0_961, e0_964, e0_965, e0_966, e0_967, e0_969, e0_971, e0_973, e0_974, e0_975, e0_978, e0_981, e0_984, e0_986, e0_988, e0_989, e0_991, e0_994, e0_995, e0_996, e0_997, e0_999, e0_1000, e0_1003, e0_1006, e0_1007, e0_1008, e0_1011, WpV_some, WpH_some, ↓ite_t, ↓ite_f, k80, k4, k12, one, c4', c12', ek, ↓reduceIte]
      exact hX _ _ _ hm (by omega) (by omega) _ _ _ _ _ _ _ _ _
def Qf : Out → Mu → AH → Prop := fun o μ' _ => o = .inl (some (vi 1)) ∧ μ'.2.1 ≤ 600130 ∧ μ'.2.2 ≤ 7301080
theorem law_loop (il : xs.length ≤ 260) : ∀ (d k : Nat) (f : AH) (V : VG) (sc : Int) (T : TG) (τ σ : SG) (μ : Mu) (l6 l7 l8 l9 l10 l11 l12 l13 l14 : AV), k + d = 48 → ks σ → wfV V → 0 ≤ sc → sc ≤ 6 → wfT T → 192 ≤ μ.1 → μ.2.1 ≤ 200 + 6 * k → μ.2.2 ≤ 4000 + 114 * k → Wp xs 0 71 [vr 0, vr 1, vr 190, vr 191, vr 192, vi k, l6, l7, l8, l9, l10, l11, l12, l13, l14] [] μ (PP (putL (putV f V) 190 (lw σ)) sc T τ σ) Qf := by
  intro d
  induction d with
  | zero =>
    intro k f V sc T τ σ μ l6 l7 l8 l9 l10 l11 l12 l13 l14 hk h hV h0 h6 hT hm hc hs
    have hk : k = 48 := by omega
    subst hk
    have c : (48 : Int) ≤ ((48 : Nat) : Int) := by decide
    simp (disch := first | exact Or.inr rfl | omega | rfl) only [e0_71, e0_73, e0_75, e0_1014, e0_1015, WpV_some, WpH_some, ↓ite_t, ↓ite_f, c]
    exact ⟨rfl, by omega, by omega⟩
  | succ d ih =>
    intro k f V sc T τ σ μ l6 l7 l8 l9 l10 l11 l12 l13 l14 hk h hV h0 h6 hT hm hc hs
    obtain ⟨w1, w2, w3, w4, w5⟩ := id h.wf
    have c : ¬ (48 : Int) ≤ (k : Int) := by omega
    have kc := cC_v (m73 (xs := xs) (g := PP (putL (putV f V) 190 (lw σ)) sc T τ σ) (μ := μ) k (by omega))
    have kl := cC_v (m74 (xs := xs) (g := PP (putL (putV f V) 190 (lw σ)) sc T τ σ) (μ := μ) (clv xs k) (n := 16) (by decide))
    rw [e0_71]
    simp (disch := first | omega | rfl) only [e0_73, e0_75, e0_78, e0_79, e0_81, e0_84, e0_86, e0_88, e0_90, e0_93, e0_95, e0_96, e0_97, e0_100, e0_102, e0_104, e0_106, e0_107, e0_108, e0_109, e0_111, e0_112, WpV_some, WpH_some, ↓ite_t, ↓ite_f, kc, kl, cI_v (m52 (σ := σ) h.wf 0 (by omega) (by omega)) P_o h1', Int.reduceToNat, cn_0, G_g2, lw_3, lT_1, wrp_id, c, ↓reduceIte]
    refine kd_all h hV h0 h6 hT _ _ _ _ (fun f V sc T τ σ h hV h0 h6 hT m11 m12 m13 m14 => ?_)
    refine tail h hm (by omega) _ _ _ _ _ _ _ _ (fun f' τ' μ' g1 g2 g3 n6 n7 n8 n9 n10 n11 n12 n13 n14 => ?_)
    have q := ih (k + 1) f' V sc T τ' σ μ' n6 n7 n8 n9 n10 n11 n12 n13 n14 (by omega) h hV h0 h6 hT g1 (by omega) (by omega)
    simp only [Int.natCast_add, Int.cast_ofNat_Int] at q
    exact q
/-- the rows at the start -/
def i0L (k : Nat) : LG := (fun j => if j < k then -1 else 0, (fun j => if j < k then (if j < 32 then 0 else -1) else 0, fun j => if j = 0 then 3 else 0))
theorem init_31 : ∀ (d k : Nat), k + d = 48 → (Wp xs 0 31 [vr 0, vr 1, vr 190, vr 191, vr 192, vi k, vu, vu, vu, vu, vu, vu, vu, vu, vu] [] μ (PP (putL f 190 (i0L k)) sc T τ σ) Q = Wp xs 0 68 [vr 0, vr 1, vr 190, vr 191, vr 192, vi 48, vu, vu, vu, vu, vu, vu, vu, vu, vu] [] μ (PP (putL f 190 (i0L 48)) sc T τ σ) Q) := by
  intro d
  induction d with
  | zero =>
    intro k hk
    have hk : k = 48 := by omega
    subst hk
    have c : (48 : Int) ≤ ((48 : Nat) : Int) := by decide
    simp (disch := first | omega | rfl) only [e0_31, e0_33, e0_35, WpV_some, WpH_some, ↓ite_t, ↓ite_f, c, Int.cast_ofNat_Int]
  | succ d ih =>
    intro k hk
    have q := ih (k + 1) (by omega)
    simp only [Int.natCast_add, Int.cast_ofNat_Int] at q
    have c : ¬ (48 : Int) ≤ (k : Int) := by omega
    have r6 : iRem (k : Int) 6 = ((k % 6 : Nat) : Int) := iRem_n (m := 6) (by omega) (by omega) (by omega)
    have m6 : k % 6 < 6 := Nat.mod_lt _ (by decide)
    have m6k : k % 6 ≤ k := Nat.mod_le _ _
    have e : ∀ v : Int, v = (if k < 32 then 0 else -1) → putL f 190 (fu (i0L k).1 (k % 6) (-1), (fu (i0L k).2.1 k v, (i0L k).2.2)) = putL f 190 (i0L (k + 1)) := fun v hv => by
      refine putL_ext (fun i hi => ?_) (fun i hi => ?_) (fun _ _ => rfl)
      · show fu (fun j => if j < k then (-1 : Int) else 0) (k % 6) (-1) i = if i < k + 1 then -1 else 0
        unfold fu
        by_cases c1 : i = k % 6
        · rw [if_pos c1, if_pos (by omega)]
        · rw [if_neg c1]
          show (if i < k then (-1 : Int) else 0) = _
          by_cases c2 : i < k
          · have c3 : i < k + 1 := by omega
            rw [if_pos c2, if_pos c3]
          · have c3 : ¬ i < k + 1 := by omega
            rw [if_neg c2, if_neg c3]
      · show fu (fun j => if j < k then (if j < 32 then (0 : Int) else -1) else 0) k v i = if i < k + 1 then (if i < 32 then 0 else -1) else 0
        unfold fu
        by_cases c1 : i = k
        · have c3 : i < k + 1 := by omega
          rw [if_pos c1, if_pos c3, hv, c1]
        · rw [if_neg c1]
          show (if i < k then (if i < 32 then (0 : Int) else -1) else 0) = _
          by_cases c2 : i < k
          · have c3 : i < k + 1 := by omega
            rw [if_pos c2, if_pos c3]
          · have c3 : ¬ i < k + 1 := by omega
            rw [if_neg c2, if_neg c3]
    rw [← q, e0_31]
    by_cases c2 : 32 ≤ (k : Int)
    · have e2 := e (-1) (by rw [if_neg (by omega)])
      simp (disch := first | omega | rfl) only [e0_33, e0_35, e0_38, e0_39, e0_41, e0_43, e0_44, e0_45, e0_46, e0_47, e0_49, e0_51, e0_53, e0_56, e0_57, e0_60, e0_61, e0_62, e0_65, WpV_some, WpH_some, ↓ite_t, ↓ite_f, G_p0, G_p1, r6, tn_n, c, c2, wrp_id, ↓reduceIte]
      rw [e2]
    · have e2 := e 0 (by rw [if_pos (by omega)])
      simp (disch := first | omega | rfl) only [e0_33, e0_35, e0_38, e0_39, e0_41, e0_43, e0_44, e0_45, e0_46, e0_47, e0_49, e0_51, e0_53, e0_56, e0_57, e0_60, e0_61, e0_62, e0_65, WpV_some, WpH_some, ↓ite_t, ↓ite_f, G_p0, G_p1, r6, tn_n, c, c2, wrp_id, ↓reduceIte]
      rw [e2]
theorem i0_lw : putL f 190 (i0L 48) = putL f 190 (lw sg0) := by
  refine putL_ext (fun i hi => ?_) (lR_is (fun j hj => ?_) (fun j hj => ?_) (fun j hj => ?_) (fun j hj => ?_) (fun j hj => ?_) (fun j hj => ?_)) (lT_is rfl rfl ?_)
  · show (if i < 48 then (-1 : Int) else 0) = fo (sg0.1 4) i 0 8
    rw [if_pos (by omega)]
    refine (emp_q.mpr fun p hp => ?_).symm
    show (-1 : Int) ≠ i
    omega
  · show (if j < 48 then (if j < 32 then (0 : Int) else -1) else 0) = 0
    rw [if_pos (by omega), if_pos (by omega)]
  · show (if 8 + j < 48 then (if 8 + j < 32 then (0 : Int) else -1) else 0) = 0
    rw [if_pos (by omega), if_pos (by omega)]
  · show (if 16 + j < 48 then (if 16 + j < 32 then (0 : Int) else -1) else 0) = 0
    rw [if_pos (by omega), if_pos (by omega)]
  · show (if 24 + j < 48 then (if 24 + j < 32 then (0 : Int) else -1) else 0) = 0
    rw [if_pos (by omega), if_pos (by omega)]
  · show (if 32 + j < 48 then (if 32 + j < 32 then (0 : Int) else -1) else 0) = -1
    rw [if_pos (by omega), if_neg (by omega)]
  · show (if 40 + j < 48 then (if 40 + j < 32 then (0 : Int) else -1) else 0) = -1
    rw [if_pos (by omega), if_neg (by omega)]
  · rfl
theorem law_runs (il : xs.length ≤ 260) : LawRuns xs := by
  have key : Wp xs 0 0 (ini 0 [vr 0]) [] (0, (0, 0)) (fun _ => none) Qf := by
    show Wp xs 0 0 [vr 0, vu, vu, vu, vu, vu, vu, vu, vu, vu, vu, vu, vu, vu, vu] [] (0, (0, 0)) (fun _ => none) _
    generalize hf0 : aup (fun _ => none) 1 (oC 3 (dfs 3)) = f0
    have o1 : isO f0 1 3 = true := by rw [← hf0]; unfold isO; rw [aup_same]; rfl
    have q1 := cI_n (m40 (xs := xs) (c := 1) (s := 5) (f := f0) (by rw [← hf0]; exact aup_same _ _ _)) o1 h1'
    have eH : aup (aup (aup (PP (putV f0 V0) 0 T0 sg0 sg0) 190 (iC (List.replicate 6 0))) 191 (iC (List.replicate 48 0))) 192 (iC (List.replicate 3 0)) = PP (putL (putV f0 V0) 190 z0L) 0 T0 sg0 sg0 := by
      rw [PP_aup _ _ _ _ _ _ (by decide), PP_aup _ _ _ _ _ _ (by decide), PP_aup _ _ _ _ _ _ (by decide)]
      exact congrArg (fun g => PP g 0 T0 sg0 sg0) (putL_new (putV f0 V0) 190)
    simp (disch := first | omega | rfl) only [e0_0, e0_3, e0_4, e0_7, e0_8, e0_10, e0_12, e0_13, e0_15, e0_17, e0_18, e0_19, e0_21, WpV_some, WpH_some, ↓ite_t, ↓ite_f, show cF 3 = 5 from rfl, Nat.zero_add, Nat.reduceAdd, hf0, q1, Int.reduceToNat, eH]
    have e0 : putL (putV f0 V0) 190 (z0L.1, (z0L.2.1, fu z0L.2.2 0 3)) = putL (putV f0 V0) 190 (i0L 0) := by
      refine putL_ext (fun i hi => ?_) (fun i hi => ?_) (fun i hi => ?_)
      · show (0 : Int) = if i < 0 then -1 else 0
        rw [if_neg (by omega)]
      · show (0 : Int) = if i < 0 then (if i < 32 then 0 else -1) else 0
        rw [if_neg (by omega)]
      · show fu (fun _ => (0 : Int)) 0 3 i = if i = 0 then 3 else 0
        rfl
    have q31 := init_31 (xs := xs) (f := putV f0 V0) (sc := 0) (T := T0) (τ := sg0) (σ := sg0) (μ := (192, (192, 3319))) (Q := Qf) 48 0 rfl
    simp only [Int.cast_ofNat_Int] at q31
    simp (disch := first | omega | rfl) only [e0_23, e0_25, e0_26, e0_27, e0_28, e0_29, WpV_some, WpH_some, ↓ite_t, ↓ite_f, G_p2, Int.reduceToNat]
    rw [e0, q31, i0_lw]
    simp (disch := first | omega | rfl) only [e0_68, e0_69, WpV_some, WpH_some, ↓ite_t, ↓ite_f]
    have q := law_loop il 48 0 f0 V0 0 T0 sg0 sg0 (192, (192, 3319)) vu vu vu vu vu vu vu vu vu rfl sg0_ks (by unfold wfV V0; decide) (by omega) (by omega) ⟨Int.le_refl 0, by show (0 : Int) ≤ 40; omega, fun j => ⟨by show (-1 : Int) ≤ 0; omega, by show (0 : Int) ≤ 1000; omega⟩⟩ (by decide) (by decide) (by decide)
    exact q
  obtain ⟨k, o, μ', f', hk, rfl, h1, h2⟩ := key
  exact ⟨k, μ', f', hk, h1, h2⟩
end LLP
