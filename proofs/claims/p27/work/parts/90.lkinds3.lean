/-! THE LAW: asks put in, dropped, exchanged -/
theorem ak_0 (σ : SG) (i : Int) : askv σ i 0 = rg 80 (σ.1 0) i := rfl
theorem ak_1 (σ : SG) (i : Int) : askv σ i 1 = rg 80 (σ.1 1) i := rfl
theorem ak_2 (σ : SG) (i : Int) : askv σ i 2 = if i < σ.2 1 then rg 80 (σ.1 2) i else -1 := rfl
section LKC
variable {xs : List Int} {f : AH} {X Y : LG} {V V' : VG} {sc sc' : Int} {T T' : TG} {τ τ' σ σ' s : SG} {μ : Mu} {y pc : Nat} {L st : List AV} {Q : Out → Mu → AH → Prop}
theorem qask {i : Nat} {k : Int} (hk : k = 0 ∨ k = 1 ∨ k = 2) (hi : (i : Int) < σ.2 0) (pc : Nat) (L st : List AV) (Q : Out → Mu → AH → Prop) : WpI xs (isO (PP f sc T τ σ) 1 3) 1 54 [vr 1, vi i, vi k] y pc L st μ (PP f sc T τ σ) Q = Wp xs y pc L (vi (askv σ i k.toNat) :: st) μ (PP f sc T τ σ) Q := cI_v (m54 (i : Int) k (by omega) hi (by omega) (by omega)) P_o h1' y pc L st Q
theorem kd_insert (h : ks σ) (hV : wfV V) (h0 : 0 ≤ sc) (h6 : sc ≤ 6) (hT : wfT T) {k hv : Int} (hs : σ.2 0 < 80) (l11 l12 l13 l14 : AV) (hN : ND xs k hv 12 (σ.2 0) (σ.2 0 - σ.2 1) μ Q) : Wp xs 0 565 [vr 0, vr 1, vr 190, vr 191, vr 192, vi k, vi hv, vi 12, vi (σ.2 0), vi (σ.2 0 - σ.2 1), vi 1, l11, l12, l13, l14] [] μ (PP (putL (putV f V) 190 (lw σ)) sc T τ σ) Q := by
  obtain ⟨w1, w2, w3, w4, w5⟩ := id h.wf
  have r1 := lwv_r (iShr hv 4) (n := σ.2 0 - σ.2 1 + 1) (by omega) (by omega)
  have r2 := lwv_r (iShr hv 11) (n := 8) (by decide) (by decide)
  have r3 := lwv_r (iShr hv 14) (n := 2) (by decide) (by decide)
  obtain ⟨i, hi⟩ : ∃ i : Nat, σ.2 1 + lwv (iShr hv 4) (σ.2 0 - σ.2 1 + 1) = (i : Int) := ⟨(σ.2 1 + lwv (iShr hv 4) (σ.2 0 - σ.2 1 + 1)).toNat, by omega⟩
  obtain ⟨p, hp⟩ : ∃ p : Nat, lwv (iShr hv 11) 8 = (p : Int) := ⟨(lwv (iShr hv 11) 8).toNat, by omega⟩
  have hi1 : σ.2 1 ≤ (i : Int) := by omega
  have hi2 : (i : Int) ≤ σ.2 0 := by omega
  have c80 : ¬ 80 ≤ σ.2 0 := by omega
  obtain ⟨w, hw, hw2, hw3⟩ : ∃ w : Int, (w = 0 ∨ w = 1) ∧ w = 1 - lwv (iShr hv 14) 2 ∧ ((lwv (iShr hv 14) 2 ≠ 0 ∧ w = 0) ∨ (¬ lwv (iShr hv 14) 2 ≠ 0 ∧ w = 1)) := by
    by_cases x : lwv (iShr hv 14) 2 = 0
    · exact ⟨1, Or.inr rfl, by omega, Or.inr ⟨fun y => y x, rfl⟩⟩
    · exact ⟨0, Or.inl rfl, by omega, Or.inl ⟨x, rfl⟩⟩
  have z := pta_ks h (i := i) (pg := (p : Int)) (wr := w) hi1 hi2 hs (by omega) (by omega) hw
  have zs := pta_smp σ (i : Int) p w
  have e00 : (pta σ i p w).1 0 = opn (σ.1 0) i p := by
    unfold pta; rw [sS_1, sR_1, if_neg (by decide), sR_1, if_pos rfl, Int.toNat_natCast]
  have e01 : (pta σ i p w).1 1 = opn (σ.1 1) i w := by
    unfold pta; rw [sS_1, sR_1, if_pos rfl, Int.toNat_natCast]
  have e02 : (pta σ i p w).2 0 = σ.2 0 + 1 := pta_0 _ _ _ _
  have hww : (if w = 0 then (0 : Int) else 1) = w := by rcases hw with rfl | rfl <;> rfl
  have q := cI_v (sv_run (xs := xs) (X := lw σ) (m63 (xs := xs) (f := putL f 190 (lw σ)) (V := V) (sc := sc) (T := T) (τ := τ) (σ := σ) (μ := μ) h.wf hV h0 h6 (i : Int) (p : Int) w hi1 hi2 (by omega) (by omega) hs)) P_o h1'
  rw [hww, show σ.2 0 + 1 - σ.2 1 = σ.2 0 - σ.2 1 + 1 by omega] at q
  have a0 : askv (pta σ i p w) i 0 = p := by
    rw [ak_0, rg_n _ (by omega), e00]; unfold opn; rw [if_neg (by omega), if_pos rfl]
  have a1 : askv (pta σ i p w) i 1 = w := by
    rw [ak_1, rg_n _ (by omega), e01]; unfold opn; rw [if_neg (by omega), if_pos rfl]
  have a2 : askv (pta σ i p w) i 2 = -1 := by
    rw [ak_2, zs.2.1, if_neg (by omega)]
  have k0 := qask (xs := xs) (f := putL (putV f (svV V sc σ)) 190 (lw σ)) (sc := svC sc) (T := T) (τ := τ) (σ := pta σ i p w) (μ := μ) (y := 0) (i := i) (k := 0) (Or.inl rfl) (by omega)
  have k1 := qask (xs := xs) (f := putL (putV f (svV V sc σ)) 190 (lw σ)) (sc := svC sc) (T := T) (τ := τ) (σ := pta σ i p w) (μ := μ) (y := 0) (i := i) (k := 1) (Or.inr (Or.inl rfl)) (by omega)
  have k2 := qask (xs := xs) (f := putL (putV f (svV V sc σ)) 190 (lw σ)) (sc := svC sc) (T := T) (τ := τ) (σ := pta σ i p w) (μ := μ) (y := 0) (i := i) (k := 2) (Or.inr (Or.inr rfl)) (by omega)
  rw [Int.toNat_zero, a0] at k0
  rw [show Int.toNat 1 = 1 from rfl, a1] at k1
  rw [show Int.toNat 2 = 2 from rfl, a2] at k2
  have lo := cC_v (m74 (xs := xs) (g := PP (putL (putV f V) 190 (lw σ)) sc T τ σ) (μ := μ) (iShr hv 14) (n := 2) (by decide))
  have lo2 := cC_v (m74 (xs := xs) (g := PP (putL (putV f (svV V sc σ)) 190 (lw σ)) (svC sc) T τ (pta σ i p w)) (μ := μ) (iShr hv 14) (n := 2) (by decide))
  have fin : ∀ l13 : AV, Wp xs 0 724 [vr 0, vr 1, vr 190, vr 191, vr 192, vi k, vi hv, vi 12, vi (σ.2 0), vi (σ.2 0 - σ.2 1), vi 1, vi i, vi p, l13, l14] [] μ (PP (putL (putV f (svV V sc σ)) 190 (lw σ)) (svC sc) T τ (pta σ i p w)) Q := fun l13 => by
    simp (disch := first | omega | rfl) only [e0_724, e0_725, e0_728, e0_729, e0_731, WpV_some, WpH_some, ↓ite_t, ↓ite_f]
    rw [← zs.lwE]
    exact hN f (svV V sc σ) (svC sc) T τ _ z (wfV_sv hV) (svC_r h0 h6).1 (svC_r h0 h6).2 hT _ _ _ _
  -- from the call of insert on
  have mid : ∀ v : Int, Wp xs 0 705 [vr 0, vr 1, vr 190, vr 191, vr 192, vi k, vi hv, vi 12, vi (σ.2 0), vi (σ.2 0 - σ.2 1), vi 1, vi i, vi p, vi v, l14] [] μ (PP (putL (putV f (svV V sc σ)) 190 (lw σ)) (svC sc) T τ (pta σ i p w)) Q → Wp xs 0 629 [vr 0, vr 1, vr 190, vr 191, vr 192, vi k, vi hv, vi 12, vi (σ.2 0), vi (σ.2 0 - σ.2 1), vi 1, vi i, vi p, vi v, l14] [] μ (PP (putL (putV f V) 190 (lw σ)) sc T τ σ) Q := fun v q9 => by
    have e1 : 1 - lwv (iShr hv 14) 2 = w := hw2.symm
    rcases hw3 with ⟨y1, rfl⟩ | ⟨y1, rfl⟩
    · simp (disch := first | omega | rfl) only [e0_629, e0_630, e0_632, e0_634, e0_636, e0_638, e0_639, e0_640, e0_643, e0_646, e0_647, e0_650, e0_651, e0_654, e0_656, e0_657, e0_658, e0_661, e0_662, e0_664, e0_665, e0_668, e0_670, e0_673, e0_674, e0_676, e0_677, e0_680, e0_681, e0_683, e0_685, e0_686, e0_687, e0_690, e0_691, e0_694, e0_695, e0_697, e0_698, e0_701, e0_702, WpV_some, WpH_some, ↓ite_t, ↓ite_f, lo, lo2, q, k0, k1, k2, e1, y1, wrp_id, ne_eq, not_true_eq_false, not_false_eq_true, ↓reduceIte]
      exact q9
    · simp (disch := first | omega | rfl) only [e0_629, e0_630, e0_632, e0_634, e0_636, e0_638, e0_639, e0_640, e0_643, e0_646, e0_647, e0_650, e0_651, e0_654, e0_656, e0_657, e0_658, e0_661, e0_662, e0_664, e0_665, e0_668, e0_670, e0_673, e0_674, e0_676, e0_677, e0_680, e0_681, e0_683, e0_685, e0_686, e0_687, e0_690, e0_691, e0_694, e0_695, e0_697, e0_698, e0_701, e0_702, WpV_some, WpH_some, ↓ite_t, ↓ite_f, lo, lo2, q, k0, k1, k2, e1, y1, wrp_id, ne_eq, not_true_eq_false, ↓reduceIte]
      exact q9
  have kb := qask (xs := xs) (f := putL (putV f V) 190 (lw σ)) (sc := sc) (T := T) (τ := τ) (σ := σ) (μ := μ) (y := 0) (i := i) (k := 0) (Or.inl rfl)
  simp (disch := first | omega | rfl) only [e0_565, e0_567, e0_569, e0_572, e0_574, e0_576, e0_579, e0_581, e0_582, e0_583, e0_585, e0_586, e0_587, e0_589, e0_590, e0_591, e0_594, e0_595, e0_597, e0_599, e0_601, e0_602, e0_604, e0_607, WpV_some, WpH_some, ↓ite_t, ↓ite_f, G_g2, lw_3, lT_1, Int.reduceToNat, cC_v (m74 (iShr hv 4) (n := σ.2 0 - σ.2 1 + 1) (by omega)), cC_v (m74 (iShr hv 11) (n := 8) (by decide)), wrp_id, hi, hp, c80, ne_eq, not_true_eq_false, ↓reduceIte]
  by_cases c : σ.2 0 ≤ (i : Int)
  · simp (disch := first | omega | rfl) only [e0_609, e0_611, e0_613, e0_616, e0_617, e0_619, e0_620, e0_623, e0_626, e0_627, WpV_some, WpH_some, ↓ite_t, ↓ite_f, c, ↓reduceIte]
    refine mid (-1) ?_
    simp (disch := first | omega | rfl) only [e0_705, e0_707, e0_710, e0_711, e0_713, e0_714, e0_715, e0_716, e0_719, e0_721, WpV_some, WpH_some, ↓ite_t, ↓ite_f, (by decide : (-1 : Int) < 0), ↓reduceIte]
    exact fin _
  · have kb := kb (by omega)
    have hPi := h.P i (by omega)
    rw [Int.toNat_zero, ak_0, rg_n _ (by omega)] at kb
    simp (disch := first | omega | rfl) only [e0_609, e0_611, e0_613, e0_616, e0_617, e0_619, e0_620, e0_623, e0_626, e0_627, WpV_some, WpH_some, ↓ite_t, ↓ite_f, kb, c, ↓reduceIte]
    refine mid (σ.1 0 i) ?_
    have c0 : ¬ σ.1 0 i < 0 := by omega
    have k3 := qask (xs := xs) (f := putL (putV f (svV V sc σ)) 190 (lw σ)) (sc := svC sc) (T := T) (τ := τ) (σ := pta σ i p w) (μ := μ) (y := 0) (i := i + 1) (k := 0) (Or.inl rfl) (by omega)
    rw [Int.toNat_zero, ak_0, rg_n _ (by omega), e00, show opn (σ.1 0) i p (i + 1) = σ.1 0 i by unfold opn; rw [if_neg (by omega), if_neg (by omega), Nat.add_sub_cancel]] at k3
    simp only [Int.natCast_add, Int.cast_ofNat_Int] at k3
    simp (disch := first | omega | rfl) only [e0_705, e0_707, e0_710, e0_711, e0_713, e0_714, e0_715, e0_716, e0_719, e0_721, WpV_some, WpH_some, ↓ite_t, ↓ite_f, k3, c0, wrp_id, ne_eq, not_true_eq_false, ↓reduceIte]
    exact fin _
theorem kd_drop (h : ks σ) (hV : wfV V) (h0 : 0 ≤ sc) (h6 : sc ≤ 6) (hT : wfT T) {k hv : Int} (hs : σ.2 1 < σ.2 0) (l11 l12 l13 l14 : AV) (hN : ND xs k hv 13 (σ.2 0) (σ.2 0 - σ.2 1) μ Q) : Wp xs 0 734 [vr 0, vr 1, vr 190, vr 191, vr 192, vi k, vi hv, vi 13, vi (σ.2 0), vi (σ.2 0 - σ.2 1), vi 1, l11, l12, l13, l14] [] μ (PP (putL (putV f V) 190 (lw σ)) sc T τ σ) Q := by
  obtain ⟨w1, w2, w3, w4, w5⟩ := id h.wf
  have r1 := lwv_r (iShr hv 4) (n := σ.2 0 - σ.2 1) (by omega) (by omega)
  obtain ⟨i, hi⟩ : ∃ i : Nat, σ.2 1 + lwv (iShr hv 4) (σ.2 0 - σ.2 1) = (i : Int) := ⟨(σ.2 1 + lwv (iShr hv 4) (σ.2 0 - σ.2 1)).toNat, by omega⟩
  have hi1 : σ.2 1 ≤ (i : Int) := by omega
  have hi2 : (i : Int) < σ.2 0 := by omega
  have cl : ¬ σ.2 0 - σ.2 1 ≤ 0 := by omega
  have z := h.tkaK hi1 hi2
  have zs := tka_smp σ (i : Int)
  obtain ⟨e00, e01, e02⟩ := tka_0 σ i
  have q := cI_v (sv_run (xs := xs) (X := lw σ) (m64 (xs := xs) (f := putL f 190 (lw σ)) (V := V) (sc := sc) (T := T) (τ := τ) (σ := σ) (μ := μ) h.wf hV h0 h6 (i : Int) hi1 hi2)) P_o h1'
  rw [rg_n _ (by omega)] at q
  have hPi := h.P i hi2
  have kb := qask (xs := xs) (f := putL (putV f V) 190 (lw σ)) (sc := sc) (T := T) (τ := τ) (σ := σ) (μ := μ) (y := 0) (i := i) (k := 0) (Or.inl rfl) hi2
  rw [Int.toNat_zero, ak_0, rg_n _ (by omega)] at kb
  have kc := cI_v (m52 (xs := xs) (f := putL (putV f (svV V sc σ)) 190 (lw σ)) (sc := svC sc) (T := T) (τ := τ) (σ := tka σ i) (μ := μ) z.wf 0 (by omega) (by omega)) P_o h1'
  rw [Int.toNat_zero, cn_0, e02] at kc
  have fin : ∀ l12 l13 : AV, Wp xs 0 835 [vr 0, vr 1, vr 190, vr 191, vr 192, vi k, vi hv, vi 13, vi (σ.2 0), vi (σ.2 0 - σ.2 1), vi 1, vi i, l12, l13, l14] [] μ (PP (putL (putV f (svV V sc σ)) 190 (lw σ)) (svC sc) T τ (tka σ i)) Q := fun l12 l13 => by
    simp (disch := first | omega | rfl) only [e0_835, e0_836, e0_839, e0_840, e0_842, WpV_some, WpH_some, ↓ite_t, ↓ite_f]
    rw [← zs.lwE]
    exact hN f (svV V sc σ) (svC sc) T τ _ z (wfV_sv hV) (svC_r h0 h6).1 (svC_r h0 h6).2 hT _ _ _ _
  simp (disch := first | omega | rfl) only [e0_734, e0_736, e0_738, e0_741, e0_743, e0_746, e0_748, e0_749, e0_750, e0_752, e0_753, e0_754, e0_756, e0_759, e0_760, e0_762, e0_763, e0_765, e0_766, e0_769, WpV_some, WpH_some, ↓ite_t, ↓ite_f, G_g2, lw_3, lT_1, Int.reduceToNat, cC_v (m74 (iShr hv 4) (n := σ.2 0 - σ.2 1) (by omega)), wrp_id, hi, kb, cl, ne_eq, not_true_eq_false, ↓reduceIte]
  by_cases c : σ.2 0 ≤ (i : Int) + 1
  · simp (disch := first | omega | rfl) only [e0_771, e0_773, e0_774, e0_775, e0_777, e0_780, e0_781, e0_783, e0_784, e0_785, e0_786, e0_789, e0_792, e0_793, e0_795, e0_796, e0_798, e0_801, e0_803, e0_806, e0_807, e0_808, e0_811, e0_813, e0_814, e0_815, e0_818, e0_820, e0_823, e0_824, e0_826, e0_827, e0_830, e0_832, WpV_some, WpH_some, ↓ite_t, ↓ite_f, q, kc, c, wrp_id, (by decide : (-1 : Int) < 0), ne_eq, not_true_eq_false, ↓reduceIte]
    exact fin _ _
  · have hPj := h.P (i + 1) (by omega)
    have kd := qask (xs := xs) (f := putL (putV f V) 190 (lw σ)) (sc := sc) (T := T) (τ := τ) (σ := σ) (μ := μ) (y := 0) (i := i + 1) (k := 0) (Or.inl rfl) (by omega)
    rw [Int.toNat_zero, ak_0, rg_n _ (by omega)] at kd
    have ke := qask (xs := xs) (f := putL (putV f (svV V sc σ)) 190 (lw σ)) (sc := svC sc) (T := T) (τ := τ) (σ := tka σ i) (μ := μ) (y := 0) (i := i) (k := 0) (Or.inl rfl) (by omega)
    rw [Int.toNat_zero, ak_0, rg_n _ (by omega), e00, show cls (σ.1 0) i 80 i = σ.1 0 (i + 1) by unfold cls; rw [if_pos (by omega)]] at ke
    have c0 : ¬ σ.1 0 (i + 1) < 0 := by omega
    simp only [Int.natCast_add, Int.cast_ofNat_Int] at kd
    simp (disch := first | omega | rfl) only [e0_771, e0_773, e0_774, e0_775, e0_777, e0_780, e0_781, e0_783, e0_784, e0_785, e0_786, e0_789, e0_792, e0_793, e0_795, e0_796, e0_798, e0_801, e0_803, e0_806, e0_807, e0_808, e0_811, e0_813, e0_814, e0_815, e0_818, e0_820, e0_823, e0_824, e0_826, e0_827, e0_830, e0_832, WpV_some, WpH_some, ↓ite_t, ↓ite_f, q, kc, kd, ke, c, c0, wrp_id, ne_eq, not_true_eq_false, ↓reduceIte]
    exact fin _ _
theorem kd_swap (h : ks σ) (hV : wfV V) (h0 : 0 ≤ sc) (h6 : sc ≤ 6) (hT : wfT T) {k hv : Int} (hs : σ.2 1 < σ.2 0) (l11 l12 l13 l14 : AV) (hN : ND xs k hv 14 (σ.2 0) (σ.2 0 - σ.2 1) μ Q) : Wp xs 0 845 [vr 0, vr 1, vr 190, vr 191, vr 192, vi k, vi hv, vi 14, vi (σ.2 0), vi (σ.2 0 - σ.2 1), vi 1, l11, l12, l13, l14] [] μ (PP (putL (putV f V) 190 (lw σ)) sc T τ σ) Q := by
  obtain ⟨w1, w2, w3, w4, w5⟩ := id h.wf
  have r1 := lwv_r (iShr hv 4) (n := σ.2 0 - σ.2 1) (by omega) (by omega)
  have r2 := lwv_r (iShr hv 11) (n := σ.2 0 - σ.2 1) (by omega) (by omega)
  obtain ⟨i, hi⟩ : ∃ i : Nat, σ.2 1 + lwv (iShr hv 4) (σ.2 0 - σ.2 1) = (i : Int) := ⟨(σ.2 1 + lwv (iShr hv 4) (σ.2 0 - σ.2 1)).toNat, by omega⟩
  obtain ⟨j, hj⟩ : ∃ j : Nat, σ.2 1 + lwv (iShr hv 11) (σ.2 0 - σ.2 1) = (j : Int) := ⟨(σ.2 1 + lwv (iShr hv 11) (σ.2 0 - σ.2 1)).toNat, by omega⟩
  have hi2 : (i : Int) < σ.2 0 := by omega
  have hj2 : (j : Int) < σ.2 0 := by omega
  have cl : ¬ σ.2 0 - σ.2 1 ≤ 0 := by omega
  have z := h.swpK hi2 hj2
  have zs := swp_smp σ (i : Int) (j : Int)
  obtain ⟨e00, e01⟩ := swp_0 σ (i := i) (j := j) (by omega) (by omega)
  have q := cI_v (sv_run (xs := xs) (X := lw σ) (m65 (xs := xs) (f := putL f 190 (lw σ)) (V := V) (sc := sc) (T := T) (τ := τ) (σ := σ) (μ := μ) hV h0 h6 (i : Int) (j : Int) (by omega) hi2 (by omega) hj2)) P_o h1'
  have eq0 : fu (fu (σ.1 0) i (σ.1 0 j)) j (σ.1 0 i) i = σ.1 0 j := by
    unfold fu
    by_cases c : i = j
    · rw [if_pos c, c]
    · rw [if_neg c, if_pos rfl]
  rw [rg_n _ (by omega), e00, eq0] at q
  have kb := qask (xs := xs) (f := putL (putV f V) 190 (lw σ)) (sc := sc) (T := T) (τ := τ) (σ := σ) (μ := μ) (y := 0) (i := j) (k := 0) (Or.inl rfl) hj2
  rw [Int.toNat_zero, ak_0, rg_n _ (by omega)] at kb
  have kc := qask (xs := xs) (f := putL (putV f V) 190 (lw σ)) (sc := sc) (T := T) (τ := τ) (σ := σ) (μ := μ) (y := 0) (i := i) (k := 1) (Or.inr (Or.inl rfl)) hi2
  rw [show Int.toNat 1 = 1 from rfl, ak_1, rg_n _ (by omega)] at kc
  have ke := qask (xs := xs) (f := putL (putV f (svV V sc σ)) 190 (lw σ)) (sc := svC sc) (T := T) (τ := τ) (σ := swp σ i j) (μ := μ) (y := 0) (i := j) (k := 1) (Or.inr (Or.inl rfl)) hj2
  rw [show Int.toNat 1 = 1 from rfl, ak_1, rg_n _ (by omega), e01, fu_s] at ke
  simp (disch := first | omega | rfl) only [e0_845, e0_847, e0_849, e0_852, e0_854, e0_857, e0_859, e0_860, e0_861, e0_863, e0_864, e0_865, e0_867, e0_870, e0_871, e0_873, e0_875, e0_876, e0_877, e0_879, e0_881, e0_882, e0_884, e0_887, e0_888, e0_890, e0_891, e0_893, e0_894, e0_897, e0_899, e0_900, e0_902, e0_903, e0_906, e0_908, e0_909, e0_911, e0_913, e0_916, e0_918, e0_921, e0_922, e0_924, e0_925, e0_928, e0_930, e0_933, e0_934, e0_937, e0_938, WpV_some, WpH_some, ↓ite_t, ↓ite_f, G_g2, lw_3, lT_1, Int.reduceToNat, cC_v (m74 (iShr hv 4) (n := σ.2 0 - σ.2 1) (by omega)), cC_v (m74 (iShr hv 11) (n := σ.2 0 - σ.2 1) (by omega)), wrp_id, hi, hj, kb, kc, q, ke, cl, ne_eq, not_true_eq_false, ↓reduceIte]
  rw [← zs.lwE]
  exact hN f (svV V sc σ) (svC sc) T τ _ z (wfV_sv hV) (svC_r h0 h6).1 (svC_r h0 h6).2 hT _ _ _ _
end LKC
