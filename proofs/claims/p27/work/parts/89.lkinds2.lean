/-! THE LAW: pages pinned, frames more and fewer, all written back -/
section LKB
variable {xs : List Int} {f : AH} {X Y : LG} {V V' : VG} {sc sc' : Int} {T T' : TG} {τ τ' σ σ' s : SG} {μ : Mu} {y pc : Nat} {L st : List AV} {Q : Out → Mu → AH → Prop}
theorem pn_305 (h : ks σ) {k hv kd al lf p : Int} : ∀ (d i : Nat) (m : Int) (l14 : AV), i + d = 8 → 0 ≤ m → m ≤ i → (Wp xs 0 305 [vr 0, vr 1, vr 190, vr 191, vr 192, vi k, vi hv, vi kd, vi al, vi lf, vi 1, vi p, vi m, vi i, l14] [] μ (PP (putL f 190 (lw σ)) sc T τ s) Q = Wp xs 0 330 [vr 0, vr 1, vr 190, vr 191, vr 192, vi k, vi hv, vi kd, vi al, vi lf, vi 1, vi p, vi (m + ads (σ.1 6) i d), vi 8, l14] [] μ (PP (putL f 190 (lw σ)) sc T τ s) Q) := by
  intro d
  induction d with
  | zero =>
    intro i m l14 hi m0 m1
    have hi : i = 8 := by omega
    subst hi
    have c : (8 : Int) ≤ ((8 : Nat) : Int) := by decide
    simp (disch := first | omega | rfl) only [e0_305, e0_307, e0_309, WpV_some, WpH_some, ↓ite_t, ↓ite_f, c, ads, Int.add_zero, Int.cast_ofNat_Int]
  | succ d ih =>
    intro i m l14 hi m0 m1
    have h01 := h.pin i (by omega)
    have c : ¬ (8 : Int) ≤ (i : Int) := by omega
    have q := ih (i + 1) (m + σ.1 6 i) l14 (by omega) (by omega) (by omega)
    simp only [Int.natCast_add, Int.cast_ofNat_Int] at q
    unfold ads
    rw [← Int.add_assoc, ← q, e0_305]
    simp (disch := first | omega | rfl) only [e0_307, e0_309, e0_312, e0_314, e0_315, e0_317, e0_319, e0_320, e0_321, e0_322, e0_324, e0_327, WpV_some, WpH_some, ↓ite_t, ↓ite_f, G_g1, lw_2, tn8, lR_6, c, wrp_id, ↓reduceIte]
theorem pn_427 (h : ks σ) {k hv kd al lf p : Int} : ∀ (d i : Nat) (m : Int) (l14 : AV), i + d = 8 → 0 ≤ m → m ≤ i → (Wp xs 0 427 [vr 0, vr 1, vr 190, vr 191, vr 192, vi k, vi hv, vi kd, vi al, vi lf, vi 1, vi p, vi m, vi i, l14] [] μ (PP (putL f 190 (lw σ)) sc T τ s) Q = Wp xs 0 452 [vr 0, vr 1, vr 190, vr 191, vr 192, vi k, vi hv, vi kd, vi al, vi lf, vi 1, vi p, vi (m + ads (σ.1 6) i d), vi 8, l14] [] μ (PP (putL f 190 (lw σ)) sc T τ s) Q) := by
  intro d
  induction d with
  | zero =>
    intro i m l14 hi m0 m1
    have hi : i = 8 := by omega
    subst hi
    have c : (8 : Int) ≤ ((8 : Nat) : Int) := by decide
    simp (disch := first | omega | rfl) only [e0_427, e0_429, e0_431, WpV_some, WpH_some, ↓ite_t, ↓ite_f, c, ads, Int.add_zero, Int.cast_ofNat_Int]
  | succ d ih =>
    intro i m l14 hi m0 m1
    have h01 := h.pin i (by omega)
    have c : ¬ (8 : Int) ≤ (i : Int) := by omega
    have q := ih (i + 1) (m + σ.1 6 i) l14 (by omega) (by omega) (by omega)
    simp only [Int.natCast_add, Int.cast_ofNat_Int] at q
    unfold ads
    rw [← Int.add_assoc, ← q, e0_427]
    simp (disch := first | omega | rfl) only [e0_429, e0_431, e0_434, e0_436, e0_437, e0_439, e0_441, e0_442, e0_443, e0_444, e0_446, e0_449, WpV_some, WpH_some, ↓ite_t, ↓ite_f, G_g1, lw_2, tn8, lR_6, c, wrp_id, ↓reduceIte]
theorem kd_pin (h : ks σ) (hV : wfV V) (h0 : 0 ≤ sc) (h6 : sc ≤ 6) (hT : wfT T) {k hv : Int} (l11 l12 l13 l14 : AV) (hN : ND xs k hv 9 (σ.2 0) (σ.2 0 - σ.2 1) μ Q) : Wp xs 0 281 [vr 0, vr 1, vr 190, vr 191, vr 192, vi k, vi hv, vi 9, vi (σ.2 0), vi (σ.2 0 - σ.2 1), vi 1, l11, l12, l13, l14] [] μ (PP (putL (putV f V) 190 (lw σ)) sc T τ σ) Q := by
  obtain ⟨w1, w2, w3, w4, w5⟩ := id h.wf
  have r1 := lwv_r (iShr hv 4) (n := 8) (by decide) (by decide)
  obtain ⟨p, hp⟩ : ∃ p : Nat, lwv (iShr hv 4) 8 = (p : Int) := ⟨(lwv (iShr hv 4) 8).toNat, by omega⟩
  have hp8 : p < 8 := by omega
  have h01 := h.pin p hp8
  have hK := h.K
  have s6 : sm 0 (σ.1 6) 0 8 = sm8 (σ.1 6) := sm_8 fun q hq => by rcases h.pin q hq with e | e <;> omega
  have s60 : 0 ≤ sm8 (σ.1 6) := (sm8_r (n := 1) fun q hq => by rcases h.pin q hq with e | e <;> omega).1
  have k305 := pn_305 (xs := xs) (f := putV f V) (sc := sc) (T := T) (τ := τ) (s := σ) (μ := μ) (Q := Q) h (k := k) (hv := hv) (kd := 9) (al := σ.2 0) (lf := σ.2 0 - σ.2 1) (p := p) 8 0 0 l14 rfl (by omega) (by omega)
  rw [ads_8, Int.zero_add] at k305
  simp only [Int.cast_ofNat_Int] at k305
  simp (disch := first | omega | rfl) only [e0_281, e0_283, e0_285, e0_288, e0_290, e0_291, e0_292, e0_294, e0_297, e0_299, e0_300, e0_302, e0_303, WpV_some, WpH_some, ↓ite_t, ↓ite_f, cC_v (m74 (iShr hv 4) (n := 8) (by decide)), hp, ne_eq, not_true_eq_false, ↓reduceIte]
  rw [k305]
  -- the pin that changes
  have doit : (σ.1 6 p = 0 → sm8 (σ.1 6) < σ.2 2 - 1) → Wp xs 0 352 [vr 0, vr 1, vr 190, vr 191, vr 192, vi k, vi hv, vi 9, vi (σ.2 0), vi (σ.2 0 - σ.2 1), vi 1, vi p, vi (sm8 (σ.1 6)), vi 8, l14] [] μ (PP (putL (putV f V) 190 (lw σ)) sc T τ σ) Q := fun hc => by
    obtain ⟨z1, z2, z3, z4⟩ := h.pndK hp8 hc
    have q := fun X : LG => cI_v (sv_run (xs := xs) (X := X) (m67 (xs := xs) (f := putL f 190 X) (V := V) (sc := sc) (T := T) (τ := τ) (σ := σ) (μ := μ) h.wf hV h0 h6 (p : Int) (by omega) (by omega) (by rw [rg_n _ hp8, s6]; exact hc))) P_o h1'
    have s7 : sm 0 ((pnd σ p).1 6) 0 8 = sm8 (σ.1 6) + 2 * (1 - σ.1 6 p) - 1 := by
      rw [sm_8 fun q hq => by rcases z1.pin q hq with e | e <;> omega, z2, sm8_fu _ hp8]
      omega
    rw [s7] at q
    have eX : putL (putV f (svV V sc σ)) 190 ((lw σ).1, (fu (lR σ) (8 + p) (1 - σ.1 6 p), (lw σ).2.2)) = putL (putV f (svV V sc σ)) 190 (lw (pnd σ p)) := by
      refine putL_ext (fun i hi => ?_) (lR_is (fun j hj => ?_) (fun j hj => ?_) (fun j hj => ?_) (fun j hj => ?_) (fun j hj => ?_) (fun j hj => ?_)) (lT_is ?_ ?_ ?_)
      · show fo (σ.1 4) i 0 8 = fo ((pnd σ p).1 4) i 0 8
        rw [z3 4 (by decide)]
      · show fu (lR σ) (8 + p) (1 - σ.1 6 p) j = _
        rw [fu_n _ _ (by omega), lR_5 _ hj, z3 5 (by decide)]
      · show fu (lR σ) (8 + p) (1 - σ.1 6 p) (8 + j) = _
        rw [z2]
        unfold fu
        by_cases c : j = p
        · subst c; rw [if_pos rfl, if_pos rfl]
        · rw [if_neg (by omega), if_neg c, lR_6 _ hj]
      · show fu (lR σ) (8 + p) (1 - σ.1 6 p) (16 + j) = _
        rw [fu_n _ _ (by omega), lR_9 _ hj, z3 9 (by decide)]
      · show fu (lR σ) (8 + p) (1 - σ.1 6 p) (24 + j) = _
        rw [fu_n _ _ (by omega), lR_10 _ hj, z3 10 (by decide)]
      · show fu (lR σ) (8 + p) (1 - σ.1 6 p) (32 + j) = _
        rw [fu_n _ _ (by omega), lR_7 _ hj, z3 7 (by decide)]
      · show fu (lR σ) (8 + p) (1 - σ.1 6 p) (40 + j) = _
        rw [fu_n _ _ (by omega), lR_8 _ hj, z3 8 (by decide)]
      · show σ.2 2 = _; rw [z4]
      · show σ.2 1 = _; rw [z4]
      · show co (σ.1 2) 0 0 (σ.2 1).toNat = _; rw [z4, z3 2 (by decide)]
    simp (disch := first | omega | rfl) only [e0_352, e0_353, e0_355, e0_357, e0_358, e0_359, e0_360, e0_362, e0_364, e0_365, e0_366, e0_367, e0_368, e0_369, e0_371, e0_374, e0_376, e0_377, e0_378, e0_380, e0_382, e0_383, e0_384, e0_385, e0_386, e0_387, e0_388, e0_391, e0_392, e0_395, e0_396, e0_398, WpV_some, WpH_some, ↓ite_t, ↓ite_f, G_g1, G_p1, lw_2, tn8, lR_6, fu_s, q, wrp_id, ne_eq, not_true_eq_false, ↓reduceIte]
    rw [eX]
    exact hN f (svV V sc σ) (svC sc) T τ _ z1 (wfV_sv hV) (svC_r h0 h6).1 (svC_r h0 h6).2 hT _ _ _ _
  by_cases c1 : σ.1 6 p = 1
  · simp (disch := first | omega | rfl) only [e0_330, e0_331, e0_333, e0_335, e0_336, e0_337, e0_338, WpV_some, WpH_some, ↓ite_t, ↓ite_f, G_g1, lw_2, tn8, lR_6, c1, wrp_id, ↓reduceIte]
    exact doit fun x => by omega
  · by_cases c2 : σ.2 2 - 1 ≤ sm8 (σ.1 6)
    · simp (disch := first | omega | rfl) only [e0_330, e0_331, e0_333, e0_335, e0_336, e0_337, e0_338, e0_341, e0_343, e0_345, e0_346, e0_347, e0_348, e0_349, e0_398, WpV_some, WpH_some, ↓ite_t, ↓ite_f, G_g1, G_g2, lw_2, lw_3, lT_0, tn8, lR_6, Int.reduceToNat, c1, c2, wrp_id, ↓reduceIte]
      exact hN f V sc T τ σ h hV h0 h6 hT _ _ _ _
    · simp (disch := first | omega | rfl) only [e0_330, e0_331, e0_333, e0_335, e0_336, e0_337, e0_338, e0_341, e0_343, e0_345, e0_346, e0_347, e0_348, e0_349, WpV_some, WpH_some, ↓ite_t, ↓ite_f, G_g1, G_g2, lw_2, lw_3, lT_0, tn8, lR_6, Int.reduceToNat, c1, c2, wrp_id, ↓reduceIte]
      exact doit fun _ => by omega
theorem kd_frames (h : ks σ) (hV : wfV V) (h0 : 0 ≤ sc) (h6 : sc ≤ 6) (hT : wfT T) {k hv : Int} (l11 l12 l13 l14 : AV) (hN : ND xs k hv 10 (σ.2 0) (σ.2 0 - σ.2 1) μ Q) : Wp xs 0 401 [vr 0, vr 1, vr 190, vr 191, vr 192, vi k, vi hv, vi 10, vi (σ.2 0), vi (σ.2 0 - σ.2 1), vi 1, l11, l12, l13, l14] [] μ (PP (putL (putV f V) 190 (lw σ)) sc T τ σ) Q := by
  obtain ⟨w1, w2, w3, w4, w5⟩ := id h.wf
  have r1 := lwv_r (iShr hv 4) (n := 6) (by decide) (by decide)
  generalize hn : 1 + lwv (iShr hv 4) 6 = n
  have hn1 : 1 ≤ n := by omega
  have hn6 : n ≤ 6 := by omega
  have s6 : sm 0 (σ.1 6) 0 8 = sm8 (σ.1 6) := sm_8 fun q hq => by rcases h.pin q hq with e | e <;> omega
  have k427 := pn_427 (xs := xs) (f := putV f V) (sc := sc) (T := T) (τ := τ) (s := σ) (μ := μ) (Q := Q) h (k := k) (hv := hv) (kd := 10) (al := σ.2 0) (lf := σ.2 0 - σ.2 1) (p := n) 8 0 0 l14 rfl (by omega) (by omega)
  rw [ads_8, Int.zero_add] at k427
  simp only [Int.cast_ofNat_Int] at k427
  simp (disch := first | omega | rfl) only [e0_401, e0_403, e0_405, e0_408, e0_409, e0_411, e0_412, e0_413, e0_415, e0_418, e0_419, e0_421, e0_422, e0_424, e0_425, WpV_some, WpH_some, ↓ite_t, ↓ite_f, cC_v (m74 (iShr hv 4) (n := 6) (by decide)), hn, wrp_id, ne_eq, not_true_eq_false, ↓reduceIte]
  rw [k427]
  by_cases c : n ≤ sm8 (σ.1 6)
  · simp (disch := first | omega | rfl) only [e0_452, e0_454, e0_456, e0_489, WpV_some, WpH_some, ↓ite_t, ↓ite_f, c, ↓reduceIte]
    exact hN f V sc T τ σ h hV h0 h6 hT _ _ _ _
  · have hpn : sm8 (σ.1 6) ≤ n - 1 := by omega
    obtain ⟨z1, -⟩ := frs_ks h hn1 hn6 hpn
    have q := cI_v (sv_run (xs := xs) (X := lw (frs n σ).1) (m68 (xs := xs) (f := putL f 190 (lw (frs n σ).1)) (V := V) (sc := sc) (T := T) (τ := τ) (σ := σ) (μ := μ) h.wf hV h0 h6 n hn1 hn6 (by rw [s6]; exact hpn))) P_o h1'
    simp (disch := first | omega | rfl) only [e0_452, e0_454, e0_456, e0_459, e0_460, e0_461, e0_462, e0_464, e0_466, e0_469, e0_471, e0_472, e0_474, e0_477, e0_479, e0_482, e0_483, e0_486, e0_487, e0_489, WpV_some, WpH_some, ↓ite_t, ↓ite_f, cC_v (n82 h hn1 hn6 hpn), q, c, ne_eq, not_true_eq_false, ↓reduceIte]
    exact hN f (svV V sc σ) (svC sc) T τ _ z1 (wfV_sv hV) (svC_r h0 h6).1 (svC_r h0 h6).2 hT _ _ _ _
/-- written back up to a page -/
def flR (σ : SG) (i : Nat) : Nat → Int := fun j => if j < i then 0 else if 24 ≤ j ∧ j < 24 + i then lR σ j + lR σ (j - 24) else lR σ j
theorem fl_505 (h : ks σ) {k hv kd al lf : Int} : ∀ (d i : Nat) (m : Int) (l13 l14 : AV), i + d = 8 → 0 ≤ m → m ≤ i → (Wp xs 0 505 [vr 0, vr 1, vr 190, vr 191, vr 192, vi k, vi hv, vi kd, vi al, vi lf, vi 1, vi m, vi i, l13, l14] [] μ (PP (putL f 190 (lF σ, (flR σ i, lT σ))) sc T τ s) Q = Wp xs 0 546 [vr 0, vr 1, vr 190, vr 191, vr 192, vi k, vi hv, vi kd, vi al, vi lf, vi 1, vi (m + ads (σ.1 5) i d), vi 8, l13, l14] [] μ (PP (putL f 190 (lF σ, (flR σ 8, lT σ))) sc T τ s) Q) := by
  intro d
  induction d with
  | zero =>
    intro i m l13 l14 hi m0 m1
    have hi : i = 8 := by omega
    subst hi
    have c : (8 : Int) ≤ ((8 : Nat) : Int) := by decide
    simp (disch := first | omega | rfl) only [e0_505, e0_507, e0_509, WpV_some, WpH_some, ↓ite_t, ↓ite_f, c, ads, Int.add_zero, Int.cast_ofNat_Int]
  | succ d ih =>
    intro i m l13 l14 hi m0 m1
    have hi8 : i < 8 := by omega
    have h01 := h.ch i hi8
    have hN := h.N i hi8
    obtain ⟨w1, w2, w3, w4, w5⟩ := id h.wf
    have c : ¬ (8 : Int) ≤ (i : Int) := by omega
    have q := ih (i + 1) (m + σ.1 5 i) l13 l14 (by omega) (by omega) (by omega)
    simp only [Int.natCast_add, Int.cast_ofNat_Int] at q
    have f5 : flR σ i i = σ.1 5 i := by
      unfold flR; rw [if_neg (by omega), if_neg (by omega), lR_5 _ hi8]
    have f10 : flR σ i (24 + i) = σ.1 10 i := by
      unfold flR; rw [if_neg (by omega), if_neg (by omega), lR_10 _ hi8]
    have eR : putL f 190 (lF σ, (fu (fu (flR σ i) (24 + i) (σ.1 10 i + σ.1 5 i)) i 0, lT σ)) = putL f 190 (lF σ, (flR σ (i + 1), lT σ)) := by
      refine putL_ext (fun _ _ => rfl) (fun j hj => ?_) (fun _ _ => rfl)
      show fu (fu (flR σ i) (24 + i) (σ.1 10 i + σ.1 5 i)) i 0 j = flR σ (i + 1) j
      unfold fu flR
      by_cases c1 : j = i
      · rw [if_pos c1, if_pos (by omega)]
      · rw [if_neg c1]
        by_cases c2 : j = 24 + i
        · rw [if_pos c2, if_neg (by omega), if_pos (by omega), c2, lR_10 _ hi8, Nat.add_sub_cancel_left, lR_5 _ hi8]
        · rw [if_neg c2]
          by_cases c3 : j < i
          · rw [if_pos c3, if_pos (by omega)]
          · have c5 : ¬ j < i + 1 := by omega
            rw [if_neg c3, if_neg c5]
            by_cases c4 : 24 ≤ j ∧ j < 24 + i
            · have c6 : 24 ≤ j ∧ j < 24 + (i + 1) := by omega
              rw [if_pos c4, if_pos c6]
            · have c6 : ¬ (24 ≤ j ∧ j < 24 + (i + 1)) := by omega
              rw [if_neg c4, if_neg c6]
    unfold ads
    rw [← Int.add_assoc, ← q, e0_505]
    simp (disch := first | omega | rfl) only [e0_507, e0_509, e0_512, e0_514, e0_515, e0_517, e0_518, e0_519, e0_521, e0_522, e0_524, e0_526, e0_527, e0_528, e0_529, e0_530, e0_532, e0_533, e0_534, e0_535, e0_536, e0_538, e0_539, e0_540, e0_543, WpV_some, WpH_some, ↓ite_t, ↓ite_f, G_g1, G_p1, tn_n, tn24, f5, f10, fu_n, c, wrp_id, ↓reduceIte]
    rw [eR]
theorem kd_flush (h : ks σ) (hV : wfV V) (h0 : 0 ≤ sc) (h6 : sc ≤ 6) (hT : wfT T) {k hv : Int} (l11 l12 l13 l14 : AV) (hN : ND xs k hv 11 (σ.2 0) (σ.2 0 - σ.2 1) μ Q) : Wp xs 0 492 [vr 0, vr 1, vr 190, vr 191, vr 192, vi k, vi hv, vi 11, vi (σ.2 0), vi (σ.2 0 - σ.2 1), vi 1, l11, l12, l13, l14] [] μ (PP (putL (putV f V) 190 (lw σ)) sc T τ σ) Q := by
  obtain ⟨w1, w2, w3, w4, w5⟩ := id h.wf
  have k505 := fl_505 (xs := xs) (f := putV f V) (sc := sc) (T := T) (τ := τ) (s := σ) (μ := μ) (Q := Q) h (k := k) (hv := hv) (kd := 11) (al := σ.2 0) (lf := σ.2 0 - σ.2 1) 8 0 0 l13 l14 rfl (by omega) (by omega)
  have e0 : (lF σ, (flR σ 0, lT σ)) = lw σ := by
    unfold lw
    have : flR σ 0 = lR σ := by
      funext j; unfold flR; rw [if_neg (by omega), if_neg (by omega)]
    rw [this]
  rw [ads_8, Int.zero_add, e0] at k505
  simp only [Int.cast_ofNat_Int] at k505
  obtain ⟨z1, z2, z3, z4, z5⟩ := h.flu
  have q := cI_v (sv_run (xs := xs) (X := (lF σ, (flR σ 8, lT σ))) (m41 (xs := xs) (f := putL f 190 (lF σ, (flR σ 8, lT σ))) (V := V) (sc := sc) (T := T) (τ := τ) (σ := σ) (μ := μ) hV h0 h6)) P_o h1'
  rw [z2] at q
  have eX : putL (putV f (svV V sc σ)) 190 (lF σ, (flR σ 8, lT σ)) = putL (putV f (svV V sc σ)) 190 (lw (wba σ 0 8)) := by
    refine putL_ext (fun i hi => ?_) (lR_is (fun j hj => ?_) (fun j hj => ?_) (fun j hj => ?_) (fun j hj => ?_) (fun j hj => ?_) (fun j hj => ?_)) (lT_is ?_ ?_ ?_)
    · show fo (σ.1 4) i 0 8 = fo ((wba σ 0 8).1 4) i 0 8
      rw [z4 4 (by decide) (by decide)]
    · show flR σ 8 j = _
      unfold flR; rw [if_pos hj, (z5 j hj).1]
    · show flR σ 8 (8 + j) = _
      unfold flR; rw [if_neg (by omega), if_neg (by omega), lR_6 _ hj, z4 6 (by decide) (by decide)]
    · show flR σ 8 (16 + j) = _
      unfold flR; rw [if_neg (by omega), if_neg (by omega), lR_9 _ hj, z4 9 (by decide) (by decide)]
    · show flR σ 8 (24 + j) = _
      unfold flR; rw [if_neg (by omega), if_pos (by omega), lR_10 _ hj, Nat.add_sub_cancel_left, lR_5 _ hj, (z5 j hj).2]
    · show flR σ 8 (32 + j) = _
      unfold flR; rw [if_neg (by omega), if_neg (by omega), lR_7 _ hj, z4 7 (by decide) (by decide)]
    · show flR σ 8 (40 + j) = _
      unfold flR; rw [if_neg (by omega), if_neg (by omega), lR_8 _ hj, z4 8 (by decide) (by decide)]
    · show σ.2 2 = _; rw [z3]
    · show σ.2 1 = _; rw [z3]
    · show co (σ.1 2) 0 0 (σ.2 1).toNat = _; rw [z3, z4 2 (by decide) (by decide)]
  simp (disch := first | omega | rfl) only [e0_492, e0_494, e0_496, e0_499, e0_500, e0_502, e0_503, WpV_some, WpH_some, ↓ite_t, ↓ite_f, ne_eq, not_true_eq_false, ↓reduceIte]
  rw [k505]
  simp (disch := first | omega | rfl) only [e0_546, e0_547, e0_550, e0_552, e0_555, e0_556, e0_559, e0_560, e0_562, WpV_some, WpH_some, ↓ite_t, ↓ite_f, q, ne_eq, not_true_eq_false, ↓reduceIte]
  rw [eX]
  exact hN f (svV V sc σ) (svC sc) T τ _ z1 (wfV_sv hV) (svC_r h0 h6).1 (svC_r h0 h6).2 hT _ _ _ _
end LKB
