/-! THE LAW'S frames: its contract -/
theorem mvd_o : ∀ (d lo e : Nat) (s : SG), (∀ k, k ≠ 4 → (mvd s lo e d).1 k = s.1 k) ∧ (mvd s lo e d).2 = s.2 := by
  intro d
  induction d with
  | zero => intro lo e s; exact ⟨fun _ _ => rfl, rfl⟩
  | succ d ih =>
    intro lo e s
    unfold mvd
    split
    · exact ih _ _ _
    · obtain ⟨i1, i2⟩ := ih (lo + 1) (e + 1) (sR s 4 (rs 8 (s.1 4) (fo (s.1 4) e 0 8) lo))
      exact ⟨fun k hk => by rw [i1 k hk, sR_1, if_neg hk], i2⟩
theorem frs_o (n : Int) (σ : SG) : (∀ k, k ≠ 4 → (frs n σ).1.1 k = (frl n σ 0 6).1.1 k) ∧ ∀ j, (frs n σ).1.2 j = if j = 2 then n else (frl n σ 0 6).1.2 j := by
  unfold frs
  dsimp only
  generalize frl n σ 0 6 = r
  by_cases c : n < r.1.2 2
  · rw [if_pos c]
    obtain ⟨i1, i2⟩ := mvd_o (r.1.2 2).toNat 0 0 r.1
    exact ⟨fun k hk => by rw [sS_1, i1 k hk], fun j => by rw [sS_2, i2]⟩
  · rw [if_neg c]
    exact ⟨fun k hk => rfl, fun j => sS_2 _ _ _ _⟩
section LFM
variable {xs : List Int} {f : AH} {a c : Nat} {X Y : LG} {sc : Int} {T : TG} {τ σ s : SG} {μ : Mu} {y pc : Nat} {L st : List AV} {Q : Out → Mu → AH → Prop}
theorem fr_6 (h : ks σ) (ha : 190 ≤ a) (n : Int) : ∀ (d i : Nat) (m : Int), (i : Int) + d = σ.2 2 → 0 ≤ m → m ≤ i → (Wp xs 82 6 [vr 1, vr a, vr (a + 1), vr (a + 2), vi n, vi m, vi i, vu, vu, vu] [] μ (PP (putL f a (lw σ)) sc T τ σ) Q = Wp xs 82 37 [vr 1, vr a, vr (a + 1), vr (a + 2), vi n, vi (m + cin (lF σ) i d), vi (σ.2 2), vu, vu, vu] [] μ (PP (putL f a (lw σ)) sc T τ σ) Q) := by
  obtain ⟨w1, w2, w3, w4, w5⟩ := h.wf
  intro d
  induction d with
  | zero =>
    intro i m hi m0 m1
    have hi : (i : Int) = σ.2 2 := by omega
    simp (disch := first | omega | rfl) only [e82_6, e82_8, e82_9, e82_10, e82_11, WpV_some, WpH_some, ↓ite_t, ↓ite_f, L_g2 ha, lw_3, lT_0, Int.reduceToNat, hi, Int.le_refl, cin, Int.add_zero, ↓reduceIte]
  | succ d ih =>
    intro i m hi m0 m1
    have hc : ¬ σ.2 2 ≤ (i : Int) := by omega
    rw [e82_6]
    unfold cin
    by_cases c1 : fo (σ.1 4) i 0 8 < 0
    · have c3 : ¬ 0 ≤ fo (σ.1 4) i 0 8 := by omega
      have c4 : lF σ i < 0 := c1
      have q := ih (i + 1) m (by omega) (by omega) (by omega)
      simp only [Int.natCast_add, Int.cast_ofNat_Int] at q
      rw [if_pos c4, Int.zero_add, ← q]
      simp (disch := first | omega | rfl) only [e82_8, e82_9, e82_10, e82_11, e82_14, e82_16, e82_17, e82_19, e82_20, e82_23, e82_24, e82_27, e82_28, e82_29, e82_31, e82_34, WpV_some, WpH_some, ↓ite_t, ↓ite_f, L_g0 ha, L_g2 ha, lw_1, lw_3, lT_0, lF_at, Int.reduceToNat, tn_n, hc, c3, wrp_id, ↓reduceIte, Int.add_zero]
    · have c3 : 0 ≤ fo (σ.1 4) i 0 8 := by omega
      have c4 : ¬ lF σ i < 0 := c1
      have q := ih (i + 1) (m + 1) (by omega) (by omega) (by omega)
      simp only [Int.natCast_add, Int.cast_ofNat_Int] at q
      rw [if_neg c4, show m + (1 + cin (lF σ) (i + 1) d) = m + 1 + cin (lF σ) (i + 1) d by omega, ← q]
      simp (disch := first | omega | rfl) only [e82_8, e82_9, e82_10, e82_11, e82_14, e82_16, e82_17, e82_19, e82_20, e82_23, e82_24, e82_27, e82_28, e82_29, e82_31, e82_34, WpV_some, WpH_some, ↓ite_t, ↓ite_f, L_g0 ha, L_g2 ha, lw_1, lw_3, lT_0, lF_at, Int.reduceToNat, tn_n, hc, c3, wrp_id, ↓reduceIte]
theorem fr_40 (hw : wfS σ) (ha : 190 ≤ a) {n : Int} (hn1 : 1 ≤ n) (hn6 : n ≤ 6) : ∀ (d i : Nat) (s : SG) (l7 : AV), i + d = 6 → ks s → σ.1 0 = s.1 0 → σ.2 0 = s.2 0 → sm8 (s.1 6) ≤ n - 1 → inF s ≤ d → (∀ l7 : AV, Wp xs 82 98 [vr 1, vr a, vr (a + 1), vr (a + 2), vi n, vi (inF (frl n s i d).1), vi (frl n s i d).2, l7, vu, vu] [] μ (PP (putL f a (lw (frl n s i d).1)) sc T τ σ) Q) → Wp xs 82 40 [vr 1, vr a, vr (a + 1), vr (a + 2), vi n, vi (inF s), vi i, l7, vu, vu] [] μ (PP (putL f a (lw s)) sc T τ σ) Q := by
  intro d
  induction d with
  | zero =>
    intro i s l7 hi h e0 en hp hc hQ
    have c1 : inF s ≤ n := by omega
    have q := hQ l7
    simp (disch := first | omega | rfl) only [e82_40, e82_42, e82_44, WpV_some, WpH_some, ↓ite_t, ↓ite_f, c1, ↓reduceIte]
    exact q
  | succ d ih =>
    intro i s l7 hi h e0 en hp hc hQ
    obtain ⟨w1, w2, w3, w4, w5⟩ := id h.wf
    unfold frl at hQ
    rw [inF_c] at hQ
    rw [e82_40]
    by_cases c : inF s ≤ n
    · rw [if_pos c] at hQ
      have q := hQ l7
      simp (disch := first | omega | rfl) only [e82_42, e82_44, WpV_some, WpH_some, ↓ite_t, ↓ite_f, c, ↓reduceIte]
      exact q
    · rw [if_neg c] at hQ
      obtain ⟨b, hb8, hb, hb4, hb6, -⟩ := h.vicG 0 (s.2 1).toNat (by show sm8 (s.1 6) < inF s; omega)
      rw [hb] at hQ
      obtain ⟨D, hD⟩ : ∃ D : Nat, s.2 1 = (D : Int) := ⟨(s.2 1).toNat, by omega⟩
      rw [hD, Int.toNat_natCast] at hb
      have hFb := h.F.1 b hb8
      have hNb := h.N b hb8
      have hcb := h.ch b hb8
      obtain ⟨fb, hfb⟩ : ∃ fb : Nat, s.1 4 b = (fb : Int) := ⟨(s.1 4 b).toNat, by omega⟩
      have kv := cC_v (m78 (xs := xs) (f := f) (sc := sc) (T := T) (τ := τ) (σ := σ) (μ := μ) h hw e0 en ha (rule := 0) (Or.inl rfl) (i := D) (by omega))
      rw [hb] at kv
      have kf := cC_v (m76s (xs := xs) (f := f) (sc := sc) (T := T) (τ := τ) (σ := σ) (μ := μ) h ha hb8)
      rw [hfb] at kf
      have q := ih (i + 1) (tko s b) (vi b) (by omega) (h.tkoK hb8) (by rw [tko_o _ _ (by decide) (by decide) (by decide)]; exact e0) (by rw [tko_2]; exact en) (by rw [tko_o _ _ (by decide) (by decide) (by decide)]; exact hp) (by rw [cnt_tko s hb8 hb4]; omega) hQ
      simp only [Int.natCast_add, Int.cast_ofNat_Int, cnt_tko s hb8 hb4] at q
      have e2 : wrp (inF s + -1) = inF s - 1 := by rw [wrp_id (by omega) (by omega)]; omega
      have eqX : PP (putL f a (fu (lF s) fb (-1), (fu (fu (lR s) (24 + b) (s.1 10 b + s.1 5 b)) b 0, lT s))) sc T τ σ = PP (putL f a (lw (tko s b))) sc T τ σ := by
        have ev := ev_eq (X := lw s) h hb8 (fun i _ => rfl)
        have e3 : putL f a (fu (lF s) fb (-1), (fu (fu (lR s) (24 + b) (s.1 10 b + s.1 5 b)) b 0, lT s)) = putL f a (lw (tko s b)) := by
          refine putL_ext (fun j hj => ?_) (fun j hj => ?_) (fun j hj => ?_)
          · show fu (lF s) fb (-1) j = fo ((tko s b).1 4) j 0 8
            rw [tko_4 s hb8, fo_out h.F hb8 hfb]
            rfl
          · have := ev j hj
            unfold evX at this
            rw [lw_2, lR_10 s hb8, lR_5 s hb8] at this
            exact this
          · show lT s j = lT (tko s b) j
            unfold lT
            rw [tko_2, tko_o _ _ (by decide) (by decide) (by decide)]
        rw [e3]
      simp (disch := first | omega | rfl) only [e82_42, e82_44, e82_47, e82_48, e82_49, e82_50, e82_51, e82_52, e82_53, e82_54, e82_55, e82_58, e82_60, e82_61, e82_62, e82_63, e82_65, e82_68, e82_69, e82_70, e82_71, e82_73, e82_75, e82_76, e82_77, e82_78, e82_79, e82_81, e82_82, e82_83, e82_84, e82_85, e82_87, e82_88, e82_89, e82_92, e82_95, WpV_some, WpH_some, ↓ite_t, ↓ite_f, L_g1 ha, L_g2 ha, L_p0 ha, L_p1 ha, lw_1, lw_2, lw_3, lT_1, hD, kv, kf, lR_5, lR_10, tn_n, tn24, c, e2, fu_n, Int.reduceToNat, wrp_id, ↓reduceIte]
      rw [eqX]
      exact q
theorem fr_112 (ha : 190 ≤ a) (n : Int) (l5 : AV) (v : Int) : ∀ (d k lo : Nat) (X : LG) (l9 : AV), k + d = 6 → lo ≤ k → (∀ (lo' : Int) (l9 : AV), Wp xs 82 150 [vr 1, vr a, vr (a + 1), vr (a + 2), vi n, l5, vi v, vi lo', vi 6, l9] [] μ (PP (putL f a (mvF X.1 lo k d, X.2)) sc T τ σ) Q) → Wp xs 82 112 [vr 1, vr a, vr (a + 1), vr (a + 2), vi n, l5, vi v, vi lo, vi k, l9] [] μ (PP (putL f a X) sc T τ σ) Q := by
  intro d
  induction d with
  | zero =>
    intro k lo X l9 hk hl hQ
    have hk : k = 6 := by omega
    subst hk
    have q := hQ lo l9
    have c6 : (6 : Int) ≤ ((6 : Nat) : Int) := by decide
    simp (disch := first | omega | rfl) only [e82_112, e82_114, e82_116, WpV_some, WpH_some, ↓ite_t, ↓ite_f, c6, Int.cast_ofNat_Int]
    exact q
  | succ d ih =>
    intro k lo X l9 hk hl hQ
    have c6 : ¬ (6 : Int) ≤ (k : Int) := by omega
    rw [e82_112]
    unfold mvF at hQ
    by_cases c : X.1 k < 0
    · rw [if_pos c] at hQ
      have q := ih (k + 1) lo (fu X.1 k (-1), X.2) (vi (X.1 k)) (by omega) (by omega) hQ
      simp only [Int.natCast_add, Int.cast_ofNat_Int] at q
      simp (disch := first | omega | rfl) only [e82_114, e82_116, e82_119, e82_120, e82_122, e82_123, e82_125, e82_126, e82_128, e82_129, e82_130, e82_132, e82_144, e82_147, WpV_some, WpH_some, ↓ite_t, ↓ite_f, L_g0 ha, L_p0 ha, tn_n, c6, c, wrp_id, ↓reduceIte]
      exact q
    · rw [if_neg c] at hQ
      have q := ih (k + 1) (lo + 1) (fu (fu X.1 k (-1)) lo (X.1 k), X.2) (vi (X.1 k)) (by omega) (by omega) hQ
      simp only [Int.natCast_add, Int.cast_ofNat_Int] at q
      simp (disch := first | omega | rfl) only [e82_114, e82_116, e82_119, e82_120, e82_122, e82_123, e82_125, e82_126, e82_128, e82_129, e82_130, e82_132, e82_135, e82_136, e82_138, e82_140, e82_141, e82_144, e82_147, WpV_some, WpH_some, ↓ite_t, ↓ite_f, L_g0 ha, L_p0 ha, tn_n, c6, c, wrp_id, ↓reduceIte]
      exact q
theorem fr_150 (ha : 190 ≤ a) (n v : Int) (l5 l7 l8 l9 : AV) : Wp xs 82 150 [vr 1, vr a, vr (a + 1), vr (a + 2), vi n, l5, vi v, l7, l8, l9] [] μ (PP (putL f a X) sc T τ σ) Q = Q (.inl (some (vi v))) μ (PP (putL f a (X.1, (X.2.1, fu X.2.2 0 n))) sc T τ σ) := by
  simp (disch := first | omega | rfl) only [e82_150, e82_151, e82_152, e82_154, e82_155, e82_157, WpV_some, WpH_some, ↓ite_t, ↓ite_f, L_p2 ha, Int.reduceToNat]
theorem m82 (h : ks σ) (ha : 190 ≤ a) {n : Int} (hn1 : 1 ≤ n) (hn6 : n ≤ 6) (hp : sm8 (σ.1 6) ≤ n - 1) : Runs xs 82 [vr 1, vr a, vr (a + 1), vr (a + 2), vi n] μ (PP (putL f a (lw σ)) sc T τ σ) (.inl (some (vi (frs n σ).2))) μ (PP (putL f a (lw (frs n σ).1)) sc T τ σ) := Runs.iff fun Q hQ => by
  show Wp xs 82 0 [vr 1, vr a, vr (a + 1), vr (a + 2), vi n, vu, vu, vu, vu, vu] [] μ (PP (putL f a (lw σ)) sc T τ σ) Q
  obtain ⟨w1, w2, w3, w4, w5⟩ := id h.wf
  have k6 := fr_6 (xs := xs) (f := f) (a := a) (sc := sc) (T := T) (τ := τ) (μ := μ) (Q := Q) h ha n (σ.2 2).toNat 0 0 (by omega) (by omega) (by omega)
  have k6 : Wp xs 82 6 [vr 1, vr a, vr (a + 1), vr (a + 2), vi n, vi 0, vi 0, vu, vu, vu] [] μ (PP (putL f a (lw σ)) sc T τ σ) Q = _ := k6
  rw [cin_all h, inF_c, Int.zero_add] at k6
  simp (disch := first | omega | rfl) only [e82_0, e82_1, e82_3, e82_4, WpV_some, WpH_some, ↓ite_t, ↓ite_f]
  rw [k6]
  simp (disch := first | omega | rfl) only [e82_37, e82_38, WpV_some, WpH_some, ↓ite_t, ↓ite_f]
  have hin : inF σ ≤ 6 := Int.le_trans (in_le h.F (by omega) w5) w5
  refine fr_40 h.wf ha hn1 hn6 6 0 σ vu rfl h rfl rfl hp hin (fun l7 => ?_)
  obtain ⟨k1, k2, k3⟩ := frl_ks n hn1 6 0 σ h hp hin
  have k4 := frl_2 n 6 0 σ
  obtain ⟨z1, z2⟩ := frs_ks h hn1 hn6 hp
  obtain ⟨o1, o2⟩ := frs_o n σ
  have hr : (frs n σ).2 = (frl n σ 0 6).2 := rfl
  have key : ∀ F : Nat → Int, (∀ i, i < 6 → F i = lF (frs n σ).1 i) → PP (putL f a (F, ((lw (frl n σ 0 6).1).2.1, fu (lw (frl n σ 0 6).1).2.2 0 n))) sc T τ σ = PP (putL f a (lw (frs n σ).1)) sc T τ σ := fun F hF => by
    have e3 : putL f a (F, ((lw (frl n σ 0 6).1).2.1, fu (lw (frl n σ 0 6).1).2.2 0 n)) = putL f a (lw (frs n σ).1) := by
      refine putL_ext hF (fun j hj => ?_) (lT_is ?_ ?_ ?_)
      · show lR (frl n σ 0 6).1 j = lR (frs n σ).1 j
        unfold lR
        rw [o1 5 (by decide), o1 6 (by decide), o1 9 (by decide), o1 10 (by decide), o1 7 (by decide), o1 8 (by decide)]
      · show fu (lT (frl n σ 0 6).1) 0 n 0 = _
        rw [fu_s, o2, if_pos rfl]
      · show fu (lT (frl n σ 0 6).1) 0 n 1 = _
        rw [fu_n _ _ (by decide), lT_1, o2, if_neg (by decide)]
      · show fu (lT (frl n σ 0 6).1) 0 n 2 = _
        rw [fu_n _ _ (by decide), lT_2, o2, if_neg (by decide), o1 2 (by decide)]
    rw [e3]
  have ht : lT (frl n σ 0 6).1 0 = σ.2 2 := by rw [lT_0, k4]
  by_cases c : n < σ.2 2
  · have c2 : ¬ σ.2 2 ≤ n := by omega
    have z2' : ∀ i, i < 6 → mvF (lF (frl n σ 0 6).1) 0 0 6 i = lF (frs n σ).1 i := fun i hi => by have := z2 i hi; rw [if_pos c] at this; exact this
    simp (disch := first | omega | rfl) only [e82_98, e82_100, e82_101, e82_102, e82_103, e82_106, e82_107, e82_109, e82_110, WpV_some, WpH_some, ↓ite_t, ↓ite_f, L_g2 ha, lw_3, Int.reduceToNat, ht, c2, ↓reduceIte]
    refine fr_112 ha n _ _ 6 0 0 _ vu rfl (Nat.le_refl _) (fun lo' l9 => ?_)
    rw [fr_150 ha]
    rw [← key _ z2'] at hQ
    exact hQ
  · have c2 : σ.2 2 ≤ n := by omega
    have z2' : ∀ i, i < 6 → lF (frl n σ 0 6).1 i = lF (frs n σ).1 i := fun i hi => by have := z2 i hi; rw [if_neg c] at this; exact this
    simp (disch := first | omega | rfl) only [e82_98, e82_100, e82_101, e82_102, e82_103, WpV_some, WpH_some, ↓ite_t, ↓ite_f, L_g2 ha, lw_3, Int.reduceToNat, ht, c2, ↓reduceIte]
    rw [fr_150 ha]
    rw [← key _ z2'] at hQ
    exact hQ
end LFM
