/-! THE LAW'S SMALL METHODS: cell, low, frame, use, victim -/
theorem i32_dv {x c : Int} (h0 : 0 ≤ x) (h1 : x < 2147483648) (hc : 0 < c) (hc2 : c < 2147483648) : i32 x / i32 c = i32 (x / c) := by
  have h2 : 0 ≤ x / c := Int.ediv_nonneg h0 (by omega)
  have h3 : x / c ≤ x := Int.ediv_le_self c h0
  apply Int32.toInt_inj.mp
  rw [Int32.toInt_div, i32_int (by omega) h1, i32_int (by omega) hc2, i32_int (by omega) (by omega), Int.tdiv_eq_ediv_of_nonneg h0]
  apply Int.bmod_eq_of_le <;> omega
theorem iDiv_c {x c : Int} (h0 : 0 ≤ x) (h1 : x < 2147483648) (hc : 0 < c) (hc2 : c < 2147483648) : iDiv x c = x / c := by
  have h2 : 0 ≤ x / c := Int.ediv_nonneg h0 (by omega)
  have h3 : x / c ≤ x := Int.ediv_le_self c h0
  unfold iDiv
  rw [i32_dv h0 h1 hc hc2, i32_int (by omega) (by omega)]
theorem iRem_c {x c : Int} (h0 : 0 ≤ x) (h1 : x < 2147483648) (hc : 0 < c) (hc2 : c < 2147483648) : iRem x c = x % c := by
  have h2 : 0 ≤ x % c := Int.emod_nonneg x (by omega)
  have h3 : x % c < c := Int.emod_lt_of_pos x hc
  unfold iRem
  rw [i32_dv h0 h1 hc hc2]
  have e : i32 x - i32 (x / c) * i32 c = i32 (x % c) := by
    unfold i32
    rw [← Int32.ofInt_mul, ← Int32.ofInt_sub]
    congr 1
    rw [Int.emod_def, Int.mul_comm]
  rw [e, i32_int (by omega) (by omega)]
def clv (xs : List Int) (k : Nat) : Int := if k < xs.length then xs.getD k 0 else wrp (wrp (32452867 * (k : Int)) + 15485863)
def lwv (v n : Int) : Int := iRem (iAnd v 2147483647) n
theorem iAnd_m (v : Int) : 0 ≤ iAnd v 2147483647 ∧ iAnd v 2147483647 < 2147483648 := by
  have h1 : (i32 2147483647).toBitVec.toNat = 2 ^ 31 - 1 := by decide
  obtain ⟨j, hj, e⟩ := pk_andE (i32 v) 31 h1
  have h2 : (nI j).toInt = (j : Int) := Int32.toInt_ofNat_of_lt hj
  have e3 : (2 : Nat) ^ 31 = 2147483648 := by decide
  unfold iAnd
  rw [e, h2]
  omega
theorem lwv_r (v : Int) {n : Int} (h0 : 0 < n) (h1 : n < 2147483648) : 0 ≤ lwv v n ∧ lwv v n < n := by
  have k := iAnd_m v
  unfold lwv
  rw [iRem_c k.1 k.2 h0 h1]
  exact ⟨Int.emod_nonneg _ (by omega), Int.emod_lt_of_pos _ h0⟩
theorem wrp_lt (x : Int) : -2147483648 ≤ wrp x ∧ wrp x < 2147483648 := ⟨wrp_lo x, wrp_hi x⟩
section LM
variable {xs : List Int} {g f : AH} {a : Nat} {X : LG} {sc : Int} {T : TG} {τ σ s : SG} {μ : Mu} {y pc : Nat} {L st : List AV} {Q : Out → Mu → AH → Prop}
theorem aN_s : aN xs 73 g 0 = some (vi (xs.length : Int)) := rfl
theorem gI_s {i : Int} (h0 : 0 ≤ i) (h1 : i < xs.length) : gI xs 73 g 0 i = some (vi (xs.getD i.toNat 0)) := by
  show sG xs 73 i = _
  unfold sG
  rw [if_pos ⟨by decide, h0, h1⟩]
theorem m73 (k : Nat) (hk : k < 100) : Runs xs 73 [vr 0, vi k] μ g (.inl (some (vi (clv xs k)))) μ g := Runs.iff fun Q hQ => by
  show Wp xs 73 0 [vr 0, vi k] [] μ g Q
  unfold clv at hQ
  by_cases c : k < xs.length
  · rw [if_pos c] at hQ
    have c2 : (k : Int) < xs.length := by omega
    have c3 : ¬ ((xs.length : Int) ≤ k) := by omega
    simp (disch := first | omega | rfl) only [e73_0, e73_1, e73_2, e73_3, e73_6, e73_7, e73_8, e73_9, e73_12, e73_14, e73_15, e73_16, e73_18, e73_19, WpV_some, WpH_some, ↓ite_t, ↓ite_f, aN_s, gI_s, c3, ↓reduceIte, Int.toNat_natCast]
    exact hQ
  · rw [if_neg c] at hQ
    have c3 : (xs.length : Int) ≤ k := by omega
    simp (disch := first | omega | rfl) only [e73_0, e73_1, e73_2, e73_3, e73_6, e73_7, e73_8, e73_9, e73_12, e73_14, e73_15, e73_16, e73_18, e73_19, WpV_some, WpH_some, ↓ite_t, ↓ite_f, aN_s, c3, ↓reduceIte]
    exact hQ
theorem m74 (v : Int) {n : Int} (hn : n ≠ 0) : Runs xs 74 [vi v, vi n] μ g (.inl (some (vi (lwv v n)))) μ g := Runs.iff fun Q hQ => by
  show Wp xs 74 0 [vi v, vi n] [] μ g Q
  simp (disch := first | assumption | omega | rfl) only [e74_0, e74_1, e74_3, e74_4, e74_5, e74_6, WpV_some, WpH_some, ↓ite_t, ↓ite_f]
  exact hQ
/-- the last place of a page among the frames -/
def lfr (F : Nat → Int) (p r : Int) (i : Nat) : Nat → Int
  | 0 => r
  | d + 1 => lfr F p (if F i = p then i else r) (i + 1) d
theorem lfr_loop (ha : 190 ≤ a) (p : Int) : ∀ (d i : Nat) (r : Int), (i : Int) + d = X.2.2 0 → i + d ≤ 6 → (Wp xs 76 5 [vr a, vr (a + 2), vi p, vi r, vi i] [] μ (PP (putL f a X) sc T τ σ) Q = Q (.inl (some (vi (lfr X.1 p r i d)))) μ (PP (putL f a X) sc T τ σ)) := by
  intro d
  induction d with
  | zero =>
    intro i r hi h6
    have c : X.2.2 0 ≤ (i : Int) := by omega
    simp (disch := first | omega | rfl) only [e76_0, e76_1, e76_2, e76_3, e76_5, e76_7, e76_8, e76_9, e76_10, e76_13, e76_14, e76_16, e76_17, e76_18, e76_21, e76_23, e76_26, e76_27, e76_28, e76_31, e76_34, e76_35, WpV_some, WpH_some, ↓ite_t, ↓ite_f, L_g2 ha, Int.reduceToNat, c, lfr]
  | succ d ih =>
    intro i r hi h6
    have c : ¬ X.2.2 0 ≤ (i : Int) := by omega
    have q := ih (i + 1) (if X.1 i = p then (i : Int) else r) (by omega) (by omega)
    simp only [Int.natCast_add, Int.cast_ofNat_Int] at q
    rw [e76_5]
    by_cases c2 : X.1 i = p
    · have c3 : ¬ (X.1 i ≠ p) := fun x => x c2
      simp (disch := first | omega | rfl) only [e76_0, e76_1, e76_2, e76_3, e76_7, e76_8, e76_9, e76_10, e76_13, e76_14, e76_16, e76_17, e76_18, e76_21, e76_23, e76_26, e76_27, e76_28, e76_31, e76_34, e76_35, WpV_some, WpH_some, ↓ite_t, ↓ite_f, L_g2 ha, L_g0 ha, Int.reduceToNat, Int.toNat_natCast, c, c3, wrp_id, lfr]
      rw [if_pos c2] at q ⊢
      exact q
    · have c3 : X.1 i ≠ p := c2
      rw [if_neg c2] at q
      simp (disch := first | omega | rfl) only [e76_0, e76_1, e76_2, e76_3, e76_7, e76_8, e76_9, e76_10, e76_13, e76_14, e76_16, e76_17, e76_18, e76_21, e76_23, e76_26, e76_27, e76_28, e76_31, e76_34, e76_35, WpV_some, WpH_some, ↓ite_t, ↓ite_f, L_g2 ha, L_g0 ha, Int.reduceToNat, Int.toNat_natCast, c, c2, c3, wrp_id, lfr, ↓reduceIte]
      exact q
theorem m76 (ha : 190 ≤ a) (h0 : 0 ≤ X.2.2 0) (h6 : X.2.2 0 ≤ 6) (p : Int) : Runs xs 76 [vr a, vr (a + 2), vi p] μ (PP (putL f a X) sc T τ σ) (.inl (some (vi (lfr X.1 p (-1) 0 (X.2.2 0).toNat)))) μ (PP (putL f a X) sc T τ σ) := Runs.iff fun Q hQ => by
  show Wp xs 76 0 [vr a, vr (a + 2), vi p, vu, vu] [] μ (PP (putL f a X) sc T τ σ) Q
  have q := lfr_loop (xs := xs) (f := f) (X := X) (sc := sc) (T := T) (τ := τ) (σ := σ) (μ := μ) (Q := Q) ha p (X.2.2 0).toNat 0 (-1) (by omega) (by omega)
  simp (disch := first | omega | rfl) only [e76_0, e76_1, e76_2, e76_3, e76_7, e76_8, e76_9, e76_10, e76_13, e76_14, e76_16, e76_17, e76_18, e76_21, e76_23, e76_26, e76_27, e76_28, e76_31, e76_34, e76_35, WpV_some, WpH_some, ↓ite_t, ↓ite_f]
  exact q ▸ hQ
theorem lfr_q {n : Int} {g F : Nat → Int} (h : ks_F n g) {p : Nat} (hp : p < 8) : ∀ (d i : Nat) (r : Int), (∀ k, i ≤ k → k < i + d → F k = fo g k 0 8) → lfr F p r i d = if (i : Int) ≤ g p ∧ g p < (i + d : Nat) then g p else r := by
  intro d
  induction d with
  | zero => intro i r hF; rw [if_neg (by omega)]; rfl
  | succ d ih =>
    intro i r hF
    unfold lfr
    rw [ih (i + 1) _ (fun k h1 h2 => hF k (by omega) (by omega)), hF i (Nat.le_refl _) (by omega)]
    have e := fo_is h (f := i) hp
    by_cases c : fo g i 0 8 = (p : Int)
    · have c2 := e.mp c
      rw [if_pos c, if_neg (by omega), if_pos (by omega), c2]
    · have c2 : ¬ g p = (i : Int) := fun e2 => c (e.mpr e2)
      rw [if_neg c]
      by_cases c3 : ((i + 1 : Nat) : Int) ≤ g p ∧ g p < (i + 1 + d : Nat)
      · rw [if_pos c3, if_pos (by omega)]
      · rw [if_neg c3, if_neg (by omega)]
theorem lfr_4 (h : ks s) {p : Nat} (hp : p < 8) : lfr (lF s) p (-1) 0 (s.2 2).toNat = s.1 4 p := by
  obtain ⟨w1, w2, w3, w4, w5⟩ := h.wf
  rw [lfr_q (F := lF s) h.F hp _ _ _ (fun k _ _ => rfl)]
  have e := h.F.1 p hp
  by_cases c : s.1 4 p = -1
  · rw [if_neg (by omega), c]
  · rw [if_pos (by omega)]
/-- the frame of a page -/
theorem m76s (h : ks s) (ha : 190 ≤ a) {p : Nat} (hp : p < 8) : Runs xs 76 [vr a, vr (a + 2), vi p] μ (PP (putL f a (lw s)) sc T τ σ) (.inl (some (vi (s.1 4 p)))) μ (PP (putL f a (lw s)) sc T τ σ) := by
  obtain ⟨w1, w2, w3, w4, w5⟩ := h.wf
  have q := m76 (xs := xs) (f := f) (X := lw s) (sc := sc) (T := T) (τ := τ) (σ := σ) (μ := μ) ha (by show 0 ≤ s.2 2; omega) (by show s.2 2 ≤ 6; omega) p
  have e : lfr (lw s).1 p (-1) 0 ((lw s).2.2 0).toNat = s.1 4 p := lfr_4 h hp
  rw [e] at q
  exact q
theorem askv_0 {i : Nat} (h : i < 80) : askv σ i (Int.toNat 0) = σ.1 0 i := by
  show rg 80 (σ.1 0) i = _
  exact rg_n _ h
theorem askv_1 {i : Nat} (h : i < 80) : askv σ i (Int.toNat 1) = σ.1 1 i := by
  show rg 80 (σ.1 1) i = _
  exact rg_n _ h
theorem cnt_0 : cnt sc σ (Int.toNat 0) = σ.2 0 := rfl
theorem use_loop (hw : wfS σ) (p fr : Int) : ∀ (d i : Nat), d = (σ.2 0).toNat - i → i ≤ 1000 → (Wp xs 77 2 [vr 1, vi p, vi fr, vi i] [] μ (PP f sc T τ σ) Q = Q (.inl (some (vi (if fo (σ.1 0) p i d = -1 then 80 else fo (σ.1 0) p i d)))) μ (PP f sc T τ σ)) := by
  obtain ⟨w1, w2, w3, w4, w5⟩ := id hw
  intro d
  induction d with
  | zero =>
    intro i hd hi
    have c : σ.2 0 ≤ (i : Int) := by omega
    simp (disch := first | omega | rfl) only [e77_0, e77_1, e77_2, e77_3, e77_4, e77_5, e77_8, e77_11, e77_12, e77_13, e77_14, e77_17, e77_18, e77_21, e77_22, e77_23, e77_26, e77_29, e77_31, WpV_some, WpH_some, ↓ite_t, ↓ite_f, cI_v (m52 hw 0 (by omega) (by omega)) P_o h1', cnt_0, c, fo, ↓reduceIte]
  | succ d ih =>
    intro i hd hi
    have c : ¬ σ.2 0 ≤ (i : Int) := by omega
    have q := ih (i + 1) (by omega) (by omega)
    simp only [Int.natCast_add, Int.cast_ofNat_Int] at q
    rw [e77_2]
    by_cases c2 : σ.1 0 i = p
    · have c3 : ¬ (σ.1 0 i ≠ p) := fun x => x c2
      simp (disch := first | omega | rfl) only [e77_0, e77_1, e77_3, e77_4, e77_5, e77_8, e77_11, e77_12, e77_13, e77_14, e77_17, e77_18, e77_21, e77_22, e77_23, e77_26, e77_29, e77_31, WpV_some, WpH_some, ↓ite_t, ↓ite_f, cI_v (m52 hw 0 (by omega) (by omega)) P_o h1', cI_v (m54 (σ := σ) (i : Int) 0 (by omega) (by omega) (by omega) (by omega)) P_o h1', cnt_0, askv_0, c, c3, fo, c2, ↓reduceIte]
      rw [if_neg (by omega)]
    · have c3 : σ.1 0 i ≠ p := c2
      simp (disch := first | omega | rfl) only [e77_0, e77_1, e77_3, e77_4, e77_5, e77_8, e77_11, e77_12, e77_13, e77_14, e77_17, e77_18, e77_21, e77_22, e77_23, e77_26, e77_29, e77_31, WpV_some, WpH_some, ↓ite_t, ↓ite_f, cI_v (m52 hw 0 (by omega) (by omega)) P_o h1', cI_v (m54 (σ := σ) (i : Int) 0 (by omega) (by omega) (by omega) (by omega)) P_o h1', cnt_0, askv_0, c, c3, fo, c2, ↓reduceIte, wrp_id]
      exact q
theorem m77 (hw : wfS σ) (p : Int) (i : Nat) (hi : i ≤ 1000) : Runs xs 77 [vr 1, vi p, vi i] μ (PP f sc T τ σ) (.inl (some (vi (nxu σ p i)))) μ (PP f sc T τ σ) := Runs.iff fun Q hQ => by
  show Wp xs 77 0 [vr 1, vi p, vi i, vu] [] μ (PP f sc T τ σ) Q
  have q := use_loop (xs := xs) (f := f) (sc := sc) (T := T) (τ := τ) (σ := σ) (μ := μ) (Q := Q) hw p i ((σ.2 0).toNat - i) i rfl hi
  simp (disch := first | omega | rfl) only [e77_0, e77_1, e77_3, e77_4, e77_5, e77_8, e77_11, e77_12, e77_13, e77_14, e77_17, e77_18, e77_21, e77_22, e77_23, e77_26, e77_29, e77_31, WpV_some, WpH_some, ↓ite_t, ↓ite_f]
  unfold nxu at hQ
  exact q ▸ hQ
end LM
