/-! THE FEWEST READS: what the rule 0 reads -/
def setS (σ : SG) (S : Nat) : Prop := S < 256 ∧ ∀ p, p < 8 → bI S p = if σ.1 4 p = -1 then 0 else 1
def gA (A : Nat → Int) (i : Nat) : Nat := (A i).toNat % 8
def cnn (h : Nat → Int) : Nat → Int
  | 0 => 0
  | m + 1 => cnn h m + h m
theorem cnn_8 (h : Nat → Int) : cnn h 8 = sm8 h := by
  unfold sm8
  simp only [cnn]
  omega
theorem sm8_nn {w : Nat → Int} (h : ∀ f, f < 8 → 0 ≤ w f) : 0 ≤ sm8 w := by
  have b := sm8_at h (p := 0) (by decide)
  have b2 := h 0 (by decide)
  omega
theorem inj_count : ∀ (m : Nat) (w g : Nat → Int), (∀ f, f < 8 → 0 ≤ w f) → (∀ p : Nat, p < m → g p = -1 ∨ ∃ f : Nat, f < 8 ∧ g p = f ∧ 1 ≤ w f) → (∀ p q : Nat, p < m → q < m → g p = g q → g p ≠ -1 → p = q) → cnn (fun p => if g p = -1 then 0 else 1) m ≤ sm8 w := by
  intro m
  induction m with
  | zero => intro w g h0 h1 h2; exact sm8_nn h0
  | succ m ih =>
    intro w g h0 h1 h2
    unfold cnn
    by_cases c : g m = -1
    · have := ih w g h0 (fun p hp => h1 p (by omega)) (fun p q hp hq => h2 p q (by omega) (by omega))
      rw [if_pos c]
      omega
    · rcases h1 m (by omega) with e | ⟨f, hf, e1, e2⟩
      · exact absurd e c
      · have := ih (fu w f 0) g (fun e he => by
          unfold fu; split
          · exact Int.le_refl 0
          · exact h0 e he) (fun p hp => by
          rcases h1 p (by omega) with e | ⟨f', hf', e3, e4⟩
          · exact Or.inl e
          · refine Or.inr ⟨f', hf', e3, ?_⟩
            have hne : f' ≠ f := fun x => by
              subst x
              have := h2 p m (by omega) (by omega) (by rw [e3, e1]) (by omega)
              omega
            rw [fu_n _ _ hne]
            exact e4) (fun p q hp hq => h2 p q (by omega) (by omega))
        have e5 := sm8_fu w hf 0
        rw [if_neg c]
        omega
theorem w_n {n : Nat} (hn : n ≤ 6) : sm8 (fun f => if f < n then 1 else 0) = n := by
  have h : n = 0 ∨ n = 1 ∨ n = 2 ∨ n = 3 ∨ n = 4 ∨ n = 5 ∨ n = 6 := by omega
  rcases h with rfl | rfl | rfl | rfl | rfl | rfl | rfl <;> rfl
section BF
variable {σ : SG} {z : Nat → Int} {S : Nat}
theorem rel.inj (h : rel σ z) (p q : Nat) (hp : p < 8) (hq : q < 8) (e : σ.1 4 p = σ.1 4 q) (hn : σ.1 4 p ≠ -1) : p = q := by
  obtain ⟨w1, w2, w3, w4, w5⟩ := h.wf
  have hr := h.F.1 p hp
  have e1 := (h.F.2.2 (σ.1 4 p).toNat p (by omega) hp).mpr (by omega)
  have e2 := (h.F.2.2 (σ.1 4 p).toNat q (by omega) hq).mpr (by omega)
  omega
theorem set_sm (hS : setS σ S) : sm8 (bI S) = cnn (fun p => if σ.1 4 p = -1 then 0 else 1) 8 := by
  rw [cnn_8]
  exact sm8_ext hS.2
theorem set_le (h : rel σ z) (hS : setS σ S) : sm8 (bI S) ≤ σ.2 2 := by
  obtain ⟨w1, w2, w3, w4, w5⟩ := h.wf
  rw [set_sm hS]
  have e := inj_count 8 (fun f => if f < (σ.2 2).toNat then 1 else 0) (σ.1 4) (fun f _ => by split <;> omega) (fun p hp => by
    have hr := h.F.1 p hp
    by_cases c : σ.1 4 p = -1
    · exact Or.inl c
    · refine Or.inr ⟨(σ.1 4 p).toNat, by omega, by omega, ?_⟩
      rw [if_pos (by omega)]
      exact Int.le_refl 1) (fun p q hp hq e hn => h.inj p q hp hq e hn)
  rw [w_n (by omega)] at e
  omega
theorem set_lt (h : rel σ z) (hS : setS σ S) (hl : lef (σ.1 4) 0 (σ.2 2).toNat ≠ -1) : sm8 (bI S) < σ.2 2 := by
  obtain ⟨w1, w2, w3, w4, w5⟩ := h.wf
  obtain ⟨fr, hf1, hf2⟩ : ∃ fr : Nat, fr < (σ.2 2).toNat ∧ fo (σ.1 4) fr 0 8 = -1 := by
    apply Classical.byContradiction
    intro hn
    apply hl
    rw [lef_none]
    intro j _ hj e
    exact hn ⟨j, by omega, e⟩
  rw [fo_none] at hf2
  rw [set_sm hS]
  have e := inj_count 8 (fu (fun f => if f < (σ.2 2).toNat then 1 else 0) fr 0) (σ.1 4) (fun f _ => by
    unfold fu
    split
    · exact Int.le_refl 0
    · show 0 ≤ (if f < (σ.2 2).toNat then (1 : Int) else 0)
      split <;> omega) (fun p hp => by
    have hr := h.F.1 p hp
    by_cases c : σ.1 4 p = -1
    · exact Or.inl c
    · refine Or.inr ⟨(σ.1 4 p).toNat, by omega, by omega, ?_⟩
      have hne : (σ.1 4 p).toNat ≠ fr := fun x => hf2 p (by omega) (by omega) (by omega)
      rw [fu_n _ _ hne]
      rw [if_pos (by omega)]
      exact Int.le_refl 1) (fun p q hp hq e hn => h.inj p q hp hq e hn)
  have e2 := sm8_fu (fun f => if f < (σ.2 2).toNat then (1 : Int) else 0) (p := fr) (by omega) 0
  rw [w_n (by omega)] at e2
  rw [if_pos hf1] at e2
  omega
theorem rdi_4 (τ : SG) (fr : Int) {p : Nat} (hp : p < 8) : (rdi τ fr p).1 4 = fu (τ.1 4) p fr := by
  unfold rdi
  rw [sR_1, if_neg (by decide), sR_1, if_neg (by decide), sR_1, if_pos rfl, rs_n _ _ hp]
theorem dnx_set (h : rel σ z) (hd : σ.2 1 < σ.2 0) (hS : setS σ S) {a q : Nat} (ha : σ.2 1 = (a : Int)) (hq : σ.1 0 a = (q : Int)) (hq8 : q < 8) : (bI S q = 1 ∧ setS (dnx σ 0) S ∧ dnr z = 0) ∨ (bI S q = 0 ∧ sm8 (bI S) < σ.2 2 ∧ setS (dnx σ 0) (sadd S q) ∧ dnr z = 1) ∨ (bI S q = 0 ∧ sm8 (bI S) = σ.2 2 ∧ dnr z = 1 ∧ ∃ b, b < 8 ∧ bI S b = 1 ∧ σ.1 6 b = 0 ∧ setS (dnx σ 0) (sadd (sdel S b) q) ∧ ∀ w : Nat, w < 8 → bI S w = 1 → σ.1 6 w = 0 → age σ 0 (a + 1) w ≤ age σ 0 (a + 1) b) := by
  obtain ⟨w1, w2, w3, w4, w5⟩ := id h.wf
  obtain ⟨a', p, ha', ha8, hpa, hp, e1, e2, e3⟩ := h.page hd
  have : a' = a := by omega
  subst this
  have : p = q := by omega
  subst this
  have d0 : ¬ σ.2 0 ≤ σ.2 1 := by omega
  have hSq := hS.2 p hp
  unfold dnx dnr
  rw [if_neg d0, e1, e2, h.fofE hp, rg_n _ hp]
  by_cases c : σ.1 4 p = -1
  · have n1 : ¬ (σ.1 4 p ≠ -1) := fun x => x c
    rw [if_pos c] at hSq
    rw [if_neg n1, if_pos c]
    by_cases c2 : lef (σ.1 4) 0 (σ.2 2).toNat = -1
    · have n2 : ¬ (lef (σ.1 4) 0 (σ.2 2).toNat ≠ -1) := fun x => x c2
      rw [if_neg n2]
      obtain ⟨b, hb8, hb, hb4, hb6, hmax⟩ := h.vicE 0 (σ.2 1 + 1).toNat c2
      have hSb := hS.2 b hb8
      rw [if_neg hb4] at hSb
      have f1 := full_page h c2
      have f2 := set_le h hS
      have f3 := sm8_ext hS.2
      refine Or.inr (Or.inr ⟨hSq, by omega, rfl, b, hb8, hSb, hb6, ⟨ad_lt hS.1 hb8 hp, fun x hx => ?_⟩, fun w hw hw1 hw2 => ?_⟩)
      · rw [hb, rg_n _ hb8, mkd_o _ _ _ _ (by decide) (by decide) (by decide) (by decide), bI_ad, rdi_4 _ _ hp, tko_4 σ hb8]
        by_cases x1 : x = p
        · subst x1; rw [fu_s, if_pos rfl, if_neg hb4]
        · rw [fu_n _ _ x1, if_neg x1]
          by_cases x2 : x = b
          · subst x2; rw [fu_s, if_pos rfl, if_pos rfl]
          · rw [fu_n _ _ x2, if_neg x2]; exact hS.2 x hx
      · have e4 := hmax w hw
        rw [show (σ.2 1 + 1).toNat = a' + 1 by omega] at e4
        have e5 := hS.2 w hw
        rcases e4 with e4 | e4 | e4
        · rw [if_pos e4] at e5; omega
        · exact absurd hw2 e4
        · exact e4
    · have c2' : lef (σ.1 4) 0 (σ.2 2).toNat ≠ -1 := c2
      rw [if_pos c2']
      refine Or.inr (Or.inl ⟨hSq, set_lt h hS c2, ⟨sadd_lt hS.1 hp, fun x hx => ?_⟩, rfl⟩)
      rw [mkd_o _ _ _ _ (by decide) (by decide) (by decide) (by decide), bI_add, rdi_4 _ _ hp]
      by_cases x1 : x = p
      · subst x1; rw [fu_s, if_pos rfl, if_neg c2]
      · rw [fu_n _ _ x1, if_neg x1]; exact hS.2 x hx
  · have c' : σ.1 4 p ≠ -1 := c
    rw [if_neg c] at hSq
    rw [if_pos c', if_neg c]
    refine Or.inl ⟨hSq, ⟨hS.1, fun x hx => ?_⟩, rfl⟩
    rw [mkd_o _ _ _ _ (by decide) (by decide) (by decide) (by decide)]
    exact hS.2 x hx
theorem gA_lt (A : Nat → Int) (i : Nat) : gA A i < 8 := Nat.mod_lt _ (by decide)
/-- what the rule 0 reads can be reached, and nothing reads less -/
theorem bel {n : Int} {P A : Nat → Int} : ∀ (d a : Nat) (σ : SG) (z : Nat → Int) (S : Nat), rel σ z → σ.2 1 = (a : Int) → (a : Int) + d = σ.2 0 → σ.2 2 = n → σ.1 6 = P → σ.1 0 = A → setS σ S → ∀ k, ply n P (gA A) a d S k → sm8 ((fin σ 0 d).1 9) - sm8 (σ.1 9) ≤ k := by
  intro d
  induction d with
  | zero =>
    intro a σ z S h ha hd hn hP hA hS k hk
    have hk : k = 0 := hk
    show sm8 (σ.1 9) - sm8 (σ.1 9) ≤ k
    omega
  | succ d ih =>
    intro a σ z S h ha hd hn hP hA hS k hk
    obtain ⟨w1, w2, w3, w4, w5⟩ := id h.wf
    have hd2 : σ.2 1 < σ.2 0 := by omega
    have hPa := h.P a (by omega)
    obtain ⟨q, hq⟩ : ∃ q : Nat, σ.1 0 a = (q : Int) := ⟨(σ.1 0 a).toNat, by omega⟩
    have hq8 : q < 8 := by omega
    have hgq : gA A a = q := by
      unfold gA
      rw [← hA, hq]
      omega
    have e1 := dnx_21 h hd2 0
    have h2 := h.dnxE hd2 0 (Or.inl rfl)
    have ec := (dnx_count h hd2 0 (Or.inl rfl)).1
    have o6 := dnx_o σ 0 (k := 6) (by omega)
    have o0 := dnx_o σ 0 (k := 0) (by omega)
    have ih2 := fun S' hS' k' hk' => ih (a + 1) (dnx σ 0) (dnm z 0) S' h2 (by omega) (by omega) (by omega) (by rw [o6, hP]) (by rw [o0, hA]) hS' k' hk'
    unfold ply at hk
    rw [hgq] at hk
    show sm8 ((fin (dnx σ 0) 0 d).1 9) - sm8 (σ.1 9) ≤ k
    rcases dnx_set h hd2 hS ha hq hq8 with ⟨c1, c2, c3⟩ | ⟨c1, c2, c3, c4⟩ | ⟨c1, c2, c3, b, hb8, hb1, hb6, hb4, hmax⟩
    · rw [if_pos c1] at hk
      have := ih2 S c2 k hk
      omega
    · rw [if_neg (by omega), if_pos (by omega)] at hk
      have := ih2 _ c3 _ hk
      omega
    · have n1 : ¬ bI S q = 1 := by omega
      have n2 : ¬ sm8 (bI S) < n := by omega
      rw [if_neg n1, if_neg n2] at hk
      obtain ⟨w, hw, hw1, hw2, hk⟩ := hk
      by_cases cw : w = b
      · subst cw
        have := ih2 _ hb4 _ hk
        omega
      · have bq : b ≠ q := fun x => by subst x; omega
        have wq : w ≠ q := fun x => by subst x; omega
        have hsw : sw (sadd (sdel S b) q) (sadd (sdel S w) q) w b := by
          refine ⟨ad_lt hS.1 hb8 hq8, ad_lt hS.1 hw hq8, hw, hb8, ?_, ?_, ?_, ?_, fun x x1 x2 => ?_⟩
          · rw [bI_ad, if_neg wq, if_neg cw, hw1]
          · rw [bI_ad, if_neg bq, if_pos rfl]
          · rw [bI_ad, if_neg wq, if_pos rfl]
          · rw [bI_ad, if_neg bq, if_neg (Ne.symm cw), hb1]
          · rw [bI_ad, bI_ad, if_neg x2, if_neg x1]
        have s1 := sm_ad hb8 hq8 hb1 c1
        have s2 := sm_ad hw hq8 hw1 c1
        have hm := hmax w hw hw1 (by rw [hP]; exact hw2)
        have ho : ord (gA A) (a + 1) d w b := by
          refine ord_nxu (a := σ.1 0) (N := (σ.2 0).toNat) (by omega) (fun i hi => ?_) w b d (a + 1) (by omega) ?_
          · have := h.P i (by omega)
            unfold gA
            rw [← hA]
            omega
          · unfold age nxu at hm
            rw [if_pos rfl, if_pos rfl, show (σ.2 0).toNat - (a + 1) = d by omega] at hm
            exact hm
        obtain ⟨k', e3, e4⟩ := pl_D (n := n) (P := P) (gA_lt A) d (a + 1) _ _ w b _ hsw (by omega) (by omega) hw2 (by rw [← hP]; exact hb6) ho hk
        have := ih2 _ hb4 _ e4
        omega
end BF
