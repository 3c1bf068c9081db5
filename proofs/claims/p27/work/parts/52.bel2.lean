/-! THE FEWEST READS: what the rule 0 reads is the least of all rules -/
def setS (σ : SG) (S : Nat) : Prop := S < 256 ∧ ∀ p, p < 8 → bI S p = if σ.1 4 p = -1 then 0 else 1
def gA (A : Nat → Int) (i : Nat) : Nat := (A i).toNat % 8
def cnn (h : Nat → Int) : Nat → Int
  | 0 => 0
  | m + 1 => cnn h m + h m
theorem cnn_8 (h : Nat → Int) : cnn h 8 = sm8 h := by
  unfold sm8
  simp only [cnn]
  omega
theorem sm8_nn {w : Nat → Int} (h : ∀ f, f < 8 → 0 ≤ w f) : 0 ≤ sm8 w := by
  have b := sm8_at h (p := 0) (by decide)
  have b2 := h 0 (by decide)
  omega
theorem inj_count : ∀ (m : Nat) (w g : Nat → Int), (∀ f, f < 8 → 0 ≤ w f) → (∀ p : Nat, p < m → g p = -1 ∨ ∃ f : Nat, f < 8 ∧ g p = f ∧ 1 ≤ w f) → (∀ p q : Nat, p < m → q < m → g p = g q → g p ≠ -1 → p = q) → cnn (fun p => if g p = -1 then 0 else 1) m ≤ sm8 w := by
  intro m
  induction m with
  | zero => intro w g h0 h1 h2; exact sm8_nn h0
  | succ m ih =>
    intro w g h0 h1 h2
    unfold cnn
    by_cases c : g m = -1
    · have := ih w g h0 (fun p hp => h1 p (by omega)) (fun p q hp hq => h2 p q (by omega) (by omega))
      rw [if_pos c]
      omega
    · rcases h1 m (by omega) with e | ⟨f, hf, e1, e2⟩
      · exact absurd e c
      · have := ih (fu w f 0) g (fun e he => by
          unfold fu; split
          · exact Int.le_refl 0
          · exact h0 e he) (fun p hp => by
          rcases h1 p (by omega) with e | ⟨f', hf', e3, e4⟩
          · exact Or.inl e
          · refine Or.inr ⟨f', hf', e3, ?_⟩
            have hne : f' ≠ f := fun x => by
              subst x
              have := h2 p m (by omega) (by omega) (by rw [e3, e1]) (by omega)
              omega
            rw [fu_n _ _ hne]
            exact e4) (fun p q hp hq => h2 p q (by omega) (by omega))
        have e5 := sm8_fu w hf 0
        rw [if_neg c]
        omega
theorem w_n {n : Nat} (hn : n ≤ 6) : sm8 (fun f => if f < n then 1 else 0) = n := by
  have h : n = 0 ∨ n = 1 ∨ n = 2 ∨ n = 3 ∨ n = 4 ∨ n = 5 ∨ n = 6 := by omega
  rcases h with rfl | rfl | rfl | rfl | rfl | rfl | rfl <;> rfl
section BF
variable {σ : SG} {S : Nat}
theorem set_sm (hS : setS σ S) : sm8 (bI S) = cnn (fun p => if σ.1 4 p = -1 then 0 else 1) 8 := by
  rw [cnn_8]
  exact sm8_ext hS.2
/-- pages in frames are no more than frames -/
theorem in_le {n : Int} {g : Nat → Int} (h : ks_F n g) (hn : 0 ≤ n) (hn6 : n ≤ 6) : sm8 (fun p => if g p = -1 then 0 else 1) ≤ n := by
  have e := inj_count 8 (fun f => if f < n.toNat then 1 else 0) g (fun f _ => by split <;> omega) (fun p hp => by
    have hr := h.1 p hp
    by_cases c : g p = -1
    · exact Or.inl c
    · refine Or.inr ⟨(g p).toNat, by omega, by omega, ?_⟩
      rw [if_pos (by omega)]
      exact Int.le_refl 1) (fun p q hp hq e hn => h.2 p q hp hq e hn)
  rw [w_n (by omega), cnn_8] at e
  omega
theorem set_le (h : ks σ) (hS : setS σ S) : sm8 (bI S) ≤ σ.2 2 := by
  obtain ⟨w1, w2, w3, w4, w5⟩ := h.wf
  have := in_le h.F (by omega) w5
  rw [sm8_ext hS.2]
  exact this
theorem set_lt (h : ks σ) (hS : setS σ S) {fr : Nat} (hf1 : (fr : Int) < σ.2 2) (hf2 : fo (σ.1 4) fr 0 8 = -1) : sm8 (bI S) < σ.2 2 := by
  obtain ⟨w1, w2, w3, w4, w5⟩ := h.wf
  rw [emp_q] at hf2
  rw [set_sm hS]
  have e := inj_count 8 (fu (fun f => if f < (σ.2 2).toNat then 1 else 0) fr 0) (σ.1 4) (fun f _ => by
    unfold fu
    split
    · exact Int.le_refl 0
    · show 0 ≤ (if f < (σ.2 2).toNat then (1 : Int) else 0)
      split <;> omega) (fun p hp => by
    have hr := h.F.1 p hp
    by_cases c : σ.1 4 p = -1
    · exact Or.inl c
    · refine Or.inr ⟨(σ.1 4 p).toNat, by omega, by omega, ?_⟩
      have hne : (σ.1 4 p).toNat ≠ fr := fun x => hf2 p hp (by omega)
      rw [fu_n _ _ hne]
      rw [if_pos (by omega)]
      exact Int.le_refl 1) (fun p q hp hq e hn => h.F.2 p q hp hq e hn)
  have e2 := sm8_fu (fun f => if f < (σ.2 2).toNat then (1 : Int) else 0) (p := fr) (by omega) 0
  rw [w_n (by omega)] at e2
  rw [if_pos (by omega)] at e2
  omega
theorem rdi_4 (τ : SG) (fr : Int) {p : Nat} (hp : p < 8) : (rdi τ fr p).1 4 = fu (τ.1 4) p fr := by
  unfold rdi
  rw [sR_1, if_neg (by decide), sR_1, if_neg (by decide), sR_1, if_pos rfl, rs_n _ _ hp]
/-- one if the ask reads -/
def dnr (σ : SG) : Int := if σ.1 4 (npg σ) = -1 then 1 else 0
theorem dnx_set (h : ks σ) (hd : σ.2 1 < σ.2 0) (hS : setS σ S) {a q : Nat} (ha : σ.2 1 = (a : Int)) (hq : σ.1 0 a = (q : Int)) (hq8 : q < 8) (rule : Int) : (bI S q = 1 ∧ setS (dnx σ rule) S ∧ dnr σ = 0) ∨ (bI S q = 0 ∧ sm8 (bI S) < σ.2 2 ∧ setS (dnx σ rule) (sadd S q) ∧ dnr σ = 1) ∨ (bI S q = 0 ∧ sm8 (bI S) = σ.2 2 ∧ dnr σ = 1 ∧ ∃ b, b < 8 ∧ bI S b = 1 ∧ σ.1 6 b = 0 ∧ setS (dnx σ rule) (sadd (sdel S b) q) ∧ ∀ w : Nat, w < 8 → bI S w = 1 → σ.1 6 w = 0 → age σ rule (a + 1) w ≤ age σ rule (a + 1) b) := by
  obtain ⟨w1, w2, w3, w4, w5⟩ := id h.wf
  obtain ⟨a', p, ha', ha8, hpa, hp, e1, e2⟩ := h.page hd
  have : a' = a := by omega
  subst this
  have : p = q := by omega
  subst this
  have hSq := hS.2 p hp
  unfold dnr
  rw [e1]
  by_cases c : σ.1 4 p = -1
  · rw [if_pos c] at hSq
    rw [if_pos c]
    rcases lef_is (σ.1 4) (σ.2 2).toNat 0 with hl | ⟨fr, hl, k1, k2, k3⟩
    · obtain ⟨b, hb8, hb, hb4, hb6, hmax⟩ := h.vicE rule (σ.2 1 + 1).toNat hl
      rw [dn_vic hd hp e2 c hl hb hb8]
      have hSb := hS.2 b hb8
      rw [if_neg hb4] at hSb
      have f1 := full_page h hl
      have f2 := set_le h hS
      have f3 := sm8_ext hS.2
      refine Or.inr (Or.inr ⟨hSq, by omega, rfl, b, hb8, hSb, hb6, ⟨ad_lt hS.1 hb8 hp, fun x hx => ?_⟩, fun w hw hw1 hw2 => ?_⟩)
      · rw [mkd_o _ _ _ _ (by decide) (by decide) (by decide) (by decide), bI_ad, rdi_4 _ _ hp, tko_4 σ hb8]
        by_cases x1 : x = p
        · subst x1; rw [fu_s, if_pos rfl, if_neg hb4]
        · rw [fu_n _ _ x1, if_neg x1]
          by_cases x2 : x = b
          · subst x2; rw [fu_s, if_pos rfl, if_pos rfl]
          · rw [fu_n _ _ x2, if_neg x2]; exact hS.2 x hx
      · have e4 := hmax w hw
        rw [show (σ.2 1 + 1).toNat = a' + 1 by omega] at e4
        have e5 := hS.2 w hw
        rcases e4 with e4 | e4 | e4
        · rw [if_pos e4] at e5; omega
        · exact absurd hw2 e4
        · exact e4
    · rw [dn_emp hd hp e2 c hl]
      refine Or.inr (Or.inl ⟨hSq, set_lt h hS (fr := fr) (by omega) k3, ⟨sadd_lt hS.1 hp, fun x hx => ?_⟩, rfl⟩)
      rw [mkd_o _ _ _ _ (by decide) (by decide) (by decide) (by decide), bI_add, rdi_4 _ _ hp]
      by_cases x1 : x = p
      · subst x1; rw [fu_s, if_pos rfl, if_neg (by omega)]
      · rw [fu_n _ _ x1, if_neg x1]; exact hS.2 x hx
  · rw [if_neg c] at hSq
    rw [dn_hit hd hp e2 c, if_neg c]
    refine Or.inl ⟨hSq, ⟨hS.1, fun x hx => ?_⟩, rfl⟩
    rw [mkd_o _ _ _ _ (by decide) (by decide) (by decide) (by decide)]
    exact hS.2 x hx
theorem dnr_tdl (h : ks σ) (hd : σ.2 1 < σ.2 0) (rule : Int) : dnr σ = if 0 < tdl σ rule then 1 else 0 := by
  obtain ⟨a, p, ha, ha8, hpa, hp, e1, e2⟩ := h.page hd
  unfold dnr
  rw [e1]
  by_cases c : σ.1 4 p = -1
  · rw [if_pos c]
    rcases lef_is (σ.1 4) (σ.2 2).toNat 0 with hl | ⟨fr, hl, k1, k2, k3⟩
    · obtain ⟨b, hb8, hb, hb4, hb6, -⟩ := h.vicE rule (σ.2 1 + 1).toNat hl
      rw [tdl_vic e1 c hl hb, if_pos (by split <;> omega)]
    · rw [tdl_emp e1 c hl, if_pos (by decide)]
  · rw [if_neg c, tdl_hit e1 c, if_neg (by decide)]
theorem dnx_rd (h : ks σ) (hd : σ.2 1 < σ.2 0) (rule : Int) : sm8 ((dnx σ rule).1 9) = sm8 (σ.1 9) + dnr σ := by
  rw [(dnx_cnt h hd rule).2.1, dnr_tdl h hd rule]
theorem gA_lt (A : Nat → Int) (i : Nat) : gA A i < 8 := Nat.mod_lt _ (by decide)
theorem gA_at (h : ks σ) {a q : Nat} (hd : (a : Int) < σ.2 0) (hq : σ.1 0 a = (q : Int)) : gA (σ.1 0) a = q := by
  have hPa := h.P a hd
  unfold gA
  rw [hq]
  omega
/-- a rule's asks are one of the plays -/
theorem ply_rule {n : Int} {P A : Nat → Int} (rule : Int) : ∀ (d a : Nat) (σ : SG) (S : Nat), ks σ → σ.2 1 = (a : Int) → (a : Int) + d = σ.2 0 → σ.2 2 = n → σ.1 6 = P → σ.1 0 = A → setS σ S → ply n P (gA A) a d S (sm8 ((fin σ rule d).1 9) - sm8 (σ.1 9)) := by
  intro d
  induction d with
  | zero =>
    intro a σ S h ha hd hn hP hA hS
    show sm8 (σ.1 9) - sm8 (σ.1 9) = 0
    omega
  | succ d ih =>
    intro a σ S h ha hd hn hP hA hS
    obtain ⟨w1, w2, w3, w4, w5⟩ := id h.wf
    have hd2 : σ.2 1 < σ.2 0 := by omega
    have hPa := h.P a (by omega)
    obtain ⟨q, hq⟩ : ∃ q : Nat, σ.1 0 a = (q : Int) := ⟨(σ.1 0 a).toNat, by omega⟩
    have hq8 : q < 8 := by omega
    have hgq : gA A a = q := by rw [← hA]; exact gA_at h (by omega) hq
    have e1 := dnx_21 h.wf hd2 rule
    have e0 := dnx_2o (σ := σ) rule (j := 0) (by decide)
    have e2 := dnx_2o (σ := σ) rule (j := 2) (by decide)
    have ec := dnx_rd h hd2 rule
    have o6 := dnx_o σ rule (k := 6) (by omega)
    have o0 := dnx_o σ rule (k := 0) (by omega)
    have ih2 := fun S' hS' => ih (a + 1) (dnx σ rule) S' (h.dnxK rule) (by omega) (by omega) (by omega) (by rw [o6, hP]) (by rw [o0, hA]) hS'
    unfold ply
    rw [hgq]
    rw [show fin σ rule (d + 1) = fin (dnx σ rule) rule d from rfl]
    rcases dnx_set h hd2 hS ha hq hq8 rule with ⟨c1, c2, c3⟩ | ⟨c1, c2, c3, c4⟩ | ⟨c1, c2, c3, b, hb8, hb1, hb6, hb4, -⟩
    · rw [if_pos c1]
      have := ih2 S c2
      rw [ec, c3, Int.add_zero] at this
      exact this
    · rw [if_neg (by omega), if_pos (by omega)]
      have := ih2 _ c3
      rw [ec, c4] at this
      rw [show sm8 ((fin (dnx σ rule) rule d).1 9) - sm8 (σ.1 9) - 1 = sm8 ((fin (dnx σ rule) rule d).1 9) - (sm8 (σ.1 9) + 1) by omega]
      exact this
    · rw [if_neg (by omega), if_neg (by omega)]
      have := ih2 _ hb4
      rw [ec, c3] at this
      refine ⟨b, hb8, hb1, by rw [← hP]; exact hb6, ?_⟩
      rw [show sm8 ((fin (dnx σ rule) rule d).1 9) - sm8 (σ.1 9) - 1 = sm8 ((fin (dnx σ rule) rule d).1 9) - (sm8 (σ.1 9) + 1) by omega]
      exact this
/-- what the rule 0 reads: nothing reads less -/
theorem bel {n : Int} {P A : Nat → Int} : ∀ (d a : Nat) (σ : SG) (S : Nat), ks σ → σ.2 1 = (a : Int) → (a : Int) + d = σ.2 0 → σ.2 2 = n → σ.1 6 = P → σ.1 0 = A → setS σ S → ∀ k, ply n P (gA A) a d S k → sm8 ((fin σ 0 d).1 9) - sm8 (σ.1 9) ≤ k := by
  intro d
  induction d with
  | zero =>
    intro a σ S h ha hd hn hP hA hS k hk
    have hk : k = 0 := hk
    show sm8 (σ.1 9) - sm8 (σ.1 9) ≤ k
    omega
  | succ d ih =>
    intro a σ S h ha hd hn hP hA hS k hk
    obtain ⟨w1, w2, w3, w4, w5⟩ := id h.wf
    have hd2 : σ.2 1 < σ.2 0 := by omega
    have hPa := h.P a (by omega)
    obtain ⟨q, hq⟩ : ∃ q : Nat, σ.1 0 a = (q : Int) := ⟨(σ.1 0 a).toNat, by omega⟩
    have hq8 : q < 8 := by omega
    have hgq : gA A a = q := by rw [← hA]; exact gA_at h (by omega) hq
    have e1 := dnx_21 h.wf hd2 0
    have e0 := dnx_2o (σ := σ) 0 (j := 0) (by decide)
    have e2 := dnx_2o (σ := σ) 0 (j := 2) (by decide)
    have ec := dnx_rd h hd2 0
    have o6 := dnx_o σ 0 (k := 6) (by omega)
    have o0 := dnx_o σ 0 (k := 0) (by omega)
    have ih2 := fun S' hS' k' hk' => ih (a + 1) (dnx σ 0) S' (h.dnxK 0) (by omega) (by omega) (by omega) (by rw [o6, hP]) (by rw [o0, hA]) hS' k' hk'
    unfold ply at hk
    rw [hgq] at hk
    show sm8 ((fin (dnx σ 0) 0 d).1 9) - sm8 (σ.1 9) ≤ k
    rcases dnx_set h hd2 hS ha hq hq8 0 with ⟨c1, c2, c3⟩ | ⟨c1, c2, c3, c4⟩ | ⟨c1, c2, c3, b, hb8, hb1, hb6, hb4, hmax⟩
    · rw [if_pos c1] at hk
      have := ih2 S c2 k hk
      omega
    · rw [if_neg (by omega), if_pos (by omega)] at hk
      have := ih2 _ c3 _ hk
      omega
    · have n1 : ¬ bI S q = 1 := by omega
      have n2 : ¬ sm8 (bI S) < n := by omega
      rw [if_neg n1, if_neg n2] at hk
      obtain ⟨w, hw, hw1, hw2, hk⟩ := hk
      by_cases cw : w = b
      · subst cw
        have := ih2 _ hb4 _ hk
        omega
      · have bq : b ≠ q := fun x => by subst x; omega
        have wq : w ≠ q := fun x => by subst x; omega
        have hsw : sw (sadd (sdel S b) q) (sadd (sdel S w) q) w b := by
          refine ⟨ad_lt hS.1 hb8 hq8, ad_lt hS.1 hw hq8, hw, hb8, ?_, ?_, ?_, ?_, fun x x1 x2 => ?_⟩
          · rw [bI_ad, if_neg wq, if_neg cw, hw1]
          · rw [bI_ad, if_neg bq, if_pos rfl]
          · rw [bI_ad, if_neg wq, if_pos rfl]
          · rw [bI_ad, if_neg bq, if_neg (Ne.symm cw), hb1]
          · rw [bI_ad, bI_ad, if_neg x2, if_neg x1]
        have s1 := sm_ad hb8 hq8 hb1 c1
        have s2 := sm_ad hw hq8 hw1 c1
        have hm := hmax w hw hw1 (by rw [hP]; exact hw2)
        have ho : ord (gA A) (a + 1) d w b := by
          refine ord_nxu (a := σ.1 0) (N := (σ.2 0).toNat) (by omega) (fun i hi => ?_) w b d (a + 1) (by omega) ?_
          · have := h.P i (by omega)
            unfold gA
            rw [← hA]
            omega
          · unfold age nxu at hm
            rw [if_pos rfl, if_pos rfl, show (σ.2 0).toNat - (a + 1) = d by omega] at hm
            exact hm
        obtain ⟨k', e3, e4⟩ := pl_D (n := n) (P := P) (gA_lt A) d (a + 1) _ _ w b _ hsw (by omega) (by omega) hw2 (by rw [← hP]; exact hb6) ho hk
        have := ih2 _ hb4 _ e4
        omega
/-- some set is that of the pages in frames -/
theorem set_ex (σ : SG) : ∃ S, setS σ S := by
  have key : ∀ m : Nat, m ≤ 8 → ∃ S : Nat, S < 256 ∧ ∀ p, p < 8 → bI S p = if p < m ∧ σ.1 4 p ≠ -1 then 1 else 0 := by
    intro m
    induction m with
    | zero => intro _; exact ⟨0, by decide, fun p hp => by rw [if_neg (by omega)]; unfold bI; simp⟩
    | succ m ih =>
      intro hm
      obtain ⟨S, h1, h2⟩ := ih (by omega)
      by_cases c : σ.1 4 m = -1
      · refine ⟨S, h1, fun p hp => ?_⟩
        rw [h2 p hp]
        by_cases e : p = m
        · subst e; rw [if_neg (by omega), if_neg (fun x => x.2 c)]
        · by_cases e2 : p < m ∧ σ.1 4 p ≠ -1
          · rw [if_pos e2, if_pos ⟨by omega, e2.2⟩]
          · rw [if_neg e2, if_neg (fun x => e2 ⟨by omega, x.2⟩)]
      · refine ⟨sadd S m, sadd_lt h1 (by omega), fun p hp => ?_⟩
        rw [bI_add]
        by_cases e : p = m
        · subst e; rw [if_pos rfl, if_pos ⟨by omega, c⟩]
        · rw [if_neg e, h2 p hp]
          by_cases e2 : p < m ∧ σ.1 4 p ≠ -1
          · rw [if_pos e2, if_pos ⟨by omega, e2.2⟩]
          · rw [if_neg e2, if_neg (fun x => e2 ⟨by omega, x.2⟩)]
  obtain ⟨S, h1, h2⟩ := key 8 (Nat.le_refl _)
  refine ⟨S, h1, fun p hp => ?_⟩
  rw [h2 p hp]
  by_cases c : σ.1 4 p = -1
  · rw [if_neg (fun x => x.2 c), if_pos c]
  · rw [if_pos ⟨hp, c⟩, if_neg c]
theorem fewest (h : ks σ) (rule : Int) : sm8 ((fn σ 0).1 9) ≤ sm8 ((fn σ rule).1 9) := by
  obtain ⟨w1, w2, w3, w4, w5⟩ := h.wf
  obtain ⟨S, hS⟩ := set_ex σ
  have k := ply_rule (n := σ.2 2) (P := σ.1 6) (A := σ.1 0) rule (σ.2 0 - σ.2 1).toNat (σ.2 1).toNat σ S h (by omega) (by omega) rfl rfl rfl hS
  have k2 := bel (n := σ.2 2) (P := σ.1 6) (A := σ.1 0) (σ.2 0 - σ.2 1).toNat (σ.2 1).toNat σ S h (by omega) (by omega) rfl rfl rfl hS _ k
  unfold fn
  omega
end BF
