/-! THE LAW'S frames -/
def inF (s : SG) : Int := sm8 (fun p => if s.1 4 p = -1 then (0 : Int) else 1)
theorem inF_c (s : SG) : 8 - co (s.1 4) (-1) 0 8 = inF s := co_8 _ _
theorem cnt_tko (σ : SG) {b : Nat} (hb : b < 8) (hf : σ.1 4 b ≠ -1) : inF (tko σ b) = inF σ - 1 := by
  unfold inF
  have e : (fun p => if (tko σ b).1 4 p = -1 then (0 : Int) else 1) = fu (fun p => if σ.1 4 p = -1 then (0 : Int) else 1) b 0 := by
    funext p
    rw [tko_4 σ hb]
    by_cases c : p = b
    · subst c; rw [fu_s, fu_s, if_pos rfl]
    · rw [fu_n _ _ c, fu_n _ _ c]
  rw [e, sm8_fu _ hb]
  rw [if_neg hf]
  omega
theorem fu_self (z : Nat → Int) {i : Nat} {v : Int} (h : z i = v) : fu z i v = z := by
  funext j; unfold fu
  split
  · rename_i e; rw [e]; exact h.symm
  · rfl
def mvF (F : Nat → Int) (lo k : Nat) : Nat → Nat → Int
  | 0 => F
  | d + 1 => if F k < 0 then mvF (fu F k (-1)) lo (k + 1) d else mvF (fu (fu F k (-1)) lo (F k)) (lo + 1) (k + 1) d
theorem mvF_hi : ∀ (d lo k : Nat) (F : Nat → Int), (∀ x, k ≤ x → x < k + d → F x = -1) → mvF F lo k d = F := by
  intro d
  induction d with
  | zero => intro lo k F h; rfl
  | succ d ih =>
    intro lo k F h
    have e := h k (Nat.le_refl _) (by omega)
    unfold mvF
    rw [if_pos (by omega), fu_self F e]
    exact ih _ _ _ (fun x h1 h2 => h x (by omega) (by omega))
theorem mvd_q {n : Nat} (hn6 : n ≤ 6) : ∀ (d lo e : Nat) (s : SG) (F : Nat → Int), e + d = n → lo ≤ e → ks_F n (s.1 4) → (∀ i, i < 6 → F i = fo (s.1 4) i 0 8) → (∀ x, lo ≤ x → x < e → F x = -1) → (∀ x, x < lo → F x ≠ -1) → ∃ lo' : Nat, (lo' : Int) ≤ inF s ∧ (mvd s lo e d).2 = s.2 ∧ (∀ k, k ≠ 4 → (mvd s lo e d).1 k = s.1 k) ∧ ks_F lo' ((mvd s lo e d).1 4) ∧ ∀ i, i < 6 → mvF F lo e (6 - e) i = fo ((mvd s lo e d).1 4) i 0 8 := by
  intro d
  induction d with
  | zero =>
    intro lo e s F he hl hK hF h1 h2
    have he : e = n := by omega
    have hlow : ∀ p, p < 8 → s.1 4 p < lo := fun p hp => by
      have r := hK.1 p hp
      by_cases c : s.1 4 p < lo
      · exact c
      · exfalso
        have e1 := h1 (s.1 4 p).toNat (by omega) (by omega)
        rw [hF _ (by omega), emp_q] at e1
        exact e1 p hp (by omega)
    refine ⟨lo, full_n hK lo (fun f hf => by rw [← hF f (by omega)]; exact h2 f hf), rfl, fun _ _ => rfl, ⟨fun p hp => ⟨(hK.1 p hp).1, hlow p hp⟩, hK.2⟩, fun i hi => ?_⟩
    rw [mvF_hi]
    · exact hF i hi
    · intro x x1 x2
      rw [hF x (by omega), emp_q]
      intro p hp e2
      have := hK.1 p hp
      omega
  | succ d ih =>
    intro lo e s F he hl hK hF h1 h2
    have he6 : e < 6 := by omega
    have r8 := fo_8 (s.1 4) e
    unfold mvd
    rw [show 6 - e = (6 - (e + 1)) + 1 by omega]
    unfold mvF
    by_cases c : fo (s.1 4) e 0 8 = -1
    · have c2 : F e = -1 := by rw [hF e he6]; exact c
      rw [if_pos c, if_pos (by omega), fu_self F c2]
      refine ih lo (e + 1) s F (by omega) (by omega) hK hF (fun x x1 x2 => ?_) h2
      by_cases x3 : x = e
      · rw [x3]; exact c2
      · exact h1 x x1 (by omega)
    · have c2 : ¬ F e < 0 := by rw [hF e he6]; omega
      rw [if_neg c, if_neg c2, hF e he6]
      obtain ⟨p, hp⟩ : ∃ p : Nat, fo (s.1 4) e 0 8 = (p : Int) := ⟨(fo (s.1 4) e 0 8).toNat, by omega⟩
      have hp8 : p < 8 := by omega
      have hpe : s.1 4 p = (e : Int) := (fo_is hK hp8).mp hp
      rw [hp, rs_n _ _ hp8]
      have hlo : lo = e ∨ ∀ q, q < 8 → s.1 4 q ≠ (lo : Int) := by
        by_cases x : lo = e
        · exact Or.inl x
        · right
          have := h1 lo (Nat.le_refl _) (by omega)
          rw [hF lo (by omega), emp_q] at this
          exact this
      have hK' : ks_F n (fu (s.1 4) p lo) := by
        refine ⟨fun q hq => ?_, fun q r hq hr e2 hn => ?_⟩
        · have := hK.1 q hq
          unfold fu; split <;> omega
        · rcases hlo with x | x
          · have e3 : fu (s.1 4) p lo = s.1 4 := fu_self _ (by rw [hpe, x])
            rw [e3] at e2 hn
            exact hK.2 q r hq hr e2 hn
          · unfold fu at e2 hn
            by_cases x1 : q = p
            · rw [if_pos x1] at e2
              by_cases x2 : r = p
              · rw [x1, x2]
              · rw [if_neg x2] at e2; exact absurd e2.symm (x r hr)
            · rw [if_neg x1] at e2 hn
              by_cases x2 : r = p
              · rw [if_pos x2] at e2; exact absurd e2 (x q hq)
              · rw [if_neg x2] at e2; exact hK.2 q r hq hr e2 hn
      have hout := fo_out hK hp8 hpe
      have hKo : ks_F n (fu (s.1 4) p (-1)) := by
        refine ⟨fun q hq => ?_, fun q r hq hr e2 hn => ?_⟩
        · have := hK.1 q hq
          unfold fu; split <;> omega
        · unfold fu at e2 hn
          by_cases c1 : q = p
          · rw [if_pos c1] at hn; exact absurd rfl hn
          · rw [if_neg c1] at e2 hn
            by_cases c2 : r = p
            · rw [if_pos c2] at e2; exact absurd e2 hn
            · rw [if_neg c2] at e2; exact hK.2 q r hq hr e2 hn
      have hfe : fo (fu (s.1 4) p (-1)) lo 0 8 = -1 := by
        rw [hout]
        split
        · rfl
        · rename_i x3
          rcases hlo with x | x
          · exact absurd x x3
          · rw [emp_q]; exact x
      have hcomp : fu (fu (s.1 4) p (-1)) p lo = fu (s.1 4) p lo := by
        funext q; unfold fu
        split <;> rfl
      have hput := fo_put hKo hp8 (fu_s _ _ _) hfe
      rw [hcomp] at hput
      have hin : inF (sR s 4 (fu (s.1 4) p lo)) = inF s := by
        unfold inF
        refine sm8_ext fun q hq => ?_
        show (if fu (s.1 4) p lo q = -1 then (0 : Int) else 1) = _
        unfold fu
        by_cases x : q = p
        · rw [if_pos x, if_neg (by omega), x, hpe, if_neg (by omega)]
        · rw [if_neg x]
      obtain ⟨lo', i1, i2, i3, i4, i5⟩ := ih (lo + 1) (e + 1) (sR s 4 (fu (s.1 4) p lo)) (fu (fu F e (-1)) lo p) (by omega) (by omega) hK' (fun i hi => by
        show fu (fu F e (-1)) lo p i = fo (fu (s.1 4) p lo) i 0 8
        rw [hput, hout]
        unfold fu
        by_cases x1 : i = lo
        · rw [if_pos x1, if_pos x1]
        · rw [if_neg x1, if_neg x1]
          by_cases x2 : i = e
          · rw [if_pos x2, if_pos x2]
          · rw [if_neg x2, if_neg x2]; exact hF i hi) (fun x x1 x2 => by
        unfold fu
        rw [if_neg (by omega)]
        by_cases x3 : x = e
        · rw [if_pos x3]
        · rw [if_neg x3]; exact h1 x (by omega) (by omega)) (fun x x1 => by
        unfold fu
        by_cases x2 : x = lo
        · rw [if_pos x2]; omega
        · rw [if_neg x2, if_neg (by omega)]; exact h2 x (by omega))
      exact ⟨lo', by rw [← hin]; exact i1, i2, fun k hk => by rw [i3 k hk, sR_1, if_neg hk], i4, i5⟩
/-- victims go until n are left -/
theorem frl_ks (n : Int) (hn1 : 1 ≤ n) : ∀ (d i : Nat) (s : SG), ks s → sm8 (s.1 6) ≤ n - 1 → inF s ≤ d → ks (frl n s i d).1 ∧ inF (frl n s i d).1 ≤ n ∧ (∀ k, k = 0 ∨ k = 1 ∨ k = 6 → (frl n s i d).1.1 k = s.1 k) := by
  intro d
  induction d with
  | zero => intro i s h hp hc; exact ⟨h, by show inF s ≤ n; omega, fun _ _ => rfl⟩
  | succ d ih =>
    intro i s h hp hc
    unfold frl
    rw [inF_c]
    by_cases c : inF s ≤ n
    · rw [if_pos c]; exact ⟨h, c, fun _ _ => rfl⟩
    · rw [if_neg c]
      obtain ⟨b, hb8, hb, hb4, hb6, -⟩ := h.vicG 0 (s.2 1).toNat (by show sm8 (s.1 6) < inF s; omega)
      rw [hb]
      have e6 : ∀ k, k = 0 ∨ k = 1 ∨ k = 6 → (tko s b).1 k = s.1 k := fun k hk => tko_o _ _ (by omega) (by omega) (by omega)
      have := ih (i + 1) (tko s b) (h.tkoK hb8) (by rw [e6 6 (by omega)]; exact hp) (by rw [cnt_tko s hb8 hb4]; omega)
      exact ⟨this.1, this.2.1, fun k hk => by rw [this.2.2 k hk, e6 k hk]⟩
theorem frs_ks {σ : SG} (h : ks σ) {n : Int} (hn1 : 1 ≤ n) (hn6 : n ≤ 6) (hp : sm8 (σ.1 6) ≤ n - 1) : ks (frs n σ).1 ∧ ∀ i, i < 6 → (if n < σ.2 2 then mvF (lF (frl n σ 0 6).1) 0 0 6 else lF (frl n σ 0 6).1) i = lF (frs n σ).1 i := by
  obtain ⟨w1, w2, w3, w4, w5⟩ := id h.wf
  have hin : inF σ ≤ 6 := by have := in_le h.F (by omega) w5; exact Int.le_trans this w5
  obtain ⟨k1, k2, k3⟩ := frl_ks n hn1 6 0 σ h hp hin
  have k4 := frl_2 n 6 0 σ
  unfold frs
  dsimp only
  generalize frl n σ 0 6 = r at k1 k2 k3 k4 ⊢
  rw [k4]
  by_cases c : n < σ.2 2
  · rw [if_pos c]
    have hF := k1.F
    rw [k4] at hF
    obtain ⟨lo', i1, i2, i3, i4, i5⟩ := mvd_q (n := (σ.2 2).toNat) (by omega) (σ.2 2).toNat 0 0 r.1 (lF r.1) (by omega) (Nat.le_refl _) (by rw [Int.toNat_of_nonneg (by omega)]; exact hF) (fun i _ => rfl) (fun x _ x2 => by omega) (fun x x1 => by omega)
    refine ⟨⟨?_, ?_, ⟨?_, ?_, ?_⟩, ?_, ?_, ?_⟩, fun i hi => ?_⟩
    · unfold wfS; rw [sS_2, sS_2, sS_2, if_neg (by decide), if_neg (by decide), if_pos rfl, i2, k4]; omega
    · rw [sS_1, sS_2, if_neg (by decide), i2, i3 0 (by decide), i3 1 (by decide)]; exact k1.P
    · rw [sS_1, i3 6 (by decide)]; exact k1.pin
    · rw [sS_1, i3 5 (by decide)]; exact k1.ch
    · rw [sS_1, sS_2, if_pos rfl]
      exact ⟨fun p hp => ⟨(i4.1 p hp).1, by have := (i4.1 p hp).2; omega⟩, i4.2⟩
    · rw [sS_1, i3 7 (by decide), i3 8 (by decide)]; exact k1.L
    · rw [sS_1, sS_2, if_neg (by decide), i2, i3 9 (by decide), i3 10 (by decide), i3 5 (by decide)]; exact k1.N
    · rw [sS_1, sS_2, if_pos rfl, i3 6 (by decide), k3 6 (by omega)]; exact hp
    · rw [if_pos c, i5 i hi]; rfl
  · rw [if_neg c]
    have hF := k1.F
    rw [k4] at hF
    refine ⟨⟨?_, ?_, ⟨?_, ?_, ?_⟩, ?_, ?_, ?_⟩, fun i hi => ?_⟩
    · unfold wfS; rw [sS_2, sS_2, sS_2, if_neg (by decide), if_neg (by decide), if_pos rfl, k4]; omega
    · rw [sS_1, sS_2, if_neg (by decide)]; exact k1.P
    · exact k1.pin
    · exact k1.ch
    · rw [sS_1, sS_2, if_pos rfl]
      exact ⟨fun p hp => ⟨(hF.1 p hp).1, by have := (hF.1 p hp).2; omega⟩, hF.2⟩
    · exact k1.L
    · rw [sS_1, sS_2, if_neg (by decide)]; exact k1.N
    · rw [sS_1, sS_2, if_pos rfl, k3 6 (by omega)]; exact hp
    · rw [if_neg c]; rfl
