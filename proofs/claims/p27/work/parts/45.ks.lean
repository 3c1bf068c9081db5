/-! THE GOOD STATES OF THE CLASS -/
def ks_F (n : Int) (g : Nat → Int) : Prop := (∀ p : Nat, p < 8 → -1 ≤ g p ∧ g p < n) ∧ (∀ p q : Nat, p < 8 → q < 8 → g p = g q → g p ≠ -1 → p = q)
def ks_01 (g : Nat → Int) : Prop := ∀ p : Nat, p < 8 → g p = 0 ∨ g p = 1
def ks_P (n : Int) (a w : Nat → Int) : Prop := ∀ i : Nat, (i : Int) < n → 0 ≤ a i ∧ a i < 8 ∧ (w i = 0 ∨ w i = 1)
def ks_L (la lr : Nat → Int) : Prop := ∀ p : Nat, p < 8 → -1 ≤ la p ∧ la p ≤ 80 ∧ -1 ≤ lr p ∧ lr p ≤ 80
def ks_N (n : Int) (rd wb ch : Nat → Int) : Prop := ∀ p : Nat, p < 8 → 0 ≤ rd p ∧ rd p ≤ n ∧ 0 ≤ wb p ∧ wb p + ch p ≤ n
def ks (σ : SG) : Prop := wfS σ ∧ ks_P (σ.2 0) (σ.1 0) (σ.1 1) ∧ (ks_01 (σ.1 6) ∧ ks_01 (σ.1 5) ∧ ks_F (σ.2 2) (σ.1 4)) ∧ ks_L (σ.1 7) (σ.1 8) ∧ ks_N (σ.2 1) (σ.1 9) (σ.1 10) (σ.1 5) ∧ sm8 (σ.1 6) ≤ σ.2 2 - 1
def el (σ : SG) (q : Nat) : Prop := σ.1 4 q ≠ -1 ∧ σ.1 6 q = 0
/-- v is the victim by the rule, asks from i on looked at -/
def isV (σ : SG) (rule : Int) (i : Nat) (v : Int) : Prop := (v = -1 ∧ ∀ q : Nat, q < 8 → ¬ el σ q) ∨ ∃ b : Nat, b < 8 ∧ v = b ∧ el σ b ∧ ∀ q : Nat, q < 8 → el σ q → age σ rule i q ≤ age σ rule i b ∧ (q < b → age σ rule i q < age σ rule i b)
section KS
variable {σ : SG}
theorem ks.wf (h : ks σ) : wfS σ := h.1
theorem ks.P (h : ks σ) : ks_P (σ.2 0) (σ.1 0) (σ.1 1) := h.2.1
theorem ks.pin (h : ks σ) : ks_01 (σ.1 6) := h.2.2.1.1
theorem ks.ch (h : ks σ) : ks_01 (σ.1 5) := h.2.2.1.2.1
theorem ks.F (h : ks σ) : ks_F (σ.2 2) (σ.1 4) := h.2.2.1.2.2
theorem ks.L (h : ks σ) : ks_L (σ.1 7) (σ.1 8) := h.2.2.2.1
theorem ks.N (h : ks σ) : ks_N (σ.2 1) (σ.1 9) (σ.1 10) (σ.1 5) := h.2.2.2.2.1
theorem ks.K (h : ks σ) : sm8 (σ.1 6) ≤ σ.2 2 - 1 := h.2.2.2.2.2
theorem isV.uniq {rule : Int} {i : Nat} {v w : Int} (h : isV σ rule i v) (h2 : isV σ rule i w) : v = w := by
  rcases h with ⟨a1, a2⟩ | ⟨b, b1, b2, b3, b4⟩
  · rcases h2 with ⟨c1, c2⟩ | ⟨c, c1, c2, c3, c4⟩
    · omega
    · exact absurd c3 (a2 c c1)
  · rcases h2 with ⟨c1, c2⟩ | ⟨c, c1, c2, c3, c4⟩
    · exact absurd b3 (c2 b b1)
    · have e1 := b4 c c1 c3
      have e2 := c4 b b1 b3
      have k1 : ¬ b < c := fun x => by have := e2.2 x; omega
      have k2 : ¬ c < b := fun x => by have := e1.2 x; omega
      omega
theorem vb_isV (rule : Int) (i : Nat) : ∀ (d p : Nat) (best great : Int), p + d = 8 → ((best = -1 ∧ ∀ q : Nat, q < p → ¬ el σ q) ∨ ∃ b : Nat, b < p ∧ best = b ∧ great = age σ rule i b ∧ el σ b ∧ ∀ q : Nat, q < p → el σ q → age σ rule i q ≤ age σ rule i b ∧ (q < b → age σ rule i q < age σ rule i b)) → isV σ rule i (vb σ rule i best great p d) := by
  intro d
  induction d with
  | zero =>
    intro p best great hp h
    have hp : p = 8 := by omega
    subst hp
    rcases h with ⟨h1, h2⟩ | ⟨b, h1, h2, h3, h4, h5⟩
    · exact Or.inl ⟨h1, h2⟩
    · exact Or.inr ⟨b, h1, h2, h4, h5⟩
  | succ d ih =>
    intro p best great hp h
    have hp8 : p < 8 := by omega
    have low : ∀ q : Nat, q < p + 1 → q < p ∨ q = p := fun q hq => by omega
    have skip : ¬ el σ p → isV σ rule i (vb σ rule i best great (p + 1) d) := fun hn => by
      refine ih _ _ _ (by omega) ?_
      rcases h with ⟨h1, h2⟩ | ⟨b, h1, h2, h3, h4, h5⟩
      · exact Or.inl ⟨h1, fun q hq => (low q hq).elim (h2 q) (fun e => e ▸ hn)⟩
      · exact Or.inr ⟨b, by omega, h2, h3, h4, fun q hq hq2 => (low q hq).elim (fun x => h5 q x hq2) (fun e => absurd (e ▸ hq2) hn)⟩
    unfold vb
    rw [rg_n _ hp8, rg_n _ hp8]
    by_cases c1 : σ.1 4 p = -1
    · rw [if_pos c1]; exact skip fun x => x.1 c1
    · rw [if_neg c1]
      by_cases c2 : σ.1 6 p ≠ 0
      · rw [if_pos c2]; exact skip fun x => c2 x.2
      · rw [if_neg c2]
        have c2' : σ.1 6 p = 0 := Decidable.not_not.mp c2
        have take : (∀ q : Nat, q < p → el σ q → age σ rule i q < age σ rule i p) → isV σ rule i (vb σ rule i p (age σ rule i p) (p + 1) d) := fun hb => by
          refine ih _ _ _ (by omega) (Or.inr ⟨p, by omega, rfl, rfl, ⟨c1, c2'⟩, fun q hq hq2 => ?_⟩)
          rcases low q hq with e | e
          · have := hb q e hq2
            exact ⟨by omega, fun _ => this⟩
          · subst e; exact ⟨Int.le_refl _, fun x => by omega⟩
        by_cases c3 : best = -1
        · rw [if_pos c3]
          refine take fun q hq hq2 => ?_
          rcases h with ⟨h1, h2⟩ | ⟨b, h1, h2, h3, h4, h5⟩
          · exact absurd hq2 (h2 q hq)
          · omega
        · rw [if_neg c3]
          rcases h with ⟨h1, h2⟩ | ⟨b, h1, h2, h3, h4, h5⟩
          · exact absurd h1 c3
          · by_cases c4 : age σ rule i p ≤ great
            · rw [if_pos c4]
              refine ih _ _ _ (by omega) (Or.inr ⟨b, by omega, h2, h3, h4, fun q hq hq2 => ?_⟩)
              rcases low q hq with e | e
              · exact h5 q e hq2
              · subst e; exact ⟨by omega, fun x => by omega⟩
            · rw [if_neg c4]
              refine take fun q hq hq2 => ?_
              have := h5 q hq hq2
              omega
theorem vb_V (rule : Int) (i : Nat) : isV σ rule i (vb σ rule i (-1) 0 0 8) := vb_isV rule i 8 0 (-1) 0 rfl (Or.inl ⟨rfl, fun q hq => by omega⟩)
/-- the law's own search, from the last page on -/
def vlw (σ : SG) (rule : Int) (i : Nat) (best most : Int) : Nat → Int
  | 0 => best
  | d + 1 => if (0 ≤ σ.1 4 d ∧ σ.1 6 d = 0) ∧ (best < 0 ∨ most ≤ age σ rule i d) then vlw σ rule i d (age σ rule i d) d else vlw σ rule i best most d
theorem vlw_isV (h4 : ∀ p : Nat, p < 8 → -1 ≤ σ.1 4 p) (rule : Int) (i : Nat) : ∀ (d : Nat) (best most : Int), d ≤ 8 → ((best = -1 ∧ ∀ q : Nat, d ≤ q → q < 8 → ¬ el σ q) ∨ ∃ b : Nat, d ≤ b ∧ b < 8 ∧ best = b ∧ most = age σ rule i b ∧ el σ b ∧ ∀ q : Nat, d ≤ q → q < 8 → el σ q → age σ rule i q ≤ age σ rule i b ∧ (q < b → age σ rule i q < age σ rule i b)) → isV σ rule i (vlw σ rule i best most d) := by
  intro d
  induction d with
  | zero =>
    intro best most hd h
    rcases h with ⟨h1, h2⟩ | ⟨b, h0, h1, h2, h3, h4, h5⟩
    · exact Or.inl ⟨h1, fun q hq => h2 q (by omega) hq⟩
    · exact Or.inr ⟨b, h1, h2, h4, fun q hq => h5 q (by omega) hq⟩
  | succ d ih =>
    intro best most hd h
    have r4 := h4 d (by omega)
    have up : ∀ q : Nat, d ≤ q → q = d ∨ d + 1 ≤ q := fun q hq => by omega
    unfold vlw
    by_cases c : (0 ≤ σ.1 4 d ∧ σ.1 6 d = 0) ∧ (best < 0 ∨ most ≤ age σ rule i d)
    · rw [if_pos c]
      refine ih _ _ (by omega) (Or.inr ⟨d, by omega, by omega, rfl, rfl, ⟨by omega, c.1.2⟩, fun q hq hq8 hq2 => ?_⟩)
      rcases up q hq with e | e
      · subst e; exact ⟨Int.le_refl _, fun x => by omega⟩
      · refine ⟨?_, fun x => by omega⟩
        rcases h with ⟨h1, h2⟩ | ⟨b, h0, h1, h2, h3, h4, h5⟩
        · exact absurd hq2 (h2 q e hq8)
        · have := h5 q e hq8 hq2
          rcases c.2 with c2 | c2
          · omega
          · omega
    · rw [if_neg c]
      refine ih _ _ (by omega) ?_
      rcases h with ⟨h1, h2⟩ | ⟨b, h0, h1, h2, h3, h4, h5⟩
      · refine Or.inl ⟨h1, fun q hq hq8 hq2 => ?_⟩
        rcases up q hq with e | e
        · subst e; exact c ⟨⟨by have := hq2.1; omega, hq2.2⟩, Or.inl (by omega)⟩
        · exact h2 q e hq8 hq2
      · refine Or.inr ⟨b, by omega, h1, h2, h3, h4, fun q hq hq8 hq2 => ?_⟩
        rcases up q hq with e | e
        · subst e
          have : age σ rule i q < most := by
            by_cases x : most ≤ age σ rule i q
            · exact absurd ⟨⟨by have := hq2.1; omega, hq2.2⟩, Or.inr x⟩ c
            · omega
          exact ⟨by omega, fun _ => by omega⟩
        · exact h5 q e hq8 hq2
theorem vlw_vb (h : ks σ) (rule : Int) (i : Nat) : vlw σ rule i (-1) 0 8 = vb σ rule i (-1) 0 0 8 :=
  (vlw_isV (fun p hp => (h.F.1 p hp).1) rule i 8 (-1) 0 (Nat.le_refl _) (Or.inl ⟨rfl, fun q h1 h2 => by omega⟩)).uniq (vb_V rule i)
/-- a frame is empty: no page has it -/
theorem emp_q {g : Nat → Int} {f : Nat} : fo g f 0 8 = -1 ↔ ∀ p : Nat, p < 8 → g p ≠ (f : Int) := by
  rw [fo_none]
  exact ⟨fun h p hp => h p (by omega) (by omega), fun h p _ hp => h p (by omega)⟩
theorem fo_is {n : Int} {g : Nat → Int} (h : ks_F n g) {f p : Nat} (hp : p < 8) : fo g f 0 8 = (p : Int) ↔ g p = (f : Int) := by
  constructor
  · intro e
    have key : ∀ (d i : Nat), fo g f i d = (p : Int) → g p = (f : Int) := by
      intro d
      induction d with
      | zero => intro i e; unfold fo at e; omega
      | succ d ih =>
        intro i e
        unfold fo at e
        by_cases c : g i = (f : Int)
        · rw [if_pos c] at e
          have : i = p := by omega
          subst this; exact c
        · rw [if_neg c] at e; exact ih _ e
    exact key 8 0 e
  · intro e
    refine fo_some 8 0 p (by omega) (by omega) e (fun k _ hk e2 => ?_)
    have := h.2 k p (by omega) hp (by omega) (by omega)
    omega
theorem fo_8 (g : Nat → Int) (f : Int) : -1 ≤ fo g f 0 8 ∧ fo g f 0 8 < 8 := by
  have := fo_r g f 8 0
  omega
theorem lef_none {g : Nat → Int} : ∀ (d i : Nat), lef g i d = -1 ↔ ∀ j, i ≤ j → j < i + d → fo g (j : Nat) 0 8 ≠ -1 := by
  intro d
  induction d with
  | zero => intro i; exact ⟨fun _ j h1 h2 => by omega, fun _ => rfl⟩
  | succ d ih =>
    intro i
    unfold lef
    by_cases h : fo g i 0 8 = -1
    · rw [if_pos h]
      exact ⟨fun e => by omega, fun e => absurd h (e i (Nat.le_refl _) (by omega))⟩
    · rw [if_neg h, ih]
      constructor
      · intro e j h1 h2
        by_cases hj : j = i
        · subst hj; exact h
        · exact e j (by omega) (by omega)
      · intro e j h1 h2
        exact e j (by omega) (by omega)
theorem lef_is (g : Nat → Int) : ∀ (d i : Nat), lef g i d = -1 ∨ ∃ fr : Nat, lef g i d = (fr : Int) ∧ i ≤ fr ∧ fr < i + d ∧ fo g fr 0 8 = -1 := by
  intro d
  induction d with
  | zero => intro i; exact Or.inl rfl
  | succ d ih =>
    intro i
    unfold lef
    by_cases c : fo g i 0 8 = -1
    · rw [if_pos c]; exact Or.inr ⟨i, rfl, Nat.le_refl _, by omega, c⟩
    · rw [if_neg c]
      rcases ih (i + 1) with e | ⟨fr, e1, e2, e3, e4⟩
      · exact Or.inl e
      · exact Or.inr ⟨fr, e1, by omega, by omega, e4⟩
theorem lef_at {g : Nat → Int} : ∀ (d i f : Nat), i ≤ f → f < i + d → fo g f 0 8 = -1 → (∀ j : Nat, i ≤ j → j < f → fo g j 0 8 ≠ -1) → lef g i d = f := by
  intro d
  induction d with
  | zero => intro i f h1 h2; omega
  | succ d ih =>
    intro i f h1 h2 h3 h4
    unfold lef
    by_cases c : i = f
    · subst c; rw [if_pos h3]
    · rw [if_neg (h4 i (Nat.le_refl _) (by omega))]
      exact ih (i + 1) f (by omega) (by omega) h3 (fun j h5 h6 => h4 j (by omega) h6)
/-- n frames with different pages want weight n of any weight that is 1 on these -/
theorem pig : ∀ (n : Nat) (w : Nat → Int) (t : Nat → Nat), (∀ p, p < 8 → 0 ≤ w p) → (∀ f, f < n → t f < 8 ∧ 1 ≤ w (t f)) → (∀ f e, f < n → e < n → t f = t e → f = e) → (n : Int) ≤ sm8 w := by
  intro n
  induction n with
  | zero =>
    intro w t h0 h1 h2
    have b := sm8_at h0 (p := 0) (by decide)
    have b2 := h0 0 (by decide)
    omega
  | succ n ih =>
    intro w t h0 h1 h2
    have q := h1 n (by omega)
    have e := sm8_fu w q.1 0
    have i := ih (fu w (t n) 0) t (fun p hp => by
      unfold fu; split
      · exact Int.le_refl 0
      · exact h0 p hp) (fun f hf => ⟨(h1 f (by omega)).1, by
      have ne : t f ≠ t n := fun e2 => by have := h2 f n (by omega) (by omega) e2; omega
      rw [fu_n _ _ ne]
      exact (h1 f (by omega)).2⟩) (fun f e3 hf he => h2 f e3 (by omega) (by omega))
    omega
theorem free_page {g pn : Nat → Int} (hpn : ks_01 pn) (h : sm8 pn < sm8 (fun p => if g p = -1 then 0 else 1)) : ∃ p, p < 8 ∧ g p ≠ -1 ∧ pn p = 0 := by
  apply Classical.byContradiction
  intro hn
  have e : ∀ p, p < 8 → (if g p = -1 then (0 : Int) else 1) ≤ pn p := fun p hp => by
    split
    · rcases hpn p hp with e | e <;> omega
    · rename_i c
      rcases hpn p hp with e | e
      · exact absurd ⟨p, hp, c, e⟩ hn
      · omega
  have b0 := e 0 (by decide)
  have b1 := e 1 (by decide)
  have b2 := e 2 (by decide)
  have b3 := e 3 (by decide)
  have b4 := e 4 (by decide)
  have b5 := e 5 (by decide)
  have b6 := e 6 (by decide)
  have b7 := e 7 (by decide)
  unfold sm8 at h
  dsimp only at h
  omega
/-- n frames with a page each: so many pages are in frames -/
theorem full_n {n : Int} {g : Nat → Int} (h : ks_F n g) (m : Nat) (hl : ∀ f : Nat, f < m → fo g f 0 8 ≠ -1) : (m : Int) ≤ sm8 (fun p => if g p = -1 then 0 else 1) := by
  have key : ∀ f : Nat, f < m → ∃ p : Nat, fo g f 0 8 = (p : Int) ∧ p < 8 ∧ g p = (f : Int) := fun f hf => by
    have e1 := hl f hf
    have e2 := fo_8 g f
    refine ⟨(fo g f 0 8).toNat, by omega, by omega, (fo_is h (by omega)).mp (by omega)⟩
  refine pig m (fun p => if g p = -1 then 0 else 1) (fun f => (fo g f 0 8).toNat) (fun p _ => by split <;> omega) (fun f hf => ?_) (fun f e hf he hfe => ?_)
  · obtain ⟨p, k1, k2, k3⟩ := key f hf
    refine ⟨by omega, ?_⟩
    rw [k1, Int.toNat_natCast, if_neg (by omega)]
    exact Int.le_refl 1
  · obtain ⟨p, k1, k2, k3⟩ := key f hf
    obtain ⟨q, l1, l2, l3⟩ := key e he
    have hfe : (fo g f 0 8).toNat = (fo g e 0 8).toNat := hfe
    rw [k1, l1, Int.toNat_natCast, Int.toNat_natCast] at hfe
    subst hfe
    omega
theorem full_page (h : ks σ) (hl : lef (σ.1 4) 0 (σ.2 2).toNat = -1) : σ.2 2 ≤ sm8 (fun p => if σ.1 4 p = -1 then 0 else 1) := by
  obtain ⟨w1, w2, w3, w4, w5⟩ := h.wf
  rw [lef_none] at hl
  have := full_n h.F (σ.2 2).toNat (fun f hf => hl f (by omega) (by omega))
  omega
theorem ks.vicG (h : ks σ) (rule : Int) (i : Nat) (hl : sm8 (σ.1 6) < sm8 (fun p => if σ.1 4 p = -1 then 0 else 1)) : ∃ b : Nat, b < 8 ∧ vb σ rule i (-1) 0 0 8 = b ∧ σ.1 4 b ≠ -1 ∧ σ.1 6 b = 0 ∧ ∀ q : Nat, q < 8 → σ.1 4 q = -1 ∨ σ.1 6 q ≠ 0 ∨ age σ rule i q ≤ age σ rule i b := by
  obtain ⟨p, hp, h1, h2⟩ := free_page h.pin hl
  rcases vb_V (σ := σ) rule i with ⟨e1, e2⟩ | ⟨b, e1, e2, e3, e4⟩
  · exact absurd ⟨h1, h2⟩ (e2 p hp)
  · refine ⟨b, e1, e2, e3.1, e3.2, fun q hq => ?_⟩
    by_cases c1 : σ.1 4 q = -1
    · exact Or.inl c1
    · by_cases c2 : σ.1 6 q = 0
      · exact Or.inr (Or.inr (e4 q hq ⟨c1, c2⟩).1)
      · exact Or.inr (Or.inl c2)
theorem ks.vicE (h : ks σ) (rule : Int) (i : Nat) (hl : lef (σ.1 4) 0 (σ.2 2).toNat = -1) : ∃ b : Nat, b < 8 ∧ vb σ rule i (-1) 0 0 8 = b ∧ σ.1 4 b ≠ -1 ∧ σ.1 6 b = 0 ∧ ∀ q : Nat, q < 8 → σ.1 4 q = -1 ∨ σ.1 6 q ≠ 0 ∨ age σ rule i q ≤ age σ rule i b := by
  have f := full_page h hl
  have k := h.K
  exact h.vicG rule i (by omega)
end KS
