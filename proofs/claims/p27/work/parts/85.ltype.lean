/-! THE LAW'S type; plans that grow -/
def smp (σ σ' : SG) : Prop := (∀ k, 2 ≤ k → σ'.1 k = σ.1 k) ∧ σ'.2 1 = σ.2 1 ∧ σ'.2 2 = σ.2 2
theorem smp.rf (σ : SG) : smp σ σ := ⟨fun _ _ => rfl, rfl, rfl⟩
theorem smp.tr {σ σ' σ'' : SG} (h : smp σ σ') (h2 : smp σ' σ'') : smp σ σ'' := ⟨fun k hk => (h2.1 k hk).trans (h.1 k hk), h2.2.1.trans h.2.1, h2.2.2.trans h.2.2⟩
theorem smp.lwE {σ σ' : SG} (h : smp σ σ') : lw σ' = lw σ := by
  unfold lw lF lR lT
  rw [h.1 4 (by decide), h.1 5 (by decide), h.1 6 (by decide), h.1 9 (by decide), h.1 10 (by decide), h.1 7 (by decide), h.1 8 (by decide), h.1 2 (by decide), h.2.1, h.2.2]
theorem smp.ksE {σ σ' : SG} (h : smp σ σ') (k : ks σ) (hw : wfS σ') (hP : ks_P (σ'.2 0) (σ'.1 0) (σ'.1 1)) : ks σ' := by
  refine ⟨hw, hP, ⟨?_, ?_, ?_⟩, ?_, ?_, ?_⟩
  · rw [h.1 6 (by decide)]; exact k.pin
  · rw [h.1 5 (by decide)]; exact k.ch
  · rw [h.1 4 (by decide), h.2.2]; exact k.F
  · rw [h.1 7 (by decide), h.1 8 (by decide)]; exact k.L
  · rw [h.1 9 (by decide), h.1 10 (by decide), h.1 5 (by decide), h.2.1]; exact k.N
  · rw [h.1 6 (by decide), h.2.2]; exact k.K
theorem pta_smp (σ : SG) (p pg wr : Int) : smp σ (pta σ p pg wr) := by
  unfold pta
  refine ⟨fun k hk => ?_, ?_, ?_⟩
  · rw [sS_1, sR_1, if_neg (by omega), sR_1, if_neg (by omega)]
  · rw [sS_2, if_neg (by decide)]; rfl
  · rw [sS_2, if_neg (by decide)]; rfl
theorem pta_ks {σ : SG} (h : ks σ) {i : Nat} {pg wr : Int} (h1 : σ.2 1 ≤ i) (h2 : (i : Int) ≤ σ.2 0) (hn : σ.2 0 < 80) (hp0 : 0 ≤ pg) (hp1 : pg < 8) (hw : wr = 0 ∨ wr = 1) : ks (pta σ i pg wr) := by
  refine (pta_smp σ i pg wr).ksE h (wf_pta h.wf hn) ?_
  have e0 : (pta σ i pg wr).1 0 = opn (σ.1 0) i pg := by
    unfold pta; rw [sS_1, sR_1, if_neg (by decide), sR_1, if_pos rfl, Int.toNat_natCast]
  have e1 : (pta σ i pg wr).1 1 = opn (σ.1 1) i wr := by
    unfold pta; rw [sS_1, sR_1, if_pos rfl, Int.toNat_natCast]
  rw [e0, e1, pta_0]
  intro j hj
  unfold opn
  by_cases c1 : j < i
  · rw [if_pos c1, if_pos c1]; exact h.P j (by omega)
  · rw [if_neg c1, if_neg c1]
    by_cases c2 : j = i
    · rw [if_pos c2, if_pos c2]; exact ⟨hp0, hp1, hw⟩
    · rw [if_neg c2, if_neg c2]; exact h.P (j - 1) (by omega)
theorem ptn_ks {pg wr : Int} (hp0 : 0 ≤ pg) (hp1 : pg < 8) (hw : wr = 0 ∨ wr = 1) : ∀ (d : Nat) (σ : SG), ks σ → σ.2 0 + d ≤ 80 → ks (ptn σ pg wr d) ∧ smp σ (ptn σ pg wr d) := by
  intro d
  induction d with
  | zero => intro σ h _; exact ⟨h, smp.rf σ⟩
  | succ d ih =>
    intro σ h hs
    obtain ⟨w1, w2, w3, w4, w5⟩ := id h.wf
    have k : ks (pta σ (σ.2 0) pg wr) := by
      have := pta_ks h (i := (σ.2 0).toNat) (pg := pg) (wr := wr) (by omega) (by omega) (by omega) hp0 hp1 hw
      rw [Int.toNat_of_nonneg (by omega)] at this
      exact this
    have := ih (pta σ (σ.2 0) pg wr) k (by rw [pta_0]; omega)
    exact ⟨this.1, (pta_smp σ _ pg wr).tr this.2⟩
theorem pgA_r (c : Int) : pgA c = -1 ∨ (0 ≤ pgA c ∧ pgA c < 8) := by
  unfold pgA
  split
  · right; omega
  · split
    · right; omega
    · exact Or.inl rfl
theorem wrA_01 (c : Int) : wrA c = 0 ∨ wrA c = 1 := by unfold wrA; split <;> simp
theorem exn_ks (T : TG) : ∀ (d i : Nat) (σ : SG), ks σ → σ.2 0 + tld T i d ≤ 80 → ks (exn T σ i d) ∧ smp σ (exn T σ i d) ∧ (exn T σ i d).2 0 = σ.2 0 + tld T i d := by
  intro d
  induction d with
  | zero => intro i σ h _; exact ⟨h, smp.rf σ, by show σ.2 0 = σ.2 0 + 0; omega⟩
  | succ d ih =>
    intro i σ h hs
    have r := tmA_r T i
    have nn := tld_nn T d (i + 1)
    unfold tld at hs ⊢
    unfold exn
    have k : ks (ptn σ (pgA (cA T i)) (wrA (cA T i)) (tmA T i).toNat) ∧ smp σ (ptn σ (pgA (cA T i)) (wrA (cA T i)) (tmA T i).toNat) := by
      rcases pgA_r (cA T i) with e | ⟨e1, e2⟩
      · have e3 : tmA T i = 0 := by unfold tmA; rw [if_pos e]
        rw [e3]
        exact ⟨h, smp.rf σ⟩
      · exact ptn_ks e1 e2 (wrA_01 _) _ σ h (by omega)
    have e0 := ptn_0 (pgA (cA T i)) (wrA (cA T i)) (tmA T i).toNat σ
    have := ih (i + 1) _ k.1 (by rw [e0]; omega)
    exact ⟨this.1, k.2.tr this.2.1, by rw [this.2.2, e0]; omega⟩
/-- texts as they are typed -/
def txt_ok (T : TG) (m : Int) (k : Nat) : Prop := wfT T ∧ T.2 ≤ 2 * k ∧ (k : Int) ≤ T.2 ∧ (∀ i : Nat, (i : Int) < T.2 → ¬ bad T i) ∧ tld T 0 T.2.toNat = m ∧ (k : Int) ≤ m ∧ m ≤ 9 * k
theorem cA_apd {T : TG} (hT : wfT T) (hl : T.2 < 40) (c i : Int) : cA (apd T c) i = if i = T.2 then c else cA T i := by
  obtain ⟨t1, t2, t3⟩ := hT
  unfold cA apd
  dsimp only
  by_cases e : i = T.2
  · subst e
    rw [if_pos rfl, if_pos (by omega)]
    unfold rg rs
    rw [if_pos (by omega), if_pos (by omega), fu_s]
  · rw [if_neg e]
    by_cases e2 : i < T.2
    · rw [if_pos e2, if_pos (by omega)]
      unfold rg rs
      by_cases e3 : 0 ≤ i ∧ i < (40 : Nat)
      · rw [if_pos e3, if_pos e3, if_pos (by omega), fu_n _ _ (by omega)]
      · rw [if_neg e3, if_neg e3]
    · rw [if_neg e2, if_neg (by omega)]
theorem wf_apd {T : TG} (hT : wfT T) (hl : T.2 < 40) {c : Int} (h0 : -1 ≤ c) (h1 : c ≤ 1000) : wfT (apd T c) := by
  obtain ⟨t1, t2, t3⟩ := hT
  refine ⟨by show 0 ≤ T.2 + 1; omega, by show T.2 + 1 ≤ 40; omega, fun j => ?_⟩
  show -1 ≤ rs 40 T.1 T.2 c j ∧ rs 40 T.1 T.2 c j ≤ 1000
  unfold rs
  split
  · unfold fu; split
    · exact ⟨h0, h1⟩
    · exact t3 j
  · exact t3 j
theorem tld_snoc (T : TG) : ∀ (d i : Nat), tld T i (d + 1) = tld T i d + tmA T ((i + d : Nat) : Int) := by
  intro d
  induction d with
  | zero => intro i; simp [tld]
  | succ d ih =>
    intro i
    rw [tld, ih (i + 1), show i + 1 + d = i + (d + 1) by omega, tld]
    omega
theorem tld_ext {T T' : TG} : ∀ (d i : Nat), (∀ j : Nat, i ≤ j → j < i + d → tmA T j = tmA T' j) → tld T i d = tld T' i d := by
  intro d
  induction d with
  | zero => intro i h; rfl
  | succ d ih =>
    intro i h
    unfold tld
    rw [h i (Nat.le_refl _) (by omega), ih (i + 1) (fun j h1 h2 => h j (by omega) (by omega))]
theorem fwr_q {T : TG} : ∀ (d i : Nat), (i : Int) + d = T.2 → (∀ j : Nat, i ≤ j → j < i + d → ¬ bad T j) → fwr T i d = T.2 := by
  intro d
  induction d with
  | zero => intro i hi h; rfl
  | succ d ih =>
    intro i hi h
    have hb := h i (Nat.le_refl _) (by omega)
    have q := ih (i + 1) (by omega) (fun j h1 h2 => h j (by omega) (by omega))
    unfold fwr
    unfold bad at hb
    by_cases c1 : pgA (cA T i) = -1
    · rw [if_pos c1]
      by_cases c2 : dgA (cA T i) = 0
      · exact absurd ⟨c1, Or.inl c2⟩ hb
      · rw [if_neg c2]
        by_cases c3 : pgA (cA T ((i : Int) - 1)) = -1
        · exact absurd ⟨c1, Or.inr c3⟩ hb
        · rw [if_neg c3]; exact q
    · rw [if_neg c1]; exact q
theorem dgA_m1 : dgA (-1) = 0 := rfl
theorem txt_0 (g : Nat → Int) (hT : ∀ j, -1 ≤ g j ∧ g j ≤ 1000) : txt_ok (g, 0) 0 0 :=
  ⟨⟨by show (0 : Int) ≤ 0; omega, by show (0 : Int) ≤ 40; omega, hT⟩, by show (0 : Int) ≤ _; omega, by show _ ≤ (0 : Int); omega, fun i hi => by have hi : (i : Int) < 0 := hi; omega, rfl, by omega, by omega⟩
/-- a letter -/
theorem txt_1 {T : TG} {m : Int} {k : Nat} (h : txt_ok T m k) (hk : k ≤ 10) {c : Int} (hc0 : 33 ≤ c) (hc1 : c ≤ 126) (hp : pgA c ≠ -1) (hd : dgA c = 0) : txt_ok (apd T c) (m + 1) (k + 1) ∧ cA (apd T c) T.2 = c := by
  obtain ⟨hT, h1, h2, h3, h4, h5, h6⟩ := h
  obtain ⟨t1, t2, t3⟩ := id hT
  have hl : T.2 < 40 := by omega
  have hA := cA_apd hT hl c
  have e2 : (apd T c).2 = T.2 + 1 := rfl
  have hL : cA T T.2 = -1 := by unfold cA; rw [if_neg (by omega)]
  refine ⟨⟨wf_apd hT hl (by omega) (by omega), by rw [e2]; omega, by rw [e2]; omega, fun i hi => ?_, ?_, by omega, by omega⟩, by rw [hA, if_pos rfl]⟩
  · rw [e2] at hi
    unfold bad
    rw [hA, hA]
    by_cases c1 : (i : Int) = T.2
    · rw [if_pos c1]
      exact fun x => hp x.1
    · rw [if_neg c1, if_neg (by omega)]
      exact h3 i (by omega)
  · rw [e2, show (T.2 + 1).toNat = T.2.toNat + 1 by omega, tld_snoc, Nat.zero_add, Int.toNat_of_nonneg t1]
    have x1 : tld (apd T c) 0 T.2.toNat = tld T 0 T.2.toNat := tld_ext _ _ fun j _ hj => by
      have a1 : cA (apd T c) j = cA T j := by rw [hA, if_neg (by omega)]
      unfold tmA
      rw [a1]
      by_cases c1 : (j : Int) + 1 = T.2
      · have z : ¬ (0 : Int) = 1 := by decide
        rw [c1, hL, hA, if_pos rfl, hd, dgA_m1]
        simp only [z, ↓reduceIte]
      · have a2 : cA (apd T c) (j + 1) = cA T (j + 1) := by rw [hA, if_neg c1]
        rw [a2]
    have x2 : tmA (apd T c) T.2 = 1 := by
      have a1 : cA (apd T c) T.2 = c := by rw [hA, if_pos rfl]
      have a2 : cA (apd T c) (T.2 + 1) = -1 := by unfold cA; rw [if_neg (by rw [e2]; omega)]
      unfold tmA
      rw [a1, a2, if_neg hp, dgA_m1]
      rfl
    rw [x1, x2, h4]
/-- a letter, and how often -/
theorem txt_2 {T : TG} {m : Int} {k : Nat} (h : txt_ok T m k) (hk : k ≤ 10) {c w : Int} (hc0 : 33 ≤ c) (hc1 : c ≤ 126) (hp : pgA c ≠ -1) (hd : dgA c = 0) (hw0 : 2 ≤ w) (hw1 : w ≤ 9) : txt_ok (apd (apd T c) (48 + w)) (m + w) (k + 1) := by
  obtain ⟨q1, q2⟩ := txt_1 h hk hc0 hc1 hp hd
  obtain ⟨hT, h1, h2, h3, h4, h5, h6⟩ := h
  obtain ⟨g1, -, -, g4, g5, -, -⟩ := q1
  obtain ⟨t1, t2, t3⟩ := id hT
  have e1 : (apd T c).2 = T.2 + 1 := rfl
  have e2 : (apd (apd T c) (48 + w)).2 = T.2 + 1 + 1 := rfl
  have hl : (apd T c).2 < 40 := by rw [e1]; omega
  have hA := cA_apd g1 hl (48 + w)
  have hpw : pgA (48 + w) = -1 := by unfold pgA; rw [if_neg (by omega), if_neg (by omega)]
  have hdw : dgA (48 + w) = 1 := by unfold dgA; rw [if_pos (by omega)]
  refine ⟨wf_apd g1 hl (by omega) (by omega), by rw [e2]; omega, by rw [e2]; omega, fun i hi => ?_, ?_, by omega, by omega⟩
  · rw [e2] at hi
    unfold bad
    rw [hA, hA, e1]
    by_cases c1 : (i : Int) = T.2 + 1
    · rw [if_pos c1, if_neg (by omega), hdw, show (i : Int) - 1 = T.2 by omega, q2]
      exact fun x => by
        rcases x.2 with y | y
        · omega
        · exact hp y
    · rw [if_neg c1, if_neg (by omega)]
      exact g4 i (by rw [e1]; omega)
  · rw [e2, show (T.2 + 1 + 1).toNat = T.2.toNat + 1 + 1 by omega, tld_snoc, tld_snoc, Nat.zero_add, Nat.zero_add]
    have x1 : tld (apd (apd T c) (48 + w)) 0 T.2.toNat = tld (apd T c) 0 T.2.toNat := tld_ext _ _ fun j _ hj => by
      have a1 : cA (apd (apd T c) (48 + w)) j = cA (apd T c) j := by rw [hA, e1, if_neg (by omega)]
      have a2 : cA (apd (apd T c) (48 + w)) (j + 1) = cA (apd T c) (j + 1) := by rw [hA, e1, if_neg (by omega)]
      unfold tmA
      rw [a1, a2]
    have x2 : tmA (apd (apd T c) (48 + w)) (T.2.toNat : Nat) = w := by
      rw [Int.toNat_of_nonneg t1]
      have a1 : cA (apd (apd T c) (48 + w)) T.2 = c := by rw [hA, e1, if_neg (by omega), q2]
      have a2 : cA (apd (apd T c) (48 + w)) (T.2 + 1) = 48 + w := by rw [hA, e1, if_pos rfl]
      unfold tmA
      rw [a1, a2, if_neg hp, hdw, if_pos rfl]
      omega
    have x3 : tmA (apd (apd T c) (48 + w)) (T.2.toNat + 1 : Nat) = 0 := by
      have a1 : cA (apd (apd T c) (48 + w)) (T.2.toNat + 1 : Nat) = 48 + w := by rw [hA, e1, if_pos (by omega)]
      unfold tmA
      rw [a1, hpw, if_pos rfl]
    have x4 : tld (apd T c) 0 T.2.toNat = m := by
      have := g5
      rw [e1, show (T.2 + 1).toNat = T.2.toNat + 1 by omega, tld_snoc, Nat.zero_add, Int.toNat_of_nonneg t1] at this
      have x5 : tmA (apd T c) T.2 = 1 := by
        unfold tmA
        rw [q2, if_neg hp]
        have : cA (apd T c) (T.2 + 1) = -1 := by unfold cA; rw [if_neg (by rw [e1]; omega)]
        rw [this, dgA_m1]
        rfl
      omega
    rw [x1, x2, x3, x4]
    omega
