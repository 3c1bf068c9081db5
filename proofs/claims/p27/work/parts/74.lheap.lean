/-! THE LAW'S ROWS: frames, pages' numbers, counts: what they are of a state -/
def lF (σ : SG) : Nat → Int := fun k => fo (σ.1 4) k 0 8
def lR (σ : SG) : Nat → Int := fun k => if k < 8 then σ.1 5 k else if k < 16 then σ.1 6 (k - 8) else if k < 24 then σ.1 9 (k - 16) else if k < 32 then σ.1 10 (k - 24) else if k < 40 then σ.1 7 (k - 32) else σ.1 8 (k - 40)
def lT (σ : SG) : Nat → Int := fun k => if k = 0 then σ.2 2 else if k = 1 then σ.2 1 else co (σ.1 2) 0 0 (σ.2 1).toNat
theorem lR_5 (σ : SG) {p : Nat} (h : p < 8) : lR σ p = σ.1 5 p := by unfold lR; rw [if_pos h]
theorem lR_6 (σ : SG) {p : Nat} (h : p < 8) : lR σ (8 + p) = σ.1 6 p := by
  unfold lR; rw [if_neg (by omega), if_pos (by omega), Nat.add_sub_cancel_left]
theorem lR_9 (σ : SG) {p : Nat} (h : p < 8) : lR σ (16 + p) = σ.1 9 p := by
  unfold lR; rw [if_neg (by omega), if_neg (by omega), if_pos (by omega), Nat.add_sub_cancel_left]
theorem lR_10 (σ : SG) {p : Nat} (h : p < 8) : lR σ (24 + p) = σ.1 10 p := by
  unfold lR; rw [if_neg (by omega), if_neg (by omega), if_neg (by omega), if_pos (by omega), Nat.add_sub_cancel_left]
theorem lR_7 (σ : SG) {p : Nat} (h : p < 8) : lR σ (32 + p) = σ.1 7 p := by
  unfold lR; rw [if_neg (by omega), if_neg (by omega), if_neg (by omega), if_neg (by omega), if_pos (by omega), Nat.add_sub_cancel_left]
theorem lR_8 (σ : SG) {p : Nat} (h : p < 8) : lR σ (40 + p) = σ.1 8 p := by
  unfold lR; rw [if_neg (by omega), if_neg (by omega), if_neg (by omega), if_neg (by omega), if_neg (by omega), Nat.add_sub_cancel_left]
/-- a row that says the same of all pages is the row -/
theorem lR_is {σ : SG} {R : Nat → Int} (h5 : ∀ p, p < 8 → R p = σ.1 5 p) (h6 : ∀ p, p < 8 → R (8 + p) = σ.1 6 p) (h9 : ∀ p, p < 8 → R (16 + p) = σ.1 9 p) (h10 : ∀ p, p < 8 → R (24 + p) = σ.1 10 p) (h7 : ∀ p, p < 8 → R (32 + p) = σ.1 7 p) (h8 : ∀ p, p < 8 → R (40 + p) = σ.1 8 p) : ∀ i, i < 48 → R i = lR σ i := by
  intro i hi
  by_cases c1 : i < 8
  · rw [lR_5 σ c1, h5 i c1]
  · by_cases c2 : i < 16
    · rw [show i = 8 + (i - 8) by omega, lR_6 σ (by omega), h6 _ (by omega)]
    · by_cases c3 : i < 24
      · rw [show i = 16 + (i - 16) by omega, lR_9 σ (by omega), h9 _ (by omega)]
      · by_cases c4 : i < 32
        · rw [show i = 24 + (i - 24) by omega, lR_10 σ (by omega), h10 _ (by omega)]
        · by_cases c5 : i < 40
          · rw [show i = 32 + (i - 32) by omega, lR_7 σ (by omega), h7 _ (by omega)]
          · rw [show i = 40 + (i - 40) by omega, lR_8 σ (by omega), h8 _ (by omega)]
theorem lT_is {σ : SG} {t : Nat → Int} (h0 : t 0 = σ.2 2) (h1 : t 1 = σ.2 1) (h2 : t 2 = co (σ.1 2) 0 0 (σ.2 1).toNat) : ∀ i, i < 3 → t i = lT σ i := by
  intro i hi
  match i, hi with
  | 0, _ => exact h0
  | 1, _ => exact h1
  | 2, _ => exact h2
abbrev LG : Type := (Nat → Int) × ((Nat → Int) × (Nat → Int))
def lwC (X : LG) (o : Nat) : AC := if o = 0 then iC (tab 6 X.1) else if o = 1 then iC (tab 48 X.2.1) else iC (tab 3 X.2.2)
def putL (f : AH) (a : Nat) (X : LG) : AH := fun b => if a ≤ b ∧ b < a + 3 then some (lwC X (b - a)) else f b
def lw (σ : SG) : LG := (lF σ, (lR σ, lT σ))
theorem putL_ext {f : AH} {a : Nat} {X Y : LG} (h1 : ∀ i, i < 6 → X.1 i = Y.1 i) (h2 : ∀ i, i < 48 → X.2.1 i = Y.2.1 i) (h3 : ∀ i, i < 3 → X.2.2 i = Y.2.2 i) : putL f a X = putL f a Y := by
  have e : ∀ o, lwC X o = lwC Y o := fun o => by
    unfold lwC
    rw [tab_ext h1, tab_ext h2, tab_ext h3]
  funext b; unfold putL; rw [e]
theorem putL_putL (f : AH) (a : Nat) (X Y : LG) : putL (putL f a X) a Y = putL f a Y := by
  funext b; unfold putL; split <;> rfl
theorem putL_0 (f : AH) (a : Nat) (X : LG) : putL f a X a = some (iC (tab 6 X.1)) := by
  unfold putL; rw [if_pos (by omega), Nat.sub_self]; rfl
theorem putL_1 (f : AH) (a : Nat) (X : LG) : putL f a X (a + 1) = some (iC (tab 48 X.2.1)) := by
  unfold putL; rw [if_pos (by omega), Nat.add_sub_cancel_left]; rfl
theorem putL_2 (f : AH) (a : Nat) (X : LG) : putL f a X (a + 2) = some (iC (tab 3 X.2.2)) := by
  unfold putL; rw [if_pos (by omega), Nat.add_sub_cancel_left]; rfl
theorem putL_s0 (f : AH) (a : Nat) (X : LG) (F : Nat → Int) : aup (putL f a X) a (iC (tab 6 F)) = putL f a (F, X.2) := by
  funext b; unfold aup putL
  by_cases h : b = a
  · subst h; rw [if_pos rfl, if_pos (by omega), Nat.sub_self]; rfl
  · rw [if_neg h]
    by_cases h2 : a ≤ b ∧ b < a + 3
    · rw [if_pos h2, if_pos h2]
      have h3 : ¬ b - a = 0 := by omega
      unfold lwC
      rw [if_neg h3, if_neg h3]
    · rw [if_neg h2, if_neg h2]
theorem putL_s1 (f : AH) (a : Nat) (X : LG) (R : Nat → Int) : aup (putL f a X) (a + 1) (iC (tab 48 R)) = putL f a (X.1, (R, X.2.2)) := by
  funext b; unfold aup putL
  by_cases h : b = a + 1
  · subst h; rw [if_pos rfl, if_pos (by omega), Nat.add_sub_cancel_left]; rfl
  · rw [if_neg h]
    by_cases h2 : a ≤ b ∧ b < a + 3
    · rw [if_pos h2, if_pos h2]
      unfold lwC
      by_cases h3 : b - a = 0
      · rw [if_pos h3, if_pos h3]
      · rw [if_neg h3, if_neg h3, if_neg (by omega), if_neg (by omega)]
    · rw [if_neg h2, if_neg h2]
theorem putL_s2 (f : AH) (a : Nat) (X : LG) (t : Nat → Int) : aup (putL f a X) (a + 2) (iC (tab 3 t)) = putL f a (X.1, (X.2.1, t)) := by
  funext b; unfold aup putL
  by_cases h : b = a + 2
  · subst h; rw [if_pos rfl, if_pos (by omega), Nat.add_sub_cancel_left]; rfl
  · rw [if_neg h]
    by_cases h2 : a ≤ b ∧ b < a + 3
    · rw [if_pos h2, if_pos h2]
      unfold lwC
      by_cases h3 : b - a = 0
      · rw [if_pos h3, if_pos h3]
      · rw [if_neg h3, if_neg h3, if_pos (by omega), if_pos (by omega)]
    · rw [if_neg h2, if_neg h2]
theorem putL_out (f : AH) {a b : Nat} (X : LG) (h : b < a ∨ a + 3 ≤ b) : putL f a X b = f b := by
  unfold putL; rw [if_neg (by omega)]
theorem putL_comm (f : AH) {a d : Nat} (X Y : LG) (h : a + 3 ≤ d ∨ d + 3 ≤ a) : putL (putL f a X) d Y = putL (putL f d Y) a X := by
  funext b; unfold putL
  by_cases h1 : d ≤ b ∧ b < d + 3
  · rw [if_pos h1, if_neg (by omega), if_pos h1]
  · rw [if_neg h1, if_neg h1]
/-- the class's cells end at 189 -/
theorem PP_hi (f : AH) (sc : Int) (T : TG) (τ σ : SG) {b : Nat} (h : 190 ≤ b) : PP f sc T τ σ b = f b := by
  unfold PP
  rw [putS_out _ _ (by omega), putS_out _ _ (by omega), putT_out _ _ (by omega), aup_ne _ _ (by omega)]
theorem PP_aup (f : AH) (sc : Int) (T : TG) (τ σ : SG) {b : Nat} (c : AC) (h : 190 ≤ b) : aup (PP f sc T τ σ) b c = PP (aup f b c) sc T τ σ := by
  unfold PP
  rw [aup_putS _ _ _ (by omega), aup_putS _ _ _ (by omega), aup_putT _ _ _ (by omega), aup_comm _ _ _ (by omega)]
theorem putL_V (f : AH) (V : VG) {a : Nat} (X : LG) (h : 190 ≤ a) : putL (putV f V) a X = putV (putL f a X) V := by
  funext b; unfold putL putV; dsimp only
  by_cases h1 : a ≤ b ∧ b < a + 3
  · rw [if_pos h1, if_neg (by omega), if_pos h1]
  · rw [if_neg h1, if_neg h1]
section LP
variable {xs : List Int} {f : AH} {a : Nat} {X : LG} {sc : Int} {T : TG} {τ σ : SG} {μ : Mu} {y : Nat}
theorem gI_tab {h : AH} {c n : Nat} {g : Nat → Int} (hc : c ≠ 0) (e : h c = some (iC (tab n g))) {i : Int} (h0 : 0 ≤ i) (h1 : i < n) : gI xs y h c i = some (vi (g i.toNat)) := by
  unfold gI gi
  rw [if_neg hc, e]
  dsimp only
  rw [tab_len, if_pos ⟨h0, h1⟩, tab_get _ (by omega)]
theorem pi_tab {h : AH} {c n : Nat} {g : Nat → Int} (e : h c = some (iC (tab n g))) {i x : Int} (h0 : 0 ≤ i) (h1 : i < n) : pi h c i x = some (aup h c (iC (tab n (fu g i.toNat x)))) := by
  unfold pi
  rw [e]
  dsimp only
  rw [tab_len, if_pos ⟨h0, h1⟩, tab_set]
theorem L_g0 (ha : 190 ≤ a) {i : Int} (h0 : 0 ≤ i) (h1 : i < 6) : gI xs y (PP (putL f a X) sc T τ σ) a i = some (vi (X.1 i.toNat)) := gI_tab (by omega) (by rw [PP_hi _ _ _ _ _ ha, putL_0]) h0 h1
theorem L_g1 (ha : 190 ≤ a) {i : Int} (h0 : 0 ≤ i) (h1 : i < 48) : gI xs y (PP (putL f a X) sc T τ σ) (a + 1) i = some (vi (X.2.1 i.toNat)) := gI_tab (by omega) (by rw [PP_hi _ _ _ _ _ (by omega), putL_1]) h0 h1
theorem L_g2 (ha : 190 ≤ a) {i : Int} (h0 : 0 ≤ i) (h1 : i < 3) : gI xs y (PP (putL f a X) sc T τ σ) (a + 2) i = some (vi (X.2.2 i.toNat)) := gI_tab (by omega) (by rw [PP_hi _ _ _ _ _ (by omega), putL_2]) h0 h1
theorem L_p0 (ha : 190 ≤ a) {i x : Int} (h0 : 0 ≤ i) (h1 : i < 6) : pi (PP (putL f a X) sc T τ σ) a i x = some (PP (putL f a (fu X.1 i.toNat x, X.2)) sc T τ σ) := by
  rw [pi_tab (by rw [PP_hi _ _ _ _ _ ha, putL_0]) h0 h1, PP_aup _ _ _ _ _ _ ha, putL_s0]
theorem L_p1 (ha : 190 ≤ a) {i x : Int} (h0 : 0 ≤ i) (h1 : i < 48) : pi (PP (putL f a X) sc T τ σ) (a + 1) i x = some (PP (putL f a (X.1, (fu X.2.1 i.toNat x, X.2.2))) sc T τ σ) := by
  rw [pi_tab (by rw [PP_hi _ _ _ _ _ (by omega), putL_1]) h0 h1, PP_aup _ _ _ _ _ _ (by omega), putL_s1]
theorem L_p2 (ha : 190 ≤ a) {i x : Int} (h0 : 0 ≤ i) (h1 : i < 3) : pi (PP (putL f a X) sc T τ σ) (a + 2) i x = some (PP (putL f a (X.1, (X.2.1, fu X.2.2 i.toNat x))) sc T τ σ) := by
  rw [pi_tab (by rw [PP_hi _ _ _ _ _ (by omega), putL_2]) h0 h1, PP_aup _ _ _ _ _ _ (by omega), putL_s2]
end LP
theorem tn8 (p : Nat) : (8 + (p : Int)).toNat = 8 + p := by omega
theorem tn16 (p : Nat) : (16 + (p : Int)).toNat = 16 + p := by omega
theorem tn24 (p : Nat) : (24 + (p : Int)).toNat = 24 + p := by omega
theorem tn32 (p : Nat) : (32 + (p : Int)).toNat = 32 + p := by omega
theorem tn40 (p : Nat) : (40 + (p : Int)).toNat = 40 + p := by omega
