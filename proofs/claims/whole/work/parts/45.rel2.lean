/-! CLASS AND MODEL: one state told twice -/
def qF (n : Int) (g z : Nat → Int) : Prop := (∀ p : Nat, p < 8 → -1 ≤ g p ∧ g p < n) ∧ (∀ f : Nat, f < 6 → -1 ≤ z (5 + f) ∧ z (5 + f) < 8) ∧ (∀ f p : Nat, f < 6 → p < 8 → (z (5 + f) = (p : Int) ↔ g p = (f : Int)))
def qB (g : Nat → Int) (w : Int) : Prop := ∃ v : Nat, v < 256 ∧ w = v ∧ ∀ p, p < 8 → g p = bI v p
def qP (n : Int) (a w z : Nat → Int) : Prop := ∀ i : Nat, (i : Int) < n → z (27 + 4 * i) = a i ∧ 0 ≤ a i ∧ a i < 8 ∧ z (28 + 4 * i) = w i ∧ (w i = 0 ∨ w i = 1)
def qD (n : Int) (b v z : Nat → Int) : Prop := ∀ i : Nat, (i : Int) < n → z (29 + 4 * i) = b i ∧ z (30 + 4 * i) = v i ∧ 0 ≤ b i ∧ b i ≤ 3
def qC (d n : Int) (z : Nat → Int) : Prop := ∀ i : Nat, d ≤ (i : Int) → (i : Int) < n → z (29 + 4 * i) = -1 ∧ z (30 + 4 * i) = -1
def qL (n : Nat) (la lr z : Nat → Int) : Prop := ∀ p : Nat, p < 8 → la p = lat z p 0 (-1) 0 n ∧ lr p = lat z p 1 (-1) 0 n
def qN (n : Int) (rd wb ch z : Nat → Int) : Prop := ∀ p : Nat, p < 8 → z (11 + p) = rd p ∧ z (19 + p) = wb p ∧ 0 ≤ rd p ∧ rd p ≤ n ∧ 0 ≤ wb p ∧ wb p + ch p ≤ n
def qK (n : Int) (pn : Nat → Int) : Prop := sm8 pn ≤ n - 1
def rel (σ : SG) (z : Nat → Int) : Prop := (wfS σ ∧ z 0 = σ.2 0 ∧ z 1 = σ.2 1 ∧ z 2 = σ.2 2) ∧ (qP (σ.2 0) (σ.1 0) (σ.1 1) z ∧ qD (σ.2 1) (σ.1 2) (σ.1 3) z ∧ qC (σ.2 1) (σ.2 0) z) ∧ (qB (σ.1 6) (z 3) ∧ qB (σ.1 5) (z 4) ∧ qF (σ.2 2) (σ.1 4) z) ∧ qL (σ.2 1).toNat (σ.1 7) (σ.1 8) z ∧ qN (σ.2 1) (σ.1 9) (σ.1 10) (σ.1 5) z ∧ qK (σ.2 2) (σ.1 6)
section RE
variable {σ : SG} {z : Nat → Int}
theorem rel.wf (h : rel σ z) : wfS σ := h.1.1
theorem rel.n (h : rel σ z) : z 0 = σ.2 0 ∧ z 1 = σ.2 1 ∧ z 2 = σ.2 2 := h.1.2
theorem rel.P (h : rel σ z) : qP (σ.2 0) (σ.1 0) (σ.1 1) z := h.2.1.1
theorem rel.D (h : rel σ z) : qD (σ.2 1) (σ.1 2) (σ.1 3) z := h.2.1.2.1
theorem rel.C (h : rel σ z) : qC (σ.2 1) (σ.2 0) z := h.2.1.2.2
theorem rel.pin (h : rel σ z) : qB (σ.1 6) (z 3) := h.2.2.1.1
theorem rel.ch (h : rel σ z) : qB (σ.1 5) (z 4) := h.2.2.1.2.1
theorem rel.F (h : rel σ z) : qF (σ.2 2) (σ.1 4) z := h.2.2.1.2.2
theorem rel.L (h : rel σ z) : qL (σ.2 1).toNat (σ.1 7) (σ.1 8) z := h.2.2.2.1
theorem rel.N (h : rel σ z) : qN (σ.2 1) (σ.1 9) (σ.1 10) (σ.1 5) z := h.2.2.2.2.1
theorem rel.K (h : rel σ z) : qK (σ.2 2) (σ.1 6) := h.2.2.2.2.2
theorem qB.btE {g : Nat → Int} {w : Int} (h : qB g w) {p : Nat} (hp : p < 8) : bt w p = g p := by
  obtain ⟨v, h1, rfl, h3⟩ := h
  rw [bt_n h1 hp, h3 p hp]
theorem qB.r {g : Nat → Int} {w : Int} (h : qB g w) {p : Nat} (hp : p < 8) : g p = 0 ∨ g p = 1 := by
  obtain ⟨v, h1, rfl, h3⟩ := h
  rw [h3 p hp]; exact bI_01 v p
theorem qB.btsE {g : Nat → Int} {w : Int} (h : qB g w) : bts w 0 0 8 = sm8 g := by
  obtain ⟨v, h1, rfl, h3⟩ := h
  rw [bts_n h1]; exact sm8_ext fun p hp => (h3 p hp).symm
theorem qB.s8 {g : Nat → Int} {w : Int} (h : qB g w) : sm 0 g 0 8 = sm8 g := sm_8 fun p hp => by
  rcases h.r hp with e | e <;> omega
/-- the frame of a page -/
theorem fof_q {n : Int} {g : Nat → Int} (h : qF n g z) {p : Nat} (hp : p < 8) : ∀ (d i : Nat) (r : Int), i + d ≤ 6 → fof z p r i d = if (i : Int) ≤ g p ∧ g p < (i + d : Nat) then g p else r := by
  intro d
  induction d with
  | zero => intro i r hi; rw [if_neg (by omega)]; rfl
  | succ d ih =>
    intro i r hi
    unfold fof
    rw [ih (i + 1) _ (by omega)]
    have e := h.2.2 i p (by omega) hp
    by_cases c : z (5 + i) = (p : Int)
    · have c2 := e.mp c
      rw [if_pos c, if_neg (by omega), if_pos (by omega), c2]
    · have c2 : ¬ g p = (i : Int) := fun e2 => c (e.mpr e2)
      rw [if_neg c]
      by_cases c3 : ((i + 1 : Nat) : Int) ≤ g p ∧ g p < (i + 1 + d : Nat)
      · rw [if_pos c3, if_pos (by omega)]
      · rw [if_neg c3, if_neg (by omega)]
theorem rel.fofE (h : rel σ z) {p : Nat} (hp : p < 8) : fof z p (-1) 0 (z 2).toNat = σ.1 4 p := by
  obtain ⟨w1, w2, w3, w4, w5⟩ := h.wf
  rw [h.n.2.2, fof_q h.F hp _ _ _ (by omega)]
  have e := h.F.1 p hp
  by_cases c : σ.1 4 p = -1
  · rw [if_neg (by omega), c]
  · rw [if_pos (by omega)]
/-- a frame is empty: no page has it -/
theorem emp_q {n : Int} {g : Nat → Int} (h : qF n g z) {f : Nat} (hf : f < 6) : fo g f 0 8 = -1 ↔ z (5 + f) = -1 := by
  rw [fo_none]
  have e1 := h.2.1 f hf
  constructor
  · intro e
    by_cases c : z (5 + f) = -1
    · exact c
    · have e2 := h.2.2 f (z (5 + f)).toNat hf (by omega)
      rw [Int.toNat_of_nonneg (by omega)] at e2
      exact absurd (e2.mp rfl) (e _ (by omega) (by omega))
  · intro e j _ hj e3
    have e4 := (h.2.2 f j hf (by omega)).mpr e3
    omega
theorem lef_snoc (g : Nat → Int) : ∀ (d i : Nat), lef g i (d + 1) = if lef g i d = -1 then (if fo g ((i + d : Nat) : Int) 0 8 = -1 then ((i + d : Nat) : Int) else -1) else lef g i d := by
  intro d
  induction d with
  | zero => intro i; simp [lef]
  | succ d ih =>
    intro i
    rw [lef]
    by_cases c : fo g i 0 8 = -1
    · rw [if_pos c]
      have e : lef g i (d + 1) = i := by rw [lef, if_pos c]
      rw [e, if_neg (by omega)]
    · rw [if_neg c, ih (i + 1)]
      have e : lef g i (d + 1) = lef g (i + 1) d := by rw [lef, if_neg c]
      rw [e, show i + 1 + d = i + (d + 1) by omega]
theorem emf_q {n : Int} {g : Nat → Int} (h : qF n g z) : ∀ (d : Nat) (r : Int), d ≤ 6 → emf z r d = if lef g 0 d = -1 then r else lef g 0 d := by
  intro d
  induction d with
  | zero => intro r hd; rfl
  | succ d ih =>
    intro r hd
    unfold emf
    rw [ih _ (by omega), lef_snoc, Nat.zero_add]
    have e := emp_q h (f := d) (by omega)
    by_cases c : lef g 0 d = -1
    · rw [if_pos c, if_pos c]
      by_cases c2 : z (5 + d) = -1
      · rw [if_pos c2, if_pos (e.mpr c2), if_neg (by omega)]
      · rw [if_neg c2, if_neg (fun x => c2 (e.mp x)), if_pos rfl]
    · rw [if_neg c, if_neg c, if_neg c]
theorem rel.emfE (h : rel σ z) : emf z (-1) (z 2).toNat = lef (σ.1 4) 0 (σ.2 2).toNat := by
  obtain ⟨w1, w2, w3, w4, w5⟩ := h.wf
  rw [h.n.2.2, emf_q h.F _ _ (by omega)]
  by_cases c : lef (σ.1 4) 0 (σ.2 2).toNat = -1
  · rw [if_pos c, c]
  · rw [if_neg c]
/-- the next use -/
theorem usf_q {g : Nat → Int} (p : Int) (i : Nat) : ∀ (d : Nat) (r : Int), (∀ j, i ≤ j → j < i + d → z (27 + 4 * j) = g j) → usf z p r i d = if fo g p i d = -1 then r else fo g p i d := by
  intro d
  induction d with
  | zero => intro r h; rfl
  | succ d ih =>
    intro r h
    unfold usf
    rw [ih _ (fun j h1 h2 => h j h1 (by omega)), fo_snoc, h (i + d) (by omega) (by omega)]
    by_cases c : fo g p i d = -1
    · rw [if_pos c, if_pos c]
      by_cases c2 : g (i + d) = p
      · rw [if_pos c2, if_pos c2, if_neg (by omega)]
      · rw [if_neg c2, if_neg c2, if_pos rfl]
    · rw [if_neg c, if_neg c, if_neg c]
theorem rel.usfE (h : rel σ z) (p : Int) (i : Nat) : usf z p 80 i ((z 0).toNat - i) = nxu σ p i := by
  obtain ⟨w1, w2, w3, w4, w5⟩ := h.wf
  rw [h.n.1, usf_q (g := σ.1 0) p i _ _ (fun j h1 h2 => (h.P j (by omega)).1)]
  rfl
theorem lat_r (z : Nat → Int) (p rd : Int) : ∀ (d i : Nat) (r : Int), -1 ≤ r → r ≤ 100 → i + d ≤ 80 → -1 ≤ lat z p rd r i d ∧ lat z p rd r i d ≤ 100 := by
  intro d
  induction d with
  | zero => intro i r h1 h2 h3; exact ⟨h1, h2⟩
  | succ d ih =>
    intro i r h1 h2 h3
    unfold lat
    split
    · exact ih _ _ (by omega) (by omega) (by omega)
    · exact ih _ _ h1 h2 (by omega)
theorem rel.worE (h : rel σ z) (rule : Int) (i : Nat) {p : Nat} (hp : p < 8) (hr : rule = 0 ∨ rule = 1 ∨ rule = 2) : wor z rule p i = age σ rule i p := by
  unfold wor age
  have e := h.L p hp
  rw [h.usfE, h.n.2.1]
  rw [rg_n _ hp, rg_n _ hp, e.1, e.2]
  rcases hr with rfl | rfl | rfl <;> rfl
theorem rel.rg4 (_h : rel σ z) {k p : Nat} (hp : p < 8) : rg 8 (σ.1 k) p = σ.1 k p := by
  unfold rg
  rw [if_pos (by omega), Int.toNat_natCast]
theorem vb_q (h : rel σ z) (rule : Int) (i : Nat) (hr : rule = 0 ∨ rule = 1 ∨ rule = 2) : ∀ (d p : Nat) (best great : Int), p + d = 8 → (best = -1 ∨ ∃ b : Nat, b < 8 ∧ best = b ∧ great = age σ rule i b) → vbm z rule i best p d = vb σ rule i best great p d := by
  intro d
  induction d with
  | zero => intro p best great hp hb; rfl
  | succ d ih =>
    intro p best great hp hb
    have hp8 : p < 8 := by omega
    unfold vbm vb
    rw [h.fofE hp8, h.pin.btE hp8, h.rg4 hp8, h.rg4 hp8, h.worE rule i hp8 hr]
    by_cases c1 : σ.1 4 p = -1
    · rw [if_pos c1, if_pos c1]; exact ih _ _ _ (by omega) hb
    · rw [if_neg c1, if_neg c1]
      by_cases c2 : σ.1 6 p = 1
      · rw [if_pos c2, if_pos (by omega)]; exact ih _ _ _ (by omega) hb
      · have c3 : σ.1 6 p = 0 := by rcases h.pin.r hp8 with e | e <;> omega
        have c3' : ¬ σ.1 6 p ≠ 0 := by omega
        rw [if_neg c2, if_neg c3']
        by_cases c4 : best = -1
        · rw [if_pos c4, if_pos c4]
          exact ih _ _ _ (by omega) (Or.inr ⟨p, hp8, rfl, rfl⟩)
        · rw [if_neg c4, if_neg c4]
          rcases hb with hb | ⟨b, hb1, hb2, hb3⟩
          · exact absurd hb c4
          · rw [hb2, h.worE rule i hb1 hr, ← hb3]
            by_cases c5 : age σ rule i p ≤ great
            · rw [if_pos c5, if_pos c5]; exact ih _ _ _ (by omega) (Or.inr ⟨b, hb1, rfl, hb3⟩)
            · rw [if_neg c5, if_neg c5]; exact ih _ _ _ (by omega) (Or.inr ⟨p, hp8, rfl, rfl⟩)
theorem rel.vbE (h : rel σ z) (rule : Int) (i : Nat) (hr : rule = 0 ∨ rule = 1 ∨ rule = 2) : vbm z rule i (-1) 0 8 = vb σ rule i (-1) 0 0 8 := vb_q h rule i hr 8 0 (-1) 0 rfl (Or.inl rfl)
/-- what a victim is -/
theorem vb_is (σ : SG) (rule : Int) (i : Nat) : ∀ (d p : Nat) (best great : Int), p + d = 8 → ((best = -1 ∧ ∀ q : Nat, q < p → rg 8 (σ.1 4) q = -1 ∨ rg 8 (σ.1 6) q ≠ 0) ∨ ∃ b : Nat, b < p ∧ best = b ∧ great = age σ rule i b ∧ rg 8 (σ.1 4) b ≠ -1 ∧ rg 8 (σ.1 6) b = 0 ∧ ∀ q : Nat, q < p → rg 8 (σ.1 4) q = -1 ∨ rg 8 (σ.1 6) q ≠ 0 ∨ age σ rule i q ≤ great) →
    (vb σ rule i best great p d = -1 ∧ ∀ q : Nat, q < 8 → rg 8 (σ.1 4) q = -1 ∨ rg 8 (σ.1 6) q ≠ 0) ∨ ∃ b : Nat, b < 8 ∧ vb σ rule i best great p d = b ∧ rg 8 (σ.1 4) b ≠ -1 ∧ rg 8 (σ.1 6) b = 0 ∧ ∀ q : Nat, q < 8 → rg 8 (σ.1 4) q = -1 ∨ rg 8 (σ.1 6) q ≠ 0 ∨ age σ rule i q ≤ age σ rule i b := by
  intro d
  induction d with
  | zero =>
    intro p best great hp h
    have hp : p = 8 := by omega
    subst hp
    rcases h with ⟨h1, h2⟩ | ⟨b, h1, h2, h3, h4, h5, h6⟩
    · exact Or.inl ⟨h1, h2⟩
    · exact Or.inr ⟨b, h1, h2, h4, h5, h3 ▸ h6⟩
  | succ d ih =>
    intro p best great hp h
    have low : ∀ q : Nat, q < p + 1 → q < p ∨ q = p := fun q hq => by omega
    unfold vb
    by_cases c1 : rg 8 (σ.1 4) p = -1
    · rw [if_pos c1]
      refine ih _ _ _ (by omega) ?_
      rcases h with ⟨h1, h2⟩ | ⟨b, h1, h2, h3, h4, h5, h6⟩
      · exact Or.inl ⟨h1, fun q hq => (low q hq).elim (h2 q) (fun e => Or.inl (e ▸ c1))⟩
      · exact Or.inr ⟨b, by omega, h2, h3, h4, h5, fun q hq => (low q hq).elim (h6 q) (fun e => Or.inl (e ▸ c1))⟩
    · rw [if_neg c1]
      by_cases c2 : rg 8 (σ.1 6) p ≠ 0
      · rw [if_pos c2]
        refine ih _ _ _ (by omega) ?_
        rcases h with ⟨h1, h2⟩ | ⟨b, h1, h2, h3, h4, h5, h6⟩
        · exact Or.inl ⟨h1, fun q hq => (low q hq).elim (h2 q) (fun e => Or.inr (e ▸ c2))⟩
        · exact Or.inr ⟨b, by omega, h2, h3, h4, h5, fun q hq => (low q hq).elim (h6 q) (fun e => Or.inr (Or.inl (e ▸ c2)))⟩
      · rw [if_neg c2]
        have c2' : rg 8 (σ.1 6) p = 0 := Decidable.not_not.mp c2
        by_cases c3 : best = -1
        · rw [if_pos c3]
          refine ih _ _ _ (by omega) (Or.inr ⟨p, by omega, rfl, rfl, c1, c2', ?_⟩)
          rcases h with ⟨h1, h2⟩ | ⟨b, h1, h2, h3, h4, h5, h6⟩
          · intro q hq
            rcases low q hq with e | e
            · rcases h2 q e with e2 | e2
              · exact Or.inl e2
              · exact Or.inr (Or.inl e2)
            · subst e; exact Or.inr (Or.inr (Int.le_refl _))
          · omega
        · rw [if_neg c3]
          rcases h with ⟨h1, h2⟩ | ⟨b, h1, h2, h3, h4, h5, h6⟩
          · exact absurd h1 c3
          · by_cases c4 : age σ rule i p ≤ great
            · rw [if_pos c4]
              exact ih _ _ _ (by omega) (Or.inr ⟨b, by omega, h2, h3, h4, h5, fun q hq => (low q hq).elim (h6 q) (fun e => by subst e; exact Or.inr (Or.inr c4))⟩)
            · rw [if_neg c4]
              refine ih _ _ _ (by omega) (Or.inr ⟨p, by omega, rfl, rfl, c1, c2', fun q hq => ?_⟩)
              rcases low q hq with e | e
              · rcases h6 q e with e2 | e2 | e2
                · exact Or.inl e2
                · exact Or.inr (Or.inl e2)
                · exact Or.inr (Or.inr (by omega))
              · subst e; exact Or.inr (Or.inr (Int.le_refl _))
/-- n frames with different pages want weight n of any weight that is 1 on these -/
theorem pig (w : Nat → Int) (hw : ∀ p, p < 8 → 0 ≤ w p) : ∀ (n : Nat) (w : Nat → Int) (t : Nat → Nat), (∀ p, p < 8 → 0 ≤ w p) → (∀ f, f < n → t f < 8 ∧ 1 ≤ w (t f)) → (∀ f e, f < n → e < n → t f = t e → f = e) → (n : Int) ≤ sm8 w := by
  intro n
  induction n with
  | zero =>
    intro w t h0 h1 h2
    have b := sm8_at h0 (p := 0) (by decide)
    have b2 := h0 0 (by decide)
    omega
  | succ n ih =>
    intro w t h0 h1 h2
    have q := h1 n (by omega)
    have e := sm8_fu w q.1 0
    have i := ih (fu w (t n) 0) t (fun p hp => by
      unfold fu; split
      · exact Int.le_refl 0
      · exact h0 p hp) (fun f hf => ⟨(h1 f (by omega)).1, by
      have ne : t f ≠ t n := fun e2 => by have := h2 f n (by omega) (by omega) e2; omega
      rw [fu_n _ _ ne]
      exact (h1 f (by omega)).2⟩) (fun f e3 hf he => h2 f e3 (by omega) (by omega))
    omega
/-- all frames full: there is a victim -/
theorem lef_none {g : Nat → Int} : ∀ (d i : Nat), lef g i d = -1 ↔ ∀ j, i ≤ j → j < i + d → fo g (j : Nat) 0 8 ≠ -1 := by
  intro d
  induction d with
  | zero => intro i; exact ⟨fun _ j h1 h2 => by omega, fun _ => rfl⟩
  | succ d ih =>
    intro i
    unfold lef
    by_cases h : fo g i 0 8 = -1
    · rw [if_pos h]
      exact ⟨fun e => by omega, fun e => absurd h (e i (Nat.le_refl _) (by omega))⟩
    · rw [if_neg h, ih]
      constructor
      · intro e j h1 h2
        by_cases hj : j = i
        · subst hj; exact h
        · exact e j (by omega) (by omega)
      · intro e j h1 h2
        exact e j (by omega) (by omega)
/-- as many pages are pinned as there are frames, less 1, at most; more than these are in frames: one of them isn't pinned -/
theorem free_page {n : Int} {g pn : Nat → Int} (hF : qF n g z) (hpn : ∀ p, p < 8 → pn p = 0 ∨ pn p = 1) (h : sm8 pn < sm8 (fun p => if g p = -1 then 0 else 1)) : ∃ p, p < 8 ∧ g p ≠ -1 ∧ pn p = 0 := by
  apply Classical.byContradiction
  intro hn
  have e : ∀ p, p < 8 → (if g p = -1 then (0 : Int) else 1) ≤ pn p := fun p hp => by
    split
    · rcases hpn p hp with e | e <;> omega
    · rename_i c
      rcases hpn p hp with e | e
      · exact absurd ⟨p, hp, c, e⟩ hn
      · omega
  have b0 := e 0 (by decide)
  have b1 := e 1 (by decide)
  have b2 := e 2 (by decide)
  have b3 := e 3 (by decide)
  have b4 := e 4 (by decide)
  have b5 := e 5 (by decide)
  have b6 := e 6 (by decide)
  have b7 := e 7 (by decide)
  unfold sm8 at h
  dsimp only at h
  omega
theorem full_page (h : rel σ z) (hl : lef (σ.1 4) 0 (σ.2 2).toNat = -1) : (σ.2 2) ≤ sm8 (fun p => if σ.1 4 p = -1 then 0 else 1) := by
  obtain ⟨w1, w2, w3, w4, w5⟩ := h.wf
  rw [lef_none] at hl
  have key : ∀ f : Nat, f < (σ.2 2).toNat → 0 ≤ z (5 + f) ∧ z (5 + f) < 8 := fun f hf => by
    have e1 := hl f (by omega) (by omega)
    have e2 := h.F.2.1 f (by omega)
    rw [Ne, emp_q h.F (by omega)] at e1
    omega
  have i := pig (fun _ => 0) (fun _ _ => Int.le_refl 0) (σ.2 2).toNat (fun p => if σ.1 4 p = -1 then 0 else 1) (fun f => (z (5 + f)).toNat) (fun p _ => by split <;> omega) (fun f hf => by
    have k := key f hf
    refine ⟨by omega, ?_⟩
    have e := (h.F.2.2 f (z (5 + f)).toNat (by omega) (by omega)).mp (by omega)
    show 1 ≤ (if σ.1 4 (z (5 + f)).toNat = -1 then (0 : Int) else 1)
    rw [if_neg (by omega)]
    exact Int.le_refl 1) (fun f e hf he hfe => by
    have k := key f hf
    have k2 := key e he
    have e1 := (h.F.2.2 f (z (5 + f)).toNat (by omega) (by omega)).mp (by omega)
    have e2 := (h.F.2.2 e (z (5 + e)).toNat (by omega) (by omega)).mp (by omega)
    have e3 : (z (5 + f)).toNat = (z (5 + e)).toNat := hfe
    rw [e3] at e1
    omega)
  omega
theorem rel.vicG (h : rel σ z) (rule : Int) (i : Nat) (hl : sm8 (σ.1 6) < sm8 (fun p => if σ.1 4 p = -1 then 0 else 1)) : ∃ b : Nat, b < 8 ∧ vb σ rule i (-1) 0 0 8 = b ∧ σ.1 4 b ≠ -1 ∧ σ.1 6 b = 0 ∧ ∀ q : Nat, q < 8 → σ.1 4 q = -1 ∨ σ.1 6 q ≠ 0 ∨ age σ rule i q ≤ age σ rule i b := by
  obtain ⟨p, hp, h1, h2⟩ := free_page h.F (fun p hp => h.pin.r hp) hl
  rcases vb_is σ rule i 8 0 (-1) 0 rfl (Or.inl ⟨rfl, fun q hq => by omega⟩) with ⟨e1, e2⟩ | ⟨b, e1, e2, e3, e4, e5⟩
  · exfalso
    rcases e2 p hp with e | e
    · rw [h.rg4 hp] at e; exact h1 e
    · rw [h.rg4 hp] at e; exact e h2
  · refine ⟨b, e1, e2, by rw [h.rg4 e1] at e3; exact e3, by rw [h.rg4 e1] at e4; exact e4, fun q hq => ?_⟩
    have := e5 q hq
    rw [h.rg4 hq, h.rg4 hq] at this
    exact this
theorem rel.vicE (h : rel σ z) (rule : Int) (i : Nat) (hl : lef (σ.1 4) 0 (σ.2 2).toNat = -1) : ∃ b : Nat, b < 8 ∧ vb σ rule i (-1) 0 0 8 = b ∧ σ.1 4 b ≠ -1 ∧ σ.1 6 b = 0 ∧ ∀ q : Nat, q < 8 → σ.1 4 q = -1 ∨ σ.1 6 q ≠ 0 ∨ age σ rule i q ≤ age σ rule i b := by
  have f := full_page h hl
  have k : sm8 (σ.1 6) ≤ σ.2 2 - 1 := h.K
  exact h.vicG rule i (by omega)
end RE
