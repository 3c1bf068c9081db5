/-! BITS OF SETS OF PAGES; sums of eight; first places -/
def bI (v p : Nat) : Int := if v.testBit p = true then 1 else 0
def sadd (v p : Nat) : Nat := v ||| 2 ^ p
def sdel (v p : Nat) : Nat := v ^^^ (v &&& 2 ^ p)
def sm8 (g : Nat → Int) : Int := g 0 + g 1 + g 2 + g 3 + g 4 + g 5 + g 6 + g 7
def all8 (c : Nat → Nat → Bool) : Bool := (List.range 256).all fun v => (List.range 8).all fun p => c v p
theorem all8_at {c : Nat → Nat → Bool} (h : all8 c = true) {v p : Nat} (hv : v < 256) (hp : p < 8) : c v p = true :=
  List.all_eq_true.mp (List.all_eq_true.mp h v (List.mem_range.mpr hv)) p (List.mem_range.mpr hp)
theorem bI_01 (v p : Nat) : bI v p = 0 ∨ bI v p = 1 := by
  unfold bI; split
  · exact Or.inr rfl
  · exact Or.inl rfl
theorem bI_r (v p : Nat) : 0 ≤ bI v p ∧ bI v p ≤ 1 := by
  rcases bI_01 v p with h | h <;> omega
theorem bI_add (v p q : Nat) : bI (sadd v p) q = if q = p then 1 else bI v q := by
  unfold bI sadd
  rw [Nat.testBit_or, Nat.testBit_two_pow]
  by_cases h : q = p
  · subst h; simp
  · have h' : ¬ p = q := fun e => h e.symm
    simp [h, h']
theorem bI_del (v p q : Nat) : bI (sdel v p) q = if q = p then 0 else bI v q := by
  unfold bI sdel
  rw [Nat.testBit_xor, Nat.testBit_and, Nat.testBit_two_pow]
  by_cases h : q = p
  · subst h; simp
  · have h' : ¬ p = q := fun e => h e.symm
    simp [h, h']
theorem bI_xor (v p q : Nat) : bI (v ^^^ 2 ^ p) q = if q = p then 1 - bI v q else bI v q := by
  unfold bI
  rw [Nat.testBit_xor, Nat.testBit_two_pow]
  by_cases h : q = p
  · subst h; cases v.testBit q <;> simp
  · have h' : ¬ p = q := fun e => h e.symm
    simp [h, h']
theorem pow_lt8 {p : Nat} (hp : p < 8) : 2 ^ p < 2 ^ 8 := Nat.pow_lt_pow_right (by decide) hp
theorem sadd_lt {v p : Nat} (hv : v < 256) (hp : p < 8) : sadd v p < 256 := Nat.or_lt_two_pow (n := 8) hv (pow_lt8 hp)
theorem sxor_lt {v p : Nat} (hv : v < 256) (hp : p < 8) : v ^^^ 2 ^ p < 256 := Nat.xor_lt_two_pow (n := 8) hv (pow_lt8 hp)
theorem sdel_lt {v p : Nat} (hv : v < 256) (hp : p < 8) : sdel v p < 256 := Nat.xor_lt_two_pow (n := 8) hv (Nat.and_lt_two_pow _ (pow_lt8 hp))
theorem bI_big {v p : Nat} (hv : v < 256) (hp : 8 ≤ p) : bI v p = 0 := by
  unfold bI
  rw [Nat.testBit_lt_two_pow (Nat.lt_of_lt_of_le hv (Nat.pow_le_pow_right (n := 2) (by decide) hp))]
  rfl
theorem bI_ext {v w : Nat} (hv : v < 256) (hw : w < 256) (h : ∀ p, p < 8 → bI v p = bI w p) : v = w := by
  apply Nat.eq_of_testBit_eq
  intro i
  have e : bI v i = bI w i := by
    by_cases hi : i < 8
    · exact h i hi
    · rw [bI_big hv (by omega), bI_big hw (by omega)]
  unfold bI at e
  cases hA : v.testBit i <;> cases hB : w.testBit i <;> simp [hA, hB] at e ⊢
theorem sm_8 {g : Nat → Int} (h : ∀ p, p < 8 → 0 ≤ g p ∧ g p ≤ 1000000) : sm 0 g 0 8 = sm8 g := by
  have b0 := h 0 (by decide)
  have b1 := h 1 (by decide)
  have b2 := h 2 (by decide)
  have b3 := h 3 (by decide)
  have b4 := h 4 (by decide)
  have b5 := h 5 (by decide)
  have b6 := h 6 (by decide)
  have b7 := h 7 (by decide)
  unfold sm8
  simp (disch := omega) only [sm, wrp_id, Nat.zero_add, Nat.reduceAdd, Int.zero_add]
theorem sm8_r {g : Nat → Int} {n : Int} (h : ∀ p, p < 8 → 0 ≤ g p ∧ g p ≤ n) : 0 ≤ sm8 g ∧ sm8 g ≤ 8 * n := by
  have b0 := h 0 (by decide)
  have b1 := h 1 (by decide)
  have b2 := h 2 (by decide)
  have b3 := h 3 (by decide)
  have b4 := h 4 (by decide)
  have b5 := h 5 (by decide)
  have b6 := h 6 (by decide)
  have b7 := h 7 (by decide)
  unfold sm8
  omega
theorem sm8_ext {g g' : Nat → Int} (h : ∀ p, p < 8 → g p = g' p) : sm8 g = sm8 g' := by
  unfold sm8
  rw [h 0 (by decide), h 1 (by decide), h 2 (by decide), h 3 (by decide), h 4 (by decide), h 5 (by decide), h 6 (by decide), h 7 (by decide)]
theorem sm8_fu (g : Nat → Int) {p : Nat} (hp : p < 8) (v : Int) : sm8 (fu g p v) = sm8 g - g p + v := by
  unfold sm8 fu
  match p, hp with
  | 0, _ => simp; try omega
  | 1, _ => simp; try omega
  | 2, _ => simp; try omega
  | 3, _ => simp; try omega
  | 4, _ => simp; try omega
  | 5, _ => simp; try omega
  | 6, _ => simp; try omega
  | 7, _ => simp; try omega
  | n + 8, h => omega
theorem sm8_at {g : Nat → Int} (h : ∀ p, p < 8 → 0 ≤ g p) {p : Nat} (hp : p < 8) : g p ≤ sm8 g := by
  have b0 := h 0 (by decide)
  have b1 := h 1 (by decide)
  have b2 := h 2 (by decide)
  have b3 := h 3 (by decide)
  have b4 := h 4 (by decide)
  have b5 := h 5 (by decide)
  have b6 := h 6 (by decide)
  have b7 := h 7 (by decide)
  unfold sm8
  match p, hp with
  | 0, _ => omega
  | 1, _ => omega
  | 2, _ => omega
  | 3, _ => omega
  | 4, _ => omega
  | 5, _ => omega
  | 6, _ => omega
  | 7, _ => omega
  | n + 8, h => omega
theorem co_8 (g : Nat → Int) (v : Int) : 8 - co g v 0 8 = sm8 (fun p => if g p = v then 0 else 1) := by
  unfold sm8
  simp only [co, Nat.zero_add, Nat.reduceAdd]
  repeat' split
  all_goals omega
/-- first places -/
theorem fo_none {g : Nat → Int} {v : Int} : ∀ (d i : Nat), fo g v i d = -1 ↔ ∀ j, i ≤ j → j < i + d → g j ≠ v := by
  intro d
  induction d with
  | zero => intro i; exact ⟨fun _ j h1 h2 => by omega, fun _ => rfl⟩
  | succ d ih =>
    intro i
    unfold fo
    by_cases h : g i = v
    · rw [if_pos h]
      exact ⟨fun e => by omega, fun e => absurd h (e i (Nat.le_refl _) (by omega))⟩
    · rw [if_neg h, ih]
      constructor
      · intro e j h1 h2
        by_cases hj : j = i
        · subst hj; exact h
        · exact e j (by omega) (by omega)
      · intro e j h1 h2
        exact e j (by omega) (by omega)
theorem fo_some {g : Nat → Int} {v : Int} : ∀ (d i j : Nat), i ≤ j → j < i + d → g j = v → (∀ k, i ≤ k → k < j → g k ≠ v) → fo g v i d = j := by
  intro d
  induction d with
  | zero => intro i j h1 h2; omega
  | succ d ih =>
    intro i j h1 h2 h3 h4
    unfold fo
    by_cases h : g i = v
    · rw [if_pos h]
      by_cases hj : i = j
      · rw [hj]
      · exact absurd h (h4 i (Nat.le_refl _) (by omega))
    · rw [if_neg h]
      refine ih (i + 1) j ?_ (by omega) h3 (fun k h5 h6 => h4 k (by omega) h6)
      by_cases hj : i = j
      · subst hj; exact absurd h3 h
      · omega
theorem fo_snoc (g : Nat → Int) (v : Int) : ∀ (d i : Nat), fo g v i (d + 1) = if fo g v i d = -1 then (if g (i + d) = v then ((i + d : Nat) : Int) else -1) else fo g v i d := by
  intro d
  induction d with
  | zero => intro i; simp [fo]
  | succ d ih =>
    intro i
    rw [fo]
    by_cases h : g i = v
    · rw [if_pos h]
      have e : fo g v i (d + 1) = i := by rw [fo, if_pos h]
      rw [e, if_neg (by omega)]
    · rw [if_neg h, ih (i + 1)]
      have e : fo g v i (d + 1) = fo g v (i + 1) d := by rw [fo, if_neg h]
      rw [e, show i + 1 + d = i + (d + 1) by omega]
theorem fo_ext {g g' : Nat → Int} (v : Int) : ∀ (d i : Nat), (∀ j, i ≤ j → j < i + d → g j = g' j) → fo g v i d = fo g' v i d := by
  intro d
  induction d with
  | zero => intro i h; rfl
  | succ d ih =>
    intro i h
    unfold fo
    rw [h i (Nat.le_refl _) (by omega), ih (i + 1) (fun j h1 h2 => h j (by omega) (by omega))]
theorem co_ext {g g' : Nat → Int} (v : Int) : ∀ (d i : Nat), (∀ j, i ≤ j → j < i + d → g j = g' j) → co g v i d = co g' v i d := by
  intro d
  induction d with
  | zero => intro i h; rfl
  | succ d ih =>
    intro i h
    unfold co
    rw [h i (Nat.le_refl _) (by omega), ih (i + 1) (fun j h1 h2 => h j (by omega) (by omega))]
theorem rs_n {n p : Nat} (g : Nat → Int) (v : Int) (h : p < n) : rs n g (p : Int) v = fu g p v := by
  unfold rs
  rw [if_pos (by omega), Int.toNat_natCast]
theorem rg_n {n p : Nat} (g : Nat → Int) (h : p < n) : rg n g (p : Int) = g p := by
  unfold rg
  rw [if_pos (by omega), Int.toNat_natCast]
