/-! THE LAW'S done: one ask done on the law's rows -/
def eqL (X Y : LG) : Prop := (∀ i, i < 6 → X.1 i = Y.1 i) ∧ (∀ i, i < 48 → X.2.1 i = Y.2.1 i) ∧ (∀ i, i < 3 → X.2.2 i = Y.2.2 i)
theorem eqL.put {f : AH} {a : Nat} {X Y : LG} (h : eqL X Y) : putL f a X = putL f a Y := putL_ext h.1 h.2.1 h.2.2
def tlX (X : LG) (p A : Nat) (w : Int) : LG := (X.1, (fu (fu X.2.1 p (if w = 1 then 1 else X.2.1 p)) (32 + p) A, fu X.2.2 1 ((A : Int) + 1)))
def rdX (X : LG) (fr p A : Nat) : LG := (fu X.1 fr p, (fu (fu X.2.1 (16 + p) (X.2.1 (16 + p) + 1)) (40 + p) A, X.2.2))
def htX (X : LG) : LG := (X.1, (X.2.1, fu X.2.2 2 (X.2.2 2 + 1)))
def evX (X : LG) (b : Nat) : LG := (X.1, (fu (fu X.2.1 (24 + b) (X.2.1 (24 + b) + X.2.1 b)) b 0, X.2.2))
/-- the first empty frame of the law's row -/
def efl (F : Nat → Int) (r : Int) : Nat → Int
  | 0 => r
  | d + 1 => efl F (if F d < 0 then (d : Int) else r) d
theorem lef_snoc (g : Nat → Int) : ∀ (d i : Nat), lef g i (d + 1) = if lef g i d = -1 then (if fo g ((i + d : Nat) : Int) 0 8 = -1 then ((i + d : Nat) : Int) else -1) else lef g i d := by
  intro d
  induction d with
  | zero => intro i; simp [lef]
  | succ d ih =>
    intro i
    rw [lef]
    by_cases c : fo g i 0 8 = -1
    · rw [if_pos c]
      have e : lef g i (d + 1) = i := by rw [lef, if_pos c]
      rw [e, if_neg (by omega)]
    · rw [if_neg c, ih (i + 1)]
      have e : lef g i (d + 1) = lef g (i + 1) d := by rw [lef, if_neg c]
      rw [e, show i + 1 + d = i + (d + 1) by omega]
theorem efl_q (σ : SG) : ∀ (d : Nat) (r : Int), efl (lF σ) r d = if lef (σ.1 4) 0 d = -1 then r else lef (σ.1 4) 0 d := by
  intro d
  induction d with
  | zero => intro r; rfl
  | succ d ih =>
    intro r
    unfold efl
    rw [ih, lef_snoc, Nat.zero_add]
    have e := fo_8 (σ.1 4) d
    by_cases c : lef (σ.1 4) 0 d = -1
    · rw [if_pos c, if_pos c]
      by_cases c2 : fo (σ.1 4) d 0 8 = -1
      · have c3 : lF σ d < 0 := by show fo (σ.1 4) d 0 8 < 0; omega
        rw [if_pos c3, if_pos c2, if_neg (by omega)]
      · have c3 : ¬ lF σ d < 0 := by show ¬ fo (σ.1 4) d 0 8 < 0; omega
        rw [if_neg c3, if_neg c2, if_pos rfl]
    · rw [if_neg c, if_neg c, if_neg c]
/-- a page put into an empty frame -/
theorem fo_put {g : Nat → Int} {n : Int} (h : ks_F n g) {p fr : Nat} (hp : p < 8) (hm : g p = -1) (hfe : fo g fr 0 8 = -1) (k : Nat) : fo (fu g p fr) k 0 8 = if k = fr then (p : Int) else fo g k 0 8 := by
  rw [emp_q] at hfe
  have hF : ks_F (max n (fr + 1)) (fu g p fr) := by
    refine ⟨fun q hq => ?_, fun q r hq hr e hn => ?_⟩
    · have := h.1 q hq
      unfold fu; split <;> omega
    · unfold fu at e hn
      by_cases c1 : q = p
      · rw [if_pos c1] at e
        by_cases c2 : r = p
        · rw [c1, c2]
        · rw [if_neg c2] at e; exact absurd e.symm (hfe r hr)
      · rw [if_neg c1] at e hn
        by_cases c2 : r = p
        · rw [if_pos c2] at e; exact absurd e (hfe q hq)
        · rw [if_neg c2] at e; exact h.2 q r hq hr e hn
  by_cases c : k = fr
  · subst c
    rw [if_pos rfl, fo_is hF hp, fu_s]
  · rw [if_neg c]
    have e1 := fo_8 g k
    by_cases c2 : fo g k 0 8 = -1
    · rw [c2]
      rw [emp_q] at c2 ⊢
      intro q hq
      unfold fu; split
      · omega
      · exact c2 q hq
    · obtain ⟨q, hq⟩ : ∃ q : Nat, fo g k 0 8 = (q : Int) := ⟨(fo g k 0 8).toNat, by omega⟩
      have hq8 : q < 8 := by omega
      rw [hq, fo_is hF hq8]
      have e2 := (fo_is h hq8).mp hq
      have hne : q ≠ p := fun x => by subst x; omega
      rw [fu_n _ _ hne]; exact e2
theorem fo_out {g : Nat → Int} {n : Int} (h : ks_F n g) {b f : Nat} (hb : b < 8) (hf : g b = (f : Int)) (k : Nat) : fo (fu g b (-1)) k 0 8 = if k = f then -1 else fo g k 0 8 := by
  have hF : ks_F n (fu g b (-1)) := by
    refine ⟨fun q hq => ?_, fun q r hq hr e hn => ?_⟩
    · have := h.1 q hq
      have := h.1 b hb
      unfold fu; split <;> omega
    · unfold fu at e hn
      by_cases c1 : q = b
      · rw [if_pos c1] at hn; exact absurd rfl hn
      · rw [if_neg c1] at e hn
        by_cases c2 : r = b
        · rw [if_pos c2] at e; exact absurd e hn
        · rw [if_neg c2] at e; exact h.2 q r hq hr e hn
  by_cases c : k = f
  · subst c
    rw [if_pos rfl, emp_q]
    intro q hq
    unfold fu; split
    · omega
    · rename_i c2
      intro x
      exact c2 (h.2 q b hq hb (by omega) (by omega))
  · rw [if_neg c]
    have e1 := fo_8 g k
    by_cases c2 : fo g k 0 8 = -1
    · rw [c2]
      rw [emp_q] at c2 ⊢
      intro q hq
      unfold fu; split
      · omega
      · exact c2 q hq
    · obtain ⟨q, hq⟩ : ∃ q : Nat, fo g k 0 8 = (q : Int) := ⟨(fo g k 0 8).toNat, by omega⟩
      have hq8 : q < 8 := by omega
      rw [hq, fo_is hF hq8]
      have e2 := (fo_is h hq8).mp hq
      have hne : q ≠ b := fun x => by subst x; omega
      rw [fu_n _ _ hne]; exact e2
section LD
variable {s : SG} {X : LG}
theorem tl_eq {p A : Nat} (hp : p < 8) (hA : A < 80) (hd : s.2 1 = (A : Int)) (why v : Int) (hF : ∀ i, i < 6 → X.1 i = lF s i) (hR : ∀ i, i < 48 → X.2.1 i = lR s i) (h0 : X.2.2 0 = s.2 2) (h2 : X.2.2 2 = co (s.1 2) 0 0 A + if why = 0 then 1 else 0) : eqL (tlX X p A (s.1 1 A)) (lw (mkd s p why v)) := by
  have m1 := fun k => mkd_1 s (p := p) (a := A) why v hp hA hd k
  refine ⟨fun i hi => ?_, lR_is (fun q hq => ?_) (fun q hq => ?_) (fun q hq => ?_) (fun q hq => ?_) (fun q hq => ?_) (fun q hq => ?_), lT_is ?_ ?_ ?_⟩
  · show X.1 i = fo ((mkd s p why v).1 4) i 0 8
    rw [mkd_o _ _ _ _ (by decide) (by decide) (by decide) (by decide)]
    exact hF i hi
  · show fu (fu X.2.1 p (if s.1 1 A = 1 then 1 else X.2.1 p)) (32 + p) A q = _
    rw [m1 5, fu_n _ _ (by omega)]
    simp only [Nat.reduceEqDiff, ↓reduceIte]
    rw [hR p (by omega), lR_5 s hp]
    unfold fu
    by_cases c : q = p
    · subst c
      rw [if_pos rfl]
      by_cases c2 : s.1 1 A = 1
      · rw [if_pos c2, if_pos c2, if_pos rfl]
      · rw [if_neg c2, if_neg c2]
    · rw [if_neg c, hR q (by omega), lR_5 s hq]
      by_cases c2 : s.1 1 A = 1
      · rw [if_pos c2, if_neg c]
      · rw [if_neg c2]
  · show fu (fu X.2.1 p (if s.1 1 A = 1 then 1 else X.2.1 p)) (32 + p) A (8 + q) = _
    rw [m1 6, fu_n _ _ (by omega), fu_n _ _ (by omega), hR _ (by omega), lR_6 s hq]
    rfl
  · show fu (fu X.2.1 p (if s.1 1 A = 1 then 1 else X.2.1 p)) (32 + p) A (16 + q) = _
    rw [m1 9, fu_n _ _ (by omega), fu_n _ _ (by omega), hR _ (by omega), lR_9 s hq]
    rfl
  · show fu (fu X.2.1 p (if s.1 1 A = 1 then 1 else X.2.1 p)) (32 + p) A (24 + q) = _
    rw [m1 10, fu_n _ _ (by omega), fu_n _ _ (by omega), hR _ (by omega), lR_10 s hq]
    rfl
  · show fu (fu X.2.1 p (if s.1 1 A = 1 then 1 else X.2.1 p)) (32 + p) A (32 + q) = _
    rw [m1 7]
    simp only [↓reduceIte]
    unfold fu
    by_cases c : q = p
    · subst c; rw [if_pos rfl, if_pos rfl]
    · rw [if_neg (by omega), if_neg (by omega), if_neg c, hR _ (by omega), lR_7 s hq]
  · show fu (fu X.2.1 p (if s.1 1 A = 1 then 1 else X.2.1 p)) (32 + p) A (40 + q) = _
    rw [m1 8, fu_n _ _ (by omega), fu_n _ _ (by omega), hR _ (by omega), lR_8 s hq]
    rfl
  · show fu X.2.2 1 ((A : Int) + 1) 0 = _
    rw [fu_n _ _ (by decide), mkd_2, if_neg (by decide)]; exact h0
  · show fu X.2.2 1 ((A : Int) + 1) 1 = _
    rw [fu_s, mkd_2, if_pos rfl, hd, wrp_id (by omega) (by omega)]
  · show fu X.2.2 1 ((A : Int) + 1) 2 = _
    rw [fu_n _ _ (by decide), h2, mkd_2, if_pos rfl, hd, wrp_id (by omega) (by omega), m1 2, show ((A : Int) + 1).toNat = A + 1 by omega, co_snoc, Nat.zero_add]
    simp only [Nat.reduceEqDiff, ↓reduceIte]
    rw [fu_s, co_ext (g' := s.1 2) 0 A 0 (fun j _ hj => fu_n _ _ (by omega))]
theorem rd_eq (hK : ks_F (s.2 2) (s.1 4)) {p A fr : Nat} (hp : p < 8) (hd : s.2 1 = (A : Int)) (h9 : 0 ≤ s.1 9 p ∧ s.1 9 p ≤ 1000) (hm : s.1 4 p = -1) (hfe : fo (s.1 4) fr 0 8 = -1) (hF : ∀ i, i < 6 → i ≠ fr → X.1 i = lF s i) (hR : ∀ i, i < 48 → X.2.1 i = lR s i) : (∀ i, i < 6 → (rdX X fr p A).1 i = lF (rdi s fr p) i) ∧ (∀ i, i < 48 → (rdX X fr p A).2.1 i = lR (rdi s fr p) i) := by
  have r1 := fun k => rdi_1 s fr hp hd h9.1 h9.2 k
  refine ⟨fun i hi => ?_, lR_is (fun q hq => ?_) (fun q hq => ?_) (fun q hq => ?_) (fun q hq => ?_) (fun q hq => ?_) (fun q hq => ?_)⟩
  · show fu X.1 fr p i = fo ((rdi s fr p).1 4) i 0 8
    rw [rdi_4 _ _ hp, fo_put hK hp hm hfe]
    unfold fu
    by_cases c : i = fr
    · rw [if_pos c, if_pos c]
    · rw [if_neg c, if_neg c]; exact hF i hi c
  · show fu (fu X.2.1 (16 + p) (X.2.1 (16 + p) + 1)) (40 + p) A q = _
    rw [r1 5, fu_n _ _ (by omega), fu_n _ _ (by omega), hR _ (by omega), lR_5 s hq]
    rfl
  · show fu (fu X.2.1 (16 + p) (X.2.1 (16 + p) + 1)) (40 + p) A (8 + q) = _
    rw [r1 6, fu_n _ _ (by omega), fu_n _ _ (by omega), hR _ (by omega), lR_6 s hq]
    rfl
  · show fu (fu X.2.1 (16 + p) (X.2.1 (16 + p) + 1)) (40 + p) A (16 + q) = _
    rw [r1 9, fu_n _ _ (by omega)]
    simp only [↓reduceIte]
    rw [hR (16 + p) (by omega), lR_9 s hp]
    unfold fu
    by_cases c : q = p
    · subst c; rw [if_pos rfl, if_pos rfl]
    · rw [if_neg (by omega), if_neg c, hR _ (by omega), lR_9 s hq]
  · show fu (fu X.2.1 (16 + p) (X.2.1 (16 + p) + 1)) (40 + p) A (24 + q) = _
    rw [r1 10, fu_n _ _ (by omega), fu_n _ _ (by omega), hR _ (by omega), lR_10 s hq]
    rfl
  · show fu (fu X.2.1 (16 + p) (X.2.1 (16 + p) + 1)) (40 + p) A (32 + q) = _
    rw [r1 7, fu_n _ _ (by omega), fu_n _ _ (by omega), hR _ (by omega), lR_7 s hq]
    rfl
  · show fu (fu X.2.1 (16 + p) (X.2.1 (16 + p) + 1)) (40 + p) A (40 + q) = _
    rw [r1 8]
    simp only [Nat.reduceEqDiff, ↓reduceIte]
    unfold fu
    by_cases c : q = p
    · subst c; rw [if_pos rfl, if_pos rfl]
    · rw [if_neg (by omega), if_neg (by omega), if_neg c, hR _ (by omega), lR_8 s hq]
theorem ev_eq (h : ks s) {b : Nat} (hb : b < 8) (hR : ∀ i, i < 48 → X.2.1 i = lR s i) : ∀ i, i < 48 → (evX X b).2.1 i = lR (tko s b) i := by
  have h01 := h.ch b hb
  have hn := h.N b hb
  obtain ⟨w1, w2, w3, w4, w5⟩ := h.wf
  refine lR_is (fun q hq => ?_) (fun q hq => ?_) (fun q hq => ?_) (fun q hq => ?_) (fun q hq => ?_) (fun q hq => ?_)
  · show fu (fu X.2.1 (24 + b) (X.2.1 (24 + b) + X.2.1 b)) b 0 q = _
    rw [tko_5 s hb h01]
    unfold fu
    by_cases c : q = b
    · rw [if_pos c, if_pos c]
    · rw [if_neg c, if_neg c, if_neg (by omega), hR _ (by omega), lR_5 s hq]
  · show fu (fu X.2.1 (24 + b) (X.2.1 (24 + b) + X.2.1 b)) b 0 (8 + q) = _
    rw [tko_o _ _ (by decide) (by decide) (by decide), fu_n _ _ (by omega), fu_n _ _ (by omega), hR _ (by omega), lR_6 s hq]
  · show fu (fu X.2.1 (24 + b) (X.2.1 (24 + b) + X.2.1 b)) b 0 (16 + q) = _
    rw [tko_o _ _ (by decide) (by decide) (by decide), fu_n _ _ (by omega), fu_n _ _ (by omega), hR _ (by omega), lR_9 s hq]
  · show fu (fu X.2.1 (24 + b) (X.2.1 (24 + b) + X.2.1 b)) b 0 (24 + q) = _
    rw [tko_10 s hb h01 (by omega) (by omega), fu_n _ _ (by omega), hR (24 + b) (by omega), lR_10 s hb, hR b (by omega), lR_5 s hb]
    unfold fu
    by_cases c : q = b
    · subst c; rw [if_pos rfl, if_pos rfl]
    · rw [if_neg (by omega), if_neg c, hR _ (by omega), lR_10 s hq]
  · show fu (fu X.2.1 (24 + b) (X.2.1 (24 + b) + X.2.1 b)) b 0 (32 + q) = _
    rw [tko_o _ _ (by decide) (by decide) (by decide), fu_n _ _ (by omega), fu_n _ _ (by omega), hR _ (by omega), lR_7 s hq]
  · show fu (fu X.2.1 (24 + b) (X.2.1 (24 + b) + X.2.1 b)) b 0 (40 + q) = _
    rw [tko_o _ _ (by decide) (by decide) (by decide), fu_n _ _ (by omega), fu_n _ _ (by omega), hR _ (by omega), lR_8 s hq]
end LD
