/-! THE FEWEST READS: no choice of victims beats the latest next use -/
def ply (n : Int) (P : Nat → Int) (g : Nat → Nat) (i : Nat) : Nat → Nat → Int → Prop
  | 0, _, k => k = 0
  | d + 1, S, k => if bI S (g i) = 1 then ply n P g (i + 1) d S k else if sm8 (bI S) < n then ply n P g (i + 1) d (sadd S (g i)) (k - 1) else ∃ v, v < 8 ∧ bI S v = 1 ∧ P v = 0 ∧ ply n P g (i + 1) d (sadd (sdel S v) (g i)) (k - 1)
/-- two sets that differ by v here, b there -/
def sw (S S' v b : Nat) : Prop := S < 256 ∧ S' < 256 ∧ v < 8 ∧ b < 8 ∧ bI S v = 1 ∧ bI S b = 0 ∧ bI S' v = 0 ∧ bI S' b = 1 ∧ ∀ q, q ≠ v → q ≠ b → bI S q = bI S' q
/-- v is asked for no later than b -/
def ord (g : Nat → Nat) (i : Nat) : Nat → Nat → Nat → Prop
  | 0, _, _ => True
  | d + 1, v, b => g i = v ∨ (g i ≠ b ∧ ord g (i + 1) d v b)
theorem bI_ad (S v q p : Nat) : bI (sadd (sdel S v) q) p = if p = q then 1 else if p = v then 0 else bI S p := by rw [bI_add, bI_del]
theorem sm_ad {S v q : Nat} (hv : v < 8) (hq : q < 8) (h1 : bI S v = 1) (h2 : bI S q = 0) : sm8 (bI (sadd (sdel S v) q)) = sm8 (bI S) := by
  have e : bI (sadd (sdel S v) q) = fu (fu (bI S) v 0) q 1 := by
    funext p
    rw [bI_ad]
    rfl
  have hne : q ≠ v := fun x => by subst x; omega
  rw [e, sm8_fu _ hq, sm8_fu _ hv, fu_n _ _ hne]
  omega
theorem sm_a {S q : Nat} (hq : q < 8) (h2 : bI S q = 0) : sm8 (bI (sadd S q)) = sm8 (bI S) + 1 := by
  have e : bI (sadd S q) = fu (bI S) q 1 := by
    funext p
    rw [bI_add]
    rfl
  rw [e, sm8_fu _ hq]
  omega
theorem ad_lt {S v q : Nat} (hS : S < 256) (hv : v < 8) (hq : q < 8) : sadd (sdel S v) q < 256 := sadd_lt (sdel_lt hS hv) hq
section BE
variable {n : Int} {P : Nat → Int} {g : Nat → Nat}
theorem sw.ne {S S' v b : Nat} (h : sw S S' v b) : v ≠ b := fun x => by
  obtain ⟨h1, h2, h3, h4, h5, h6, h7, h8, h9⟩ := h
  subst x; omega
/-- S' without b and with v is S -/
theorem sw.back {S S' v b : Nat} (h : sw S S' v b) : sadd (sdel S' b) v = S := by
  have hne := h.ne
  obtain ⟨h1, h2, h3, h4, h5, h6, h7, h8, h9⟩ := h
  refine bI_ext (ad_lt h2 h4 h3) h1 fun p hp => ?_
  rw [bI_ad]
  by_cases c1 : p = v
  · subst c1; rw [if_pos rfl, h5]
  · rw [if_neg c1]
    by_cases c2 : p = b
    · subst c2; rw [if_pos rfl, h6]
    · rw [if_neg c2, h9 p c1 c2]
theorem sw.forth {S S' v b : Nat} (h : sw S S' v b) : sadd (sdel S v) b = S' := by
  have hne := h.ne
  obtain ⟨h1, h2, h3, h4, h5, h6, h7, h8, h9⟩ := h
  refine bI_ext (ad_lt h1 h3 h4) h2 fun p hp => ?_
  rw [bI_ad]
  by_cases c1 : p = b
  · subst c1; rw [if_pos rfl, h8]
  · rw [if_neg c1]
    by_cases c2 : p = v
    · subst c2; rw [if_pos rfl, h7]
    · rw [if_neg c2, h9 p c2 c1]
/-- both take q in for what they differ by: the same set -/
theorem sw.same {S S' v b q : Nat} (h : sw S S' v b) (hq : q < 8) : sadd (sdel S v) q = sadd (sdel S' b) q := by
  have hne := h.ne
  obtain ⟨h1, h2, h3, h4, h5, h6, h7, h8, h9⟩ := h
  refine bI_ext (ad_lt h1 h3 hq) (ad_lt h2 h4 hq) fun p hp => ?_
  rw [bI_ad, bI_ad]
  by_cases c0 : p = q
  · rw [if_pos c0, if_pos c0]
  · rw [if_neg c0, if_neg c0]
    by_cases c1 : p = v
    · subst c1; rw [if_pos rfl, if_neg hne, h7]
    · rw [if_neg c1]
      by_cases c2 : p = b
      · subst c2; rw [if_pos rfl, h6]
      · rw [if_neg c2, h9 p c1 c2]
/-- both take q in for w, which both have -/
theorem sw.go {S S' v b w q : Nat} (h : sw S S' v b) (hw : w < 8) (hq : q < 8) (wv : w ≠ v) (wb : w ≠ b) (qv : q ≠ v) (qb : q ≠ b) : sw (sadd (sdel S w) q) (sadd (sdel S' w) q) v b := by
  obtain ⟨h1, h2, h3, h4, h5, h6, h7, h8, h9⟩ := h
  refine ⟨ad_lt h1 hw hq, ad_lt h2 hw hq, h3, h4, ?_, ?_, ?_, ?_, fun p c1 c2 => ?_⟩
  · rw [bI_ad, if_neg (Ne.symm qv), if_neg (Ne.symm wv), h5]
  · rw [bI_ad, if_neg (Ne.symm qb), if_neg (Ne.symm wb), h6]
  · rw [bI_ad, if_neg (Ne.symm qv), if_neg (Ne.symm wv), h7]
  · rw [bI_ad, if_neg (Ne.symm qb), if_neg (Ne.symm wb), h8]
  · rw [bI_ad, bI_ad, h9 p c1 c2]
/-- S' takes v in for w: S and the new set differ by w here, b there -/
theorem sw.turn {S S' v b w : Nat} (h : sw S S' v b) (hw : w < 8) (wb : w ≠ b) (h' : bI S' w = 1) : sw S (sadd (sdel S' w) v) w b := by
  have hne := h.ne
  obtain ⟨h1, h2, h3, h4, h5, h6, h7, h8, h9⟩ := h
  have wv : w ≠ v := fun x => by subst x; omega
  refine ⟨h1, ad_lt h2 hw h3, hw, h4, ?_, h6, ?_, ?_, fun p c1 c2 => ?_⟩
  · rw [h9 w wv wb, h']
  · rw [bI_ad, if_neg wv, if_pos rfl]
  · rw [bI_ad, if_neg (Ne.symm hne), if_neg (Ne.symm wb), h8]
  · rw [bI_ad]
    by_cases c3 : p = v
    · subst c3; rw [if_pos rfl, h5]
    · rw [if_neg c3, if_neg c1, h9 p c3 c2]
theorem pl_G (hg : ∀ i, g i < 8) : ∀ (d i S S' v b : Nat) (k : Int), sw S S' v b → sm8 (bI S) = n → sm8 (bI S') = n → P v = 0 → P b = 0 → ply n P g i d S' k → ∃ k', k' ≤ k + 1 ∧ ply n P g i d S k' := by
  intro d
  induction d with
  | zero => intro i S S' v b k h hS hS' hv hb hk; exact ⟨0, by have hk : k = 0 := hk; omega, rfl⟩
  | succ d ih =>
    intro i S S' v b k h hS hS' hv hb hk
    have hne := h.ne
    obtain ⟨h1, h2, h3, h4, h5, h6, h7, h8, h9⟩ := id h
    unfold ply at hk ⊢
    generalize hq : g i = q at hk ⊢
    have hq8 : q < 8 := hq ▸ hg i
    have f1 : ¬ sm8 (bI S) < n := by omega
    have f2 : ¬ sm8 (bI S') < n := by omega
    by_cases c : bI S' q = 1
    · rw [if_pos c] at hk
      by_cases cb : q = b
      · subst cb
        have c2 : ¬ bI S q = 1 := by omega
        simp only [if_neg c2, if_neg f1]
        exact ⟨k + 1, by omega, v, h3, h5, hv, by rw [h.forth, show k + 1 - 1 = k by omega]; exact hk⟩
      · have cv : q ≠ v := fun x => by subst x; omega
        have c5 : bI S q = 1 := by rw [h9 q cv cb]; exact c
        simp only [if_pos c5]
        exact ih _ _ _ _ _ _ h hS hS' hv hb hk
    · rw [if_neg c, if_neg f2] at hk
      obtain ⟨w, hw, hw1, hw2, hk⟩ := hk
      have q0 : bI S' q = 0 := by rcases bI_01 S' q with e | e; exact e; exact absurd e c
      have s2 := sm_ad hw hq8 hw1 q0
      by_cases cv : q = v
      · subst cv
        simp only [if_pos h5]
        by_cases cb : w = b
        · subst cb
          rw [h.back] at hk
          exact ⟨k - 1, by omega, hk⟩
        · obtain ⟨k', e1, e2⟩ := ih _ _ _ _ _ _ (h.turn hw cb hw1) hS (by omega) hw2 hb hk
          exact ⟨k', by omega, e2⟩
      · have cb : q ≠ b := fun x => by subst x; omega
        have c2 : ¬ bI S q = 1 := by rw [h9 q cv cb]; exact c
        simp only [if_neg c2, if_neg f1]
        by_cases wb : w = b
        · subst wb
          rw [← h.same hq8] at hk
          exact ⟨k, by omega, v, h3, h5, hv, hk⟩
        · have wv : w ≠ v := fun x => by subst x; omega
          have hwS : bI S w = 1 := by rw [h9 w wv wb]; exact hw1
          have s1 := sm_ad hw hq8 hwS (by rcases bI_01 S q with e | e; exact e; exact absurd e c2)
          obtain ⟨k', e1, e2⟩ := ih _ _ _ _ _ _ (h.go hw hq8 wv wb cv cb) (by omega) (by omega) hv hb hk
          exact ⟨k' + 1, by omega, w, hw, hwS, hw2, by rw [show k' + 1 - 1 = k' by omega]; exact e2⟩
theorem pl_D (hg : ∀ i, g i < 8) : ∀ (d i S S' v b : Nat) (k : Int), sw S S' v b → sm8 (bI S) = n → sm8 (bI S') = n → P v = 0 → P b = 0 → ord g i d v b → ply n P g i d S' k → ∃ k', k' ≤ k ∧ ply n P g i d S k' := by
  intro d
  induction d with
  | zero => intro i S S' v b k h hS hS' hv hb ho hk; exact ⟨0, by have hk : k = 0 := hk; omega, rfl⟩
  | succ d ih =>
    intro i S S' v b k h hS hS' hv hb ho hk
    have hne := h.ne
    obtain ⟨h1, h2, h3, h4, h5, h6, h7, h8, h9⟩ := id h
    unfold ply at hk ⊢
    unfold ord at ho
    generalize hq : g i = q at hk ho ⊢
    have hq8 : q < 8 := hq ▸ hg i
    have f1 : ¬ sm8 (bI S) < n := by omega
    have f2 : ¬ sm8 (bI S') < n := by omega
    by_cases c : bI S' q = 1
    · rw [if_pos c] at hk
      have cv : q ≠ v := fun x => by subst x; omega
      have ho2 := ho.resolve_left cv
      have c5 : bI S q = 1 := by rw [h9 q cv ho2.1]; exact c
      simp only [if_pos c5]
      exact ih _ _ _ _ _ _ h hS hS' hv hb ho2.2 hk
    · rw [if_neg c, if_neg f2] at hk
      obtain ⟨w, hw, hw1, hw2, hk⟩ := hk
      have q0 : bI S' q = 0 := by rcases bI_01 S' q with e | e; exact e; exact absurd e c
      have s2 := sm_ad hw hq8 hw1 q0
      by_cases cv : q = v
      · subst cv
        simp only [if_pos h5]
        by_cases cb : w = b
        · subst cb
          rw [h.back] at hk
          exact ⟨k - 1, by omega, hk⟩
        · obtain ⟨k', e1, e2⟩ := pl_G hg _ _ _ _ _ _ _ (h.turn hw cb hw1) hS (by omega) hw2 hb hk
          exact ⟨k', by omega, e2⟩
      · have cb : q ≠ b := fun x => by subst x; omega
        have ho2 := ho.resolve_left cv
        have c2 : ¬ bI S q = 1 := by rw [h9 q cv cb]; exact c
        simp only [if_neg c2, if_neg f1]
        by_cases wb : w = b
        · subst wb
          rw [← h.same hq8] at hk
          exact ⟨k, by omega, v, h3, h5, hv, hk⟩
        · have wv : w ≠ v := fun x => by subst x; omega
          have hwS : bI S w = 1 := by rw [h9 w wv wb]; exact hw1
          have s1 := sm_ad hw hq8 hwS (by rcases bI_01 S q with e | e; exact e; exact absurd e c2)
          obtain ⟨k', e1, e2⟩ := ih _ _ _ _ _ _ (h.go hw hq8 wv wb cv cb) (by omega) (by omega) hv hb ho2.2 hk
          exact ⟨k' + 1, by omega, w, hw, hwS, hw2, by rw [show k' + 1 - 1 = k' by omega]; exact e2⟩
end BE
/-- the greatest next use: the others are asked for no later -/
theorem ord_nxu {a : Nat → Int} {g : Nat → Nat} {N : Nat} (hN : N ≤ 80) (hg : ∀ i, i < N → a i = (g i : Nat)) (v b : Nat) : ∀ (d i : Nat), i + d ≤ N → (if fo a v i d = -1 then (80 : Int) else fo a v i d) ≤ (if fo a b i d = -1 then 80 else fo a b i d) → ord g i d v b := by
  intro d
  induction d with
  | zero => intro i hi h; trivial
  | succ d ih =>
    intro i hi h
    unfold ord
    unfold fo at h
    by_cases cv : g i = v
    · exact Or.inl cv
    · have cv2 : ¬ a i = (v : Int) := by rw [hg i (by omega)]; omega
      rw [if_neg cv2] at h
      by_cases cb : g i = b
      · have cb2 : a i = (b : Int) := by rw [hg i (by omega)]; omega
        rw [if_pos cb2, if_neg (by omega : ¬ (i : Int) = -1)] at h
        have r := fo_r a v d (i + 1)
        have low : ∀ (d i : Nat), fo a v i d = -1 ∨ (i : Int) ≤ fo a v i d := by
          intro d
          induction d with
          | zero => intro i; exact Or.inl rfl
          | succ d ih =>
            intro i
            unfold fo
            split
            · exact Or.inr (Int.le_refl _)
            · rcases ih (i + 1) with e | e
              · exact Or.inl e
              · exact Or.inr (by omega)
        exfalso
        rcases low d (i + 1) with e | e
        · rw [if_pos e] at h; omega
        · have e2 : ¬ fo a v (i + 1) d = -1 := by omega
          rw [if_neg e2] at h
          omega
      · have cb2 : ¬ a i = (b : Int) := by rw [hg i (by omega)]; omega
        rw [if_neg cb2] at h
        exact Or.inr ⟨cb, ih (i + 1) (by omega) h⟩
