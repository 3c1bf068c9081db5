/-! THE FEWEST READS: the model's row over all sets -/
def rch (t : Nat → Int) (k : Nat) (n : Int) : Nat → Int := fu t k (if n < t k then n else t k)
def ain (z3 : Int) (l : Nat → Int) (k p : Nat) (t : Nat → Int) (v : Nat) : Nat → Nat → Int
  | 0 => t
  | d + 1 => ain z3 l k p (if bI k v = 1 ∧ ¬ bt z3 v = 1 then rch t (sadd (sdel k v) p) (l k + 1) else t) (v + 1) d
def aon (z2 z3 : Int) (l : Nat → Int) (p k : Nat) (t : Nat → Int) : Nat → Int :=
  if l k < 1000 then (if bI k p = 1 then rch t k (l k) else if sm8 (bI k) < z2 then rch t (sadd k p) (l k + 1) else ain z3 l k p t 0 8) else t
def aou (z2 z3 : Int) (l : Nat → Int) (p : Nat) (t : Nat → Int) (k : Nat) : Nat → Nat → Int
  | 0 => t
  | d + 1 => aou z2 z3 l p (aon z2 z3 l p k t) (k + 1) d
def asf (z2 z3 : Int) (l : Nat → Int) (p : Nat) : Nat → Int := aou z2 z3 l p (fun _ => 1000) 0 256
def dpg (F : (Nat → Int) → Nat → Nat → Int) (l : Nat → Int) (a : Nat) : Nat → Nat → Int
  | 0 => l
  | d + 1 => dpg F (F l a) (a + 1) d
theorem dpg_s (F : (Nat → Int) → Nat → Nat → Int) (l : Nat → Int) (a d : Nat) : dpg F l a (d + 1) = dpg F (F l a) (a + 1) d := rfl
def dpl (z l : Nat → Int) (a d : Nat) : Nat → Int := dpg (fun l a => asf (z 2) (z 3) l (z (27 + 4 * a)).toNat) l a d
theorem dpl_s (z l : Nat → Int) (a d : Nat) : dpl z l a (d + 1) = dpl z (asf (z 2) (z 3) l (z (27 + 4 * a)).toNat) (a + 1) d := dpg_s _ _ _ _
def mnl (l : Nat → Int) (b : Int) (k : Nat) : Nat → Int
  | 0 => b
  | d + 1 => mnl l (if l k < b then l k else b) (k + 1) d
/-- from set k by an ask for q to set j, with c reads -/
def trn (n : Int) (P : Nat → Int) (q k j : Nat) (c : Int) : Prop := (bI k q = 1 ∧ j = k ∧ c = 0) ∨ (¬ bI k q = 1 ∧ sm8 (bI k) < n ∧ j = sadd k q ∧ c = 1) ∨ (¬ bI k q = 1 ∧ ¬ sm8 (bI k) < n ∧ (∃ v, v < 8 ∧ bI k v = 1 ∧ P v = 0 ∧ j = sadd (sdel k v) q) ∧ c = 1)
section DP
variable {n z3 : Int} {P : Nat → Int} {l : Nat → Int} {q : Nat}
def okA (n : Int) (P : Nat → Int) (l : Nat → Int) (q : Nat) (t : Nat → Int) : Prop := ∀ j, 0 ≤ t j ∧ t j ≤ 1000 ∧ (t j = 1000 ∨ ∃ k c, k < 256 ∧ l k < 1000 ∧ trn n P q k j c ∧ t j = l k + c)
theorem rch_le (t : Nat → Int) (k : Nat) (n : Int) (j : Nat) : rch t k n j ≤ t j := by
  unfold rch fu
  split
  · rename_i e
    subst e
    split <;> omega
  · exact Int.le_refl _
theorem rch_at (t : Nat → Int) (k : Nat) (n : Int) : rch t k n k ≤ n := by
  unfold rch
  rw [fu_s]
  split <;> omega
theorem rch_ok {t : Nat → Int} {k j : Nat} {c : Int} (h : okA n P l q t) (hk : k < 256) (h1 : l k < 1000) (h0 : 0 ≤ l k) (ht : trn n P q k j c) (hc : 0 ≤ c ∧ c ≤ 1) : okA n P l q (rch t j (l k + c)) := fun i => by
  have hi := h i
  unfold rch fu
  by_cases e : i = j
  · subst e
    rw [if_pos rfl]
    by_cases e2 : l k + c < t i
    · rw [if_pos e2]
      exact ⟨by omega, by omega, Or.inr ⟨k, c, hk, h1, ht, rfl⟩⟩
    · rw [if_neg e2]; exact hi
  · rw [if_neg e]; exact hi
theorem ain_ok {k : Nat} (hb : ∀ v : Nat, v < 8 → bt z3 v = P v ∧ (P v = 0 ∨ P v = 1)) (hk : k < 256) (h1 : l k < 1000) (h0 : 0 ≤ l k) (hm : ¬ bI k q = 1) (hf : ¬ sm8 (bI k) < n) : ∀ (d v : Nat) (t : Nat → Int), v + d = 8 → okA n P l q t → okA n P l q (ain z3 l k q t v d) ∧ (∀ j, ain z3 l k q t v d j ≤ t j) ∧ ∀ w, v ≤ w → w < 8 → bI k w = 1 → P w = 0 → ain z3 l k q t v d (sadd (sdel k w) q) ≤ l k + 1 := by
  intro d
  induction d with
  | zero => intro v t hv ht; exact ⟨ht, fun j => Int.le_refl _, fun w h1 h2 => by omega⟩
  | succ d ih =>
    intro v t hv ht
    have hbv := hb v (by omega)
    unfold ain
    by_cases c : bI k v = 1 ∧ ¬ bt z3 v = 1
    · rw [if_pos c]
      have c2 : P v = 0 := by rcases hbv.2 with e | e; exact e; exact absurd (hbv.1.trans e) c.2
      obtain ⟨i1, i2, i3⟩ := ih (v + 1) (rch t (sadd (sdel k v) q) (l k + 1)) (by omega) (rch_ok ht hk h1 h0 (Or.inr (Or.inr ⟨hm, hf, ⟨v, by omega, c.1, c2, rfl⟩, rfl⟩)) ⟨by omega, by omega⟩)
      refine ⟨i1, fun j => Int.le_trans (i2 j) (rch_le _ _ _ _), fun w h3 h4 h5 h6 => ?_⟩
      by_cases e : w = v
      · subst e; exact Int.le_trans (i2 _) (rch_at _ _ _)
      · exact i3 w (by omega) h4 h5 h6
    · rw [if_neg c]
      obtain ⟨i1, i2, i3⟩ := ih (v + 1) t (by omega) ht
      refine ⟨i1, i2, fun w h3 h4 h5 h6 => ?_⟩
      by_cases e : w = v
      · subst e; exact absurd ⟨h5, fun x => by rw [hbv.1] at x; omega⟩ c
      · exact i3 w (by omega) h4 h5 h6
theorem aon_ok {k : Nat} (hb : ∀ v : Nat, v < 8 → bt z3 v = P v ∧ (P v = 0 ∨ P v = 1)) (hk : k < 256) (h0 : 0 ≤ l k) {t : Nat → Int} (ht : okA n P l q t) : okA n P l q (aon n z3 l q k t) ∧ (∀ j, aon n z3 l q k t j ≤ t j) ∧ ∀ j c, l k < 1000 → trn n P q k j c → aon n z3 l q k t j ≤ l k + c := by
  unfold aon
  by_cases h1 : l k < 1000
  · rw [if_pos h1]
    by_cases c1 : bI k q = 1
    · rw [if_pos c1]
      have r := rch_ok (c := 0) ht hk h1 h0 (Or.inl ⟨c1, rfl, rfl⟩) ⟨by omega, by omega⟩
      rw [Int.add_zero] at r
      refine ⟨r, rch_le _ _ _, fun j c _ htr => ?_⟩
      rcases htr with ⟨_, rfl, rfl⟩ | ⟨e, _⟩ | ⟨e, _⟩
      · have := rch_at t j (l j); omega
      · exact absurd c1 e
      · exact absurd c1 e
    · rw [if_neg c1]
      by_cases c2 : sm8 (bI k) < n
      · rw [if_pos c2]
        refine ⟨rch_ok ht hk h1 h0 (Or.inr (Or.inl ⟨c1, c2, rfl, rfl⟩)) ⟨by omega, by omega⟩, rch_le _ _ _, fun j c _ htr => ?_⟩
        rcases htr with ⟨e, _⟩ | ⟨_, _, rfl, rfl⟩ | ⟨_, e, _⟩
        · exact absurd e c1
        · exact rch_at _ _ _
        · exact absurd c2 e
      · rw [if_neg c2]
        obtain ⟨i1, i2, i3⟩ := ain_ok hb hk h1 h0 c1 c2 8 0 t rfl ht
        refine ⟨i1, i2, fun j c _ htr => ?_⟩
        rcases htr with ⟨e, _⟩ | ⟨_, e, _⟩ | ⟨_, _, ⟨v, hv, hv1, hv2, rfl⟩, rfl⟩
        · exact absurd e c1
        · exact absurd e c2
        · exact i3 v (Nat.zero_le _) hv hv1 hv2
  · rw [if_neg h1]
    exact ⟨ht, fun j => Int.le_refl _, fun j c h => absurd h h1⟩
theorem aou_ok (hb : ∀ v : Nat, v < 8 → bt z3 v = P v ∧ (P v = 0 ∨ P v = 1)) (h0 : ∀ k, k < 256 → 0 ≤ l k) : ∀ (d k : Nat) (t : Nat → Int), k + d = 256 → okA n P l q t → okA n P l q (aou n z3 l q t k d) ∧ (∀ j, aou n z3 l q t k d j ≤ t j) ∧ ∀ i j c, k ≤ i → i < 256 → l i < 1000 → trn n P q i j c → aou n z3 l q t k d j ≤ l i + c := by
  intro d
  induction d with
  | zero => intro k t hk ht; exact ⟨ht, fun j => Int.le_refl _, fun i j c h1 h2 => by omega⟩
  | succ d ih =>
    intro k t hk ht
    unfold aou
    obtain ⟨a1, a2, a3⟩ := aon_ok (k := k) hb (by omega) (h0 k (by omega)) ht
    obtain ⟨i1, i2, i3⟩ := ih (k + 1) (aon n z3 l q k t) (by omega) a1
    refine ⟨i1, fun j => Int.le_trans (i2 j) (a2 j), fun i j c h1 h2 h3 h4 => ?_⟩
    by_cases e : i = k
    · subst e; exact Int.le_trans (i2 j) (a3 j c h3 h4)
    · exact i3 i j c (by omega) h2 h3 h4
theorem asf_ok (hb : ∀ v : Nat, v < 8 → bt z3 v = P v ∧ (P v = 0 ∨ P v = 1)) (h0 : ∀ k, k < 256 → 0 ≤ l k) : okA n P l q (asf n z3 l q) ∧ ∀ i j c, i < 256 → l i < 1000 → trn n P q i j c → asf n z3 l q j ≤ l i + c := by
  unfold asf
  obtain ⟨i1, _, i3⟩ := aou_ok (n := n) (q := q) hb h0 256 0 (fun _ => 1000) rfl (fun j => ⟨(by decide : (0 : Int) ≤ 1000), Int.le_refl 1000, Or.inl rfl⟩)
  exact ⟨i1, fun i j c h1 h2 h3 => i3 i j c (Nat.zero_le _) h1 h2 h3⟩
theorem mnl_le {l : Nat → Int} : ∀ (d k : Nat) (b : Int), mnl l b k d ≤ b ∧ (∀ j, k ≤ j → j < k + d → mnl l b k d ≤ l j) ∧ (mnl l b k d = b ∨ ∃ j, k ≤ j ∧ j < k + d ∧ mnl l b k d = l j) := by
  intro d
  induction d with
  | zero => intro k b; exact ⟨Int.le_refl _, fun j h1 h2 => by omega, Or.inl rfl⟩
  | succ d ih =>
    intro k b
    unfold mnl
    obtain ⟨i1, i2, i3⟩ := ih (k + 1) (if l k < b then l k else b)
    have e : (if l k < b then l k else b) ≤ b ∧ (if l k < b then l k else b) ≤ l k ∧ ((if l k < b then l k else b) = b ∨ (if l k < b then l k else b) = l k) := by
      split
      · exact ⟨by omega, by omega, Or.inr rfl⟩
      · exact ⟨by omega, by omega, Or.inl rfl⟩
    refine ⟨by omega, fun j h1 h2 => ?_, ?_⟩
    · by_cases c : j = k
      · subst c; omega
      · exact i2 j (by omega) (by omega)
    · rcases i3 with i3 | ⟨j, h1, h2, h3⟩
      · rcases e.2.2 with e2 | e2
        · exact Or.inl (i3.trans e2)
        · exact Or.inr ⟨k, Nat.le_refl _, by omega, i3.trans e2⟩
      · exact Or.inr ⟨j, by omega, by omega, h3⟩
end DP
section DQ
variable {n : Int} {P A : Nat → Int} {z : Nat → Int}
theorem trn_ply {g : Nat → Nat} {i d k j : Nat} {c m : Int} (ht : trn n P (g i) k j c) (hp : ply n P g (i + 1) d j m) : ply n P g i (d + 1) k (m + c) := by
  unfold ply
  rcases ht with ⟨h1, rfl, rfl⟩ | ⟨h1, h2, rfl, rfl⟩ | ⟨h1, h2, ⟨v, hv, hv1, hv2, rfl⟩, rfl⟩
  · rw [if_pos h1, Int.add_zero]; exact hp
  · rw [if_neg h1, if_pos h2, show m + 1 - 1 = m by omega]; exact hp
  · rw [if_neg h1, if_neg h2]
    exact ⟨v, hv, hv1, hv2, by rw [show m + 1 - 1 = m by omega]; exact hp⟩
/-- the row's least is R, if nothing reaches less, and the rule 0 reaches R -/
theorem dpl_is {z3 R : Int} (hz2 : z 2 = n) (hz3 : z 3 = z3) (hb : ∀ v : Nat, v < 8 → bt z3 v = P v ∧ (P v = 0 ∨ P v = 1)) (hR : R < 1000) : ∀ (d a : Nat) (l : Nat → Int) (σ : SG) (z' : Nat → Int) (S : Nat), (∀ k, k < 256 → 0 ≤ l k) → (∀ i, a ≤ i → i < a + d → (z (27 + 4 * i)).toNat = gA A i) → (∀ j, j < 256 → l j < 1000 → ∀ m, ply n P (gA A) a d j m → R ≤ l j + m) → rel σ z' → σ.2 1 = (a : Int) → (a : Int) + d = σ.2 0 → σ.2 2 = n → σ.1 6 = P → σ.1 0 = A → setS σ S → l S + (sm8 ((fin σ 0 d).1 9) - sm8 (σ.1 9)) ≤ R → mnl (dpl z l a d) 1000 0 256 = R := by
  intro d
  induction d with
  | zero =>
    intro a l σ z' S h0 hg hs h ha hd hn hP hA hS hr
    obtain ⟨i1, i2, i3⟩ := mnl_le (l := l) 256 0 1000
    have hr : l S + (sm8 (σ.1 9) - sm8 (σ.1 9)) ≤ R := hr
    have iS := i2 S (Nat.zero_le _) (by have := hS.1; omega)
    show mnl l 1000 0 256 = R
    rcases i3 with i3 | ⟨j, h1, h2, h3⟩
    · omega
    · have := hs j (by omega) (by omega) 0 rfl
      omega
  | succ d ih =>
    intro a l σ z' S h0 hg hs h ha hd hn hP hA hS hr
    obtain ⟨w1, w2, w3, w4, w5⟩ := id h.wf
    have hd2 : σ.2 1 < σ.2 0 := by omega
    have hPa := h.P a (by omega)
    obtain ⟨q, hq⟩ : ∃ q : Nat, σ.1 0 a = (q : Int) := ⟨(σ.1 0 a).toNat, by omega⟩
    have hq8 : q < 8 := by omega
    have hgq : gA A a = q := by
      unfold gA
      rw [← hA, hq]
      omega
    have e1 := dnx_21 h hd2 0
    have h2 := h.dnxE hd2 0 (Or.inl rfl)
    have ec := (dnx_count h hd2 0 (Or.inl rfl)).1
    have o6 := dnx_o σ 0 (k := 6) (by omega)
    have o0 := dnx_o σ 0 (k := 0) (by omega)
    have o9 : sm8 ((fin σ 0 (d + 1)).1 9) = sm8 ((fin (dnx σ 0) 0 d).1 9) := rfl
    rw [dpl_s, hg a (Nat.le_refl _) (by omega), hz2, hz3, hgq]
    obtain ⟨a1, a2⟩ := asf_ok (n := n) (q := q) hb h0
    have hl : l S < 1000 := by
      have r1 := h.s8
      have gz := (gmz_rel 0 (Or.inl rfl) (d + 1) σ z' h (by omega))
      have gq := gmn_q 0 (Or.inl rfl) (d + 1) σ z' 0 h (by omega)
      have nn : ∀ (d : Nat) (z : Nat → Int) (m : Int), m ≤ gmn z 0 m d := by
        intro d
        induction d with
        | zero => intro z m; exact Int.le_refl _
        | succ d ih =>
          intro z m
          unfold gmn
          have := ih (dnm z 0) (m + dnr z)
          rcases dnr_01 z with e | e <;> omega
      have := nn (d + 1) z' 0
      omega
    have fin2 : ∀ S', setS (dnx σ 0) S' → trn n P q S S' (dnr z') → mnl (dpl z (asf n z3 l q) (a + 1) d) 1000 0 256 = R := fun S' hS' ht => by
      refine ih (a + 1) (asf n z3 l q) (dnx σ 0) (dnm z' 0) S' (fun k _ => (a1 k).1) (fun i h3 h4 => hg i (by omega) (by omega)) (fun j hj hj2 m hm => ?_) h2 (by omega) (by omega) (by omega) (by rw [o6, hP]) (by rw [o0, hA]) hS' ?_
      · rcases (a1 j).2.2 with e | ⟨k, c, hk, hk1, ht2, e⟩
        · omega
        · have := hs k hk hk1 (m + c) (trn_ply (by rw [hgq]; exact ht2) hm)
          omega
      · have := a2 S S' (dnr z') hS.1 hl ht
        omega
    rcases dnx_set h hd2 hS ha hq hq8 with ⟨c1, c2, c3⟩ | ⟨c1, c2, c3, c4⟩ | ⟨c1, c2, c3, b, hb8, hb1, hb6, hb4, hmax⟩
    · exact fin2 S c2 (Or.inl ⟨c1, rfl, c3⟩)
    · exact fin2 _ c3 (Or.inr (Or.inl ⟨by omega, by omega, rfl, c4⟩))
    · exact fin2 _ hb4 (Or.inr (Or.inr ⟨by omega, by omega, ⟨b, hb8, hb1, by rw [← hP]; exact hb6, rfl⟩, c3⟩))
theorem dpl_fn {σ : SG} (h : rel σ z) {S : Nat} (hS : setS σ S) : mnl (dpl z (fu (fun _ => 1000) S 0) (σ.2 1).toNat (σ.2 0 - σ.2 1).toNat) 1000 0 256 = rdO (fn σ 0) σ := by
  obtain ⟨w1, w2, w3, w4, w5⟩ := id h.wf
  have gz := gmz_rel 0 (Or.inl rfl) (σ.2 0 - σ.2 1).toNat σ z h (by omega)
  have er := rdO_r h (τ := fn σ 0) gz
  rw [er.1]
  have hle : rdO (fn σ 0) σ ≤ 640 := er.2
  rw [er.1] at hle
  refine dpl_is (n := σ.2 2) (P := σ.1 6) (A := σ.1 0) (z3 := z 3) h.n.2.2 rfl (fun v hv => ⟨h.pin.btE hv, h.pin.r hv⟩) (by omega) (σ.2 0 - σ.2 1).toNat (σ.2 1).toNat _ σ z S (fun k _ => by
    unfold fu; split
    · exact Int.le_refl 0
    · exact (by decide : (0 : Int) ≤ 1000)) (fun i h1 h2 => ?_) (fun j hj hj2 m hm => ?_) h (by omega) (by omega) rfl rfl rfl hS ?_
  · have := h.P i (by omega)
    unfold gA
    rw [this.1]
    omega
  · have e : j = S := by
      apply Classical.byContradiction
      intro hn
      rw [fu_n _ _ hn] at hj2
      omega
    subst e
    rw [fu_s]
    have := bel (n := σ.2 2) (P := σ.1 6) (A := σ.1 0) (σ.2 0 - σ.2 1).toNat (σ.2 1).toNat σ z j h (by omega) (by omega) rfl rfl rfl hS m hm
    unfold fn
    omega
  · rw [fu_s]
    unfold fn
    omega
end DQ
