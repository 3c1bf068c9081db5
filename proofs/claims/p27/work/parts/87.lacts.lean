/-! ACTS ON GOOD STATES: pages pinned, all written back, asks dropped, exchanged, done -/
theorem wbk_o (σ : SG) (p : Int) {k : Nat} (h5 : k ≠ 5) (h10 : k ≠ 10) : (wbk σ p).1 k = σ.1 k := by
  unfold wbk
  split
  · rw [sR_1, if_neg h10, sR_1, if_neg h5]
  · rfl
theorem wbk_5 (σ : SG) {p : Nat} (hp : p < 8) (hb : σ.1 5 p = 0 ∨ σ.1 5 p = 1) (q : Nat) : (wbk σ p).1 5 q = if q = p then 0 else σ.1 5 q := by
  unfold wbk
  rw [rg_n _ hp]
  by_cases c : σ.1 5 p = 1
  · rw [if_pos c, sR_1, if_neg (by decide), sR_1, if_pos rfl, rs_n _ _ hp]
    rfl
  · rw [if_neg c]
    split
    · rename_i e; subst e; omega
    · rfl
theorem wbk_10 (σ : SG) {p : Nat} (hp : p < 8) (hb : σ.1 5 p = 0 ∨ σ.1 5 p = 1) (h0 : 0 ≤ σ.1 10 p) (h1 : σ.1 10 p ≤ 1000) (q : Nat) : (wbk σ p).1 10 q = if q = p then σ.1 10 p + σ.1 5 p else σ.1 10 q := by
  unfold wbk
  rw [rg_n _ hp, rg_n _ hp]
  by_cases c : σ.1 5 p = 1
  · rw [if_pos c, sR_1, if_pos rfl, rs_n _ _ hp, wrp_id (by omega) (by omega), c]
    rfl
  · rw [if_neg c]
    split
    · rename_i e; subst e; omega
    · rfl
theorem wba_q : ∀ (d p : Nat) (σ : SG), p + d ≤ 8 → (∀ q, p ≤ q → q < 8 → (σ.1 5 q = 0 ∨ σ.1 5 q = 1) ∧ 0 ≤ σ.1 10 q ∧ σ.1 10 q ≤ 1000) → (wba σ p d).2 = σ.2 ∧ (∀ k, k ≠ 5 → k ≠ 10 → (wba σ p d).1 k = σ.1 k) ∧ ∀ q, (wba σ p d).1 5 q = (if p ≤ q ∧ q < p + d then 0 else σ.1 5 q) ∧ (wba σ p d).1 10 q = if p ≤ q ∧ q < p + d then σ.1 10 q + σ.1 5 q else σ.1 10 q := by
  intro d
  induction d with
  | zero => intro p σ hp h; exact ⟨rfl, fun _ _ _ => rfl, fun q => by rw [if_neg (by omega), if_neg (by omega)]; exact ⟨rfl, rfl⟩⟩
  | succ d ih =>
    intro p σ hp h
    have h0 := h p (Nat.le_refl _) (by omega)
    have w5 := wbk_5 σ (p := p) (by omega) h0.1
    have w10 := wbk_10 σ (p := p) (by omega) h0.1 h0.2.1 h0.2.2
    obtain ⟨i1, i2, i3⟩ := ih (p + 1) (wbk σ p) (by omega) (fun q h1 h2 => by
      rw [w5, w10, if_neg (by omega), if_neg (by omega)]; exact h q (by omega) h2)
    unfold wba
    refine ⟨by rw [i1, wbk_2], fun k h5 h10 => by rw [i2 k h5 h10, wbk_o _ _ h5 h10], fun q => ?_⟩
    obtain ⟨j1, j2⟩ := i3 q
    rw [j1, j2, w5, w10]
    by_cases c : q = p
    · subst c
      rw [if_neg (by omega), if_pos rfl, if_pos (by omega), if_neg (by omega), if_pos rfl, if_pos (by omega)]
      exact ⟨rfl, rfl⟩
    · rw [if_neg c, if_neg c]
      by_cases c2 : p + 1 ≤ q ∧ q < p + 1 + d
      · rw [if_pos c2, if_pos c2, if_pos (by omega), if_pos (by omega)]; exact ⟨rfl, rfl⟩
      · rw [if_neg c2, if_neg c2, if_neg (by omega), if_neg (by omega)]; exact ⟨rfl, rfl⟩
theorem fin_no (rule : Int) : ∀ (d : Nat) (σ : SG), σ.2 0 ≤ σ.2 1 → fin σ rule d = σ := by
  intro d
  induction d with
  | zero => intro σ h; rfl
  | succ d ih =>
    intro σ h
    have e : dnx σ rule = σ := by unfold dnx; rw [if_pos h]
    unfold fin
    rw [e, ih σ h]
section AK
variable {σ : SG}
theorem ks.pndK (h : ks σ) {p : Nat} (hp : p < 8) (hc : σ.1 6 p = 0 → sm8 (σ.1 6) < σ.2 2 - 1) : ks (pnd σ p) ∧ (pnd σ p).1 6 = fu (σ.1 6) p (1 - σ.1 6 p) ∧ (∀ k, k ≠ 6 → (pnd σ p).1 k = σ.1 k) ∧ (pnd σ p).2 = σ.2 := by
  have h01 := h.pin p hp
  have e6 : (pnd σ p).1 6 = fu (σ.1 6) p (1 - σ.1 6 p) := by
    unfold pnd
    rw [sR_1, if_pos rfl, rg_n _ hp, rs_n _ _ hp]
    rcases h01 with e | e
    · rw [e, if_pos rfl]; rfl
    · rw [e, if_neg (by decide)]; rfl
  have eo : ∀ k, k ≠ 6 → (pnd σ p).1 k = σ.1 k := fun k hk => by unfold pnd; rw [sR_1, if_neg hk]
  have e2 : (pnd σ p).2 = σ.2 := rfl
  refine ⟨⟨?_, ?_, ⟨?_, ?_, ?_⟩, ?_, ?_, ?_⟩, e6, eo, e2⟩
  · unfold wfS; rw [e2]; exact h.wf
  · rw [e2, eo 0 (by decide), eo 1 (by decide)]; exact h.P
  · rw [e6]
    intro q hq
    unfold fu; split
    · rcases h01 with e | e <;> omega
    · exact h.pin q hq
  · rw [eo 5 (by decide)]; exact h.ch
  · rw [eo 4 (by decide), e2]; exact h.F
  · rw [eo 7 (by decide), eo 8 (by decide)]; exact h.L
  · rw [e2, eo 9 (by decide), eo 10 (by decide), eo 5 (by decide)]; exact h.N
  · rw [e2, e6, sm8_fu _ hp]
    have := h.K
    rcases h01 with e | e
    · have := hc e; omega
    · omega
theorem ks.flu (h : ks σ) : ks (wba σ 0 8) ∧ wbO (wba σ 0 8) σ = sm8 (σ.1 5) ∧ (wba σ 0 8).2 = σ.2 ∧ (∀ k, k ≠ 5 → k ≠ 10 → (wba σ 0 8).1 k = σ.1 k) ∧ ∀ q, q < 8 → (wba σ 0 8).1 5 q = 0 ∧ (wba σ 0 8).1 10 q = σ.1 10 q + σ.1 5 q := by
  obtain ⟨w1, w2, w3, w4, w5⟩ := id h.wf
  have hB : ∀ q, q < 8 → (σ.1 5 q = 0 ∨ σ.1 5 q = 1) ∧ 0 ≤ σ.1 10 q ∧ σ.1 10 q ≤ 1000 := fun q hq => by
    have a1 := h.ch q hq
    have a2 := h.N q hq
    refine ⟨a1, a2.2.2.1, ?_⟩
    rcases a1 with e | e <;> omega
  obtain ⟨i1, i2, i3⟩ := wba_q 8 0 σ (by omega) (fun q _ hq => hB q hq)
  have j : ∀ q, q < 8 → (wba σ 0 8).1 5 q = 0 ∧ (wba σ 0 8).1 10 q = σ.1 10 q + σ.1 5 q := fun q hq => by
    obtain ⟨z1, z2⟩ := i3 q
    rw [if_pos (by omega)] at z1 z2
    exact ⟨z1, z2⟩
  have hk : ks (wba σ 0 8) := by
    refine ⟨?_, ?_, ⟨?_, ?_, ?_⟩, ?_, ?_, ?_⟩
    · unfold wfS; rw [i1]; exact h.wf
    · rw [i1, i2 0 (by decide) (by decide), i2 1 (by decide) (by decide)]; exact h.P
    · rw [i2 6 (by decide) (by decide)]; exact h.pin
    · intro q hq; exact Or.inl (j q hq).1
    · rw [i1, i2 4 (by decide) (by decide)]; exact h.F
    · rw [i2 7 (by decide) (by decide), i2 8 (by decide) (by decide)]; exact h.L
    · rw [i1, i2 9 (by decide) (by decide)]
      intro q hq
      have a1 := hB q hq
      have a2 := h.N q hq
      have a3 := j q hq
      refine ⟨a2.1, a2.2.1, ?_, ?_⟩
      · rw [a3.2]; rcases a1.1 with e | e <;> omega
      · rw [a3.1, a3.2]; omega
    · rw [i1, i2 6 (by decide) (by decide)]; exact h.K
  refine ⟨hk, ?_, i1, i2, j⟩
  rw [wbO_q h hk, sm8_ext (g' := fun q => σ.1 10 q + σ.1 5 q) (fun q hq => (j q hq).2), sm8_add]
  omega
theorem tka_smp (σ : SG) (p : Int) : smp σ (tka σ p) := by
  unfold tka
  refine ⟨fun k hk => ?_, ?_, ?_⟩
  · rw [sS_1, sR_1, if_neg (by omega), sR_1, if_neg (by omega)]
  · rw [sS_2, if_neg (by decide)]; rfl
  · rw [sS_2, if_neg (by decide)]; rfl
theorem tka_0 (σ : SG) (i : Nat) : (tka σ i).1 0 = cls (σ.1 0) i 80 ∧ (tka σ i).1 1 = cls (σ.1 1) i 80 ∧ (tka σ i).2 0 = σ.2 0 - 1 := by
  unfold tka
  refine ⟨?_, ?_, ?_⟩
  · rw [sS_1, sR_1, if_neg (by decide), sR_1, if_pos rfl, Int.toNat_natCast]
  · rw [sS_1, sR_1, if_pos rfl, Int.toNat_natCast]
  · rw [sS_2, if_pos rfl]
theorem ks.tkaK (h : ks σ) {i : Nat} (h1 : σ.2 1 ≤ i) (h2 : (i : Int) < σ.2 0) : ks (tka σ i) := by
  obtain ⟨w1, w2, w3, w4, w5⟩ := id h.wf
  obtain ⟨e0, e1, e2⟩ := tka_0 σ i
  refine (tka_smp σ i).ksE h (wf_tka h.wf (by omega)) ?_
  rw [e0, e1, e2]
  intro j hj
  unfold cls
  split
  · exact h.P (j + 1) (by omega)
  · exact h.P j (by omega)
theorem swp_smp (σ : SG) (i j : Int) : smp σ (swp σ i j) := by
  unfold swp
  exact ⟨fun k hk => by rw [sR_1, if_neg (by omega), sR_1, if_neg (by omega)], rfl, rfl⟩
theorem swp_0 (σ : SG) {i j : Nat} (hi : i < 80) (hj : j < 80) : (swp σ i j).1 0 = fu (fu (σ.1 0) i (σ.1 0 j)) j (σ.1 0 i) ∧ (swp σ i j).1 1 = fu (fu (σ.1 1) i (σ.1 1 j)) j (σ.1 1 i) := by
  unfold swp
  refine ⟨?_, ?_⟩
  · rw [sR_1, if_neg (by decide), sR_1, if_pos rfl, rg_n _ hi, rg_n _ hj, rs_n _ _ hi, rs_n _ _ hj]
  · rw [sR_1, if_pos rfl, rg_n _ hi, rg_n _ hj, rs_n _ _ hi, rs_n _ _ hj]
theorem ks.swpK (h : ks σ) {i j : Nat} (hi1 : (i : Int) < σ.2 0) (hj1 : (j : Int) < σ.2 0) : ks (swp σ i j) := by
  obtain ⟨w1, w2, w3, w4, w5⟩ := id h.wf
  obtain ⟨e0, e1⟩ := swp_0 σ (i := i) (j := j) (by omega) (by omega)
  refine (swp_smp σ i j).ksE h h.wf ?_
  rw [e0, e1, show (swp σ i j).2 0 = σ.2 0 from rfl]
  intro q hq
  have pi := h.P i hi1
  have pj := h.P j hj1
  have pq := h.P q hq
  unfold fu
  by_cases c1 : q = j
  · rw [if_pos c1, if_pos c1]; exact pi
  · rw [if_neg c1, if_neg c1]
    by_cases c2 : q = i
    · rw [if_pos c2, if_pos c2]; exact pj
    · rw [if_neg c2, if_neg c2]; exact pq
theorem sg0_ks : ks sg0 := by
  refine ⟨?_, ?_, ⟨?_, ?_, ?_⟩, ?_, ?_, ?_⟩
  · unfold wfS; exact ⟨by decide, by decide, by decide, by decide, by decide⟩
  · intro i hi
    have : (i : Int) < 0 := hi
    omega
  · intro p hp; exact Or.inl rfl
  · intro p hp; exact Or.inl rfl
  · exact ⟨fun p hp => ⟨by show (-1 : Int) ≤ -1; omega, by show (-1 : Int) < 3; omega⟩, fun p q hp hq e hn => absurd rfl hn⟩
  · intro p hp; exact ⟨by show (-1 : Int) ≤ -1; omega, by show (-1 : Int) ≤ 80; omega, by show (-1 : Int) ≤ -1; omega, by show (-1 : Int) ≤ 80; omega⟩
  · intro p hp; exact ⟨by show (0 : Int) ≤ 0; omega, by show (0 : Int) ≤ 0; omega, by show (0 : Int) ≤ 0; omega, by show (0 : Int) + 0 ≤ 0; omega⟩
  · show (0 : Int) + 0 + 0 + 0 + 0 + 0 + 0 + 0 ≤ 3 - 1
    omega
end AK
theorem wfV_sv {V : VG} {sc : Int} {σ : SG} (h : wfV V) : wfV (svV V sc σ) := by
  obtain ⟨a0, a1, a2, a3, a4, a5⟩ := h
  unfold svV
  split
  · exact ⟨a0, a1, a2, a3, a4, a5⟩
  · exact ⟨a1, a2, a3, a4, a5, a0⟩
theorem svC_r {sc : Int} (h0 : 0 ≤ sc) (h6 : sc ≤ 6) : 0 ≤ svC sc ∧ svC sc ≤ 6 := by unfold svC; split <;> omega
