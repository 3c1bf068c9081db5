/-! ONE ASK DONE, by both -/
def go1 (z : Nat → Int) (p : Int) : Nat → Int := fu z (5 + fof z p (-1) 0 (z 2).toNat).toNat (-1)
def go2 (z : Nat → Int) (p : Int) : Nat → Int := fu (go1 z p) (19 + p).toNat (wrp (go1 z p (19 + p).toNat + if bt (z 4) p = 1 then 1 else 0))
def gos (z : Nat → Int) (p : Int) : Nat → Int := fu (go2 z p) 4 (iAnd (go2 z p 4) (iXor (iShl 1 p) (-1)))
def rd1 (z : Nat → Int) (p : Int) : Nat → Int := fu z (5 + emf z (-1) (z 2).toNat).toNat p
def rdm (z : Nat → Int) (p : Int) : Nat → Int := fu (rd1 z p) (11 + p).toNat (wrp (rd1 z p (11 + p).toNat + 1))
def mk1 (z : Nat → Int) (a p : Int) : Nat → Int := fu z 4 (iOr (z 4) (iShl (z (27 + 4 * a + 1).toNat) p))
def mk2 (z : Nat → Int) (a p b v : Int) : Nat → Int := fu (fu (mk1 z a p) (27 + 4 * a + 2).toNat b) (27 + 4 * a + 3).toNat v
def mkm (z : Nat → Int) (a p b v : Int) : Nat → Int := fu (mk2 z a p b v) 1 (wrp (mk2 z a p b v 1 + 1))
def npg (z : Nat → Int) : Int := z (27 + 4 * z 1 + 0).toNat
def nvi (z : Nat → Int) (rule : Int) : Int := vbm z rule (z 1 + 1).toNat (-1) 0 8
def dnm (z : Nat → Int) (rule : Int) : Nat → Int :=
  if fof z (npg z) (-1) 0 (z 2).toNat ≠ -1 then mkm z (z 1) (npg z) 0 (-1)
  else if emf z (-1) (z 2).toNat ≠ -1 then mkm (rdm z (npg z)) (z 1) (npg z) 1 (-1)
  else mkm (rdm (gos z (nvi z rule)) (npg z)) (z 1) (npg z) (if bt (z 4) (nvi z rule) = 1 then 3 else 2) (nvi z rule)
def dnr (z : Nat → Int) : Int := if fof z (npg z) (-1) 0 (z 2).toNat = -1 then 1 else 0
theorem tn19 (i : Nat) : (19 + (i : Int)).toNat = 19 + i := by omega
theorem tn11 (i : Nat) : (11 + (i : Int)).toNat = 11 + i := by omega
theorem tn28 (i : Nat) : (27 + 4 * (i : Int) + 1).toNat = 28 + 4 * i := by omega
theorem tn30 (i : Nat) : (27 + 4 * (i : Int) + 3).toNat = 30 + 4 * i := by omega
theorem lat_ext {z z' : Nat → Int} (p rd : Int) : ∀ (d i : Nat) (r : Int), (∀ j, i ≤ j → j < i + d → z (27 + 4 * j) = z' (27 + 4 * j) ∧ z (29 + 4 * j) = z' (29 + 4 * j)) → lat z p rd r i d = lat z' p rd r i d := by
  intro d
  induction d with
  | zero => intro i r h; rfl
  | succ d ih =>
    intro i r h
    unfold lat
    have e := h i (Nat.le_refl _) (by omega)
    rw [e.1, e.2]
    exact ih _ _ (fun j h1 h2 => h j (by omega) (by omega))
theorem lat_snoc (z : Nat → Int) (p rd : Int) : ∀ (d i : Nat) (r : Int), lat z p rd r i (d + 1) = if z (27 + 4 * (i + d)) = p ∧ (rd = 0 ∨ 0 < z (29 + 4 * (i + d))) then ((i + d : Nat) : Int) else lat z p rd r i d := by
  intro d
  induction d with
  | zero => intro i r; rfl
  | succ d ih =>
    intro i r
    rw [lat, ih (i + 1), show i + 1 + d = i + (d + 1) by omega, lat]
section DN
variable {σ : SG} {z z' : Nat → Int}
theorem qP.ext {n : Int} {a w : Nat → Int} (h : qP n a w z) (e : ∀ i : Nat, (i : Int) < n → z' (27 + 4 * i) = z (27 + 4 * i) ∧ z' (28 + 4 * i) = z (28 + 4 * i)) : qP n a w z' := fun i hi => by
  rw [(e i hi).1, (e i hi).2]; exact h i hi
theorem qD.ext {n : Int} {b v : Nat → Int} (h : qD n b v z) (e : ∀ i : Nat, (i : Int) < n → z' (29 + 4 * i) = z (29 + 4 * i) ∧ z' (30 + 4 * i) = z (30 + 4 * i)) : qD n b v z' := fun i hi => by
  rw [(e i hi).1, (e i hi).2]; exact h i hi
theorem qC.ext {d n : Int} (h : qC d n z) (e : ∀ i : Nat, d ≤ (i : Int) → (i : Int) < n → z' (29 + 4 * i) = z (29 + 4 * i) ∧ z' (30 + 4 * i) = z (30 + 4 * i)) : qC d n z' := fun i hd hi => by
  rw [(e i hd hi).1, (e i hd hi).2]; exact h i hd hi
theorem qL.ext {n : Nat} {la lr : Nat → Int} (h : qL n la lr z) (e : ∀ j, j < n → z (27 + 4 * j) = z' (27 + 4 * j) ∧ z (29 + 4 * j) = z' (29 + 4 * j)) : qL n la lr z' := fun p hp => by
  rw [(h p hp).1, (h p hp).2, lat_ext p 0 n 0 (-1) (fun j _ hj => e j (by omega)), lat_ext p 1 n 0 (-1) (fun j _ hj => e j (by omega))]
  exact ⟨rfl, rfl⟩
theorem tko_o (σ : SG) (p : Int) {k : Nat} (h4 : k ≠ 4) (h5 : k ≠ 5) (h10 : k ≠ 10) : (tko σ p).1 k = σ.1 k := by
  unfold tko
  rw [sR_1, if_neg h4]
  unfold wbk
  split
  · rw [sR_1, if_neg h10, sR_1, if_neg h5]
  · rfl
theorem tko_4 (σ : SG) {p : Nat} (hp : p < 8) : (tko σ p).1 4 = fu (σ.1 4) p (-1) := by
  unfold tko
  rw [sR_1, if_pos rfl, rs_n _ _ hp]
  unfold wbk
  split
  · rw [sR_1, if_neg (by decide), sR_1, if_neg (by decide)]
  · rfl
theorem tko_5 (σ : SG) {p : Nat} (hp : p < 8) (hb : σ.1 5 p = 0 ∨ σ.1 5 p = 1) (q : Nat) : (tko σ p).1 5 q = if q = p then 0 else σ.1 5 q := by
  unfold tko
  rw [sR_1, if_neg (by decide)]
  unfold wbk
  rw [rg_n _ hp]
  by_cases c : σ.1 5 p = 1
  · rw [if_pos c, sR_1, if_neg (by decide), sR_1, if_pos rfl, rs_n _ _ hp]
    rfl
  · rw [if_neg c]
    split
    · rename_i e; subst e; omega
    · rfl
theorem tko_10 (σ : SG) {p : Nat} (hp : p < 8) (hb : σ.1 5 p = 0 ∨ σ.1 5 p = 1) (h0 : 0 ≤ σ.1 10 p) (h1 : σ.1 10 p ≤ 1000) (q : Nat) : (tko σ p).1 10 q = if q = p then σ.1 10 p + σ.1 5 p else σ.1 10 q := by
  unfold tko
  rw [sR_1, if_neg (by decide)]
  unfold wbk
  rw [rg_n _ hp, rg_n _ hp]
  by_cases c : σ.1 5 p = 1
  · rw [if_pos c, sR_1, if_pos rfl, rs_n _ _ hp, wrp_id (by omega) (by omega), c]
    rfl
  · rw [if_neg c]
    split
    · rename_i e; subst e; omega
    · rfl
/-- a page goes -/
theorem gos_q (h : rel σ z) {p f v : Nat} (hp : p < 8) (hf : σ.1 4 p = (f : Int)) (hv : v < 256) (hz : z 4 = v) : gos z p = fu (fu (fu z (5 + f) (-1)) (19 + p) (σ.1 10 p + σ.1 5 p)) 4 (sdel v p : Nat) := by
  obtain ⟨w1, w2, w3, w4, w5⟩ := h.wf
  have hr := h.F.1 p hp
  have hn := h.N p hp
  have h2 := h.ch.r hp
  have h1 : go1 z p = fu z (5 + f) (-1) := by unfold go1; rw [h.fofE hp, hf, tn5]
  have h3 : go2 z p = fu (fu z (5 + f) (-1)) (19 + p) (σ.1 10 p + σ.1 5 p) := by
    unfold go2
    rw [h1, tn19, fu_n _ _ (by omega), h.ch.btE hp, hn.2.1]
    have e : (if σ.1 5 p = 1 then (1 : Int) else 0) = σ.1 5 p := by split <;> omega
    rw [e, wrp_id (by omega) (by omega)]
  unfold gos
  rw [h3, fu_n _ _ (by omega), fu_n _ _ (by omega), hz, and_n hv hp]
theorem rel.evict (h : rel σ z) {p : Nat} (hp : p < 8) (hf : σ.1 4 p ≠ -1) : rel (tko σ p) (gos z p) := by
  obtain ⟨w1, w2, w3, w4, w5⟩ := h.wf
  have hr := h.F.1 p hp
  obtain ⟨f, hf2⟩ : ∃ f : Nat, σ.1 4 p = (f : Int) := ⟨(σ.1 4 p).toNat, by omega⟩
  obtain ⟨v, hv, hz, hb⟩ := id h.ch
  have hn := h.N p hp
  have h01 := h.ch.r hp
  rw [gos_q h hp hf2 hv hz]
  have ez : ∀ j, 27 ≤ j → fu (fu (fu z (5 + f) (-1)) (19 + p) (σ.1 10 p + σ.1 5 p)) 4 (sdel v p : Nat) j = z j := fun j hj => by
    rw [fu_n _ _ (by omega), fu_n _ _ (by omega), fu_n _ _ (by omega)]
  have e4 : ∀ j, j < 4 → fu (fu (fu z (5 + f) (-1)) (19 + p) (σ.1 10 p + σ.1 5 p)) 4 (sdel v p : Nat) j = z j := fun j hj => by
    rw [fu_n _ _ (by omega), fu_n _ _ (by omega), fu_n _ _ (by omega)]
  refine ⟨⟨wf_tko h.wf, ?_, ?_, ?_⟩, ⟨?_, ?_, ?_⟩, ⟨?_, ?_, ?_⟩, ?_, ?_, ?_⟩
  · rw [tko_2, e4 0 (by decide)]; exact h.n.1
  · rw [tko_2, e4 1 (by decide)]; exact h.n.2.1
  · rw [tko_2, e4 2 (by decide)]; exact h.n.2.2
  · rw [tko_2, tko_o _ _ (by decide) (by decide) (by decide), tko_o _ _ (by decide) (by decide) (by decide)]
    exact h.P.ext fun i _ => ⟨ez _ (by omega), ez _ (by omega)⟩
  · rw [tko_2, tko_o _ _ (by decide) (by decide) (by decide), tko_o _ _ (by decide) (by decide) (by decide)]
    exact h.D.ext fun i _ => ⟨ez _ (by omega), ez _ (by omega)⟩
  · rw [tko_2]
    exact h.C.ext fun i _ _ => ⟨ez _ (by omega), ez _ (by omega)⟩
  · rw [tko_o _ _ (by decide) (by decide) (by decide), e4 3 (by decide)]
    exact h.pin
  · refine ⟨sdel v p, sdel_lt hv hp, fu_s _ _ _, fun q hq => ?_⟩
    rw [tko_5 σ hp h01, bI_del, hb q hq]
  · rw [tko_2, tko_4 σ hp]
    have hp3 := (h.F.2.2 f p (by omega) hp).mpr hf2
    have ef : ∀ e, e < 6 → fu (fu (fu z (5 + f) (-1)) (19 + p) (σ.1 10 p + σ.1 5 p)) 4 (sdel v p : Nat) (5 + e) = if e = f then -1 else z (5 + e) := fun e he => by
      rw [fu_n _ _ (by omega), fu_n _ _ (by omega)]
      unfold fu
      by_cases c : e = f
      · rw [if_pos (by omega), if_pos c]
      · rw [if_neg (by omega), if_neg c]
    refine ⟨fun q hq => ?_, fun e he => ?_, fun e q he hq => ?_⟩
    · unfold fu
      split
      · omega
      · exact h.F.1 q hq
    · rw [ef e he]
      split
      · omega
      · exact h.F.2.1 e he
    · rw [ef e he]
      have hq3 := h.F.2.2 e q he hq
      have hq4 := h.F.2.2 e p he hp
      by_cases c : e = f
      · subst c
        rw [if_pos rfl]
        by_cases c2 : q = p
        · subst c2; rw [fu_s]; constructor <;> intro x <;> omega
        · rw [fu_n _ _ c2]
          constructor
          · intro x; omega
          · intro x
            have := hq3.mpr x
            omega
      · rw [if_neg c]
        by_cases c2 : q = p
        · subst c2
          rw [fu_s]
          constructor
          · intro x
            have := hq3.mp x
            omega
          · intro x; omega
        · rw [fu_n _ _ c2]; exact hq3
  · rw [tko_2, tko_o _ _ (by decide) (by decide) (by decide), tko_o _ _ (by decide) (by decide) (by decide)]
    exact h.L.ext fun j hj => ⟨(ez _ (by omega)).symm, (ez _ (by omega)).symm⟩
  · rw [tko_2, tko_o _ _ (by decide) (by decide) (by decide)]
    intro q hq
    have hq1 := h.N q hq
    rw [tko_5 σ hp h01, tko_10 σ hp h01 (by omega) (by omega), fu_n _ _ (by omega), fu_n _ _ (by omega), fu_n _ _ (by omega), fu_n _ _ (by omega)]
    refine ⟨hq1.1, ?_, hq1.2.2.1, hq1.2.2.2.1, ?_, ?_⟩
    · by_cases c : q = p
      · subst c; rw [fu_s, if_pos rfl]
      · rw [fu_n _ _ (by omega), fu_n _ _ (by omega), if_neg c]; exact hq1.2.1
    · split <;> omega
    · split <;> omega
  · rw [tko_2, tko_o _ _ (by decide) (by decide) (by decide)]
    exact h.K
/-- an ask is marked as done -/
theorem mkd_1 (σ : SG) {p a : Nat} (why v : Int) (hp : p < 8) (ha : a < 80) (hd : σ.2 1 = (a : Int)) (k : Nat) : (mkd σ p why v).1 k = if k = 7 then fu (σ.1 7) p a else if k = 3 then fu (σ.1 3) a v else if k = 2 then fu (σ.1 2) a why else if k = 5 then (if σ.1 1 a = 1 then fu (σ.1 5) p 1 else σ.1 5) else σ.1 k := by
  unfold mkd
  rw [hd, rg_n _ ha, rs_n _ _ hp, sS_1, sR_1, sR_1, sR_1]
  by_cases c : σ.1 1 a = 1
  · rw [if_pos c, if_pos c, rs_n _ _ hp, rs_n _ _ ha, rs_n _ _ ha]
    rfl
  · rw [if_neg c, if_neg c, rs_n _ _ hp, rs_n _ _ ha, rs_n _ _ ha]
    by_cases c5 : k = 5
    · subst c5; rfl
    · rw [if_neg c5]
theorem mk_rel (h : rel σ z) {a p : Nat} (hd : σ.2 1 < σ.2 0) (ha : σ.2 1 = (a : Int)) (hpa : σ.1 0 a = (p : Int)) (hp : p < 8) {why : Int} (v : Int) (hy0 : 0 ≤ why) (hy3 : why ≤ 3) (σ2 : SG) (z2 : Nat → Int) (e2 : σ2.2 = σ.2) (er : ∀ k, k ≠ 4 → k ≠ 8 → k ≠ 9 → σ2.1 k = σ.1 k) (ez : ∀ j, (j < 5 ∨ 19 ≤ j) → z2 j = z j) (hF : qF (σ.2 2) (σ2.1 4) z2) (h8 : ∀ q, q < 8 → σ2.1 8 q = if q = p ∧ 0 < why then (a : Int) else σ.1 8 q) (h9 : ∀ q, q < 8 → z2 (11 + q) = σ2.1 9 q ∧ 0 ≤ σ2.1 9 q ∧ σ2.1 9 q ≤ a + 1) : rel (mkd σ2 p why v) (mkm z2 a p why v) := by
  obtain ⟨w1, w2, w3, w4, w5⟩ := h.wf
  have ha8 : a < 80 := by omega
  have ed : σ2.2 1 = (a : Int) := by rw [e2, ha]
  obtain ⟨u, hu, hz, hb⟩ := id h.ch
  have hPa := h.P a (by omega)
  have hw01 := hPa.2.2.2.2
  have m2 : ∀ j, (mkd σ2 p why v).2 j = if j = 1 then (a : Int) + 1 else σ.2 j := fun j => by
    rw [mkd_2, ed, e2, wrp_id (by omega) (by omega)]
  have m1 := fun k => mkd_1 σ2 (p := p) (a := a) why v hp ha8 ed k
  -- the model's row
  obtain ⟨u', hu', hz', hb'⟩ : ∃ u' : Nat, u' < 256 ∧ iOr (z 4) (iShl (z (28 + 4 * a)) p) = u' ∧ ∀ q, q < 8 → (if σ2.1 1 a = 1 then fu (σ2.1 5) p 1 else σ2.1 5) q = bI u' q := by
    rw [er 1 (by decide) (by decide) (by decide), er 5 (by decide) (by decide) (by decide), hz, hPa.2.2.2.1]
    rcases hw01 with c | c
    · refine ⟨u, hu, ?_, fun q hq => ?_⟩
      · rw [c, or0_n hu hp]
      · rw [if_neg (by omega)]; exact hb q hq
    · refine ⟨sadd u p, sadd_lt hu hp, ?_, fun q hq => ?_⟩
      · rw [c, or_n hu hp]
      · rw [if_pos c, bI_add]
        unfold fu
        rw [hb q hq]
  have em : mkm z2 a p why v = fu (fu (fu (fu z2 4 u') (29 + 4 * a) why) (30 + 4 * a) v) 1 ((a : Int) + 1) := by
    have e1 : mk2 z2 a p why v = fu (fu (fu z2 4 u') (29 + 4 * a) why) (30 + 4 * a) v := by
      unfold mk2 mk1
      rw [tn28, tn29, tn30, ez 4 (by omega), ez _ (by omega), hz']
    unfold mkm
    rw [e1, fu_n _ _ (by omega), fu_n _ _ (by omega), fu_n _ _ (by omega), ez 1 (by omega), h.n.2.1, ha, wrp_id (by omega) (by omega)]
  have low : ∀ j, j ≠ 1 → j ≠ 4 → j < 29 → mkm z2 a p why v j = z2 j := fun j h1 h4 hj => by
    rw [em, fu_n _ _ h1, fu_n _ _ (by omega), fu_n _ _ (by omega), fu_n _ _ h4]
  have hi : ∀ i, mkm z2 a p why v (27 + 4 * i) = z (27 + 4 * i) ∧ mkm z2 a p why v (28 + 4 * i) = z (28 + 4 * i) ∧ mkm z2 a p why v (29 + 4 * i) = (if i = a then why else z (29 + 4 * i)) ∧ mkm z2 a p why v (30 + 4 * i) = if i = a then v else z (30 + 4 * i) := fun i => by
    rw [em]
    refine ⟨?_, ?_, ?_, ?_⟩
    · rw [fu_n _ _ (by omega), fu_n _ _ (by omega), fu_n _ _ (by omega), fu_n _ _ (by omega), ez _ (by omega)]
    · rw [fu_n _ _ (by omega), fu_n _ _ (by omega), fu_n _ _ (by omega), fu_n _ _ (by omega), ez _ (by omega)]
    · rw [fu_n _ _ (by omega), fu_n _ _ (by omega)]
      by_cases c : i = a
      · subst c; rw [fu_s, if_pos rfl]
      · rw [fu_n _ _ (by omega), fu_n _ _ (by omega), if_neg c, ez _ (by omega)]
    · rw [fu_n _ _ (by omega)]
      by_cases c : i = a
      · subst c; rw [fu_s, if_pos rfl]
      · rw [fu_n _ _ (by omega), fu_n _ _ (by omega), fu_n _ _ (by omega), if_neg c, ez _ (by omega)]
  have e0 := m2 0
  have e1 := m2 1
  have e2' := m2 2
  rw [if_neg (by decide)] at e0 e2'
  rw [if_pos rfl] at e1
  refine ⟨⟨?_, ?_, ?_, ?_⟩, ⟨?_, ?_, ?_⟩, ⟨?_, ?_, ?_⟩, ?_, ?_, ?_⟩
  · unfold wfS; rw [e0, e1, e2']; omega
  · rw [e0, low 0 (by decide) (by decide) (by decide), ez 0 (by omega)]; exact h.n.1
  · rw [e1, em, fu_s]
  · rw [e2', low 2 (by decide) (by decide) (by decide), ez 2 (by omega)]; exact h.n.2.2
  · rw [e0, m1 0, m1 1]
    simp only [Nat.reduceEqDiff, ↓reduceIte]
    rw [er 0 (by decide) (by decide) (by decide), er 1 (by decide) (by decide) (by decide)]
    exact h.P.ext fun i _ => ⟨(hi i).1, (hi i).2.1⟩
  · rw [e1, m1 2, m1 3]
    simp only [Nat.reduceEqDiff, ↓reduceIte]
    rw [er 2 (by decide) (by decide) (by decide), er 3 (by decide) (by decide) (by decide)]
    intro i hia
    rw [(hi i).2.2.1, (hi i).2.2.2]
    by_cases c : i = a
    · subst c; rw [if_pos rfl, if_pos rfl, fu_s, fu_s]; exact ⟨rfl, rfl, hy0, hy3⟩
    · rw [if_neg c, if_neg c, fu_n _ _ c, fu_n _ _ c]
      exact h.D i (by omega)
  · rw [e0, e1]
    intro i h1 h2
    rw [(hi i).2.2.1, (hi i).2.2.2, if_neg (by omega), if_neg (by omega)]
    exact h.C i (by omega) h2
  · rw [m1 6, low 3 (by decide) (by decide) (by decide), ez 3 (by omega)]
    simp only [Nat.reduceEqDiff, ↓reduceIte]
    rw [er 6 (by decide) (by decide) (by decide)]
    exact h.pin
  · refine ⟨u', hu', ?_, fun q hq => ?_⟩
    · rw [em, fu_n _ _ (by omega), fu_n _ _ (by omega), fu_n _ _ (by omega), fu_s]
    · rw [m1 5]
      simp only [Nat.reduceEqDiff, ↓reduceIte]
      exact hb' q hq
  · rw [e2', m1 4]
    simp only [Nat.reduceEqDiff, ↓reduceIte]
    refine ⟨hF.1, fun f hf => ?_, fun f q hf hq => ?_⟩
    · rw [low _ (by omega) (by omega) (by omega)]; exact hF.2.1 f hf
    · rw [low _ (by omega) (by omega) (by omega)]; exact hF.2.2 f q hf hq
  · rw [e1, m1 7, m1 8, show ((a : Int) + 1).toNat = a + 1 by omega]
    simp only [Nat.reduceEqDiff, ↓reduceIte]
    rw [er 7 (by decide) (by decide) (by decide)]
    intro q hq
    have hL := h.L q hq
    rw [ha, Int.toNat_natCast] at hL
    have x : ∀ rd, lat (mkm z2 a p why v) q rd (-1) 0 a = lat z q rd (-1) 0 a := fun rd => lat_ext _ _ _ _ _ fun j _ hj => ⟨(hi j).1, by rw [(hi j).2.2.1, if_neg (by omega)]⟩
    rw [lat_snoc, lat_snoc, x, x, Nat.zero_add, (hi a).1, (hi a).2.2.1, if_pos rfl, hPa.1, hpa, h8 q hq, ← hL.1, ← hL.2]
    constructor
    · unfold fu
      by_cases c : q = p
      · rw [if_pos c, if_pos ⟨by omega, Or.inl rfl⟩]
      · rw [if_neg c, if_neg (by omega)]
    · by_cases c : q = p ∧ 0 < why
      · rw [if_pos c, if_pos ⟨by omega, Or.inr c.2⟩]
      · rw [if_neg c, if_neg (by omega)]
  · rw [e1, m1 9, m1 10, m1 5]
    simp only [Nat.reduceEqDiff, ↓reduceIte]
    rw [er 10 (by decide) (by decide) (by decide)]
    intro q hq
    have hN := h.N q hq
    have h9' := h9 q hq
    have hb2 := hb' q hq
    have hb3 := bI_r u' q
    rw [low _ (by omega) (by omega) (by omega), low _ (by omega) (by omega) (by omega), ez (19 + q) (by omega)]
    refine ⟨h9'.1, hN.2.1, h9'.2.1, h9'.2.2, hN.2.2.2.2.1, ?_⟩
    have h5 := h.ch.r hq
    omega
  · rw [e2', m1 6]
    simp only [Nat.reduceEqDiff, ↓reduceIte]
    rw [er 6 (by decide) (by decide) (by decide)]
    exact h.K
theorem rel.page (h : rel σ z) (hd : σ.2 1 < σ.2 0) : ∃ a p : Nat, σ.2 1 = (a : Int) ∧ a < 80 ∧ σ.1 0 a = (p : Int) ∧ p < 8 ∧ npg z = p ∧ rg 80 (σ.1 0) (σ.2 1) = p ∧ z 1 = a := by
  obtain ⟨w1, w2, w3, w4, w5⟩ := h.wf
  have hPa := h.P (σ.2 1).toNat (by omega)
  refine ⟨(σ.2 1).toNat, (σ.1 0 (σ.2 1).toNat).toNat, by omega, by omega, by omega, by omega, ?_, ?_, ?_⟩
  · unfold npg
    rw [h.n.2.1, show (27 + 4 * σ.2 1 + 0).toNat = 27 + 4 * (σ.2 1).toNat by omega, hPa.1]
    omega
  · unfold rg
    rw [if_pos (by omega)]
    omega
  · rw [h.n.2.1]; omega
theorem rel.hit (h : rel σ z) (hd : σ.2 1 < σ.2 0) {a p : Nat} (ha : σ.2 1 = (a : Int)) (hpa : σ.1 0 a = (p : Int)) (hp : p < 8) : rel (mkd σ p 0 (-1)) (mkm z a p 0 (-1)) :=
  mk_rel h hd ha hpa hp (-1) (Int.le_refl 0) (by decide) σ z rfl (fun _ _ _ _ => rfl) (fun _ _ => rfl) h.F (fun q _ => by rw [if_neg (by omega)]) (fun q hq => by
    have e := h.N q hq
    exact ⟨e.1, e.2.2.1, by omega⟩)
theorem rel.read (h : rel σ z) (hd : σ.2 1 < σ.2 0) {a p fr : Nat} (ha : σ.2 1 = (a : Int)) (hpa : σ.1 0 a = (p : Int)) (hp : p < 8) (hm : σ.1 4 p = -1) (hfr : lef (σ.1 4) 0 (σ.2 2).toNat = (fr : Int)) {why : Int} (v : Int) (hy0 : 1 ≤ why) (hy3 : why ≤ 3) : rel (mkd (rdi σ fr p) p why v) (mkm (rdm z p) a p why v) := by
  obtain ⟨w1, w2, w3, w4, w5⟩ := h.wf
  have hN := h.N p hp
  -- the frame is there and empty
  have hfr2 : fr < 6 ∧ (fr : Int) < σ.2 2 ∧ z (5 + fr) = -1 := by
    have key : ∀ (d i : Nat), i + d ≤ (σ.2 2).toNat → lef (σ.1 4) i d = (fr : Int) → fr < i + d ∧ fo (σ.1 4) fr 0 8 = -1 := by
      intro d
      induction d with
      | zero => intro i _ e; unfold lef at e; omega
      | succ d ih =>
        intro i hi e
        unfold lef at e
        by_cases c : fo (σ.1 4) i 0 8 = -1
        · rw [if_pos c] at e
          have : i = fr := by omega
          subst this
          exact ⟨by omega, c⟩
        · rw [if_neg c] at e
          have := ih (i + 1) (by omega) e
          exact ⟨by omega, this.2⟩
    have k := key _ 0 (by omega) hfr
    exact ⟨by omega, by omega, (emp_q h.F (by omega)).mp k.2⟩
  have r1 : ∀ k, (rdi σ fr p).1 k = if k = 9 then fu (σ.1 9) p (σ.1 9 p + 1) else if k = 8 then fu (σ.1 8) p a else if k = 4 then fu (σ.1 4) p fr else σ.1 k := fun k => by
    unfold rdi
    rw [sR_1, sR_1, sR_1, rs_n _ _ hp, rs_n _ _ hp, rs_n _ _ hp, rg_n _ hp, ha, wrp_id (by omega) (by omega)]
  have z1 : rdm z p = fu (fu z (5 + fr) p) (11 + p) (σ.1 9 p + 1) := by
    have e1 : rd1 z p = fu z (5 + fr) p := by unfold rd1; rw [h.emfE, hfr, tn5]
    unfold rdm
    rw [e1, tn11, fu_n _ _ (by omega), hN.1, wrp_id (by omega) (by omega)]
  refine mk_rel h hd ha hpa hp v (by omega) hy3 (rdi σ fr p) (rdm z p) rfl (fun k h4 h8 h9 => by rw [r1, if_neg h9, if_neg h8, if_neg h4]) (fun j hj => ?_) ⟨?_, ?_, ?_⟩ (fun q hq => ?_) (fun q hq => ?_)
  · rw [z1, fu_n _ _ (by omega), fu_n _ _ (by omega)]
  · rw [r1 4]
    simp only [Nat.reduceEqDiff, ↓reduceIte]
    intro q hq
    unfold fu
    split
    · omega
    · exact h.F.1 q hq
  · intro f hf
    rw [z1, fu_n _ _ (by omega)]
    unfold fu
    split
    · omega
    · exact h.F.2.1 f hf
  · rw [r1 4]
    simp only [Nat.reduceEqDiff, ↓reduceIte]
    intro f q hf hq
    rw [z1, fu_n _ _ (by omega)]
    have e1 := h.F.2.2 f q hf hq
    by_cases c : f = fr
    · subst c
      rw [fu_s]
      by_cases c2 : q = p
      · subst c2; rw [fu_s]; simp
      · rw [fu_n _ _ c2]
        constructor
        · intro x; omega
        · intro x
          have := e1.mpr x
          omega
    · rw [fu_n _ _ (by omega)]
      by_cases c2 : q = p
      · subst c2
        rw [fu_s]
        constructor
        · intro x
          have := e1.mp x
          omega
        · intro x; omega
      · rw [fu_n _ _ c2]; exact e1
  · rw [r1 8]
    simp only [Nat.reduceEqDiff, ↓reduceIte]
    unfold fu
    by_cases c : q = p
    · rw [if_pos c, if_pos ⟨c, by omega⟩]
    · rw [if_neg c, if_neg (by omega)]
  · rw [r1 9, z1]
    simp only [↓reduceIte]
    have e := h.N q hq
    by_cases c : q = p
    · subst c; rw [fu_s, fu_s]; exact ⟨rfl, by omega, by omega⟩
    · rw [fu_n _ _ (by omega), fu_n _ _ (by omega), fu_n _ _ c]; exact ⟨e.1, e.2.2.1, by omega⟩
/-- behind a page that went the only empty frame is its own -/
theorem lef_at {g : Nat → Int} : ∀ (d i f : Nat), i ≤ f → f < i + d → fo g f 0 8 = -1 → (∀ j : Nat, i ≤ j → j < f → fo g j 0 8 ≠ -1) → lef g i d = f := by
  intro d
  induction d with
  | zero => intro i f h1 h2; omega
  | succ d ih =>
    intro i f h1 h2 h3 h4
    unfold lef
    by_cases c : i = f
    · subst c; rw [if_pos h3]
    · rw [if_neg (h4 i (Nat.le_refl _) (by omega))]
      exact ih (i + 1) f (by omega) (by omega) h3 (fun j h5 h6 => h4 j (by omega) h6)
theorem lef_tko (h : rel σ z) {b : Nat} (hb : b < 8) (hf : σ.1 4 b ≠ -1) (hl : lef (σ.1 4) 0 (σ.2 2).toNat = -1) : lef ((tko σ b).1 4) 0 (σ.2 2).toNat = σ.1 4 b := by
  obtain ⟨w1, w2, w3, w4, w5⟩ := h.wf
  have hr := h.F.1 b hb
  rw [lef_none] at hl
  obtain ⟨f, hf2⟩ : ∃ f : Nat, σ.1 4 b = (f : Int) := ⟨(σ.1 4 b).toNat, by omega⟩
  rw [hf2]
  have hbf := (h.F.2.2 f b (by omega) hb).mpr hf2
  refine lef_at _ 0 f (Nat.zero_le _) (by omega) ?_ (fun j _ hj => ?_)
  · rw [tko_4 σ hb, fo_none]
    intro q _ hq
    by_cases c : q = b
    · subst c; rw [fu_s]; omega
    · rw [fu_n _ _ c]
      intro x
      have := (h.F.2.2 f q (by omega) (by omega)).mpr x
      omega
  · have e := hl j (by omega) (by omega)
    intro x
    apply e
    rw [fo_none] at x ⊢
    intro q h1 h2
    have := x q h1 h2
    rw [tko_4 σ hb] at this
    by_cases c : q = b
    · subst c; omega
    · rw [fu_n _ _ c] at this; exact this
theorem rel.dnxE (h : rel σ z) (hd : σ.2 1 < σ.2 0) (rule : Int) (hr : rule = 0 ∨ rule = 1 ∨ rule = 2) : rel (dnx σ rule) (dnm z rule) := by
  obtain ⟨w1, w2, w3, w4, w5⟩ := id h.wf
  obtain ⟨a, p, ha, ha8, hpa, hp, e1, e2, e3⟩ := h.page hd
  unfold dnx dnm
  have d0 : ¬ σ.2 0 ≤ σ.2 1 := by omega
  rw [if_neg d0, e1, e2, h.fofE hp, rg_n _ hp, e3]
  by_cases c : σ.1 4 p = -1
  · have n1 : ¬ (σ.1 4 p ≠ -1) := fun x => x c
    rw [if_neg n1, if_neg n1, h.emfE]
    by_cases c2 : lef (σ.1 4) 0 (σ.2 2).toNat = -1
    · have n2 : ¬ (lef (σ.1 4) 0 (σ.2 2).toNat ≠ -1) := fun x => x c2
      rw [if_neg n2, if_neg n2]
      obtain ⟨b, hb8, hb, hb4, hb6, -⟩ := h.vicE rule (σ.2 1 + 1).toNat c2
      have hv : nvi z rule = b := by unfold nvi; rw [h.vbE rule _ hr, e3, ← ha, hb]
      rw [hb, hv, rg_n _ hb8, rg_n _ hb8, h.ch.btE hb8]
      have h1 := h.evict hb8 hb4
      have hrb := h.F.1 b hb8
      have hl := lef_tko h hb8 hb4 c2
      obtain ⟨f, hf2⟩ : ∃ f : Nat, σ.1 4 b = (f : Int) := ⟨(σ.1 4 b).toNat, by omega⟩
      rw [hf2]
      refine h1.read (a := a) (p := p) (fr := f) (by rw [tko_2]; exact hd) (by rw [tko_2]; exact ha) (by rw [tko_o _ _ (by decide) (by decide) (by decide)]; exact hpa) hp ?_ (by rw [tko_2, hl, hf2]) b (by split <;> omega) (by split <;> omega)
      rw [tko_4 σ hb8]
      by_cases c3 : p = b
      · subst c3; exact fu_s _ _ _
      · rw [fu_n _ _ c3]; exact c
    · have c2' : lef (σ.1 4) 0 (σ.2 2).toNat ≠ -1 := c2
      rw [if_pos c2', if_pos c2']
      obtain ⟨fr, hfr⟩ : ∃ fr : Nat, lef (σ.1 4) 0 (σ.2 2).toNat = (fr : Int) := by
        have key : ∀ (d i : Nat), lef (σ.1 4) i d = -1 ∨ ∃ fr : Nat, lef (σ.1 4) i d = (fr : Int) := by
          intro d
          induction d with
          | zero => intro i; exact Or.inl rfl
          | succ d ih =>
            intro i
            unfold lef
            split
            · exact Or.inr ⟨i, rfl⟩
            · exact ih (i + 1)
        rcases key (σ.2 2).toNat 0 with e | e
        · exact absurd e c2
        · exact e
      rw [hfr]
      exact h.read hd ha hpa hp c hfr (-1) (by decide) (by decide)
  · have c' : σ.1 4 p ≠ -1 := c
    rw [if_pos c', if_pos c']
    exact h.hit hd ha hpa hp
/-- what an ask leaves as it is, and what it counts -/
theorem mkd_o (σ : SG) (p why v : Int) {k : Nat} (h7 : k ≠ 7) (h3 : k ≠ 3) (h2 : k ≠ 2) (h5 : k ≠ 5) : (mkd σ p why v).1 k = σ.1 k := by
  unfold mkd
  rw [sS_1, sR_1, if_neg h7, sR_1, if_neg h3, sR_1, if_neg h2]
  split
  · rw [sR_1, if_neg h5]
  · rfl
theorem rdi_o (σ : SG) (fr p : Int) {k : Nat} (h4 : k ≠ 4) (h8 : k ≠ 8) (h9 : k ≠ 9) : (rdi σ fr p).1 k = σ.1 k := by
  unfold rdi
  rw [sR_1, if_neg h9, sR_1, if_neg h8, sR_1, if_neg h4]
theorem dnx_o (σ : SG) (rule : Int) {k : Nat} (hk : k = 0 ∨ k = 1 ∨ k = 6) : (dnx σ rule).1 k = σ.1 k := by
  unfold dnx
  split
  · rfl
  · split
    · rw [mkd_o _ _ _ _ (by omega) (by omega) (by omega) (by omega)]
    · split
      · rw [mkd_o _ _ _ _ (by omega) (by omega) (by omega) (by omega), rdi_o _ _ _ (by omega) (by omega) (by omega)]
      · rw [mkd_o _ _ _ _ (by omega) (by omega) (by omega) (by omega), rdi_o _ _ _ (by omega) (by omega) (by omega), tko_o _ _ (by omega) (by omega) (by omega)]
theorem dnx_count (h : rel σ z) (hd : σ.2 1 < σ.2 0) (rule : Int) (hr : rule = 0 ∨ rule = 1 ∨ rule = 2) : sm8 ((dnx σ rule).1 9) = sm8 (σ.1 9) + dnr z ∧ ∃ a : Nat, σ.2 1 = (a : Int) ∧ ∃ why : Int, (dnx σ rule).1 2 = fu (σ.1 2) a why ∧ (why = 0 ↔ dnr z = 0) := by
  obtain ⟨a, p, ha, ha8, hpa, hp, e1, e2, e3⟩ := h.page hd
  have hN := h.N p hp
  obtain ⟨w1, w2, w3, w4, w5⟩ := id h.wf
  unfold dnx dnr
  have d0 : ¬ σ.2 0 ≤ σ.2 1 := by omega
  rw [if_neg d0, e1, e2, h.fofE hp, rg_n _ hp]
  have rd9 : ∀ (σ1 : SG) (fr : Int), σ1.1 9 = σ.1 9 → sm8 ((rdi σ1 fr p).1 9) = sm8 (σ.1 9) + 1 := fun σ1 fr e => by
    unfold rdi
    rw [sR_1, if_pos rfl, e, rs_n _ _ hp, rg_n _ hp, sm8_fu _ hp, wrp_id (by omega) (by omega)]
    omega
  have m2 : ∀ (σ1 : SG) (why v : Int), σ1.2 1 = (a : Int) → (mkd σ1 p why v).1 2 = fu (σ1.1 2) a why := fun σ1 why v e => by
    rw [mkd_1 σ1 why v hp ha8 e 2]
    simp only [Nat.reduceEqDiff, ↓reduceIte]
  by_cases c : σ.1 4 p = -1
  · have n1 : ¬ (σ.1 4 p ≠ -1) := fun x => x c
    rw [if_neg n1, if_pos c]
    by_cases c2 : lef (σ.1 4) 0 (σ.2 2).toNat = -1
    · have n2 : ¬ (lef (σ.1 4) 0 (σ.2 2).toNat ≠ -1) := fun x => x c2
      rw [if_neg n2]
      refine ⟨?_, a, ha, (if rg 8 (σ.1 5) (vb σ rule (σ.2 1 + 1).toNat (-1) 0 0 8) = 1 then 3 else 2), ?_, ?_⟩
      · rw [mkd_o _ _ _ _ (by decide) (by decide) (by decide) (by decide), rd9 _ _ (tko_o _ _ (by decide) (by decide) (by decide))]
      · rw [m2 _ _ _ (by rw [rdi_2, tko_2]; exact ha), rdi_o _ _ _ (by decide) (by decide) (by decide), tko_o _ _ (by decide) (by decide) (by decide)]
      · split <;> omega
    · have c2' : lef (σ.1 4) 0 (σ.2 2).toNat ≠ -1 := c2
      rw [if_pos c2']
      refine ⟨?_, a, ha, 1, ?_, by omega⟩
      · rw [mkd_o _ _ _ _ (by decide) (by decide) (by decide) (by decide), rd9 _ _ rfl]
      · rw [m2 _ _ _ (by rw [rdi_2]; exact ha), rdi_o _ _ _ (by decide) (by decide) (by decide)]
  · have c' : σ.1 4 p ≠ -1 := c
    rw [if_pos c', if_neg c]
    refine ⟨?_, a, ha, 0, ?_, by omega⟩
    · rw [mkd_o _ _ _ _ (by decide) (by decide) (by decide) (by decide)]; omega
    · rw [m2 _ _ _ ha]
end DN
