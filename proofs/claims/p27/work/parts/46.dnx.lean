/-! ONE ASK DONE, in good states -/
def npg (σ : SG) : Nat := (σ.1 0 (σ.2 1).toNat).toNat
def nvi (σ : SG) (rule : Int) : Int := vb σ rule (σ.2 1 + 1).toNat (-1) 0 0 8
/-- what the law tells of an ask: what it brought, and 10 times the victim and 10 -/
def tdl (σ : SG) (rule : Int) : Int := if σ.1 4 (npg σ) ≠ -1 then 0 else if lef (σ.1 4) 0 (σ.2 2).toNat ≠ -1 then 1 else 10 * nvi σ rule + 10 + (if σ.1 5 (nvi σ rule).toNat = 1 then 3 else 2)
theorem co_snoc (g : Nat → Int) (v : Int) : ∀ (d i : Nat), co g v i (d + 1) = co g v i d + (if g (i + d) = v then 1 else 0) := by
  intro d
  induction d with
  | zero => intro i; simp [co]
  | succ d ih =>
    intro i
    rw [co, ih (i + 1), show i + 1 + d = i + (d + 1) by omega, co]
    omega
section DN
variable {σ : SG}
theorem tko_o (σ : SG) (p : Int) {k : Nat} (h4 : k ≠ 4) (h5 : k ≠ 5) (h10 : k ≠ 10) : (tko σ p).1 k = σ.1 k := by
  unfold tko
  rw [sR_1, if_neg h4]
  unfold wbk
  split
  · rw [sR_1, if_neg h10, sR_1, if_neg h5]
  · rfl
theorem tko_4 (σ : SG) {p : Nat} (hp : p < 8) : (tko σ p).1 4 = fu (σ.1 4) p (-1) := by
  unfold tko
  rw [sR_1, if_pos rfl, rs_n _ _ hp]
  unfold wbk
  split
  · rw [sR_1, if_neg (by decide), sR_1, if_neg (by decide)]
  · rfl
theorem tko_5 (σ : SG) {p : Nat} (hp : p < 8) (hb : σ.1 5 p = 0 ∨ σ.1 5 p = 1) (q : Nat) : (tko σ p).1 5 q = if q = p then 0 else σ.1 5 q := by
  unfold tko
  rw [sR_1, if_neg (by decide)]
  unfold wbk
  rw [rg_n _ hp]
  by_cases c : σ.1 5 p = 1
  · rw [if_pos c, sR_1, if_neg (by decide), sR_1, if_pos rfl, rs_n _ _ hp]
    rfl
  · rw [if_neg c]
    split
    · rename_i e; subst e; omega
    · rfl
theorem tko_10 (σ : SG) {p : Nat} (hp : p < 8) (hb : σ.1 5 p = 0 ∨ σ.1 5 p = 1) (h0 : 0 ≤ σ.1 10 p) (h1 : σ.1 10 p ≤ 1000) (q : Nat) : (tko σ p).1 10 q = if q = p then σ.1 10 p + σ.1 5 p else σ.1 10 q := by
  unfold tko
  rw [sR_1, if_neg (by decide)]
  unfold wbk
  rw [rg_n _ hp, rg_n _ hp]
  by_cases c : σ.1 5 p = 1
  · rw [if_pos c, sR_1, if_pos rfl, rs_n _ _ hp, wrp_id (by omega) (by omega), c]
    rfl
  · rw [if_neg c]
    split
    · rename_i e; subst e; omega
    · rfl
theorem mkd_1 (σ : SG) {p a : Nat} (why v : Int) (hp : p < 8) (ha : a < 80) (hd : σ.2 1 = (a : Int)) (k : Nat) : (mkd σ p why v).1 k = if k = 7 then fu (σ.1 7) p a else if k = 3 then fu (σ.1 3) a v else if k = 2 then fu (σ.1 2) a why else if k = 5 then (if σ.1 1 a = 1 then fu (σ.1 5) p 1 else σ.1 5) else σ.1 k := by
  unfold mkd
  rw [hd, rg_n _ ha, rs_n _ _ hp, sS_1, sR_1, sR_1, sR_1]
  by_cases c : σ.1 1 a = 1
  · rw [if_pos c, if_pos c, rs_n _ _ hp, rs_n _ _ ha, rs_n _ _ ha]
    rfl
  · rw [if_neg c, if_neg c, rs_n _ _ hp, rs_n _ _ ha, rs_n _ _ ha]
    by_cases c5 : k = 5
    · subst c5; rfl
    · rw [if_neg c5]
theorem mkd_o (σ : SG) (p why v : Int) {k : Nat} (h7 : k ≠ 7) (h3 : k ≠ 3) (h2 : k ≠ 2) (h5 : k ≠ 5) : (mkd σ p why v).1 k = σ.1 k := by
  unfold mkd
  rw [sS_1, sR_1, if_neg h7, sR_1, if_neg h3, sR_1, if_neg h2]
  split
  · rw [sR_1, if_neg h5]
  · rfl
theorem rdi_o (σ : SG) (fr p : Int) {k : Nat} (h4 : k ≠ 4) (h8 : k ≠ 8) (h9 : k ≠ 9) : (rdi σ fr p).1 k = σ.1 k := by
  unfold rdi
  rw [sR_1, if_neg h9, sR_1, if_neg h8, sR_1, if_neg h4]
theorem rdi_1 (σ : SG) (fr : Int) {p a : Nat} (hp : p < 8) (ha : σ.2 1 = (a : Int)) (h0 : 0 ≤ σ.1 9 p) (h1 : σ.1 9 p ≤ 1000) (k : Nat) : (rdi σ fr p).1 k = if k = 9 then fu (σ.1 9) p (σ.1 9 p + 1) else if k = 8 then fu (σ.1 8) p a else if k = 4 then fu (σ.1 4) p fr else σ.1 k := by
  unfold rdi
  rw [sR_1, sR_1, sR_1, rs_n _ _ hp, rs_n _ _ hp, rs_n _ _ hp, rg_n _ hp, ha, wrp_id (by omega) (by omega)]
theorem ks.page (h : ks σ) (hd : σ.2 1 < σ.2 0) : ∃ a p : Nat, σ.2 1 = (a : Int) ∧ a < 80 ∧ σ.1 0 a = (p : Int) ∧ p < 8 ∧ npg σ = p ∧ rg 80 (σ.1 0) (σ.2 1) = p := by
  obtain ⟨w1, w2, w3, w4, w5⟩ := h.wf
  have hPa := h.P (σ.2 1).toNat (by omega)
  refine ⟨(σ.2 1).toNat, (σ.1 0 (σ.2 1).toNat).toNat, by omega, by omega, by omega, by omega, rfl, ?_⟩
  unfold rg
  rw [if_pos (by omega)]
  omega
theorem dn_hit (hd : σ.2 1 < σ.2 0) {p : Nat} (hp : p < 8) (e : rg 80 (σ.1 0) (σ.2 1) = p) (c : σ.1 4 p ≠ -1) (rule : Int) : dnx σ rule = mkd σ p 0 (-1) := by
  unfold dnx
  have d0 : ¬ σ.2 0 ≤ σ.2 1 := by omega
  rw [if_neg d0, e, rg_n _ hp, if_pos c]
theorem dn_emp (hd : σ.2 1 < σ.2 0) {p fr : Nat} (hp : p < 8) (e : rg 80 (σ.1 0) (σ.2 1) = p) (c : σ.1 4 p = -1) (hl : lef (σ.1 4) 0 (σ.2 2).toNat = (fr : Int)) (rule : Int) : dnx σ rule = mkd (rdi σ fr p) p 1 (-1) := by
  unfold dnx
  have d0 : ¬ σ.2 0 ≤ σ.2 1 := by omega
  have n1 : ¬ (σ.1 4 p ≠ -1) := fun x => x c
  rw [if_neg d0, e, rg_n _ hp, if_neg n1, hl, if_pos (by omega)]
theorem dn_vic (hd : σ.2 1 < σ.2 0) {p b : Nat} (hp : p < 8) (e : rg 80 (σ.1 0) (σ.2 1) = p) (c : σ.1 4 p = -1) (hl : lef (σ.1 4) 0 (σ.2 2).toNat = -1) {rule : Int} (hb : nvi σ rule = (b : Int)) (hb8 : b < 8) : dnx σ rule = mkd (rdi (tko σ b) (σ.1 4 b) p) p (if σ.1 5 b = 1 then 3 else 2) b := by
  unfold dnx
  unfold nvi at hb
  have d0 : ¬ σ.2 0 ≤ σ.2 1 := by omega
  have n1 : ¬ (σ.1 4 p ≠ -1) := fun x => x c
  have n2 : ¬ (lef (σ.1 4) 0 (σ.2 2).toNat ≠ -1) := fun x => x hl
  rw [if_neg d0, e, rg_n _ hp, if_neg n1, if_neg n2, hb, rg_n _ hb8, rg_n _ hb8]
/-- a page goes -/
theorem ks.tkoK (h : ks σ) {p : Nat} (hp : p < 8) : ks (tko σ p) := by
  obtain ⟨w1, w2, w3, w4, w5⟩ := h.wf
  have h01 := h.ch p hp
  have hn := h.N p hp
  refine ⟨wf_tko h.wf, ?_, ⟨?_, ?_, ?_⟩, ?_, ?_, ?_⟩
  · rw [tko_2, tko_o _ _ (by decide) (by decide) (by decide), tko_o _ _ (by decide) (by decide) (by decide)]; exact h.P
  · rw [tko_o _ _ (by decide) (by decide) (by decide)]; exact h.pin
  · intro q hq
    rw [tko_5 σ hp h01]
    split
    · exact Or.inl rfl
    · exact h.ch q hq
  · rw [tko_2, tko_4 σ hp]
    refine ⟨fun q hq => ?_, fun q r hq hr e hn => ?_⟩
    · unfold fu; split
      · omega
      · exact h.F.1 q hq
    · unfold fu at e hn
      by_cases c1 : q = p
      · rw [if_pos c1] at hn; exact absurd rfl hn
      · rw [if_neg c1] at e hn
        by_cases c2 : r = p
        · rw [if_pos c2] at e; exact absurd e hn
        · rw [if_neg c2] at e; exact h.F.2 q r hq hr e hn
  · rw [tko_o _ _ (by decide) (by decide) (by decide), tko_o _ _ (by decide) (by decide) (by decide)]; exact h.L
  · rw [tko_2, tko_o _ _ (by decide) (by decide) (by decide)]
    intro q hq
    have hq1 := h.N q hq
    rw [tko_5 σ hp h01, tko_10 σ hp h01 (by omega) (by omega)]
    refine ⟨hq1.1, hq1.2.1, ?_, ?_⟩
    · split
      · rcases h01 with e | e <;> omega
      · exact hq1.2.2.1
    · split
      · omega
      · exact hq1.2.2.2
  · rw [tko_2, tko_o _ _ (by decide) (by decide) (by decide)]; exact h.K
/-- an ask is marked as done -/
theorem mk_ks (h : ks σ) (hd : σ.2 1 < σ.2 0) {a p : Nat} (ha : σ.2 1 = (a : Int)) (hp : p < 8) (why v : Int) (σ2 : SG) (e2 : σ2.2 = σ.2) (e0 : σ2.1 0 = σ.1 0) (e1 : σ2.1 1 = σ.1 1) (e6 : σ2.1 6 = σ.1 6) (e7 : σ2.1 7 = σ.1 7) (h5 : ks_01 (σ2.1 5)) (hF : ks_F (σ.2 2) (σ2.1 4)) (h8 : ∀ q, q < 8 → -1 ≤ σ2.1 8 q ∧ σ2.1 8 q ≤ 80) (h9 : ∀ q, q < 8 → 0 ≤ σ2.1 9 q ∧ σ2.1 9 q ≤ (a : Int) + 1) (h10 : ∀ q, q < 8 → 0 ≤ σ2.1 10 q ∧ σ2.1 10 q + σ2.1 5 q ≤ a) : ks (mkd σ2 p why v) := by
  obtain ⟨w1, w2, w3, w4, w5⟩ := h.wf
  have ha8 : a < 80 := by omega
  have ed : σ2.2 1 = (a : Int) := by rw [e2, ha]
  have m2 : ∀ j, (mkd σ2 p why v).2 j = if j = 1 then (a : Int) + 1 else σ.2 j := fun j => by
    rw [mkd_2, ed, e2, wrp_id (by omega) (by omega)]
  have m1 := fun k => mkd_1 σ2 (p := p) (a := a) why v hp ha8 ed k
  have f0 := m2 0
  have f1 := m2 1
  have f2 := m2 2
  rw [if_neg (by decide)] at f0 f2
  rw [if_pos rfl] at f1
  have c01 : ∀ q, q < 8 → (mkd σ2 p why v).1 5 q = 0 ∨ (mkd σ2 p why v).1 5 q = 1 := fun q hq => by
    rw [m1 5]
    simp only [Nat.reduceEqDiff, ↓reduceIte]
    split
    · unfold fu; split
      · exact Or.inr rfl
      · exact h5 q hq
    · exact h5 q hq
  refine ⟨?_, ?_, ⟨?_, c01, ?_⟩, ?_, ?_, ?_⟩
  · unfold wfS; rw [f0, f1, f2]; omega
  · rw [f0, m1 0, m1 1]
    simp only [Nat.reduceEqDiff, ↓reduceIte]
    rw [e0, e1]; exact h.P
  · rw [m1 6]
    simp only [Nat.reduceEqDiff, ↓reduceIte]
    rw [e6]; exact h.pin
  · rw [f2, m1 4]
    simp only [Nat.reduceEqDiff, ↓reduceIte]
    exact hF
  · rw [m1 7, m1 8]
    simp only [Nat.reduceEqDiff, ↓reduceIte]
    intro q hq
    have hL := h.L q hq
    have h8' := h8 q hq
    rw [e7]
    refine ⟨?_, ?_, h8'.1, h8'.2⟩ <;> (unfold fu; split <;> omega)
  · rw [f1, m1 9, m1 10]
    simp only [Nat.reduceEqDiff, ↓reduceIte]
    intro q hq
    have h9' := h9 q hq
    have h10' := h10 q hq
    have c := c01 q hq
    have d := h5 q hq
    refine ⟨h9'.1, h9'.2, h10'.1, ?_⟩
    rcases c with c | c <;> rcases d with d | d <;> omega
  · rw [f2, m1 6]
    simp only [Nat.reduceEqDiff, ↓reduceIte]
    rw [e6]; exact h.K
theorem rd_ks (h : ks σ) (hd : σ.2 1 < σ.2 0) {a p fr : Nat} (ha : σ.2 1 = (a : Int)) (hp : p < 8) (hm : σ.1 4 p = -1) (hfr : (fr : Int) < σ.2 2) (hfe : fo (σ.1 4) fr 0 8 = -1) (why v : Int) : ks (mkd (rdi σ fr p) p why v) := by
  have hN := h.N p hp
  obtain ⟨w1, w2, w3, w4, w5⟩ := h.wf
  have r1 := fun k => rdi_1 σ fr hp ha (by omega) (by omega) k
  rw [emp_q] at hfe
  refine mk_ks h hd ha hp why v (rdi σ fr p) rfl (by rw [r1]; rfl) (by rw [r1]; rfl) (by rw [r1]; rfl) (by rw [r1]; rfl) ?_ ?_ (fun q hq => ?_) (fun q hq => ?_) (fun q hq => ?_)
  · rw [r1]; exact h.ch
  · rw [r1]
    simp only [Nat.reduceEqDiff, ↓reduceIte]
    refine ⟨fun q hq => ?_, fun q r hq hr e hn => ?_⟩
    · unfold fu; split
      · omega
      · exact h.F.1 q hq
    · unfold fu at e hn
      by_cases c1 : q = p
      · rw [if_pos c1] at e hn
        by_cases c2 : r = p
        · rw [c1, c2]
        · rw [if_neg c2] at e; exact absurd e.symm (hfe r hr)
      · rw [if_neg c1] at e hn
        by_cases c2 : r = p
        · rw [if_pos c2] at e; exact absurd e (hfe q hq)
        · rw [if_neg c2] at e; exact h.F.2 q r hq hr e hn
  · rw [r1]
    simp only [Nat.reduceEqDiff, ↓reduceIte]
    have hL := h.L q hq
    unfold fu; split <;> omega
  · rw [r1]
    simp only [↓reduceIte]
    have hq1 := h.N q hq
    unfold fu; split <;> omega
  · rw [r1, r1]
    simp only [Nat.reduceEqDiff, ↓reduceIte]
    have hq1 := h.N q hq
    omega
/-- behind a page that went its frame is empty -/
theorem fo_tko (h : ks σ) {b f : Nat} (hb : b < 8) (hf : σ.1 4 b = (f : Int)) : fo ((tko σ b).1 4) f 0 8 = -1 := by
  rw [tko_4 σ hb, emp_q]
  intro q hq
  unfold fu
  split
  · omega
  · rename_i c
    intro x
    exact c (h.F.2 q b hq hb (by omega) (by omega))
theorem ks.dnxK (h : ks σ) (rule : Int) : ks (dnx σ rule) := by
  by_cases hd : σ.2 1 < σ.2 0
  · obtain ⟨a, p, ha, ha8, hpa, hp, e1, e2⟩ := h.page hd
    by_cases c : σ.1 4 p = -1
    · rcases lef_is (σ.1 4) (σ.2 2).toNat 0 with hl | ⟨fr, hl, k1, k2, k3⟩
      · obtain ⟨b, hb8, hb, hb4, hb6, -⟩ := h.vicE rule (σ.2 1 + 1).toNat hl
        have hF := h.F.1 b hb8
        obtain ⟨f, hf⟩ : ∃ f : Nat, σ.1 4 b = (f : Int) := ⟨(σ.1 4 b).toNat, by omega⟩
        rw [dn_vic hd hp e2 c hl hb hb8, hf]
        refine rd_ks (h.tkoK hb8) (by rw [tko_2]; exact hd) (by rw [tko_2]; exact ha) hp ?_ (by rw [tko_2]; omega) (fo_tko h hb8 hf) _ _
        rw [tko_4 σ hb8]
        unfold fu; split
        · rfl
        · exact c
      · rw [dn_emp hd hp e2 c hl]
        have w := h.wf.2.2.2.1
        exact rd_ks h hd ha hp c (by omega) k3 _ _
    · rw [dn_hit hd hp e2 c]
      exact mk_ks h hd ha hp 0 (-1) σ rfl rfl rfl rfl rfl h.ch h.F (fun q hq => (h.L q hq).2.2) (fun q hq => by have := h.N q hq; omega) (fun q hq => by have := h.N q hq; omega)
  · unfold dnx
    rw [if_pos (by omega)]
    exact h
theorem ks.finK (rule : Int) : ∀ (d : Nat) (σ : SG), ks σ → ks (fin σ rule d) := by
  intro d
  induction d with
  | zero => intro σ h; exact h
  | succ d ih => intro σ h; exact ih _ (h.dnxK rule)
theorem dnx_21 (hw : wfS σ) (hd : σ.2 1 < σ.2 0) (rule : Int) : (dnx σ rule).2 1 = σ.2 1 + 1 := by
  obtain ⟨w1, w2, w3, w4, w5⟩ := hw
  rw [dnx_2, if_pos ⟨rfl, hd⟩, wrp_id (by omega) (by omega)]
theorem dnx_2o (rule : Int) {j : Nat} (hj : j ≠ 1) : (dnx σ rule).2 j = σ.2 j := by
  rw [dnx_2, if_neg (fun x => hj x.1)]
theorem dnx_o (σ : SG) (rule : Int) {k : Nat} (hk : k = 0 ∨ k = 1 ∨ k = 6) : (dnx σ rule).1 k = σ.1 k := by
  unfold dnx
  split
  · rfl
  · split
    · rw [mkd_o _ _ _ _ (by omega) (by omega) (by omega) (by omega)]
    · split
      · rw [mkd_o _ _ _ _ (by omega) (by omega) (by omega) (by omega), rdi_o _ _ _ (by omega) (by omega) (by omega)]
      · rw [mkd_o _ _ _ _ (by omega) (by omega) (by omega) (by omega), rdi_o _ _ _ (by omega) (by omega) (by omega), tko_o _ _ (by omega) (by omega) (by omega)]
theorem tdl_hit {p : Nat} (e : npg σ = p) (c : σ.1 4 p ≠ -1) (rule : Int) : tdl σ rule = 0 := by
  unfold tdl; rw [e, if_pos c]
theorem tdl_emp {p fr : Nat} (e : npg σ = p) (c : σ.1 4 p = -1) (hl : lef (σ.1 4) 0 (σ.2 2).toNat = (fr : Int)) (rule : Int) : tdl σ rule = 1 := by
  have n1 : ¬ (σ.1 4 p ≠ -1) := fun x => x c
  unfold tdl; rw [e, if_neg n1, hl, if_pos (by omega)]
theorem tdl_vic {p b : Nat} (e : npg σ = p) (c : σ.1 4 p = -1) (hl : lef (σ.1 4) 0 (σ.2 2).toNat = -1) {rule : Int} (hb : nvi σ rule = (b : Int)) : tdl σ rule = 10 * b + 10 + (if σ.1 5 b = 1 then 3 else 2) := by
  have n1 : ¬ (σ.1 4 p ≠ -1) := fun x => x c
  have n2 : ¬ (lef (σ.1 4) 0 (σ.2 2).toNat ≠ -1) := fun x => x hl
  unfold tdl; rw [e, if_neg n1, if_neg n2, hb, Int.toNat_natCast]
/-- what an ask counts -/
theorem dnx_cnt (h : ks σ) (hd : σ.2 1 < σ.2 0) (rule : Int) : (0 ≤ tdl σ rule ∧ tdl σ rule ≤ 1000) ∧ sm8 ((dnx σ rule).1 9) = sm8 (σ.1 9) + (if 0 < tdl σ rule then 1 else 0) ∧ sm8 ((dnx σ rule).1 10) = sm8 (σ.1 10) + (if 9 < tdl σ rule ∧ tdl σ rule % 10 = 3 then 1 else 0) ∧ ∃ why : Int, (dnx σ rule).1 2 = fu (σ.1 2) (σ.2 1).toNat why ∧ (why = 0 ↔ tdl σ rule = 0) := by
  obtain ⟨a, p, ha, ha8, hpa, hp, e1, e2⟩ := h.page hd
  have hN := h.N p hp
  obtain ⟨w1, w2, w3, w4, w5⟩ := id h.wf
  rw [ha, Int.toNat_natCast]
  by_cases c : σ.1 4 p = -1
  · rcases lef_is (σ.1 4) (σ.2 2).toNat 0 with hl | ⟨fr, hl, k1, k2, k3⟩
    · obtain ⟨b, hb8, hb, hb4, hb6, -⟩ := h.vicE rule (σ.2 1 + 1).toNat hl
      have h01 := h.ch b hb8
      have hNb := h.N b hb8
      have ht := h.tkoK hb8
      have hNp := ht.N p hp
      have ea : (tko σ b).2 1 = (a : Int) := by rw [tko_2]; exact ha
      rw [tdl_vic e1 c hl hb, dn_vic hd hp e2 c hl hb hb8]
      have r1 := fun k => rdi_1 (tko σ b) (σ.1 4 b) hp ea (by omega) (by omega) k
      refine ⟨by split <;> omega, ?_, ?_, (if σ.1 5 b = 1 then 3 else 2), ?_, by split <;> omega⟩
      · rw [mkd_o _ _ _ _ (by decide) (by decide) (by decide) (by decide), r1, if_pos rfl, sm8_fu _ hp, tko_o _ _ (by decide) (by decide) (by decide), if_pos (by split <;> omega)]
        omega
      · rw [mkd_o _ _ _ _ (by decide) (by decide) (by decide) (by decide), rdi_o _ _ _ (by decide) (by decide) (by decide)]
        have x : sm8 ((tko σ b).1 10) = sm8 (fu (σ.1 10) b (σ.1 10 b + σ.1 5 b)) := sm8_ext fun q hq => by
          rw [tko_10 σ hb8 h01 (by omega) (by omega)]; rfl
        rw [x, sm8_fu _ hb8]
        rcases h01 with e | e
        · rw [e, if_neg (by omega)]; omega
        · rw [e, if_pos rfl, if_pos (by omega)]; omega
      · rw [mkd_1 _ _ _ hp ha8 (by rw [rdi_2, tko_2]; exact ha)]
        simp only [Nat.reduceEqDiff, ↓reduceIte]
        rw [rdi_o _ _ _ (by decide) (by decide) (by decide), tko_o _ _ (by decide) (by decide) (by decide)]
    · rw [tdl_emp e1 c hl, dn_emp hd hp e2 c hl]
      have r1 := fun k => rdi_1 σ fr hp ha (by omega) (by omega) k
      refine ⟨by omega, ?_, ?_, 1, ?_, by omega⟩
      · rw [mkd_o _ _ _ _ (by decide) (by decide) (by decide) (by decide), r1, if_pos rfl, sm8_fu _ hp, if_pos (by decide)]
        omega
      · rw [mkd_o _ _ _ _ (by decide) (by decide) (by decide) (by decide), rdi_o _ _ _ (by decide) (by decide) (by decide), if_neg (by decide)]
        omega
      · rw [mkd_1 _ _ _ hp ha8 (by rw [rdi_2]; exact ha)]
        simp only [Nat.reduceEqDiff, ↓reduceIte]
        rw [rdi_o _ _ _ (by decide) (by decide) (by decide)]
  · rw [tdl_hit e1 c, dn_hit hd hp e2 c]
    refine ⟨by omega, ?_, ?_, 0, ?_, by omega⟩
    · rw [mkd_o _ _ _ _ (by decide) (by decide) (by decide) (by decide), if_neg (by decide)]; omega
    · rw [mkd_o _ _ _ _ (by decide) (by decide) (by decide) (by decide), if_neg (by decide)]; omega
    · rw [mkd_1 _ _ _ hp ha8 ha]
      simp only [Nat.reduceEqDiff, ↓reduceIte]
end DN
