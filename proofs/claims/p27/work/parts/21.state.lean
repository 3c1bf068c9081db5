/-! A STATE IN THE HEAP: rows as functions, three numbers -/
abbrev SG : Type := (Nat → Nat → Int) × (Nat → Int)
def ru (R : Nat → Nat → Int) (k : Nat) (g : Nat → Int) : Nat → Nat → Int := fun j => if j = k then g else R j
def sR (σ : SG) (k : Nat) (g : Nat → Int) : SG := (ru σ.1 k g, σ.2)
def sS (σ : SG) (k : Nat) (v : Int) : SG := (σ.1, fu σ.2 k v)
theorem sR_1 (σ : SG) (k j : Nat) (g : Nat → Int) : (sR σ k g).1 j = if j = k then g else σ.1 j := rfl
theorem sR_2 (σ : SG) (k : Nat) (g : Nat → Int) : (sR σ k g).2 = σ.2 := rfl
theorem sS_1 (σ : SG) (k : Nat) (v : Int) : (sS σ k v).1 = σ.1 := rfl
theorem sS_2 (σ : SG) (k j : Nat) (v : Int) : (sS σ k v).2 j = if j = k then v else σ.2 j := rfl
def rlen (k : Nat) : Nat := if k < 4 then 80 else 8
def stC (b : Nat) (σ : SG) (o : Nat) : AC := if o = 0 then oC 1 [vr (b + 1), vr (b + 3), vr (b + 5), vr (b + 7), vi (σ.2 0), vi (σ.2 1), vi (σ.2 2), vr (b + 9), vr (b + 11), vr (b + 13), vr (b + 15), vr (b + 17), vr (b + 19), vr (b + 21)] else if o % 2 = 1 then oC 0 [vr (b + (o + 1))] else iC (tab (rlen (o / 2 - 1)) (σ.1 (o / 2 - 1)))
def putS (f : AH) (b : Nat) (σ : SG) : AH := fun a => if b ≤ a ∧ a < b + 23 then some (stC b σ (a - b)) else f a
theorem putS_in (f : AH) (b : Nat) (σ : SG) {o : Nat} (h : o < 23) : putS f b σ (b + o) = some (stC b σ o) := by
  unfold putS
  rw [if_pos (by omega), Nat.add_sub_cancel_left]
theorem putS_0 (f : AH) (b : Nat) (σ : SG) : putS f b σ b = some (stC b σ 0) := putS_in f b σ (o := 0) (by omega)
theorem putS_out (f : AH) {b a : Nat} (σ : SG) (h : a < b ∨ b + 23 ≤ a) : putS f b σ a = f a := by
  unfold putS
  rw [if_neg (by omega)]
theorem putS_putS (f : AH) (b : Nat) (σ τ : SG) : putS (putS f b σ) b τ = putS f b τ := by
  funext a; unfold putS; split <;> rfl
theorem putS_comm (f : AH) {b d : Nat} (σ τ : SG) (h : b + 23 ≤ d ∨ d + 23 ≤ b) : putS (putS f b σ) d τ = putS (putS f d τ) b σ := by
  funext a; unfold putS
  by_cases h1 : b ≤ a ∧ a < b + 23
  · rw [if_neg (by omega), if_pos h1, if_pos h1]
  · rw [if_neg h1]
    by_cases h2 : d ≤ a ∧ a < d + 23
    · rw [if_pos h2, if_neg h1]
    · rw [if_neg h2, if_neg h1]
theorem aup_putS (f : AH) {b a : Nat} (σ : SG) (c : AC) (h : a < b ∨ b + 23 ≤ a) : aup (putS f b σ) a c = putS (aup f a c) b σ := by
  funext d; unfold aup putS
  by_cases h1 : d = a
  · subst h1
    have hn : ¬ (b ≤ d ∧ d < b + 23) := by omega
    simp [hn]
  · dsimp only; rw [if_neg h1, if_neg h1]
theorem stC_row (b : Nat) (σ : SG) {k : Nat} : stC b σ (2 + 2 * k) = iC (tab (rlen k) (σ.1 k)) := by
  unfold stC
  rw [if_neg (by omega), if_neg (by omega), show (2 + 2 * k) / 2 - 1 = k by omega]
theorem stC_obj (b : Nat) (σ : SG) {k : Nat} : stC b σ (1 + 2 * k) = oC 0 [vr (b + (2 + 2 * k))] := by
  unfold stC
  rw [if_neg (by omega), if_pos (by omega), show 1 + 2 * k + 1 = 2 + 2 * k by omega]
theorem pS_row (f : AH) {b : Nat} (σ : SG) (hb : b ≠ 0) {k : Nat} (hk : k < 11) : rowAt (putS f b σ) (b + (1 + 2 * k)) (b + (2 + 2 * k)) (rlen k) (σ.1 k) := by
  refine ⟨?_, ?_, by omega, by omega, ?_⟩
  · rw [putS_in f b σ (by omega), stC_obj]
  · rw [putS_in f b σ (by omega), stC_row]
  · unfold rlen; split <;> omega
theorem stC_ru (b : Nat) (σ : SG) (k : Nat) (g : Nat → Int) {o : Nat} (h : o ≠ 2 + 2 * k) : stC b (sR σ k g) o = stC b σ o := by
  unfold stC
  by_cases h0 : o = 0
  · rw [if_pos h0, if_pos h0]; rfl
  · rw [if_neg h0, if_neg h0]
    by_cases h1 : o % 2 = 1
    · rw [if_pos h1, if_pos h1]
    · rw [if_neg h1, if_neg h1, sR_1, if_neg (by omega)]
theorem aup_row (f : AH) (b : Nat) (σ : SG) {k : Nat} (hk : k < 11) (g : Nat → Int) : aup (putS f b σ) (b + (2 + 2 * k)) (iC (tab (rlen k) g)) = putS f b (sR σ k g) := by
  funext a
  by_cases h1 : a = b + (2 + 2 * k)
  · subst h1
    rw [aup_same, putS_in f b _ (by omega), stC_row, sR_1, if_pos rfl]
  · rw [aup_ne _ _ h1]
    by_cases h2 : b ≤ a ∧ a < b + 23
    · obtain ⟨o, rfl⟩ : ∃ o, a = b + o := ⟨a - b, by omega⟩
      rw [putS_in f b _ (by omega), putS_in f b _ (by omega), stC_ru b σ k g (by omega)]
    · rw [putS_out f _ (by omega), putS_out f _ (by omega)]
theorem pS_o (f : AH) (b : Nat) (σ : SG) : isO (putS f b σ) b 1 = true := by
  unfold isO
  rw [putS_0]
  rfl
theorem pS_gf (f : AH) (b : Nat) (σ : SG) (k : Nat) : gf (putS f b σ) b 1 k = ([vr (b + 1), vr (b + 3), vr (b + 5), vr (b + 7), vi (σ.2 0), vi (σ.2 1), vi (σ.2 2), vr (b + 9), vr (b + 11), vr (b + 13), vr (b + 15), vr (b + 17), vr (b + 19), vr (b + 21)] : List AV)[k]? := by
  unfold gf
  rw [putS_0]
  rfl
theorem stC_ss (b : Nat) (σ : SG) (k : Nat) (v : Int) {o : Nat} (h : o ≠ 0) : stC b (sS σ k v) o = stC b σ o := by
  unfold stC
  rw [if_neg h, if_neg h]
  rfl
theorem putS_s (f : AH) (b : Nat) (σ : SG) (k : Nat) (v : Int) (c : AC) (h : c = stC b (sS σ k v) 0) : aup (putS f b σ) b c = putS f b (sS σ k v) := by
  subst h
  funext a
  by_cases h1 : a = b
  · subst h1
    rw [aup_same, putS_0]
  · rw [aup_ne _ _ h1]
    by_cases h2 : b ≤ a ∧ a < b + 23
    · obtain ⟨o, rfl⟩ : ∃ o, a = b + o := ⟨a - b, by omega⟩
      rw [putS_in f b _ (by omega), putS_in f b _ (by omega), stC_ss b σ k v (by omega)]
    · rw [putS_out f _ (by omega), putS_out f _ (by omega)]
theorem pS_f0 (f : AH) (b : Nat) (σ : SG) : gf (putS f b σ) b 1 0 = some (vr (b + 1)) := pS_gf f b σ 0
theorem pS_f1 (f : AH) (b : Nat) (σ : SG) : gf (putS f b σ) b 1 1 = some (vr (b + 3)) := pS_gf f b σ 1
theorem pS_f2 (f : AH) (b : Nat) (σ : SG) : gf (putS f b σ) b 1 2 = some (vr (b + 5)) := pS_gf f b σ 2
theorem pS_f3 (f : AH) (b : Nat) (σ : SG) : gf (putS f b σ) b 1 3 = some (vr (b + 7)) := pS_gf f b σ 3
theorem pS_f4 (f : AH) (b : Nat) (σ : SG) : gf (putS f b σ) b 1 4 = some (vi (σ.2 0)) := pS_gf f b σ 4
theorem pS_f5 (f : AH) (b : Nat) (σ : SG) : gf (putS f b σ) b 1 5 = some (vi (σ.2 1)) := pS_gf f b σ 5
theorem pS_f6 (f : AH) (b : Nat) (σ : SG) : gf (putS f b σ) b 1 6 = some (vi (σ.2 2)) := pS_gf f b σ 6
theorem pS_f7 (f : AH) (b : Nat) (σ : SG) : gf (putS f b σ) b 1 7 = some (vr (b + 9)) := pS_gf f b σ 7
theorem pS_f8 (f : AH) (b : Nat) (σ : SG) : gf (putS f b σ) b 1 8 = some (vr (b + 11)) := pS_gf f b σ 8
theorem pS_f9 (f : AH) (b : Nat) (σ : SG) : gf (putS f b σ) b 1 9 = some (vr (b + 13)) := pS_gf f b σ 9
theorem pS_f10 (f : AH) (b : Nat) (σ : SG) : gf (putS f b σ) b 1 10 = some (vr (b + 15)) := pS_gf f b σ 10
theorem pS_f11 (f : AH) (b : Nat) (σ : SG) : gf (putS f b σ) b 1 11 = some (vr (b + 17)) := pS_gf f b σ 11
theorem pS_f12 (f : AH) (b : Nat) (σ : SG) : gf (putS f b σ) b 1 12 = some (vr (b + 19)) := pS_gf f b σ 12
theorem pS_f13 (f : AH) (b : Nat) (σ : SG) : gf (putS f b σ) b 1 13 = some (vr (b + 21)) := pS_gf f b σ 13
theorem pS_p0 (f : AH) (b : Nat) (σ : SG) (v : Int) : pf (putS f b σ) b 1 4 (vi v) = some (putS f b (sS σ 0 v)) := by
  unfold pf
  rw [putS_0]
  exact congrArg some (putS_s f b σ 0 v _ rfl)
theorem pS_p1 (f : AH) (b : Nat) (σ : SG) (v : Int) : pf (putS f b σ) b 1 5 (vi v) = some (putS f b (sS σ 1 v)) := by
  unfold pf
  rw [putS_0]
  exact congrArg some (putS_s f b σ 1 v _ rfl)
theorem pS_p2 (f : AH) (b : Nat) (σ : SG) (v : Int) : pf (putS f b σ) b 1 6 (vi v) = some (putS f b (sS σ 2 v)) := by
  unfold pf
  rw [putS_0]
  exact congrArg some (putS_s f b σ 2 v _ rfl)
section SI
variable {xs : List Int} {f : AH} {b : Nat} {σ : SG} {μ : Mu} {y pc : Nat} {L st : List AV} {Q : Out → Mu → AH → Prop}
theorem pR_0 (hb : b ≠ 0) : rowAt (putS f b σ) (b + 1) (b + 2) 80 (σ.1 0) := pS_row f σ hb (k := 0) (by omega)
theorem aR_0 (g : Nat → Int) : aup (putS f b σ) (b + 2) (iC (tab 80 g)) = putS f b (sR σ 0 g) := aup_row f b σ (k := 0) (by omega) g
theorem S_get_0 (hb : b ≠ 0) {i : Int} : WpI xs (isO (putS f b σ) (b + 1) 0) (b + 1) 4 [vr (b + 1), vi i] y pc L st μ (putS f b σ) Q = Wp xs y pc L (vi (rg 80 (σ.1 0) i) :: st) μ (putS f b σ) Q := cI_v (get_runs (pR_0 hb) i) (pR_0 hb).o (by omega) y pc L st Q
theorem S_set_0 (hb : b ≠ 0) {i v : Int} : WpI xs (isO (putS f b σ) (b + 1) 0) (b + 1) 5 [vr (b + 1), vi i, vi v] y pc L st μ (putS f b σ) Q = Wp xs y pc L st μ (putS f b (sR σ 0 (rs 80 (σ.1 0) i v))) Q := by
  rw [cI_n (set_runs (pR_0 hb) i v) (pR_0 hb).o (by omega) y pc L st Q, aR_0]
theorem S_fo_0 (hb : b ≠ 0) {v a e : Int} (h0 : 0 ≤ a) (h1 : a ≤ 100000) (h2 : 0 ≤ e) : WpI xs (isO (putS f b σ) (b + 1) 0) (b + 1) 6 [vr (b + 1), vi v, vi a, vi e] y pc L st μ (putS f b σ) Q = Wp xs y pc L (vi (fo (σ.1 0) v a.toNat (min e.toNat 80 - a.toNat)) :: st) μ (putS f b σ) Q := by
  have h := cI_v (first_runs (xs := xs) (μ := μ) (pR_0 (f := f) (σ := σ) hb) v a.toNat e.toNat (by omega)) (pR_0 hb).o (by omega) y pc L st Q
  rw [Int.toNat_of_nonneg h0, Int.toNat_of_nonneg h2] at h
  exact h
theorem S_co_0 (hb : b ≠ 0) {v a e : Int} (h0 : 0 ≤ a) (h1 : a ≤ 100000) (h2 : 0 ≤ e) : WpI xs (isO (putS f b σ) (b + 1) 0) (b + 1) 7 [vr (b + 1), vi v, vi a, vi e] y pc L st μ (putS f b σ) Q = Wp xs y pc L (vi (co (σ.1 0) v a.toNat (min e.toNat 80 - a.toNat)) :: st) μ (putS f b σ) Q := by
  have h := cI_v (count_runs (xs := xs) (μ := μ) (pR_0 (f := f) (σ := σ) hb) v a.toNat e.toNat (by omega)) (pR_0 hb).o (by omega) y pc L st Q
  rw [Int.toNat_of_nonneg h0, Int.toNat_of_nonneg h2] at h
  exact h
theorem S_op_0 (hb : b ≠ 0) {p v : Int} (h0 : 0 ≤ p) (h1 : p < 80) : WpI xs (isO (putS f b σ) (b + 1) 0) (b + 1) 9 [vr (b + 1), vi p, vi v] y pc L st μ (putS f b σ) Q = Wp xs y pc L st μ (putS f b (sR σ 0 (opn (σ.1 0) p.toNat v))) Q := by
  have h := cI_n (open_runs (xs := xs) (μ := μ) (pR_0 (f := f) (σ := σ) hb) p.toNat v (by omega)) (pR_0 hb).o (by omega) y pc L st Q
  rw [Int.toNat_of_nonneg h0, aR_0] at h
  exact h
theorem S_cl_0 (hb : b ≠ 0) {p : Int} (h0 : 0 ≤ p) (h1 : p < 80) : WpI xs (isO (putS f b σ) (b + 1) 0) (b + 1) 8 [vr (b + 1), vi p] y pc L st μ (putS f b σ) Q = Wp xs y pc L st μ (putS f b (sR σ 0 (cls (σ.1 0) p.toNat 80))) Q := by
  have h := cI_n (close_runs (xs := xs) (μ := μ) (pR_0 (f := f) (σ := σ) hb) p.toNat (by omega)) (pR_0 hb).o (by omega) y pc L st Q
  rw [Int.toNat_of_nonneg h0, aR_0] at h
  exact h
theorem S_sw_0 (hb : b ≠ 0) {i j : Int} : WpI xs (isO (putS f b σ) (b + 1) 0) (b + 1) 10 [vr (b + 1), vi i, vi j] y pc L st μ (putS f b σ) Q = Wp xs y pc L st μ (putS f b (sR σ 0 (rs 80 (rs 80 (σ.1 0) i (rg 80 (σ.1 0) j)) j (rg 80 (σ.1 0) i)))) Q := by
  rw [cI_n (swap_runs (pR_0 hb) i j) (pR_0 hb).o (by omega) y pc L st Q, aR_0]
theorem pR_1 (hb : b ≠ 0) : rowAt (putS f b σ) (b + 3) (b + 4) 80 (σ.1 1) := pS_row f σ hb (k := 1) (by omega)
theorem aR_1 (g : Nat → Int) : aup (putS f b σ) (b + 4) (iC (tab 80 g)) = putS f b (sR σ 1 g) := aup_row f b σ (k := 1) (by omega) g
theorem S_get_1 (hb : b ≠ 0) {i : Int} : WpI xs (isO (putS f b σ) (b + 3) 0) (b + 3) 4 [vr (b + 3), vi i] y pc L st μ (putS f b σ) Q = Wp xs y pc L (vi (rg 80 (σ.1 1) i) :: st) μ (putS f b σ) Q := cI_v (get_runs (pR_1 hb) i) (pR_1 hb).o (by omega) y pc L st Q
theorem S_set_1 (hb : b ≠ 0) {i v : Int} : WpI xs (isO (putS f b σ) (b + 3) 0) (b + 3) 5 [vr (b + 3), vi i, vi v] y pc L st μ (putS f b σ) Q = Wp xs y pc L st μ (putS f b (sR σ 1 (rs 80 (σ.1 1) i v))) Q := by
  rw [cI_n (set_runs (pR_1 hb) i v) (pR_1 hb).o (by omega) y pc L st Q, aR_1]
theorem S_op_1 (hb : b ≠ 0) {p v : Int} (h0 : 0 ≤ p) (h1 : p < 80) : WpI xs (isO (putS f b σ) (b + 3) 0) (b + 3) 9 [vr (b + 3), vi p, vi v] y pc L st μ (putS f b σ) Q = Wp xs y pc L st μ (putS f b (sR σ 1 (opn (σ.1 1) p.toNat v))) Q := by
  have h := cI_n (open_runs (xs := xs) (μ := μ) (pR_1 (f := f) (σ := σ) hb) p.toNat v (by omega)) (pR_1 hb).o (by omega) y pc L st Q
  rw [Int.toNat_of_nonneg h0, aR_1] at h
  exact h
theorem S_cl_1 (hb : b ≠ 0) {p : Int} (h0 : 0 ≤ p) (h1 : p < 80) : WpI xs (isO (putS f b σ) (b + 3) 0) (b + 3) 8 [vr (b + 3), vi p] y pc L st μ (putS f b σ) Q = Wp xs y pc L st μ (putS f b (sR σ 1 (cls (σ.1 1) p.toNat 80))) Q := by
  have h := cI_n (close_runs (xs := xs) (μ := μ) (pR_1 (f := f) (σ := σ) hb) p.toNat (by omega)) (pR_1 hb).o (by omega) y pc L st Q
  rw [Int.toNat_of_nonneg h0, aR_1] at h
  exact h
theorem S_sw_1 (hb : b ≠ 0) {i j : Int} : WpI xs (isO (putS f b σ) (b + 3) 0) (b + 3) 10 [vr (b + 3), vi i, vi j] y pc L st μ (putS f b σ) Q = Wp xs y pc L st μ (putS f b (sR σ 1 (rs 80 (rs 80 (σ.1 1) i (rg 80 (σ.1 1) j)) j (rg 80 (σ.1 1) i)))) Q := by
  rw [cI_n (swap_runs (pR_1 hb) i j) (pR_1 hb).o (by omega) y pc L st Q, aR_1]
theorem pR_2 (hb : b ≠ 0) : rowAt (putS f b σ) (b + 5) (b + 6) 80 (σ.1 2) := pS_row f σ hb (k := 2) (by omega)
theorem aR_2 (g : Nat → Int) : aup (putS f b σ) (b + 6) (iC (tab 80 g)) = putS f b (sR σ 2 g) := aup_row f b σ (k := 2) (by omega) g
theorem S_get_2 (hb : b ≠ 0) {i : Int} : WpI xs (isO (putS f b σ) (b + 5) 0) (b + 5) 4 [vr (b + 5), vi i] y pc L st μ (putS f b σ) Q = Wp xs y pc L (vi (rg 80 (σ.1 2) i) :: st) μ (putS f b σ) Q := cI_v (get_runs (pR_2 hb) i) (pR_2 hb).o (by omega) y pc L st Q
theorem S_set_2 (hb : b ≠ 0) {i v : Int} : WpI xs (isO (putS f b σ) (b + 5) 0) (b + 5) 5 [vr (b + 5), vi i, vi v] y pc L st μ (putS f b σ) Q = Wp xs y pc L st μ (putS f b (sR σ 2 (rs 80 (σ.1 2) i v))) Q := by
  rw [cI_n (set_runs (pR_2 hb) i v) (pR_2 hb).o (by omega) y pc L st Q, aR_2]
theorem S_co_2 (hb : b ≠ 0) {v a e : Int} (h0 : 0 ≤ a) (h1 : a ≤ 100000) (h2 : 0 ≤ e) : WpI xs (isO (putS f b σ) (b + 5) 0) (b + 5) 7 [vr (b + 5), vi v, vi a, vi e] y pc L st μ (putS f b σ) Q = Wp xs y pc L (vi (co (σ.1 2) v a.toNat (min e.toNat 80 - a.toNat)) :: st) μ (putS f b σ) Q := by
  have h := cI_v (count_runs (xs := xs) (μ := μ) (pR_2 (f := f) (σ := σ) hb) v a.toNat e.toNat (by omega)) (pR_2 hb).o (by omega) y pc L st Q
  rw [Int.toNat_of_nonneg h0, Int.toNat_of_nonneg h2] at h
  exact h
theorem pR_3 (hb : b ≠ 0) : rowAt (putS f b σ) (b + 7) (b + 8) 80 (σ.1 3) := pS_row f σ hb (k := 3) (by omega)
theorem aR_3 (g : Nat → Int) : aup (putS f b σ) (b + 8) (iC (tab 80 g)) = putS f b (sR σ 3 g) := aup_row f b σ (k := 3) (by omega) g
theorem S_get_3 (hb : b ≠ 0) {i : Int} : WpI xs (isO (putS f b σ) (b + 7) 0) (b + 7) 4 [vr (b + 7), vi i] y pc L st μ (putS f b σ) Q = Wp xs y pc L (vi (rg 80 (σ.1 3) i) :: st) μ (putS f b σ) Q := cI_v (get_runs (pR_3 hb) i) (pR_3 hb).o (by omega) y pc L st Q
theorem S_set_3 (hb : b ≠ 0) {i v : Int} : WpI xs (isO (putS f b σ) (b + 7) 0) (b + 7) 5 [vr (b + 7), vi i, vi v] y pc L st μ (putS f b σ) Q = Wp xs y pc L st μ (putS f b (sR σ 3 (rs 80 (σ.1 3) i v))) Q := by
  rw [cI_n (set_runs (pR_3 hb) i v) (pR_3 hb).o (by omega) y pc L st Q, aR_3]
theorem pR_4 (hb : b ≠ 0) : rowAt (putS f b σ) (b + 9) (b + 10) 8 (σ.1 4) := pS_row f σ hb (k := 4) (by omega)
theorem aR_4 (g : Nat → Int) : aup (putS f b σ) (b + 10) (iC (tab 8 g)) = putS f b (sR σ 4 g) := aup_row f b σ (k := 4) (by omega) g
theorem S_get_4 (hb : b ≠ 0) {i : Int} : WpI xs (isO (putS f b σ) (b + 9) 0) (b + 9) 4 [vr (b + 9), vi i] y pc L st μ (putS f b σ) Q = Wp xs y pc L (vi (rg 8 (σ.1 4) i) :: st) μ (putS f b σ) Q := cI_v (get_runs (pR_4 hb) i) (pR_4 hb).o (by omega) y pc L st Q
theorem S_set_4 (hb : b ≠ 0) {i v : Int} : WpI xs (isO (putS f b σ) (b + 9) 0) (b + 9) 5 [vr (b + 9), vi i, vi v] y pc L st μ (putS f b σ) Q = Wp xs y pc L st μ (putS f b (sR σ 4 (rs 8 (σ.1 4) i v))) Q := by
  rw [cI_n (set_runs (pR_4 hb) i v) (pR_4 hb).o (by omega) y pc L st Q, aR_4]
theorem S_fo_4 (hb : b ≠ 0) {v a e : Int} (h0 : 0 ≤ a) (h1 : a ≤ 100000) (h2 : 0 ≤ e) : WpI xs (isO (putS f b σ) (b + 9) 0) (b + 9) 6 [vr (b + 9), vi v, vi a, vi e] y pc L st μ (putS f b σ) Q = Wp xs y pc L (vi (fo (σ.1 4) v a.toNat (min e.toNat 8 - a.toNat)) :: st) μ (putS f b σ) Q := by
  have h := cI_v (first_runs (xs := xs) (μ := μ) (pR_4 (f := f) (σ := σ) hb) v a.toNat e.toNat (by omega)) (pR_4 hb).o (by omega) y pc L st Q
  rw [Int.toNat_of_nonneg h0, Int.toNat_of_nonneg h2] at h
  exact h
theorem S_co_4 (hb : b ≠ 0) {v a e : Int} (h0 : 0 ≤ a) (h1 : a ≤ 100000) (h2 : 0 ≤ e) : WpI xs (isO (putS f b σ) (b + 9) 0) (b + 9) 7 [vr (b + 9), vi v, vi a, vi e] y pc L st μ (putS f b σ) Q = Wp xs y pc L (vi (co (σ.1 4) v a.toNat (min e.toNat 8 - a.toNat)) :: st) μ (putS f b σ) Q := by
  have h := cI_v (count_runs (xs := xs) (μ := μ) (pR_4 (f := f) (σ := σ) hb) v a.toNat e.toNat (by omega)) (pR_4 hb).o (by omega) y pc L st Q
  rw [Int.toNat_of_nonneg h0, Int.toNat_of_nonneg h2] at h
  exact h
theorem pR_5 (hb : b ≠ 0) : rowAt (putS f b σ) (b + 11) (b + 12) 8 (σ.1 5) := pS_row f σ hb (k := 5) (by omega)
theorem aR_5 (g : Nat → Int) : aup (putS f b σ) (b + 12) (iC (tab 8 g)) = putS f b (sR σ 5 g) := aup_row f b σ (k := 5) (by omega) g
theorem S_get_5 (hb : b ≠ 0) {i : Int} : WpI xs (isO (putS f b σ) (b + 11) 0) (b + 11) 4 [vr (b + 11), vi i] y pc L st μ (putS f b σ) Q = Wp xs y pc L (vi (rg 8 (σ.1 5) i) :: st) μ (putS f b σ) Q := cI_v (get_runs (pR_5 hb) i) (pR_5 hb).o (by omega) y pc L st Q
theorem S_set_5 (hb : b ≠ 0) {i v : Int} : WpI xs (isO (putS f b σ) (b + 11) 0) (b + 11) 5 [vr (b + 11), vi i, vi v] y pc L st μ (putS f b σ) Q = Wp xs y pc L st μ (putS f b (sR σ 5 (rs 8 (σ.1 5) i v))) Q := by
  rw [cI_n (set_runs (pR_5 hb) i v) (pR_5 hb).o (by omega) y pc L st Q, aR_5]
theorem S_sm_5 (hb : b ≠ 0) : WpI xs (isO (putS f b σ) (b + 11) 0) (b + 11) 3 [vr (b + 11)] y pc L st μ (putS f b σ) Q = Wp xs y pc L (vi (sm 0 (σ.1 5) 0 8) :: st) μ (putS f b σ) Q := cI_v (sum_runs (pR_5 hb)) (pR_5 hb).o (by omega) y pc L st Q
theorem pR_6 (hb : b ≠ 0) : rowAt (putS f b σ) (b + 13) (b + 14) 8 (σ.1 6) := pS_row f σ hb (k := 6) (by omega)
theorem aR_6 (g : Nat → Int) : aup (putS f b σ) (b + 14) (iC (tab 8 g)) = putS f b (sR σ 6 g) := aup_row f b σ (k := 6) (by omega) g
theorem S_get_6 (hb : b ≠ 0) {i : Int} : WpI xs (isO (putS f b σ) (b + 13) 0) (b + 13) 4 [vr (b + 13), vi i] y pc L st μ (putS f b σ) Q = Wp xs y pc L (vi (rg 8 (σ.1 6) i) :: st) μ (putS f b σ) Q := cI_v (get_runs (pR_6 hb) i) (pR_6 hb).o (by omega) y pc L st Q
theorem S_set_6 (hb : b ≠ 0) {i v : Int} : WpI xs (isO (putS f b σ) (b + 13) 0) (b + 13) 5 [vr (b + 13), vi i, vi v] y pc L st μ (putS f b σ) Q = Wp xs y pc L st μ (putS f b (sR σ 6 (rs 8 (σ.1 6) i v))) Q := by
  rw [cI_n (set_runs (pR_6 hb) i v) (pR_6 hb).o (by omega) y pc L st Q, aR_6]
theorem S_sm_6 (hb : b ≠ 0) : WpI xs (isO (putS f b σ) (b + 13) 0) (b + 13) 3 [vr (b + 13)] y pc L st μ (putS f b σ) Q = Wp xs y pc L (vi (sm 0 (σ.1 6) 0 8) :: st) μ (putS f b σ) Q := cI_v (sum_runs (pR_6 hb)) (pR_6 hb).o (by omega) y pc L st Q
theorem pR_7 (hb : b ≠ 0) : rowAt (putS f b σ) (b + 15) (b + 16) 8 (σ.1 7) := pS_row f σ hb (k := 7) (by omega)
theorem aR_7 (g : Nat → Int) : aup (putS f b σ) (b + 16) (iC (tab 8 g)) = putS f b (sR σ 7 g) := aup_row f b σ (k := 7) (by omega) g
theorem S_get_7 (hb : b ≠ 0) {i : Int} : WpI xs (isO (putS f b σ) (b + 15) 0) (b + 15) 4 [vr (b + 15), vi i] y pc L st μ (putS f b σ) Q = Wp xs y pc L (vi (rg 8 (σ.1 7) i) :: st) μ (putS f b σ) Q := cI_v (get_runs (pR_7 hb) i) (pR_7 hb).o (by omega) y pc L st Q
theorem S_set_7 (hb : b ≠ 0) {i v : Int} : WpI xs (isO (putS f b σ) (b + 15) 0) (b + 15) 5 [vr (b + 15), vi i, vi v] y pc L st μ (putS f b σ) Q = Wp xs y pc L st μ (putS f b (sR σ 7 (rs 8 (σ.1 7) i v))) Q := by
  rw [cI_n (set_runs (pR_7 hb) i v) (pR_7 hb).o (by omega) y pc L st Q, aR_7]
theorem pR_8 (hb : b ≠ 0) : rowAt (putS f b σ) (b + 17) (b + 18) 8 (σ.1 8) := pS_row f σ hb (k := 8) (by omega)
theorem aR_8 (g : Nat → Int) : aup (putS f b σ) (b + 18) (iC (tab 8 g)) = putS f b (sR σ 8 g) := aup_row f b σ (k := 8) (by omega) g
theorem S_get_8 (hb : b ≠ 0) {i : Int} : WpI xs (isO (putS f b σ) (b + 17) 0) (b + 17) 4 [vr (b + 17), vi i] y pc L st μ (putS f b σ) Q = Wp xs y pc L (vi (rg 8 (σ.1 8) i) :: st) μ (putS f b σ) Q := cI_v (get_runs (pR_8 hb) i) (pR_8 hb).o (by omega) y pc L st Q
theorem S_set_8 (hb : b ≠ 0) {i v : Int} : WpI xs (isO (putS f b σ) (b + 17) 0) (b + 17) 5 [vr (b + 17), vi i, vi v] y pc L st μ (putS f b σ) Q = Wp xs y pc L st μ (putS f b (sR σ 8 (rs 8 (σ.1 8) i v))) Q := by
  rw [cI_n (set_runs (pR_8 hb) i v) (pR_8 hb).o (by omega) y pc L st Q, aR_8]
theorem pR_9 (hb : b ≠ 0) : rowAt (putS f b σ) (b + 19) (b + 20) 8 (σ.1 9) := pS_row f σ hb (k := 9) (by omega)
theorem aR_9 (g : Nat → Int) : aup (putS f b σ) (b + 20) (iC (tab 8 g)) = putS f b (sR σ 9 g) := aup_row f b σ (k := 9) (by omega) g
theorem S_get_9 (hb : b ≠ 0) {i : Int} : WpI xs (isO (putS f b σ) (b + 19) 0) (b + 19) 4 [vr (b + 19), vi i] y pc L st μ (putS f b σ) Q = Wp xs y pc L (vi (rg 8 (σ.1 9) i) :: st) μ (putS f b σ) Q := cI_v (get_runs (pR_9 hb) i) (pR_9 hb).o (by omega) y pc L st Q
theorem S_set_9 (hb : b ≠ 0) {i v : Int} : WpI xs (isO (putS f b σ) (b + 19) 0) (b + 19) 5 [vr (b + 19), vi i, vi v] y pc L st μ (putS f b σ) Q = Wp xs y pc L st μ (putS f b (sR σ 9 (rs 8 (σ.1 9) i v))) Q := by
  rw [cI_n (set_runs (pR_9 hb) i v) (pR_9 hb).o (by omega) y pc L st Q, aR_9]
theorem S_sm_9 (hb : b ≠ 0) : WpI xs (isO (putS f b σ) (b + 19) 0) (b + 19) 3 [vr (b + 19)] y pc L st μ (putS f b σ) Q = Wp xs y pc L (vi (sm 0 (σ.1 9) 0 8) :: st) μ (putS f b σ) Q := cI_v (sum_runs (pR_9 hb)) (pR_9 hb).o (by omega) y pc L st Q
theorem pR_10 (hb : b ≠ 0) : rowAt (putS f b σ) (b + 21) (b + 22) 8 (σ.1 10) := pS_row f σ hb (k := 10) (by omega)
theorem aR_10 (g : Nat → Int) : aup (putS f b σ) (b + 22) (iC (tab 8 g)) = putS f b (sR σ 10 g) := aup_row f b σ (k := 10) (by omega) g
theorem S_get_10 (hb : b ≠ 0) {i : Int} : WpI xs (isO (putS f b σ) (b + 21) 0) (b + 21) 4 [vr (b + 21), vi i] y pc L st μ (putS f b σ) Q = Wp xs y pc L (vi (rg 8 (σ.1 10) i) :: st) μ (putS f b σ) Q := cI_v (get_runs (pR_10 hb) i) (pR_10 hb).o (by omega) y pc L st Q
theorem S_set_10 (hb : b ≠ 0) {i v : Int} : WpI xs (isO (putS f b σ) (b + 21) 0) (b + 21) 5 [vr (b + 21), vi i, vi v] y pc L st μ (putS f b σ) Q = Wp xs y pc L st μ (putS f b (sR σ 10 (rs 8 (σ.1 10) i v))) Q := by
  rw [cI_n (set_runs (pR_10 hb) i v) (pR_10 hb).o (by omega) y pc L st Q, aR_10]
theorem S_sm_10 (hb : b ≠ 0) : WpI xs (isO (putS f b σ) (b + 21) 0) (b + 21) 3 [vr (b + 21)] y pc L st μ (putS f b σ) Q = Wp xs y pc L (vi (sm 0 (σ.1 10) 0 8) :: st) μ (putS f b σ) Q := cI_v (sum_runs (pR_10 hb)) (pR_10 hb).o (by omega) y pc L st Q
end SI
