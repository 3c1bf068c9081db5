/-! THE HEAP OF ONE PlannedPages -/
abbrev VG : Type := (Nat → Nat) × (Nat → SG)
def vC (V : VG) (a : Nat) : AC := if a = 48 then rC ((List.range 6).map fun i => some (49 + 23 * V.1 i)) else stC (49 + 23 * ((a - 49) / 23)) (V.2 ((a - 49) / 23)) ((a - 49) % 23)
def putV (f : AH) (V : VG) : AH := fun a => if 48 ≤ a ∧ a < 187 then some (vC V a) else f a
def c1 (sc : Int) : AC := oC 3 [vr 2, vr 25, vr 48, vi sc, vr 187]
def PP (f : AH) (sc : Int) (T : TG) (τ σ : SG) : AH := putS (putS (putT (aup f 1 (c1 sc)) 187 T) 25 τ) 2 σ
theorem putT_putS (f : AH) {t b : Nat} (T : TG) (σ : SG) (h : t + 3 ≤ b ∨ b + 23 ≤ t) : putT (putS f b σ) t T = putS (putT f t T) b σ := by
  funext a; unfold putT putS; dsimp only
  by_cases h1 : t ≤ a ∧ a < t + 3
  · rw [if_pos h1, if_neg (by omega), if_pos h1]
  · rw [if_neg h1, if_neg h1]
theorem putV_putS (f : AH) {b : Nat} (V : VG) (σ : SG) (h : b + 23 ≤ 48 ∨ 187 ≤ b) : putV (putS f b σ) V = putS (putV f V) b σ := by
  funext a; unfold putV putS; dsimp only
  by_cases h1 : 48 ≤ a ∧ a < 187
  · rw [if_pos h1, if_neg (by omega), if_pos h1]
  · rw [if_neg h1, if_neg h1]
theorem putV_putT (f : AH) (V : VG) (T : TG) : putV (putT f 187 T) V = putT (putV f V) 187 T := by
  funext a; unfold putV putT; dsimp only
  by_cases h1 : 48 ≤ a ∧ a < 187
  · rw [if_pos h1, if_neg (by omega), if_pos h1]
  · rw [if_neg h1, if_neg h1]
theorem putV_aup (f : AH) (V : VG) {a : Nat} (c : AC) (h : a < 48 ∨ 187 ≤ a) : putV (aup f a c) V = aup (putV f V) a c := by
  funext d; unfold putV aup; dsimp only
  by_cases h1 : 48 ≤ d ∧ d < 187
  · rw [if_pos h1, if_neg (by omega), if_pos h1]
  · rw [if_neg h1, if_neg h1]
theorem aup_putT (f : AH) {t a : Nat} (T : TG) (c : AC) (h : a < t ∨ t + 3 ≤ a) : aup (putT f t T) a c = putT (aup f a c) t T := by
  funext d; unfold aup putT
  by_cases h1 : d = a
  · subst h1
    have hn : ¬ (t ≤ d ∧ d < t + 3) := by omega
    simp [hn]
  · dsimp only; rw [if_neg h1, if_neg h1]
theorem PP_V (f : AH) (V : VG) (sc : Int) (T : TG) (τ σ : SG) : PP (putV f V) sc T τ σ = putV (PP f sc T τ σ) V := by
  unfold PP
  rw [putV_putS _ _ _ (by omega), putV_putS _ _ _ (by omega), putV_putT, putV_aup _ _ _ (by omega)]
theorem PP_tri (f : AH) (sc : Int) (T : TG) (τ σ : SG) : PP f sc T τ σ = putS (putS (putT (aup f 1 (c1 sc)) 187 T) 2 σ) 25 τ := putS_comm _ τ σ (by omega)
theorem PP_txt (f : AH) (sc : Int) (T : TG) (τ σ : SG) : PP f sc T τ σ = putT (putS (putS (aup f 1 (c1 sc)) 25 τ) 2 σ) 187 T := by
  unfold PP
  rw [putT_putS _ _ _ (by omega), putT_putS _ _ _ (by omega)]
theorem PP_obj (f : AH) (sc : Int) (T : TG) (τ σ : SG) : PP f sc T τ σ = aup (putS (putS (putT f 187 T) 25 τ) 2 σ) 1 (c1 sc) := by
  unfold PP
  rw [aup_putS _ _ _ (by omega), aup_putS _ _ _ (by omega), aup_putT _ _ _ (by omega)]
theorem PP_1 (f : AH) (sc : Int) (T : TG) (τ σ : SG) : PP f sc T τ σ 1 = some (c1 sc) := by rw [PP_obj, aup_same]
section CP
variable {xs : List Int} {f : AH} {sc : Int} {T : TG} {τ σ : SG} {μ : Mu} {y pc : Nat} {L st : List AV} {Q : Out → Mu → AH → Prop}
theorem P_o : isO (PP f sc T τ σ) 1 3 = true := by unfold isO; rw [PP_1]; rfl
theorem P_on : isO (PP f sc T τ σ) 2 1 = true := pS_o _ 2 σ
theorem P_ot : isO (PP f sc T τ σ) 25 1 = true := by rw [PP_tri]; exact pS_o _ 25 τ
theorem P_ox : isO (PP f sc T τ σ) 187 2 = true := by rw [PP_txt]; exact pT_o
theorem P_f0 : gf (PP f sc T τ σ) 1 3 0 = some (vr 2) := by unfold gf; rw [PP_1]; rfl
theorem P_f1 : gf (PP f sc T τ σ) 1 3 1 = some (vr 25) := by unfold gf; rw [PP_1]; rfl
theorem P_f2 : gf (PP f sc T τ σ) 1 3 2 = some (vr 48) := by unfold gf; rw [PP_1]; rfl
theorem P_f3 : gf (PP f sc T τ σ) 1 3 3 = some (vi sc) := by unfold gf; rw [PP_1]; rfl
theorem P_f4 : gf (PP f sc T τ σ) 1 3 4 = some (vr 187) := by unfold gf; rw [PP_1]; rfl
theorem P_p3 (v : Int) : pf (PP f sc T τ σ) 1 3 3 (vi v) = some (PP f v T τ σ) := by
  unfold pf; rw [PP_1]
  show some (aup (PP f sc T τ σ) 1 (c1 v)) = _
  rw [PP_obj, PP_obj, aup_aup]
theorem P_n0 : gf (PP f sc T τ σ) 2 1 0 = some (vr 3) := pS_gf _ 2 σ 0
theorem P_t0 : gf (PP f sc T τ σ) 25 1 0 = some (vr 26) := by rw [PP_tri]; exact pS_gf _ 25 τ 0
theorem P_n1 : gf (PP f sc T τ σ) 2 1 1 = some (vr 5) := pS_gf _ 2 σ 1
theorem P_t1 : gf (PP f sc T τ σ) 25 1 1 = some (vr 28) := by rw [PP_tri]; exact pS_gf _ 25 τ 1
theorem P_n2 : gf (PP f sc T τ σ) 2 1 2 = some (vr 7) := pS_gf _ 2 σ 2
theorem P_t2 : gf (PP f sc T τ σ) 25 1 2 = some (vr 30) := by rw [PP_tri]; exact pS_gf _ 25 τ 2
theorem P_n3 : gf (PP f sc T τ σ) 2 1 3 = some (vr 9) := pS_gf _ 2 σ 3
theorem P_t3 : gf (PP f sc T τ σ) 25 1 3 = some (vr 32) := by rw [PP_tri]; exact pS_gf _ 25 τ 3
theorem P_n4 : gf (PP f sc T τ σ) 2 1 4 = some (vi (σ.2 0)) := pS_gf _ 2 σ 4
theorem P_t4 : gf (PP f sc T τ σ) 25 1 4 = some (vi (τ.2 0)) := by rw [PP_tri]; exact pS_gf _ 25 τ 4
theorem P_n5 : gf (PP f sc T τ σ) 2 1 5 = some (vi (σ.2 1)) := pS_gf _ 2 σ 5
theorem P_t5 : gf (PP f sc T τ σ) 25 1 5 = some (vi (τ.2 1)) := by rw [PP_tri]; exact pS_gf _ 25 τ 5
theorem P_n6 : gf (PP f sc T τ σ) 2 1 6 = some (vi (σ.2 2)) := pS_gf _ 2 σ 6
theorem P_t6 : gf (PP f sc T τ σ) 25 1 6 = some (vi (τ.2 2)) := by rw [PP_tri]; exact pS_gf _ 25 τ 6
theorem P_n7 : gf (PP f sc T τ σ) 2 1 7 = some (vr 11) := pS_gf _ 2 σ 7
theorem P_t7 : gf (PP f sc T τ σ) 25 1 7 = some (vr 34) := by rw [PP_tri]; exact pS_gf _ 25 τ 7
theorem P_n8 : gf (PP f sc T τ σ) 2 1 8 = some (vr 13) := pS_gf _ 2 σ 8
theorem P_t8 : gf (PP f sc T τ σ) 25 1 8 = some (vr 36) := by rw [PP_tri]; exact pS_gf _ 25 τ 8
theorem P_n9 : gf (PP f sc T τ σ) 2 1 9 = some (vr 15) := pS_gf _ 2 σ 9
theorem P_t9 : gf (PP f sc T τ σ) 25 1 9 = some (vr 38) := by rw [PP_tri]; exact pS_gf _ 25 τ 9
theorem P_n10 : gf (PP f sc T τ σ) 2 1 10 = some (vr 17) := pS_gf _ 2 σ 10
theorem P_t10 : gf (PP f sc T τ σ) 25 1 10 = some (vr 40) := by rw [PP_tri]; exact pS_gf _ 25 τ 10
theorem P_n11 : gf (PP f sc T τ σ) 2 1 11 = some (vr 19) := pS_gf _ 2 σ 11
theorem P_t11 : gf (PP f sc T τ σ) 25 1 11 = some (vr 42) := by rw [PP_tri]; exact pS_gf _ 25 τ 11
theorem P_n12 : gf (PP f sc T τ σ) 2 1 12 = some (vr 21) := pS_gf _ 2 σ 12
theorem P_t12 : gf (PP f sc T τ σ) 25 1 12 = some (vr 44) := by rw [PP_tri]; exact pS_gf _ 25 τ 12
theorem P_n13 : gf (PP f sc T τ σ) 2 1 13 = some (vr 23) := pS_gf _ 2 σ 13
theorem P_t13 : gf (PP f sc T τ σ) 25 1 13 = some (vr 46) := by rw [PP_tri]; exact pS_gf _ 25 τ 13
theorem P_np0 (v : Int) : pf (PP f sc T τ σ) 2 1 4 (vi v) = some (PP f sc T τ (sS σ 0 v)) := pS_p0 _ 2 σ v
theorem P_tp0 (v : Int) : pf (PP f sc T τ σ) 25 1 4 (vi v) = some (PP f sc T (sS τ 0 v) σ) := by rw [PP_tri, PP_tri]; exact pS_p0 _ 25 τ v
theorem P_np1 (v : Int) : pf (PP f sc T τ σ) 2 1 5 (vi v) = some (PP f sc T τ (sS σ 1 v)) := pS_p1 _ 2 σ v
theorem P_tp1 (v : Int) : pf (PP f sc T τ σ) 25 1 5 (vi v) = some (PP f sc T (sS τ 1 v) σ) := by rw [PP_tri, PP_tri]; exact pS_p1 _ 25 τ v
theorem P_np2 (v : Int) : pf (PP f sc T τ σ) 2 1 6 (vi v) = some (PP f sc T τ (sS σ 2 v)) := pS_p2 _ 2 σ v
theorem P_tp2 (v : Int) : pf (PP f sc T τ σ) 25 1 6 (vi v) = some (PP f sc T (sS τ 2 v) σ) := by rw [PP_tri, PP_tri]; exact pS_p2 _ 25 τ v
theorem P_x1 : gf (PP f sc T τ σ) 187 2 1 = some (vi T.2) := by rw [PP_txt]; exact pT_f1
theorem P_x0 : gf (PP f sc T τ σ) 187 2 0 = some (vr 188) := by rw [PP_txt]; exact pT_f0
theorem P_xp (v : Int) : pf (PP f sc T τ σ) 187 2 1 (vi v) = some (PP f sc (T.1, v) τ σ) := by rw [PP_txt, PP_txt]; exact pT_p1 v
theorem rX : rowAt (PP f sc T τ σ) 188 189 40 T.1 := by rw [PP_txt]; exact pT_row (by decide)
theorem aX (g : Nat → Int) : aup (PP f sc T τ σ) 189 (iC (tab 40 g)) = PP f sc (g, T.2) τ σ := by rw [PP_txt, PP_txt]; exact aT_row g
theorem rN_0 : rowAt (PP f sc T τ σ) 3 4 80 (σ.1 0) := pS_row (b := 2) _ σ (by decide) (k := 0) (by decide)
theorem aN_0 (g : Nat → Int) : aup (PP f sc T τ σ) 4 (iC (tab 80 g)) = PP f sc T τ (sR σ 0 g) := aup_row (b := 2) _ σ (k := 0) (by decide) g
theorem rT_0 : rowAt (PP f sc T τ σ) 26 27 80 (τ.1 0) := by rw [PP_tri]; exact pS_row (b := 25) _ τ (by decide) (k := 0) (by decide)
theorem aT_0 (g : Nat → Int) : aup (PP f sc T τ σ) 27 (iC (tab 80 g)) = PP f sc T (sR τ 0 g) σ := by rw [PP_tri, PP_tri]; exact aup_row (b := 25) _ τ (k := 0) (by decide) g
theorem rN_1 : rowAt (PP f sc T τ σ) 5 6 80 (σ.1 1) := pS_row (b := 2) _ σ (by decide) (k := 1) (by decide)
theorem aN_1 (g : Nat → Int) : aup (PP f sc T τ σ) 6 (iC (tab 80 g)) = PP f sc T τ (sR σ 1 g) := aup_row (b := 2) _ σ (k := 1) (by decide) g
theorem rT_1 : rowAt (PP f sc T τ σ) 28 29 80 (τ.1 1) := by rw [PP_tri]; exact pS_row (b := 25) _ τ (by decide) (k := 1) (by decide)
theorem aT_1 (g : Nat → Int) : aup (PP f sc T τ σ) 29 (iC (tab 80 g)) = PP f sc T (sR τ 1 g) σ := by rw [PP_tri, PP_tri]; exact aup_row (b := 25) _ τ (k := 1) (by decide) g
theorem rN_2 : rowAt (PP f sc T τ σ) 7 8 80 (σ.1 2) := pS_row (b := 2) _ σ (by decide) (k := 2) (by decide)
theorem aN_2 (g : Nat → Int) : aup (PP f sc T τ σ) 8 (iC (tab 80 g)) = PP f sc T τ (sR σ 2 g) := aup_row (b := 2) _ σ (k := 2) (by decide) g
theorem rT_2 : rowAt (PP f sc T τ σ) 30 31 80 (τ.1 2) := by rw [PP_tri]; exact pS_row (b := 25) _ τ (by decide) (k := 2) (by decide)
theorem aT_2 (g : Nat → Int) : aup (PP f sc T τ σ) 31 (iC (tab 80 g)) = PP f sc T (sR τ 2 g) σ := by rw [PP_tri, PP_tri]; exact aup_row (b := 25) _ τ (k := 2) (by decide) g
theorem rN_3 : rowAt (PP f sc T τ σ) 9 10 80 (σ.1 3) := pS_row (b := 2) _ σ (by decide) (k := 3) (by decide)
theorem aN_3 (g : Nat → Int) : aup (PP f sc T τ σ) 10 (iC (tab 80 g)) = PP f sc T τ (sR σ 3 g) := aup_row (b := 2) _ σ (k := 3) (by decide) g
theorem rT_3 : rowAt (PP f sc T τ σ) 32 33 80 (τ.1 3) := by rw [PP_tri]; exact pS_row (b := 25) _ τ (by decide) (k := 3) (by decide)
theorem aT_3 (g : Nat → Int) : aup (PP f sc T τ σ) 33 (iC (tab 80 g)) = PP f sc T (sR τ 3 g) σ := by rw [PP_tri, PP_tri]; exact aup_row (b := 25) _ τ (k := 3) (by decide) g
theorem rN_4 : rowAt (PP f sc T τ σ) 11 12 8 (σ.1 4) := pS_row (b := 2) _ σ (by decide) (k := 4) (by decide)
theorem aN_4 (g : Nat → Int) : aup (PP f sc T τ σ) 12 (iC (tab 8 g)) = PP f sc T τ (sR σ 4 g) := aup_row (b := 2) _ σ (k := 4) (by decide) g
theorem rT_4 : rowAt (PP f sc T τ σ) 34 35 8 (τ.1 4) := by rw [PP_tri]; exact pS_row (b := 25) _ τ (by decide) (k := 4) (by decide)
theorem aT_4 (g : Nat → Int) : aup (PP f sc T τ σ) 35 (iC (tab 8 g)) = PP f sc T (sR τ 4 g) σ := by rw [PP_tri, PP_tri]; exact aup_row (b := 25) _ τ (k := 4) (by decide) g
theorem rN_5 : rowAt (PP f sc T τ σ) 13 14 8 (σ.1 5) := pS_row (b := 2) _ σ (by decide) (k := 5) (by decide)
theorem aN_5 (g : Nat → Int) : aup (PP f sc T τ σ) 14 (iC (tab 8 g)) = PP f sc T τ (sR σ 5 g) := aup_row (b := 2) _ σ (k := 5) (by decide) g
theorem rT_5 : rowAt (PP f sc T τ σ) 36 37 8 (τ.1 5) := by rw [PP_tri]; exact pS_row (b := 25) _ τ (by decide) (k := 5) (by decide)
theorem aT_5 (g : Nat → Int) : aup (PP f sc T τ σ) 37 (iC (tab 8 g)) = PP f sc T (sR τ 5 g) σ := by rw [PP_tri, PP_tri]; exact aup_row (b := 25) _ τ (k := 5) (by decide) g
theorem rN_6 : rowAt (PP f sc T τ σ) 15 16 8 (σ.1 6) := pS_row (b := 2) _ σ (by decide) (k := 6) (by decide)
theorem aN_6 (g : Nat → Int) : aup (PP f sc T τ σ) 16 (iC (tab 8 g)) = PP f sc T τ (sR σ 6 g) := aup_row (b := 2) _ σ (k := 6) (by decide) g
theorem rT_6 : rowAt (PP f sc T τ σ) 38 39 8 (τ.1 6) := by rw [PP_tri]; exact pS_row (b := 25) _ τ (by decide) (k := 6) (by decide)
theorem aT_6 (g : Nat → Int) : aup (PP f sc T τ σ) 39 (iC (tab 8 g)) = PP f sc T (sR τ 6 g) σ := by rw [PP_tri, PP_tri]; exact aup_row (b := 25) _ τ (k := 6) (by decide) g
theorem rN_7 : rowAt (PP f sc T τ σ) 17 18 8 (σ.1 7) := pS_row (b := 2) _ σ (by decide) (k := 7) (by decide)
theorem aN_7 (g : Nat → Int) : aup (PP f sc T τ σ) 18 (iC (tab 8 g)) = PP f sc T τ (sR σ 7 g) := aup_row (b := 2) _ σ (k := 7) (by decide) g
theorem rT_7 : rowAt (PP f sc T τ σ) 40 41 8 (τ.1 7) := by rw [PP_tri]; exact pS_row (b := 25) _ τ (by decide) (k := 7) (by decide)
theorem aT_7 (g : Nat → Int) : aup (PP f sc T τ σ) 41 (iC (tab 8 g)) = PP f sc T (sR τ 7 g) σ := by rw [PP_tri, PP_tri]; exact aup_row (b := 25) _ τ (k := 7) (by decide) g
theorem rN_8 : rowAt (PP f sc T τ σ) 19 20 8 (σ.1 8) := pS_row (b := 2) _ σ (by decide) (k := 8) (by decide)
theorem aN_8 (g : Nat → Int) : aup (PP f sc T τ σ) 20 (iC (tab 8 g)) = PP f sc T τ (sR σ 8 g) := aup_row (b := 2) _ σ (k := 8) (by decide) g
theorem rT_8 : rowAt (PP f sc T τ σ) 42 43 8 (τ.1 8) := by rw [PP_tri]; exact pS_row (b := 25) _ τ (by decide) (k := 8) (by decide)
theorem aT_8 (g : Nat → Int) : aup (PP f sc T τ σ) 43 (iC (tab 8 g)) = PP f sc T (sR τ 8 g) σ := by rw [PP_tri, PP_tri]; exact aup_row (b := 25) _ τ (k := 8) (by decide) g
theorem rN_9 : rowAt (PP f sc T τ σ) 21 22 8 (σ.1 9) := pS_row (b := 2) _ σ (by decide) (k := 9) (by decide)
theorem aN_9 (g : Nat → Int) : aup (PP f sc T τ σ) 22 (iC (tab 8 g)) = PP f sc T τ (sR σ 9 g) := aup_row (b := 2) _ σ (k := 9) (by decide) g
theorem rT_9 : rowAt (PP f sc T τ σ) 44 45 8 (τ.1 9) := by rw [PP_tri]; exact pS_row (b := 25) _ τ (by decide) (k := 9) (by decide)
theorem aT_9 (g : Nat → Int) : aup (PP f sc T τ σ) 45 (iC (tab 8 g)) = PP f sc T (sR τ 9 g) σ := by rw [PP_tri, PP_tri]; exact aup_row (b := 25) _ τ (k := 9) (by decide) g
theorem rN_10 : rowAt (PP f sc T τ σ) 23 24 8 (σ.1 10) := pS_row (b := 2) _ σ (by decide) (k := 10) (by decide)
theorem aN_10 (g : Nat → Int) : aup (PP f sc T τ σ) 24 (iC (tab 8 g)) = PP f sc T τ (sR σ 10 g) := aup_row (b := 2) _ σ (k := 10) (by decide) g
theorem rT_10 : rowAt (PP f sc T τ σ) 46 47 8 (τ.1 10) := by rw [PP_tri]; exact pS_row (b := 25) _ τ (by decide) (k := 10) (by decide)
theorem aT_10 (g : Nat → Int) : aup (PP f sc T τ σ) 47 (iC (tab 8 g)) = PP f sc T (sR τ 10 g) σ := by rw [PP_tri, PP_tri]; exact aup_row (b := 25) _ τ (k := 10) (by decide) g
theorem N_get_0 {i : Int} : WpI xs (isO (PP f sc T τ σ) 3 0) 3 4 [vr 3, vi i] y pc L st μ (PP f sc T τ σ) Q = Wp xs y pc L (vi (rg 80 (σ.1 0) i) :: st) μ (PP f sc T τ σ) Q := cI_v (get_runs rN_0 i) rN_0.o (by decide) y pc L st Q
theorem N_get_1 {i : Int} : WpI xs (isO (PP f sc T τ σ) 5 0) 5 4 [vr 5, vi i] y pc L st μ (PP f sc T τ σ) Q = Wp xs y pc L (vi (rg 80 (σ.1 1) i) :: st) μ (PP f sc T τ σ) Q := cI_v (get_runs rN_1 i) rN_1.o (by decide) y pc L st Q
theorem N_get_2 {i : Int} : WpI xs (isO (PP f sc T τ σ) 7 0) 7 4 [vr 7, vi i] y pc L st μ (PP f sc T τ σ) Q = Wp xs y pc L (vi (rg 80 (σ.1 2) i) :: st) μ (PP f sc T τ σ) Q := cI_v (get_runs rN_2 i) rN_2.o (by decide) y pc L st Q
theorem N_get_3 {i : Int} : WpI xs (isO (PP f sc T τ σ) 9 0) 9 4 [vr 9, vi i] y pc L st μ (PP f sc T τ σ) Q = Wp xs y pc L (vi (rg 80 (σ.1 3) i) :: st) μ (PP f sc T τ σ) Q := cI_v (get_runs rN_3 i) rN_3.o (by decide) y pc L st Q
theorem N_get_4 {i : Int} : WpI xs (isO (PP f sc T τ σ) 11 0) 11 4 [vr 11, vi i] y pc L st μ (PP f sc T τ σ) Q = Wp xs y pc L (vi (rg 8 (σ.1 4) i) :: st) μ (PP f sc T τ σ) Q := cI_v (get_runs rN_4 i) rN_4.o (by decide) y pc L st Q
theorem N_get_5 {i : Int} : WpI xs (isO (PP f sc T τ σ) 13 0) 13 4 [vr 13, vi i] y pc L st μ (PP f sc T τ σ) Q = Wp xs y pc L (vi (rg 8 (σ.1 5) i) :: st) μ (PP f sc T τ σ) Q := cI_v (get_runs rN_5 i) rN_5.o (by decide) y pc L st Q
theorem N_get_6 {i : Int} : WpI xs (isO (PP f sc T τ σ) 15 0) 15 4 [vr 15, vi i] y pc L st μ (PP f sc T τ σ) Q = Wp xs y pc L (vi (rg 8 (σ.1 6) i) :: st) μ (PP f sc T τ σ) Q := cI_v (get_runs rN_6 i) rN_6.o (by decide) y pc L st Q
theorem N_get_7 {i : Int} : WpI xs (isO (PP f sc T τ σ) 17 0) 17 4 [vr 17, vi i] y pc L st μ (PP f sc T τ σ) Q = Wp xs y pc L (vi (rg 8 (σ.1 7) i) :: st) μ (PP f sc T τ σ) Q := cI_v (get_runs rN_7 i) rN_7.o (by decide) y pc L st Q
theorem N_get_9 {i : Int} : WpI xs (isO (PP f sc T τ σ) 21 0) 21 4 [vr 21, vi i] y pc L st μ (PP f sc T τ σ) Q = Wp xs y pc L (vi (rg 8 (σ.1 9) i) :: st) μ (PP f sc T τ σ) Q := cI_v (get_runs rN_9 i) rN_9.o (by decide) y pc L st Q
theorem N_get_10 {i : Int} : WpI xs (isO (PP f sc T τ σ) 23 0) 23 4 [vr 23, vi i] y pc L st μ (PP f sc T τ σ) Q = Wp xs y pc L (vi (rg 8 (σ.1 10) i) :: st) μ (PP f sc T τ σ) Q := cI_v (get_runs rN_10 i) rN_10.o (by decide) y pc L st Q
theorem N_sm_5 : WpI xs (isO (PP f sc T τ σ) 13 0) 13 3 [vr 13] y pc L st μ (PP f sc T τ σ) Q = Wp xs y pc L (vi (sm 0 (σ.1 5) 0 8) :: st) μ (PP f sc T τ σ) Q := cI_v (sum_runs rN_5) rN_5.o (by decide) y pc L st Q
theorem N_sm_6 : WpI xs (isO (PP f sc T τ σ) 15 0) 15 3 [vr 15] y pc L st μ (PP f sc T τ σ) Q = Wp xs y pc L (vi (sm 0 (σ.1 6) 0 8) :: st) μ (PP f sc T τ σ) Q := cI_v (sum_runs rN_6) rN_6.o (by decide) y pc L st Q
theorem N_sm_9 : WpI xs (isO (PP f sc T τ σ) 21 0) 21 3 [vr 21] y pc L st μ (PP f sc T τ σ) Q = Wp xs y pc L (vi (sm 0 (σ.1 9) 0 8) :: st) μ (PP f sc T τ σ) Q := cI_v (sum_runs rN_9) rN_9.o (by decide) y pc L st Q
theorem N_sm_10 : WpI xs (isO (PP f sc T τ σ) 23 0) 23 3 [vr 23] y pc L st μ (PP f sc T τ σ) Q = Wp xs y pc L (vi (sm 0 (σ.1 10) 0 8) :: st) μ (PP f sc T τ σ) Q := cI_v (sum_runs rN_10) rN_10.o (by decide) y pc L st Q
theorem T_sm_9 : WpI xs (isO (PP f sc T τ σ) 44 0) 44 3 [vr 44] y pc L st μ (PP f sc T τ σ) Q = Wp xs y pc L (vi (sm 0 (τ.1 9) 0 8) :: st) μ (PP f sc T τ σ) Q := cI_v (sum_runs rT_9) rT_9.o (by decide) y pc L st Q
theorem T_sm_10 : WpI xs (isO (PP f sc T τ σ) 46 0) 46 3 [vr 46] y pc L st μ (PP f sc T τ σ) Q = Wp xs y pc L (vi (sm 0 (τ.1 10) 0 8) :: st) μ (PP f sc T τ σ) Q := cI_v (sum_runs rT_10) rT_10.o (by decide) y pc L st Q
theorem N_set_6 {i v : Int} : WpI xs (isO (PP f sc T τ σ) 15 0) 15 5 [vr 15, vi i, vi v] y pc L st μ (PP f sc T τ σ) Q = Wp xs y pc L st μ (PP f sc T τ (sR σ 6 (rs 8 (σ.1 6) i v))) Q := by rw [cI_n (set_runs rN_6 i v) rN_6.o (by decide) y pc L st Q, aN_6]
theorem T_set_6 {i v : Int} : WpI xs (isO (PP f sc T τ σ) 38 0) 38 5 [vr 38, vi i, vi v] y pc L st μ (PP f sc T τ σ) Q = Wp xs y pc L st μ (PP f sc T (sR τ 6 (rs 8 (τ.1 6) i v)) σ) Q := by rw [cI_n (set_runs rT_6 i v) rT_6.o (by decide) y pc L st Q, aT_6]
theorem N_sw_0 {i j : Int} : WpI xs (isO (PP f sc T τ σ) 3 0) 3 10 [vr 3, vi i, vi j] y pc L st μ (PP f sc T τ σ) Q = Wp xs y pc L st μ (PP f sc T τ (sR σ 0 (rs 80 (rs 80 (σ.1 0) i (rg 80 (σ.1 0) j)) j (rg 80 (σ.1 0) i)))) Q := by rw [cI_n (swap_runs rN_0 i j) rN_0.o (by decide) y pc L st Q, aN_0]
theorem N_sw_1 {i j : Int} : WpI xs (isO (PP f sc T τ σ) 5 0) 5 10 [vr 5, vi i, vi j] y pc L st μ (PP f sc T τ σ) Q = Wp xs y pc L st μ (PP f sc T τ (sR σ 1 (rs 80 (rs 80 (σ.1 1) i (rg 80 (σ.1 1) j)) j (rg 80 (σ.1 1) i)))) Q := by rw [cI_n (swap_runs rN_1 i j) rN_1.o (by decide) y pc L st Q, aN_1]
theorem N_co_0 {v a e : Int} (h0 : 0 ≤ a) (h1 : a ≤ 100000) (h2 : 0 ≤ e) : WpI xs (isO (PP f sc T τ σ) 3 0) 3 7 [vr 3, vi v, vi a, vi e] y pc L st μ (PP f sc T τ σ) Q = Wp xs y pc L (vi (co (σ.1 0) v a.toNat (min e.toNat 80 - a.toNat)) :: st) μ (PP f sc T τ σ) Q := S_co_0 (b := 2) (by decide) h0 h1 h2
theorem X_set {i v : Int} : WpI xs (isO (PP f sc T τ σ) 188 0) 188 5 [vr 188, vi i, vi v] y pc L st μ (PP f sc T τ σ) Q = Wp xs y pc L st μ (PP f sc (rs 40 T.1 i v, T.2) τ σ) Q := by rw [cI_n (set_runs rX i v) rX.o (by decide) y pc L st Q, aX]
/-- calls on now, trial and buffer, by their own contracts -/
theorem Rn {as : List AV} {o : Out} {μ' : Mu} {σ' : SG} (h : Runs xs y as μ (putS (putS (putT (aup f 1 (c1 sc)) 187 T) 25 τ) 2 σ) o μ' (putS (putS (putT (aup f 1 (c1 sc)) 187 T) 25 τ) 2 σ')) : Runs xs y as μ (PP f sc T τ σ) o μ' (PP f sc T τ σ') := h
theorem Rt {as : List AV} {o : Out} {μ' : Mu} {τ' : SG} (h : Runs xs y as μ (putS (putS (putT (aup f 1 (c1 sc)) 187 T) 2 σ) 25 τ) o μ' (putS (putS (putT (aup f 1 (c1 sc)) 187 T) 2 σ) 25 τ')) : Runs xs y as μ (PP f sc T τ σ) o μ' (PP f sc T τ' σ) := by rw [PP_tri, PP_tri]; exact h
theorem Rx {as : List AV} {o : Out} {μ' : Mu} {T' : TG} (h : Runs xs y as μ (putT (putS (putS (aup f 1 (c1 sc)) 25 τ) 2 σ) 187 T) o μ' (putT (putS (putS (aup f 1 (c1 sc)) 25 τ) 2 σ) 187 T')) : Runs xs y as μ (PP f sc T τ σ) o μ' (PP f sc T' τ σ) := by rw [PP_txt, PP_txt]; exact h
theorem m12t : Runs xs 12 [vr 25, vr 2] μ (PP f sc T τ σ) (.inl none) μ (PP f sc T σ σ) := by
  have h := m12 (xs := xs) (μ := μ) (f := putT (aup f 1 (c1 sc)) 187 T) (b := 25) (d := 2) (σ := τ) (τ := σ) (by decide) (by decide) (by omega)
  rw [PP_tri, PP_tri]; exact h
end CP
