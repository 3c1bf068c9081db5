/-! making one PlannedPages -/
def T0 : TG := (fun _ => 0, 0)
def V0 : VG := (fun i => i, fun _ => sg0)
def wC (k a : Nat) : AC := if a = 48 then rC ((List.range 6).map fun i => if i < k then some (49 + 23 * i) else none) else stC (49 + 23 * ((a - 49) / 23)) sg0 ((a - 49) % 23)
def putW (f : AH) (k : Nat) : AH := fun a => if 48 ≤ a ∧ a < 49 + 23 * k then some (wC k a) else f a
theorem putW_6 (f : AH) : putW f 6 = putV f V0 := by
  funext a
  unfold putW putV
  by_cases h : 48 ≤ a ∧ a < 187
  · rw [if_pos (by omega), if_pos h]
    unfold wC vC V0
    by_cases h3 : a = 48
    · rw [if_pos h3, if_pos h3]
      rfl
    · rw [if_neg h3, if_neg h3]
  · rw [if_neg (by omega), if_neg h]
theorem putW_0 (f : AH) : aup f 48 (rC (List.replicate 6 none)) = putW f 0 := by
  funext a
  unfold putW aup
  by_cases h : a = 48
  · rw [if_pos h, if_pos (by omega)]
    unfold wC
    rw [if_pos h]
    rfl
  · rw [if_neg h, if_neg (by omega)]
theorem putW_48 (f : AH) (k : Nat) : putW f k 48 = some (rC ((List.range 6).map fun i => if i < k then some (49 + 23 * i) else none)) := by
  unfold putW
  rw [if_pos (by omega)]
  unfold wC
  rw [if_pos rfl]
theorem putW_s (f : AH) {k : Nat} (hk : k < 6) : aup (putS (putW f k) (49 + 23 * k) sg0) 48 (rC (((List.range 6).map fun i => if i < k then some (49 + 23 * i) else none).set k (some (49 + 23 * k)))) = putW f (k + 1) := by
  have e : (((List.range 6).map fun i => if i < k then some (49 + 23 * i) else none).set k (some (49 + 23 * k))) = ((List.range 6).map fun i => if i < k + 1 then some (49 + 23 * i) else none) := by
    match k, hk with
    | 0, _ => rfl
    | 1, _ => rfl
    | 2, _ => rfl
    | 3, _ => rfl
    | 4, _ => rfl
    | 5, _ => rfl
  rw [e]
  funext a
  by_cases ha : a = 48
  · subst ha
    rw [aup_same, putW_48]
  · rw [aup_ne _ _ ha]
    by_cases h1 : 49 + 23 * k ≤ a ∧ a < 49 + 23 * k + 23
    · have e1 : (a - 49) / 23 = k := by omega
      have e2 : (a - 49) % 23 = a - (49 + 23 * k) := by omega
      unfold putS putW
      rw [if_pos h1, if_pos (by omega)]
      unfold wC
      rw [if_neg ha, e1, e2]
    · rw [putS_out _ _ (by omega)]
      unfold putW
      by_cases h2 : 48 ≤ a ∧ a < 49 + 23 * k
      · rw [if_pos h2, if_pos (by omega)]
        unfold wC
        rw [if_neg ha, if_neg ha]
      · rw [if_neg h2, if_neg (by omega)]
section CI
variable {xs : List Int} {f g : AH} {b c s : Nat} {X : AC} {μ : Mu} {y pc : Nat} {L st : List AV} {Q : Out → Mu → AH → Prop}
theorem iS (hb : 1 < b) : WpI xs (isO (aup (aup g 1 X) b (oC 1 (dfs 1))) b 1) b 11 [vr b] y pc L st (b, (c, s)) (aup (aup g 1 X) b (oC 1 (dfs 1))) Q = Wp xs y pc L st (b + 22, (c + 22, s + 387)) (aup (putS g b sg0) 1 X) Q := by
  have hf : (aup (aup g 1 X) b (oC 1 (dfs 1))) b = some (oC 1 (dfs 1)) := aup_same _ _ _
  have ho : isO (aup (aup g 1 X) b (oC 1 (dfs 1))) b 1 = true := by unfold isO; rw [hf]; rfl
  have e : putS (aup (aup g 1 X) b (oC 1 (dfs 1))) b sg0 = aup (putS g b sg0) 1 X := by
    rw [aup_putS _ _ _ (by omega)]
    funext a
    unfold putS
    by_cases h : b ≤ a ∧ a < b + 23
    · rw [if_pos h, if_pos h]
    · rw [if_neg h, if_neg h, aup_ne _ _ (by omega)]
  rw [cI_n (m11 (by omega) hf) ho (by omega), e]
theorem iT (hb : 1 < b) : WpI xs (isO (aup (aup g 1 X) b (oC 2 (dfs 2))) b 2) b 31 [vr b] y pc L st (b, (c, s)) (aup (aup g 1 X) b (oC 2 (dfs 2))) Q = Wp xs y pc L st (b + 2, (c + 2, s + 41)) (aup (putT g b T0) 1 X) Q := by
  have hf : (aup (aup g 1 X) b (oC 2 (dfs 2))) b = some (oC 2 (dfs 2)) := aup_same _ _ _
  have ho : isO (aup (aup g 1 X) b (oC 2 (dfs 2))) b 2 = true := by unfold isO; rw [hf]; rfl
  have e : putT (aup (aup g 1 X) b (oC 2 (dfs 2))) b T0 = aup (putT g b T0) 1 X := by
    rw [aup_putT _ _ _ (by omega)]
    funext a
    unfold putT
    by_cases h : b ≤ a ∧ a < b + 3
    · rw [if_pos h, if_pos h]
    · rw [if_neg h, if_neg h, aup_ne _ _ (by omega)]
  rw [cI_n (m31 (by omega) hf) ho (by omega)]
  show Wp xs y pc L st _ (putT _ b T0) Q = _
  rw [e]
def X3 : AC := oC 3 [vr 2, vr 25, vr 48, vi 0, vn]
theorem x3_f : gf (aup g 1 X3) 1 3 2 = some (vr 48) := by unfold gf; rw [aup_same]; rfl
theorem x3_n {k : Nat} : aN xs 40 (aup (putW g k) 1 X3) 48 = some (vi 6) := by
  unfold aN an
  rw [aup_ne _ _ (by omega), putW_48]
  rfl
theorem x3_p {k : Nat} (hk : k < 6) : pq (aup (putS (putW g k) (49 + 23 * k) sg0) 1 X3) 48 (k : Int) (49 + 23 * k) = some (aup (putW g (k + 1)) 1 X3) := by
  have ho : isO (aup (putS (putW g k) (49 + 23 * k) sg0) 1 X3) (49 + 23 * k) 1 = true := by
    unfold isO
    rw [aup_ne _ _ (by omega), putS_0]
    rfl
  unfold pq
  rw [aup_ne _ _ (by omega), putS_out _ _ (by omega), putW_48]
  dsimp only [rC]
  rw [if_pos ⟨by omega, by simp; omega, ho⟩, Int.toNat_natCast]
  congr 1
  rw [aup_comm _ _ _ (by omega)]
  exact congrArg (fun h => aup h 1 X3) (putW_s g hk)
theorem ci_loop : ∀ (d k c s : Nat), k + d = 6 → (Wp xs 40 37 [vr 1, vi k] [] (48 + 23 * k, (c, s)) (aup (putW g k) 1 X3) Q = Wp xs 40 65 [vr 1, vi 6] [] (186, (c + 23 * d, s + 401 * d)) (aup (putW g 6) 1 X3) Q) := by
  intro d
  induction d with
  | zero =>
    intro k c s hk
    have hk : k = 6 := by omega
    subst hk
    simp (disch := first | omega | rfl) only [e40_37, e40_38, e40_39, e40_42, e40_43, WpV_some, WpH_some, ↓ite_t, ↓ite_f, x3_f, x3_n, Int.cast_ofNat_Int, Nat.mul_zero, Nat.add_zero, Nat.reduceMul, Nat.reduceAdd]
  | succ d ih =>
    intro k c s hk
    have q := ih (k + 1) (c + 23) (s + 401) (by omega)
    have e1 : 48 + 23 * k + 1 = 49 + 23 * k := by omega
    have e2 : 49 + 23 * k + 22 = 48 + 23 * (k + 1) := by omega
    have e3 : c + 1 + 22 = c + 23 := by omega
    have e4 : s + 14 + 387 = s + 401 := by omega
    have e5 : c + 23 + 23 * d = c + 23 * (d + 1) := by omega
    have e6 : s + 401 + 401 * d = s + 401 * (d + 1) := by omega
    rw [e5, e6] at q
    simp only [Int.natCast_add, Int.cast_ofNat_Int] at q
    rw [e40_37]
    simp (disch := first | omega | rfl) only [e40_38, e40_39, e40_42, e40_43, e40_46, e40_47, e40_50, e40_51, e40_54, e40_55, e40_58, e40_59, e40_62, WpV_some, WpH_some, ↓ite_t, ↓ite_f, x3_f, x3_n, show cF 1 = 14 from rfl, e1, iS, x3_p, wrp_id, e2, e3, e4, q]
theorem m40 (hf : f 1 = some (oC 3 (dfs 3))) : Runs xs 40 [vr 1] (1, (c, s)) f (.inl none) (189, (c + 188, s + 3257)) (PP (putV f V0) 0 T0 sg0 sg0) := Runs.iff fun Q hQ => by
  show Wp xs 40 0 [vr 1, vu] [] (1, (c, s)) f Q
  rw [← aup_self hf]
  have e0 : dfs 3 = [vn, vn, vn, vi 0, vn] := rfl
  rw [e0]
  have eF : PP (putV f V0) 0 T0 sg0 sg0 = aup (putT (putW (putS (putS f 2 sg0) 25 sg0) 6) 187 T0) 1 (c1 0) := by
    rw [PP_obj, putW_6, putV_putS _ _ _ (by omega), putV_putS _ _ _ (by omega), putT_putS _ _ _ (by omega), putT_putS _ _ _ (by omega), putS_comm (b := 2) (d := 25) _ _ _ (by omega)]
  rw [eF] at hQ
  have q := ci_loop (xs := xs) (g := putS (putS f 2 sg0) 25 sg0) (Q := Q) 6 0 (c + 47) (s + 808) (by omega)
  simp only [Int.cast_ofNat_Int, Nat.mul_zero, Nat.add_zero, Nat.reduceMul, Nat.add_assoc, Nat.reduceAdd] at q
  have ec : ∀ (g : AH) (X R : AC), aup (aup g 1 X) 48 R = aup (aup g 48 R) 1 X := fun g X R => aup_comm _ _ _ (by omega)
  have ex : oC 3 [vr 2, vr 25, vr 48, vi 0, vn] = X3 := rfl
  have ex2 : X3 = oC 3 [vr 2, vr 25, vr 48, vi 0, vn] := rfl
  simp (disch := first | omega | (simp; done) | rfl) only [e40_0, e40_1, e40_4, e40_5, e40_8, e40_9, e40_12, e40_15, e40_16, e40_19, e40_20, e40_23, e40_26, e40_27, e40_29, e40_32, e40_35, e40_36, WpV_some, WpH_some, ↓ite_t, ↓ite_f, show cF 1 = 14 from rfl, iS, pf_top, List.set_cons_zero, List.set_cons_succ, Nat.add_assoc, Nat.reduceAdd, ec, Int.reduceToNat, putW_0, ex]
  rw [q]
  rw [ex2]
  simp (disch := first | omega | (simp; done) | rfl) only [e40_65, e40_66, e40_67, e40_70, e40_71, e40_74, e40_75, e40_78, e40_81, WpV_some, WpH_some, ↓ite_t, ↓ite_f, show cF 2 = 2 from rfl, iT, pf_top, List.set_cons_zero, List.set_cons_succ, Nat.add_assoc, Nat.reduceAdd]
  exact hQ
end CI
