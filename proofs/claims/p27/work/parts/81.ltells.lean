/-! THE LAW'S tells: all pages, frames and counts, told anew -/
/-- frames with a page, frames without -/
def cin (F : Nat → Int) (i : Nat) : Nat → Int
  | 0 => 0
  | d + 1 => (if F i < 0 then 0 else 1) + cin F (i + 1) d
def cem (F : Nat → Int) (i : Nat) : Nat → Int
  | 0 => 0
  | d + 1 => (if F i < 0 then 1 else 0) + cem F (i + 1) d
def ads (g : Nat → Int) (i : Nat) : Nat → Int
  | 0 => 0
  | d + 1 => g i + ads g (i + 1) d
theorem ads_8 (g : Nat → Int) : ads g 0 8 = sm8 g := by
  unfold sm8
  show g 0 + (g 1 + (g 2 + (g 3 + (g 4 + (g 5 + (g 6 + (g 7 + 0))))))) = _
  omega
theorem cin_r (F : Nat → Int) : ∀ (d i : Nat), (0 ≤ cin F i d ∧ cin F i d ≤ d) ∧ (0 ≤ cem F i d ∧ cem F i d ≤ d) := by
  intro d
  induction d with
  | zero => intro i; simp [cin, cem]
  | succ d ih =>
    intro i
    have := ih (i + 1)
    unfold cin cem
    split <;> omega
theorem cem_0 (F : Nat → Int) : ∀ (d i : Nat), cem F i d = 0 ↔ ∀ j, i ≤ j → j < i + d → ¬ F j < 0 := by
  intro d
  induction d with
  | zero => intro i; exact ⟨fun _ j h1 h2 => by omega, fun _ => rfl⟩
  | succ d ih =>
    intro i
    have r := (cin_r F d (i + 1)).2
    unfold cem
    by_cases c : F i < 0
    · rw [if_pos c]
      exact ⟨fun e => by omega, fun e => absurd c (e i (Nat.le_refl _) (by omega))⟩
    · rw [if_neg c, Int.zero_add, ih]
      constructor
      · intro e j h1 h2
        by_cases hj : j = i
        · subst hj; exact c
        · exact e j (by omega) (by omega)
      · intro e j h1 h2
        exact e j (by omega) (by omega)
theorem cem_lef (σ : SG) (n : Nat) : cem (lF σ) 0 n = 0 ↔ lef (σ.1 4) 0 n = -1 := by
  rw [cem_0, lef_none]
  constructor
  · intro e j h1 h2 x
    have := e j h1 h2
    have e2 : lF σ j = fo (σ.1 4) j 0 8 := rfl
    omega
  · intro e j h1 h2 x
    have := e j h1 h2
    have r := fo_8 (σ.1 4) j
    have e2 : lF σ j = fo (σ.1 4) j 0 8 := rfl
    omega
theorem sm8_add (g h : Nat → Int) : sm8 (fun p => g p + h p) = sm8 g + sm8 h := by
  unfold sm8; dsimp only; omega
theorem one_in {n : Int} {g : Nat → Int} (h : ks_F n g) (k : Nat) : (if fo g k 0 8 < 0 then (0 : Int) else 1) = sm8 (fun p => if g p = (k : Int) then 1 else 0) := by
  have r := fo_8 g k
  by_cases c : fo g k 0 8 = -1
  · rw [if_pos (by omega)]
    rw [emp_q] at c
    rw [sm8_ext (g' := fun _ => 0) (fun p hp => if_neg (c p hp))]
    rfl
  · rw [if_neg (by omega)]
    obtain ⟨q, hq⟩ : ∃ q : Nat, fo g k 0 8 = (q : Int) := ⟨(fo g k 0 8).toNat, by omega⟩
    have hq8 : q < 8 := by omega
    have e2 := (fo_is h hq8).mp hq
    rw [sm8_ext (g' := fu (fun _ => 0) q 1) (fun p hp => by
      unfold fu
      by_cases c2 : p = q
      · subst c2; rw [if_pos e2, if_pos rfl]
      · rw [if_neg c2, if_neg (fun x => c2 (h.2 p q hp hq8 (by omega) (by omega)))]), sm8_fu _ hq8]
    rfl
theorem cin_q {n : Int} {g : Nat → Int} (h : ks_F n g) : ∀ (d i : Nat), cin (fun k : Nat => fo g (k : Int) 0 8) i d = sm8 (fun p => if (i : Int) ≤ g p ∧ g p < (i + d : Nat) then 1 else 0) := by
  intro d
  induction d with
  | zero =>
    intro i
    rw [sm8_ext (g' := fun _ => 0) (fun p hp => if_neg (by omega))]
    rfl
  | succ d ih =>
    intro i
    unfold cin
    rw [ih (i + 1)]
    show (if fo g i 0 8 < 0 then (0 : Int) else 1) + _ = _
    rw [one_in h, ← sm8_add]
    refine sm8_ext fun p hp => ?_
    by_cases c : g p = (i : Int)
    · rw [if_pos c, if_neg (by omega), if_pos (by omega)]; rfl
    · rw [if_neg c]
      by_cases c2 : ((i + 1 : Nat) : Int) ≤ g p ∧ g p < (i + 1 + d : Nat)
      · rw [if_pos c2, if_pos (by omega)]; rfl
      · rw [if_neg c2, if_neg (by omega)]; rfl
theorem cin_all {σ : SG} (h : ks σ) : cin (lF σ) 0 (σ.2 2).toNat = 8 - co (σ.1 4) (-1) 0 8 := by
  obtain ⟨w1, w2, w3, w4, w5⟩ := h.wf
  rw [co_8, show lF σ = fun k : Nat => fo (σ.1 4) (k : Int) 0 8 from rfl, cin_q h.F]
  refine sm8_ext fun p hp => ?_
  have := h.F.1 p hp
  by_cases c : σ.1 4 p = -1
  · rw [if_pos c, if_neg (by omega)]
  · rw [if_neg c, if_pos (by omega)]
theorem pg_0 (σ : SG) (p : Int) : pgv σ p 0 = rg 8 (σ.1 4) p := rfl
theorem pg_1 (σ : SG) (p : Int) : pgv σ p 1 = rg 8 (σ.1 5) p := rfl
theorem pg_2 (σ : SG) (p : Int) : pgv σ p 2 = rg 8 (σ.1 6) p := rfl
theorem pg_3 (σ : SG) (p : Int) : pgv σ p 3 = nxu σ p (σ.2 1).toNat := rfl
theorem pg_4 (σ : SG) (p : Int) : pgv σ p 4 = rg 8 (σ.1 7) p := rfl
theorem pg_5 (σ : SG) (p : Int) : pgv σ p 5 = rg 8 (σ.1 9) p := rfl
theorem pg_6 (σ : SG) (p : Int) : pgv σ p 6 = rg 8 (σ.1 10) p := rfl
theorem pg_7 (σ : SG) (p : Int) : pgv σ p 7 = co (σ.1 0) p (σ.2 1).toNat (min (σ.2 0).toNat 80 - (σ.2 1).toNat) := rfl
theorem lF_at (σ : SG) (k : Nat) : lF σ k = fo (σ.1 4) k 0 8 := rfl
section LTE
variable {xs : List Int} {f : AH} {a c : Nat} {X Y : LG} {sc : Int} {T : TG} {τ σ s : SG} {μ : Mu} {y pc : Nat} {L st : List AV} {Q : Out → Mu → AH → Prop}
theorem te_21 (h : ks σ) (ha : 190 ≤ a) : ∀ (d i : Nat) (n e : Int), (i : Int) + d = σ.2 2 → 0 ≤ n → n ≤ i → 0 ≤ e → e ≤ i → (Wp xs 80 21 [vr 1, vr a, vr (a + 1), vr (a + 2), vi n, vi 0, vi 0, vi 0, vi 0, vi e, vi i, vu, vu, vu, vu] [] μ (PP (putL f a (lw σ)) sc T τ σ) Q = Wp xs 80 95 [vr 1, vr a, vr (a + 1), vr (a + 2), vi (n + cin (lF σ) i d), vi 0, vi 0, vi 0, vi 0, vi (e + cem (lF σ) i d), vi (σ.2 2), vu, vu, vu, vu] [] μ (PP (putL f a (lw σ)) sc T τ σ) Q) := by
  obtain ⟨w1, w2, w3, w4, w5⟩ := h.wf
  intro d
  induction d with
  | zero =>
    intro i n e hi n0 n1 e0 e1
    have hi : (i : Int) = σ.2 2 := by omega
    simp (disch := first | omega | rfl) only [e80_21, e80_23, e80_24, e80_25, e80_26, WpV_some, WpH_some, ↓ite_t, ↓ite_f, L_g2 ha, lw_3, lT_0, Int.reduceToNat, hi, Int.le_refl, cin, cem, Int.add_zero, ↓reduceIte]
  | succ d ih =>
    intro i n e hi n0 n1 e0 e1
    have hc : ¬ σ.2 2 ≤ (i : Int) := by omega
    have kf := cI_v (m72 (xs := xs) (f := putL f a (lw σ)) (sc := sc) (T := T) (τ := τ) (σ := σ) (μ := μ) (i : Int) (by omega) (by omega)) P_o h1'
    rw [e80_21]
    unfold cin cem
    have r := fo_8 (σ.1 4) i
    by_cases c1 : fo (σ.1 4) i 0 8 < 0
    · have c2 : fo (σ.1 4) i 0 8 = -1 := by omega
      have c3 : ¬ 0 ≤ fo (σ.1 4) i 0 8 := by omega
      have c4 : lF σ i < 0 := c1
      have q := ih (i + 1) n (e + 1) (by omega) (by omega) (by omega) (by omega) (by omega)
      simp only [Int.natCast_add, Int.cast_ofNat_Int] at q
      rw [if_pos c4, if_pos c4, Int.zero_add, show e + (1 + cem (lF σ) (i + 1) d) = e + 1 + cem (lF σ) (i + 1) d by omega, ← q]
      simp (disch := first | omega | rfl) only [e80_0, e80_1, e80_3, e80_4, e80_6, e80_7, e80_9, e80_10, e80_12, e80_13, e80_15, e80_16, e80_18, e80_19, e80_23, e80_24, e80_25, e80_26, e80_29, e80_30, e80_32, e80_35, e80_36, e80_38, e80_39, e80_42, e80_43, e80_46, e80_47, e80_49, e80_50, e80_53, e80_54, e80_55, e80_57, e80_58, e80_60, e80_61, e80_64, e80_65, e80_68, e80_69, e80_70, e80_72, e80_74, e80_75, e80_77, e80_78, e80_81, e80_82, e80_85, e80_86, e80_87, e80_89, e80_92, e80_95, e80_96, e80_97, e80_100, e80_102, e80_103, e80_105, e80_107, e80_109, e80_112, e80_113, e80_114, e80_116, e80_119, e80_121, e80_122, e80_124, e80_125, e80_126, e80_127, e80_129, e80_131, e80_133, e80_136, e80_138, e80_139, e80_141, e80_142, e80_145, e80_147, e80_150, e80_151, e80_154, e80_155, e80_156, e80_158, e80_161, e80_164, e80_165, e80_167, e80_168, e80_171, e80_173, e80_176, e80_177, e80_180, e80_182, e80_185, e80_186, e80_188, e80_189, e80_192, e80_193, e80_195, e80_196, e80_199, e80_200, e80_202, e80_203, e80_206, e80_207, e80_209, e80_211, e80_212, e80_213, e80_216, e80_217, e80_219, e80_220, e80_223, e80_224, e80_226, e80_227, e80_228, e80_229, e80_232, e80_235, e80_236, e80_238, e80_239, e80_242, e80_243, e80_245, e80_247, e80_248, e80_249, e80_252, e80_253, e80_256, e80_257, e80_259, e80_261, e80_262, e80_263, e80_266, e80_267, e80_269, e80_270, e80_273, e80_274, e80_276, e80_278, e80_279, e80_280, e80_283, e80_284, e80_286, e80_288, e80_291, e80_292, e80_294, e80_296, e80_297, e80_298, e80_301, e80_302, e80_304, e80_306, e80_309, e80_311, e80_314, e80_315, e80_318, e80_319, e80_321, e80_323, e80_326, e80_327, e80_328, e80_330, e80_331, e80_333, e80_335, e80_336, e80_337, e80_338, e80_340, e80_342, e80_343, e80_345, e80_347, e80_348, e80_349, e80_350, e80_352, e80_354, e80_355, e80_357, e80_359, e80_360, e80_361, e80_362, e80_364, e80_366, e80_367, e80_369, e80_370, e80_371, e80_373, e80_376, e80_379, e80_380, e80_381, e80_384, e80_385, e80_386, e80_387, e80_390, e80_391, e80_392, e80_395, e80_396, e80_397, e80_398, e80_401, e80_402, e80_403, e80_406, e80_408, e80_411, e80_412, e80_413, e80_416, e80_418, e80_421, e80_422, e80_423, e80_426, e80_427, e80_428, e80_429, e80_432, e80_433, e80_435, e80_438, e80_440, e80_443, e80_444, e80_446, e80_449, e80_451, e80_454, e80_455, e80_457, e80_460, e80_462, e80_465, e80_466, e80_469, e80_470, e80_471, e80_472, e80_475, e80_476, e80_479, e80_480, e80_481, e80_482, e80_483, e80_484, e80_485, e80_486, e80_487, e80_488, e80_489, e80_492, e80_493, e80_496, e80_497, e80_499, e80_501, e80_504, e80_505, e80_506, e80_507, e80_509, e80_512, e80_513, e80_516, e80_517, e80_518, e80_519, e80_520, e80_521, e80_522, e80_523, e80_524, e80_525, e80_526, e80_529, e80_531, e80_533, e80_536, e80_537, e80_540, e80_542, e80_545, e80_546, e80_549, e80_551, e80_554, e80_555, e80_558, e80_559, WpV_some, WpH_some, ↓ite_t, ↓ite_f, L_g0 ha, L_g2 ha, lw_1, lw_3, lT_0, lF_at, Int.reduceToNat, tn_n, kf, hc, c3, wrp_id, ↓reduceIte]
      rw [Int.add_zero]
    · have c3 : 0 ≤ fo (σ.1 4) i 0 8 := by omega
      have c4 : ¬ lF σ i < 0 := c1
      have q := ih (i + 1) (n + 1) e (by omega) (by omega) (by omega) (by omega) (by omega)
      simp only [Int.natCast_add, Int.cast_ofNat_Int] at q
      rw [if_neg c4, if_neg c4, Int.zero_add, show n + (1 + cin (lF σ) (i + 1) d) = n + 1 + cin (lF σ) (i + 1) d by omega, ← q]
      simp (disch := first | omega | rfl) only [e80_0, e80_1, e80_3, e80_4, e80_6, e80_7, e80_9, e80_10, e80_12, e80_13, e80_15, e80_16, e80_18, e80_19, e80_23, e80_24, e80_25, e80_26, e80_29, e80_30, e80_32, e80_35, e80_36, e80_38, e80_39, e80_42, e80_43, e80_46, e80_47, e80_49, e80_50, e80_53, e80_54, e80_55, e80_57, e80_58, e80_60, e80_61, e80_64, e80_65, e80_68, e80_69, e80_70, e80_72, e80_74, e80_75, e80_77, e80_78, e80_81, e80_82, e80_85, e80_86, e80_87, e80_89, e80_92, e80_95, e80_96, e80_97, e80_100, e80_102, e80_103, e80_105, e80_107, e80_109, e80_112, e80_113, e80_114, e80_116, e80_119, e80_121, e80_122, e80_124, e80_125, e80_126, e80_127, e80_129, e80_131, e80_133, e80_136, e80_138, e80_139, e80_141, e80_142, e80_145, e80_147, e80_150, e80_151, e80_154, e80_155, e80_156, e80_158, e80_161, e80_164, e80_165, e80_167, e80_168, e80_171, e80_173, e80_176, e80_177, e80_180, e80_182, e80_185, e80_186, e80_188, e80_189, e80_192, e80_193, e80_195, e80_196, e80_199, e80_200, e80_202, e80_203, e80_206, e80_207, e80_209, e80_211, e80_212, e80_213, e80_216, e80_217, e80_219, e80_220, e80_223, e80_224, e80_226, e80_227, e80_228, e80_229, e80_232, e80_235, e80_236, e80_238, e80_239, e80_242, e80_243, e80_245, e80_247, e80_248, e80_249, e80_252, e80_253, e80_256, e80_257, e80_259, e80_261, e80_262, e80_263, e80_266, e80_267, e80_269, e80_270, e80_273, e80_274, e80_276, e80_278, e80_279, e80_280, e80_283, e80_284, e80_286, e80_288, e80_291, e80_292, e80_294, e80_296, e80_297, e80_298, e80_301, e80_302, e80_304, e80_306, e80_309, e80_311, e80_314, e80_315, e80_318, e80_319, e80_321, e80_323, e80_326, e80_327, e80_328, e80_330, e80_331, e80_333, e80_335, e80_336, e80_337, e80_338, e80_340, e80_342, e80_343, e80_345, e80_347, e80_348, e80_349, e80_350, e80_352, e80_354, e80_355, e80_357, e80_359, e80_360, e80_361, e80_362, e80_364, e80_366, e80_367, e80_369, e80_370, e80_371, e80_373, e80_376, e80_379, e80_380, e80_381, e80_384, e80_385, e80_386, e80_387, e80_390, e80_391, e80_392, e80_395, e80_396, e80_397, e80_398, e80_401, e80_402, e80_403, e80_406, e80_408, e80_411, e80_412, e80_413, e80_416, e80_418, e80_421, e80_422, e80_423, e80_426, e80_427, e80_428, e80_429, e80_432, e80_433, e80_435, e80_438, e80_440, e80_443, e80_444, e80_446, e80_449, e80_451, e80_454, e80_455, e80_457, e80_460, e80_462, e80_465, e80_466, e80_469, e80_470, e80_471, e80_472, e80_475, e80_476, e80_479, e80_480, e80_481, e80_482, e80_483, e80_484, e80_485, e80_486, e80_487, e80_488, e80_489, e80_492, e80_493, e80_496, e80_497, e80_499, e80_501, e80_504, e80_505, e80_506, e80_507, e80_509, e80_512, e80_513, e80_516, e80_517, e80_518, e80_519, e80_520, e80_521, e80_522, e80_523, e80_524, e80_525, e80_526, e80_529, e80_531, e80_533, e80_536, e80_537, e80_540, e80_542, e80_545, e80_546, e80_549, e80_551, e80_554, e80_555, e80_558, e80_559, WpV_some, WpH_some, ↓ite_t, ↓ite_f, L_g0 ha, L_g2 ha, lw_1, lw_3, lT_0, lF_at, Int.reduceToNat, tn_n, kf, hc, c3, wrp_id, ↓reduceIte, Int.add_zero]
theorem te_129 (h : ks σ) (l4 l5 l6 l7 l8 l9 : AV) {p : Nat} (hp : p < 8) (ta : Int) : ∀ (d i : Nat) (m : Int), (i : Int) + d = σ.2 0 → 0 ≤ m → m ≤ i → (Wp xs 80 129 [vr 1, vr a, vr (a + 1), vr (a + 2), l4, l5, l6, l7, l8, l9, vi (σ.2 0), vi p, vi ta, vi m, vi i] [] μ (PP f sc T τ σ) Q = Wp xs 80 164 [vr 1, vr a, vr (a + 1), vr (a + 2), l4, l5, l6, l7, l8, l9, vi (σ.2 0), vi p, vi ta, vi (m + co (σ.1 0) p i d), vi (σ.2 0)] [] μ (PP f sc T τ σ) Q) := by
  obtain ⟨w1, w2, w3, w4, w5⟩ := h.wf
  intro d
  induction d with
  | zero =>
    intro i m hi m0 m1
    have hi : (i : Int) = σ.2 0 := by omega
    simp (disch := first | omega | rfl) only [e80_129, e80_131, e80_133, WpV_some, WpH_some, ↓ite_t, ↓ite_f, hi, Int.le_refl, co, Int.add_zero, ↓reduceIte]
  | succ d ih =>
    intro i m hi m0 m1
    have hc : ¬ σ.2 0 ≤ (i : Int) := by omega
    have k0 := cI_v (m54 (xs := xs) (f := f) (sc := sc) (T := T) (τ := τ) (σ := σ) (μ := μ) (i : Int) 0 (by omega) (by omega) (by omega) (by omega)) P_o h1'
    rw [askv_0 (by omega)] at k0
    rw [e80_129]
    unfold co
    by_cases c1 : σ.1 0 i = (p : Int)
    · have c2 : ¬ (σ.1 0 i ≠ (p : Int)) := fun x => x c1
      have q := ih (i + 1) (m + 1) (by omega) (by omega) (by omega)
      simp only [Int.natCast_add, Int.cast_ofNat_Int] at q
      rw [if_pos c1, show m + (1 + co (σ.1 0) p (i + 1) d) = m + 1 + co (σ.1 0) p (i + 1) d by omega, ← q]
      simp (disch := first | omega | rfl) only [e80_131, e80_133, e80_136, e80_138, e80_139, e80_141, e80_142, e80_145, e80_147, e80_150, e80_151, e80_154, e80_155, e80_156, e80_158, e80_161, WpV_some, WpH_some, ↓ite_t, ↓ite_f, k0, hc, c2, wrp_id, ↓reduceIte]
    · have c2 : σ.1 0 i ≠ (p : Int) := c1
      have q := ih (i + 1) m (by omega) (by omega) (by omega)
      simp only [Int.natCast_add, Int.cast_ofNat_Int] at q
      rw [if_neg c1, Int.zero_add, ← q]
      simp (disch := first | omega | rfl) only [e80_131, e80_133, e80_136, e80_138, e80_139, e80_141, e80_142, e80_145, e80_147, e80_150, e80_151, e80_154, e80_155, e80_156, e80_158, e80_161, WpV_some, WpH_some, ↓ite_t, ↓ite_f, k0, hc, c2, wrp_id, Int.add_zero, ↓reduceIte]
theorem te_164 (h : ks σ) (l4 l5 l6 l7 l8 l9 l10 l13 l14 : AV) {p : Nat} (hp : p < 8) : Wp xs 80 164 [vr 1, vr a, vr (a + 1), vr (a + 2), l4, l5, l6, l7, l8, l9, l10, vi p, vi (σ.1 4 p), l13, l14] [] μ (PP f sc T τ σ) Q = Wp xs 80 185 [vr 1, vr a, vr (a + 1), vr (a + 2), l4, l5, l6, l7, l8, l9, l10, vi p, vi (σ.1 4 p), l13, l14] [] μ (PP f sc T τ σ) Q := by
  have hF := h.F.1 p hp
  have k0 := cI_v (m55 (xs := xs) (f := f) (sc := sc) (T := T) (τ := τ) (σ := σ) (μ := μ) h.wf (p : Int) 0 (by omega) (by omega) (by omega) (by omega)) P_o h1'
  rw [Int.toNat_zero, pg_0, rg_n _ hp] at k0
  by_cases c : σ.1 4 p = -1
  · have c2 : ¬ (0 : Int) ≤ -1 := by decide
    rw [c] at k0 ⊢
    simp (disch := first | omega | rfl) only [e80_164, e80_165, e80_167, e80_168, e80_171, e80_173, e80_176, e80_177, e80_180, e80_182, WpV_some, WpH_some, ↓ite_t, ↓ite_f, k0, c2, ne_eq, not_true_eq_false, ↓reduceIte]
  · have c2 : 0 ≤ σ.1 4 p := by omega
    simp (disch := first | omega | rfl) only [e80_164, e80_165, e80_167, e80_168, e80_171, e80_173, e80_176, e80_177, e80_180, e80_182, WpV_some, WpH_some, ↓ite_t, ↓ite_f, k0, c2, ne_eq, not_true_eq_false, ↓reduceIte]
theorem te_235 (h : ks σ) (ha : 190 ≤ a) (l4 l5 l6 l7 l8 l9 l10 l12 l13 l14 : AV) {p : Nat} (hp : p < 8) : Wp xs 80 235 [vr 1, vr a, vr (a + 1), vr (a + 2), l4, l5, l6, l7, l8, l9, l10, vi p, l12, l13, l14] [] μ (PP (putL f a (lw σ)) sc T τ σ) Q = Wp xs 80 266 [vr 1, vr a, vr (a + 1), vr (a + 2), l4, l5, l6, l7, l8, l9, l10, vi p, l12, l13, l14] [] μ (PP (putL f a (lw σ)) sc T τ σ) Q := by
  have hL := h.L p hp
  have k0 := cI_v (m55 (xs := xs) (f := putL f a (lw σ)) (sc := sc) (T := T) (τ := τ) (σ := σ) (μ := μ) h.wf (p : Int) 4 (by omega) (by omega) (by omega) (by omega)) P_o h1'
  rw [show Int.toNat 4 = 4 from rfl, pg_4, rg_n _ hp] at k0
  by_cases c : σ.1 7 p = -1
  · have c2 : ¬ (0 : Int) ≤ -1 := by decide
    rw [c] at k0
    simp (disch := first | omega | rfl) only [e80_235, e80_236, e80_238, e80_239, e80_242, e80_243, e80_245, e80_247, e80_248, e80_249, e80_252, e80_253, e80_256, e80_257, e80_259, e80_261, e80_262, e80_263, WpV_some, WpH_some, ↓ite_t, ↓ite_f, k0, L_g1 ha, lw_2, tn32, lR_7, wrp_id, c, c2, ne_eq, not_true_eq_false, ↓reduceIte]
  · have c2 : 0 ≤ σ.1 7 p := by omega
    simp (disch := first | omega | rfl) only [e80_235, e80_236, e80_238, e80_239, e80_242, e80_243, e80_245, e80_247, e80_248, e80_249, e80_252, e80_253, e80_256, e80_257, e80_259, e80_261, e80_262, e80_263, WpV_some, WpH_some, ↓ite_t, ↓ite_f, k0, L_g1 ha, lw_2, tn32, lR_7, wrp_id, c2, ne_eq, not_true_eq_false, ↓reduceIte]
end LTE
