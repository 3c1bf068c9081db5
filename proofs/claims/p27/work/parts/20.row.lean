/-! ROWS: arrays as functions; the methods of PlannedPages$Row -/
def fu (g : Nat → Int) (i : Nat) (v : Int) : Nat → Int := fun j => if j = i then v else g j
theorem fu_s (g : Nat → Int) (i : Nat) (v : Int) : fu g i v i = v := by simp [fu]
theorem fu_n (g : Nat → Int) {i j : Nat} (v : Int) (h : j ≠ i) : fu g i v j = g j := by simp [fu, h]
def tab (n : Nat) (g : Nat → Int) : List Int := (List.range n).map g
theorem tab_len (n : Nat) (g : Nat → Int) : (tab n g).length = n := by simp [tab]
theorem tab_get {n i : Nat} (g : Nat → Int) (h : i < n) : (tab n g).getD i 0 = g i := by
  unfold tab
  rw [List.getD_eq_getElem?_getD, List.getElem?_map, List.getElem?_range h]; rfl
theorem tab_ext {n : Nat} {g g' : Nat → Int} (h : ∀ i, i < n → g i = g' i) : tab n g = tab n g' := List.map_congr_left fun i hi => h i (List.mem_range.mp hi)
theorem tab_set {n i : Nat} (g : Nat → Int) (v : Int) : (tab n g).set i v = tab n (fu g i v) := by
  apply List.ext_getElem?
  intro j
  rw [List.getElem?_set, tab_len]
  unfold tab
  rw [List.getElem?_map, List.getElem?_map]
  by_cases h : i = j
  · subst h
    rw [if_pos rfl]
    by_cases hi : i < n
    · rw [if_pos hi, List.getElem?_range hi]; simp [fu]
    · rw [if_neg hi, List.getElem?_eq_none (by simp; omega)]; rfl
  · rw [if_neg h]
    by_cases hj : j < n
    · rw [List.getElem?_range hj]; simp only [Option.map_some, fu]; rw [if_neg (fun e => h e.symm)]
    · rw [List.getElem?_eq_none (by simp; omega)]; rfl
theorem tab_const (n : Nat) (v : Int) : List.replicate n v = tab n (fun _ => v) := by
  unfold tab
  rw [List.map_const', List.length_range]
theorem tab_copy (n : Nat) (g h : Nat → Int) : (tab n g).take n ++ (tab n h).drop n = tab n g := by
  rw [List.take_of_length_le (by rw [tab_len]; exact Nat.le_refl _), List.drop_eq_nil_of_le (by rw [tab_len]; exact Nat.le_refl _), List.append_nil]
theorem WpV_some {xs : List Int} {v : AV} {y pc : Nat} {L st : List AV} {μ : Mu} {f : AH} {Q : Out → Mu → AH → Prop} : WpV xs (some v) y pc L st μ f Q = Wp xs y pc L (v :: st) μ f Q := rfl
theorem WpH_some {xs : List Int} {y pc : Nat} {L st : List AV} {μ : Mu} {f : AH} {Q : Out → Mu → AH → Prop} : WpH xs (some f) y pc L st μ Q = Wp xs y pc L st μ f Q := rfl
theorem ite_t {c a b : Prop} [Decidable c] (h : c) : (if c then a else b) = a := if_pos h
theorem ite_f {c a b : Prop} [Decidable c] (h : ¬ c) : (if c then a else b) = b := if_neg h
theorem aup_aup (f : AH) (a : Nat) (c d : AC) : aup (aup f a c) a d = aup f a d := by
  funext b; unfold aup; split <;> rfl
theorem aup_self {f : AH} {a : Nat} {c : AC} (h : f a = some c) : aup f a c = f := by
  funext b; unfold aup; split
  · rename_i e; rw [e, h]
  · rfl
/-- calls on a receiver, by what the callee is known to do -/
theorem cI_v {xs : List Int} {a c y' : Nat} {bs : List AV} {μ μ' : Mu} {f f' : AH} {v : AV} (h : Runs xs y' (vr a :: bs) μ f (.inl (some v)) μ' f') (ho : isO f a c = true) (ha : a ≠ 0) (y pc : Nat) (L st : List AV) (Q : Out → Mu → AH → Prop) : WpI xs (isO f a c) a y' (vr a :: bs) y pc L st μ f Q = Wp xs y pc L (v :: st) μ' f' Q := by
  unfold WpI
  rw [if_pos ⟨ho, ha⟩, h.c]; rfl
theorem cI_n {xs : List Int} {a c y' : Nat} {bs : List AV} {μ μ' : Mu} {f f' : AH} (h : Runs xs y' (vr a :: bs) μ f (.inl none) μ' f') (ho : isO f a c = true) (ha : a ≠ 0) (y pc : Nat) (L st : List AV) (Q : Out → Mu → AH → Prop) : WpI xs (isO f a c) a y' (vr a :: bs) y pc L st μ f Q = Wp xs y pc L st μ' f' Q := by
  unfold WpI
  rw [if_pos ⟨ho, ha⟩, h.c]; rfl
theorem cI_e {xs : List Int} {a c y' E : Nat} {bs : List AV} {μ μ' : Mu} {f f' : AH} (h : Runs xs y' (vr a :: bs) μ f (.inr E) μ' f') (ho : isO f a c = true) (ha : a ≠ 0) (y pc : Nat) (L st : List AV) (Q : Out → Mu → AH → Prop) : WpI xs (isO f a c) a y' (vr a :: bs) y pc L st μ f Q = WpK xs y pc L st Q (.inr E) μ' f' := by
  unfold WpI
  rw [if_pos ⟨ho, ha⟩, h.c]
theorem cC_v {xs : List Int} {y' : Nat} {as : List AV} {μ μ' : Mu} {f f' : AH} {v : AV} (h : Runs xs y' as μ f (.inl (some v)) μ' f') (y pc : Nat) (L st : List AV) (Q : Out → Mu → AH → Prop) : WpC xs y' as y pc L st μ f Q = Wp xs y pc L (v :: st) μ' f' Q := by
  rw [h.c]; rfl
theorem cC_n {xs : List Int} {y' : Nat} {as : List AV} {μ μ' : Mu} {f f' : AH} (h : Runs xs y' as μ f (.inl none) μ' f') (y pc : Nat) (L st : List AV) (Q : Out → Mu → AH → Prop) : WpC xs y' as y pc L st μ f Q = Wp xs y pc L st μ' f' Q := by
  rw [h.c]; rfl
theorem cC_e {xs : List Int} {y' E : Nat} {as : List AV} {μ μ' : Mu} {f f' : AH} (h : Runs xs y' as μ f (.inr E) μ' f') (y pc : Nat) (L st : List AV) (Q : Out → Mu → AH → Prop) : WpC xs y' as y pc L st μ f Q = WpK xs y pc L st Q (.inr E) μ' f' := h.c _ _ _ _ _
/-- an exception goes on -/
theorem WpK_up {xs : List Int} {y pc E : Nat} {L st : List AV} {μ : Mu} {f : AH} {Q : Out → Mu → AH → Prop} (h : lk hTab y E = none) (h2 : (mH y).isEmpty = true) : WpK xs y pc L st Q (.inr E) μ f = Q (.inr E) μ f := by
  unfold WpK
  dsimp only
  rw [h]
  exact propext ⟨fun q => q.2, fun q => ⟨h2, q⟩⟩
def rowAt (f : AH) (r c n : Nat) (g : Nat → Int) : Prop := f r = some (oC 0 [vr c]) ∧ f c = some (iC (tab n g)) ∧ r ≠ 0 ∧ c ≠ 0 ∧ n ≤ 1000
def rg (n : Nat) (g : Nat → Int) (i : Int) : Int := if 0 ≤ i ∧ i < n then g i.toNat else -1
def rs (n : Nat) (g : Nat → Int) (i v : Int) : Nat → Int := if 0 ≤ i ∧ i < n then fu g i.toNat v else g
section ROW
variable {xs : List Int} {f : AH} {r c n : Nat} {g : Nat → Int} {μ : Mu}
theorem rowAt.ne (h : rowAt f r c n g) : r ≠ c := fun e => by
  have h1 := h.1
  rw [e, h.2.1] at h1
  cases h1
theorem rowAt.put (h : rowAt f r c n g) (g' : Nat → Int) : rowAt (aup f c (iC (tab n g'))) r c n g' := ⟨by rw [aup_ne f _ h.ne]; exact h.1, aup_same _ _ _, h.2.2⟩
theorem rowAt.o (h : rowAt f r c n g) : isO f r 0 = true := by unfold isO; rw [h.1]; rfl
theorem rw_gf (h : rowAt f r c n g) : gf f r 0 0 = some (vr c) := by unfold gf; rw [h.1]; rfl
theorem rw_gI (h : rowAt f r c n g) {y : Nat} {i : Int} (h0 : 0 ≤ i) (h1 : i < n) : gI xs y f c i = some (vi (g i.toNat)) := by
  unfold gI
  rw [if_neg h.2.2.2.1]
  unfold gi
  rw [h.2.1]
  dsimp only
  rw [tab_len, if_pos ⟨h0, h1⟩, tab_get g (by omega)]
theorem rw_aN (h : rowAt f r c n g) {y : Nat} : aN xs y f c = some (vi (n : Int)) := by
  unfold aN
  rw [if_neg h.2.2.2.1]
  unfold an
  rw [h.2.1]
  show some (vi ((tab n g).length : Int)) = _
  rw [tab_len]
theorem rw_pi (h : rowAt f r c n g) {i x : Int} (h0 : 0 ≤ i) (h1 : i < n) : pi f c i x = some (aup f c (iC (tab n (fu g i.toNat x)))) := by
  unfold pi
  rw [h.2.1]
  dsimp only
  rw [tab_len, if_pos ⟨h0, h1⟩, tab_set]
theorem get_runs (h : rowAt f r c n g) (i : Int) : Runs xs 4 [vr r, vi i] μ f (.inl (some (vi (rg n g i)))) μ f := Runs.iff fun Q hQ => by
  show Wp xs 4 0 [vr r, vi i] [] μ f Q
  have hn := h.2.2.2.2
  by_cases h0 : 0 ≤ i ∧ i < n
  · simp (disch := omega) only [e4_0, e4_1, e4_4, e4_5, e4_6, e4_9, e4_10, e4_13, e4_14, e4_17, e4_18, e4_19, e4_22, e4_23, WpV_some, WpH_some, ↓ite_t, ↓ite_f, rw_gf h, rw_gI h, rw_aN h]
    rw [rg, if_pos h0] at hQ; exact hQ
  · rw [rg, if_neg h0] at hQ
    by_cases h1 : 0 ≤ i
    · simp (disch := omega) only [e4_0, e4_1, e4_4, e4_5, e4_6, e4_9, e4_10, e4_13, e4_14, e4_17, e4_18, e4_19, e4_22, e4_23, WpV_some, WpH_some, ↓ite_t, ↓ite_f, rw_gf h, rw_gI h, rw_aN h]; exact hQ
    · simp (disch := omega) only [e4_0, e4_1, e4_4, e4_5, e4_6, e4_9, e4_10, e4_13, e4_14, e4_17, e4_18, e4_19, e4_22, e4_23, WpV_some, WpH_some, ↓ite_t, ↓ite_f, rw_gf h, rw_gI h, rw_aN h]; exact hQ
theorem set_runs (h : rowAt f r c n g) (i v : Int) : Runs xs 5 [vr r, vi i, vi v] μ f (.inl none) μ (aup f c (iC (tab n (rs n g i v)))) := Runs.iff fun Q hQ => by
  show Wp xs 5 0 [vr r, vi i, vi v] [] μ f Q
  have hn := h.2.2.2.2
  by_cases h0 : 0 ≤ i ∧ i < n
  · simp (disch := omega) only [e5_0, e5_1, e5_4, e5_5, e5_6, e5_9, e5_10, e5_13, e5_14, e5_17, e5_18, e5_19, e5_20, WpV_some, WpH_some, ↓ite_t, ↓ite_f, rw_gf h, rw_pi h, rw_aN h]
    rw [rs, if_pos h0] at hQ; exact hQ
  · rw [rs, if_neg h0, aup_self h.2.1] at hQ
    by_cases h1 : 0 ≤ i
    · simp (disch := omega) only [e5_0, e5_1, e5_4, e5_5, e5_6, e5_9, e5_10, e5_13, e5_14, e5_17, e5_18, e5_19, e5_20, WpV_some, WpH_some, ↓ite_t, ↓ite_f, rw_gf h, rw_aN h]; exact hQ
    · simp (disch := omega) only [e5_0, e5_1, e5_4, e5_5, e5_6, e5_9, e5_10, e5_13, e5_14, e5_17, e5_18, e5_19, e5_20, WpV_some, WpH_some, ↓ite_t, ↓ite_f, rw_gf h, rw_aN h]; exact hQ
theorem swap_runs (h : rowAt f r c n g) (i j : Int) : Runs xs 10 [vr r, vi i, vi j] μ f (.inl none) μ (aup f c (iC (tab n (rs n (rs n g i (rg n g j)) j (rg n g i))))) := Runs.iff fun Q hQ => by
  show Wp xs 10 0 [vr r, vi i, vi j, vu] [] μ f Q
  simp (disch := first | omega | rfl) only [e10_0, e10_1, e10_2, e10_5, e10_6, e10_7, e10_8, e10_9, e10_10, e10_13, e10_16, e10_17, e10_18, e10_19, e10_22, WpV_some, WpH_some, ↓ite_t, ↓ite_f, cI_v (get_runs h _) h.o h.2.2.1, cI_n (set_runs h _ _) h.o h.2.2.1]
  have h2 := h.put (rs n g i (rg n g j))
  simp (disch := first | omega | rfl) only [e10_0, e10_1, e10_2, e10_5, e10_6, e10_7, e10_8, e10_9, e10_10, e10_13, e10_16, e10_17, e10_18, e10_19, e10_22, WpV_some, WpH_some, ↓ite_t, ↓ite_f, cI_n (set_runs h2 _ _) h2.o h.2.2.1, aup_aup]
  exact hQ
/-- the first place of a value, among d from i on -/
def fo (g : Nat → Int) (v : Int) (i : Nat) : Nat → Int
  | 0 => -1
  | d + 1 => if g i = v then (i : Int) else fo g v (i + 1) d
def co (g : Nat → Int) (v : Int) (i : Nat) : Nat → Int
  | 0 => 0
  | d + 1 => (if g i = v then 1 else 0) + co g v (i + 1) d
theorem fo_loop (h : rowAt f r c n g) (v a : Int) (e : Nat) (Q : Out → Mu → AH → Prop) : ∀ (d i : Nat), d = min e n - i → i ≤ 100000 → (Wp xs 6 11 [vr r, vi v, vi a, vi e, vi i] [] μ f Q = Q (.inl (some (vi (fo g v i d)))) μ f) := by
  have hn := h.2.2.2.2
  intro d
  induction d with
  | zero =>
    intro i hi hb
    by_cases h1 : i < e
    · simp (disch := omega) only [e6_0, e6_1, e6_4, e6_5, e6_8, e6_9, e6_11, e6_13, e6_14, e6_17, e6_19, e6_20, e6_23, e6_24, e6_27, e6_28, e6_31, e6_33, e6_34, e6_35, e6_38, e6_40, e6_41, e6_44, e6_47, e6_48, WpV_some, WpH_some, ↓ite_t, ↓ite_f, rw_gf h, rw_gI h, rw_aN h, fo]
    · simp (disch := omega) only [e6_0, e6_1, e6_4, e6_5, e6_8, e6_9, e6_11, e6_13, e6_14, e6_17, e6_19, e6_20, e6_23, e6_24, e6_27, e6_28, e6_31, e6_33, e6_34, e6_35, e6_38, e6_40, e6_41, e6_44, e6_47, e6_48, WpV_some, WpH_some, ↓ite_t, ↓ite_f, fo]
  | succ d ih =>
    intro i hi hb
    have q := ih (i + 1) (by omega) (by omega)
    simp only [Int.natCast_add, Int.cast_ofNat_Int] at q
    rw [e6_11]
    simp (disch := omega) only [e6_0, e6_1, e6_4, e6_5, e6_8, e6_9, e6_13, e6_14, e6_17, e6_19, e6_20, e6_23, e6_24, e6_27, e6_28, e6_31, e6_33, e6_34, e6_35, e6_38, e6_40, e6_41, e6_44, e6_47, e6_48, WpV_some, WpH_some, ↓ite_t, ↓ite_f, rw_gf h, rw_gI h, rw_aN h, wrp_id, Int.toNat_natCast]
    by_cases hv : g i = v
    · simp (disch := omega) only [hv, fo, ↓reduceIte, ne_eq, not_true_eq_false]
    · simp (disch := omega) only [hv, fo, ↓reduceIte, ne_eq, not_false_eq_true, q]
theorem first_runs (h : rowAt f r c n g) (v : Int) (a e : Nat) (ha : a ≤ 100000) : Runs xs 6 [vr r, vi v, vi a, vi e] μ f (.inl (some (vi (fo g v a (min e n - a))))) μ f := Runs.iff fun Q hQ => by
  show Wp xs 6 0 [vr r, vi v, vi a, vi e, vu] [] μ f Q
  simp (disch := first | omega | rfl) only [e6_0, e6_1, e6_4, e6_5, e6_8, e6_9, e6_13, e6_14, e6_17, e6_19, e6_20, e6_23, e6_24, e6_27, e6_28, e6_31, e6_33, e6_34, e6_35, e6_38, e6_40, e6_41, e6_44, e6_47, e6_48, WpV_some, WpH_some, ↓ite_t, ↓ite_f, fo_loop h v a e Q _ a rfl ha]
  exact hQ
theorem co_le (g : Nat → Int) (v : Int) : ∀ d i, 0 ≤ co g v i d ∧ co g v i d ≤ d := by
  intro d
  induction d with
  | zero => intro i; exact ⟨Int.le_refl _, Int.le_refl _⟩
  | succ d ih =>
    intro i
    have q := ih (i + 1)
    simp only [co]
    split <;> omega
theorem co_loop (h : rowAt f r c n g) (v a : Int) (e : Nat) (Q : Out → Mu → AH → Prop) : ∀ (d i : Nat) (w : Int), d = min e n - i → i ≤ 100000 → 0 ≤ w → w ≤ i → (Wp xs 7 14 [vr r, vi v, vi a, vi e, vi w, vi i] [] μ f Q = Q (.inl (some (vi (w + co g v i d)))) μ f) := by
  have hn := h.2.2.2.2
  intro d
  induction d with
  | zero =>
    intro i w hi hb h0 h1
    by_cases h1 : i < e
    · simp (disch := omega) only [e7_0, e7_1, e7_3, e7_4, e7_7, e7_8, e7_11, e7_12, e7_14, e7_16, e7_17, e7_20, e7_22, e7_23, e7_26, e7_27, e7_30, e7_31, e7_34, e7_36, e7_37, e7_38, e7_41, e7_44, e7_47, e7_50, e7_52, WpV_some, WpH_some, ↓ite_t, ↓ite_f, rw_gf h, rw_gI h, rw_aN h, co, Int.add_zero]
    · simp (disch := omega) only [e7_0, e7_1, e7_3, e7_4, e7_7, e7_8, e7_11, e7_12, e7_14, e7_16, e7_17, e7_20, e7_22, e7_23, e7_26, e7_27, e7_30, e7_31, e7_34, e7_36, e7_37, e7_38, e7_41, e7_44, e7_47, e7_50, e7_52, WpV_some, WpH_some, ↓ite_t, ↓ite_f, co, Int.add_zero]
  | succ d ih =>
    intro i w hi hb h0 h1
    rw [e7_14]
    simp (disch := omega) only [e7_0, e7_1, e7_3, e7_4, e7_7, e7_8, e7_11, e7_12, e7_16, e7_17, e7_20, e7_22, e7_23, e7_26, e7_27, e7_30, e7_31, e7_34, e7_36, e7_37, e7_38, e7_41, e7_44, e7_47, e7_50, e7_52, WpV_some, WpH_some, ↓ite_t, ↓ite_f, rw_gf h, rw_gI h, rw_aN h, wrp_id, Int.toNat_natCast]
    by_cases hv : g i = v
    · have q := ih (i + 1) (w + 1) (by omega) (by omega) (by omega) (by omega)
      simp only [Int.natCast_add, Int.cast_ofNat_Int] at q
      simp (disch := omega) only [hv, co, ↓reduceIte, ne_eq, not_true_eq_false, q, Int.add_assoc]
    · have q := ih (i + 1) w (by omega) (by omega) (by omega) (by omega)
      simp only [Int.natCast_add, Int.cast_ofNat_Int] at q
      simp (disch := omega) only [hv, co, ↓reduceIte, ne_eq, not_false_eq_true, q, Int.zero_add]
theorem count_runs (h : rowAt f r c n g) (v : Int) (a e : Nat) (ha : a ≤ 100000) : Runs xs 7 [vr r, vi v, vi a, vi e] μ f (.inl (some (vi (co g v a (min e n - a))))) μ f := Runs.iff fun Q hQ => by
  show Wp xs 7 0 [vr r, vi v, vi a, vi e, vu, vu] [] μ f Q
  simp (disch := first | omega | rfl) only [e7_0, e7_1, e7_3, e7_4, e7_7, e7_8, e7_11, e7_12, e7_16, e7_17, e7_20, e7_22, e7_23, e7_26, e7_27, e7_30, e7_31, e7_34, e7_36, e7_37, e7_38, e7_41, e7_44, e7_47, e7_50, e7_52, WpV_some, WpH_some, ↓ite_t, ↓ite_f]
  rw [co_loop h v a e Q _ a 0 rfl ha (by omega) (by omega), Int.zero_add]
  exact hQ
/-- the sum, as the machine counts -/
def sm (w : Int) (g : Nat → Int) (i : Nat) : Nat → Int
  | 0 => w
  | d + 1 => sm (wrp (w + g i)) g (i + 1) d
theorem sm_loop (h : rowAt f r c n g) (Q : Out → Mu → AH → Prop) : ∀ (d i : Nat) (w : Int), i + d = n → (Wp xs 3 4 [vr r, vi w, vi i] [] μ f Q = Q (.inl (some (vi (sm w g i d)))) μ f) := by
  have hn := h.2.2.2.2
  intro d
  induction d with
  | zero =>
    intro i w hi
    simp (disch := omega) only [e3_0, e3_1, e3_2, e3_3, e3_4, e3_5, e3_6, e3_9, e3_10, e3_13, e3_14, e3_15, e3_18, e3_19, e3_20, e3_21, e3_22, e3_25, e3_28, e3_29, WpV_some, WpH_some, ↓ite_t, ↓ite_f, rw_gf h, rw_gI h, rw_aN h, sm]
  | succ d ih =>
    intro i w hi
    have q := ih (i + 1) (wrp (w + g i)) (by omega)
    simp only [Int.natCast_add, Int.cast_ofNat_Int] at q
    rw [e3_4]
    simp (disch := first | omega | rfl) only [e3_0, e3_1, e3_2, e3_3, e3_5, e3_6, e3_9, e3_10, e3_13, e3_14, e3_15, e3_18, e3_19, e3_20, e3_21, e3_22, e3_25, e3_28, e3_29, WpV_some, WpH_some, ↓ite_t, ↓ite_f, rw_gf h, rw_gI h, rw_aN h, wrp_id, Int.toNat_natCast, q, sm]
theorem sum_runs (h : rowAt f r c n g) : Runs xs 3 [vr r] μ f (.inl (some (vi (sm 0 g 0 n)))) μ f := Runs.iff fun Q hQ => by
  show Wp xs 3 0 [vr r, vu, vu] [] μ f Q
  simp (disch := first | omega | rfl) only [e3_0, e3_1, e3_2, e3_3, e3_5, e3_6, e3_9, e3_10, e3_13, e3_14, e3_15, e3_18, e3_19, e3_20, e3_21, e3_22, e3_25, e3_28, e3_29, WpV_some, WpH_some, ↓ite_t, ↓ite_f]
  have q := sm_loop (xs := xs) (μ := μ) h Q n 0 0 (by omega)
  simp only [Int.cast_ofNat_Int] at q
  rw [q]
  exact hQ
def opn (g : Nat → Int) (p : Nat) (v : Int) : Nat → Int := fun j => if j < p then g j else if j = p then v else g (j - 1)
def cls (g : Nat → Int) (p n : Nat) : Nat → Int := fun j => if p ≤ j ∧ j + 1 < n then g (j + 1) else g j
theorem op_loop (h : rowAt f r c n g) (p : Nat) (v : Int) (Q : Out → Mu → AH → Prop) : ∀ d : Nat, p + d < n → (Wp xs 9 8 [vr r, vi p, vi v, vi ((p + d : Nat) : Int)] [] μ (aup f c (iC (tab n (fun j => if p + d < j then g (j - 1) else g j)))) Q = Wp xs 9 37 [vr r, vi p, vi v, vi p] [] μ (aup f c (iC (tab n (fun j => if p < j then g (j - 1) else g j)))) Q) := by
  have hn := h.2.2.2.2
  intro d
  induction d with
  | zero =>
    intro hd
    have h2 := h.put (fun j => if p < j then g (j - 1) else g j)
    simp only [Nat.add_zero]
    rw [e9_8]
    simp (disch := omega) only [e9_0, e9_1, e9_4, e9_5, e9_6, e9_7, e9_9, e9_10, e9_13, e9_14, e9_17, e9_18, e9_21, e9_22, e9_23, e9_26, e9_27, e9_28, e9_29, e9_30, e9_31, e9_34, e9_38, e9_39, e9_40, e9_43, WpV_some, WpH_some, ↓ite_t, ↓ite_f]
  | succ d ih =>
    intro hd
    have q := ih (by omega)
    have h2 := h.put (fun j => if p + (d + 1) < j then g (j - 1) else g j)
    rw [e9_8]
    simp (disch := omega) only [e9_0, e9_1, e9_4, e9_5, e9_6, e9_7, e9_9, e9_10, e9_13, e9_14, e9_17, e9_18, e9_21, e9_22, e9_23, e9_26, e9_27, e9_28, e9_29, e9_30, e9_31, e9_34, e9_38, e9_39, e9_40, e9_43, WpV_some, WpH_some, ↓ite_t, ↓ite_f, rw_gf h2, rw_gI h2, rw_pi h2, rw_aN h2, wrp_id, aup_aup]
    have e1 : ((p + (d + 1) : Nat) : Int) - 1 = ((p + d : Nat) : Int) := by omega
    have e1b : ((p + (d + 1) : Nat) : Int) + -1 = ((p + d : Nat) : Int) := by omega
    have e2 : tab n (fu (fun j => if p + (d + 1) < j then g (j - 1) else g j) ((p + (d + 1) : Nat) : Int).toNat (if p + (d + 1) < (((p + (d + 1) : Nat) : Int) - 1).toNat then g ((((p + (d + 1) : Nat) : Int) - 1).toNat - 1) else g (((p + (d + 1) : Nat) : Int) - 1).toNat)) = tab n (fun j => if p + d < j then g (j - 1) else g j) := by
      apply tab_ext
      intro j hj
      rw [e1, Int.toNat_natCast, Int.toNat_natCast, if_neg (by omega)]
      clear ih q h2
      unfold fu
      grind
    rw [e2, e1b]
    exact q
theorem open_runs (h : rowAt f r c n g) (p : Nat) (v : Int) (hp : p < n) : Runs xs 9 [vr r, vi p, vi v] μ f (.inl none) μ (aup f c (iC (tab n (opn g p v)))) := Runs.iff fun Q hQ => by
  have hn := h.2.2.2.2
  show Wp xs 9 0 [vr r, vi p, vi v, vu] [] μ f Q
  simp (disch := first | omega | rfl) only [e9_0, e9_1, e9_4, e9_5, e9_6, e9_7, e9_9, e9_10, e9_13, e9_14, e9_17, e9_18, e9_21, e9_22, e9_23, e9_26, e9_27, e9_28, e9_29, e9_30, e9_31, e9_34, e9_38, e9_39, e9_40, e9_43, WpV_some, WpH_some, ↓ite_t, ↓ite_f, rw_gf h, rw_aN h, wrp_id]
  have q := op_loop (xs := xs) (μ := μ) h p v Q (n - 1 - p) (by omega)
  have e0 : tab n (fun j => if p + (n - 1 - p) < j then g (j - 1) else g j) = tab n g := tab_ext fun j hj => by rw [if_neg (by omega)]
  rw [e0, aup_self h.2.1, show ((p + (n - 1 - p) : Nat) : Int) = (n : Int) - 1 by omega] at q
  rw [q]
  have h2 := h.put (fun j => if p < j then g (j - 1) else g j)
  simp (disch := first | omega | rfl) only [e9_0, e9_1, e9_4, e9_5, e9_6, e9_7, e9_9, e9_10, e9_13, e9_14, e9_17, e9_18, e9_21, e9_22, e9_23, e9_26, e9_27, e9_28, e9_29, e9_30, e9_31, e9_34, e9_37, e9_38, e9_39, e9_40, e9_43, WpV_some, WpH_some, ↓ite_t, ↓ite_f, cI_n (set_runs h2 _ _) h2.o h.2.2.1, aup_aup]
  have e1 : tab n (rs n (fun j => if p < j then g (j - 1) else g j) (p : Int) v) = tab n (opn g p v) := tab_ext fun j hj => by
    unfold rs opn
    rw [if_pos (by omega), Int.toNat_natCast]
    unfold fu
    grind
  rw [e1]
  exact hQ
theorem cl_loop (h : rowAt f r c n g) (p : Nat) (Q : Out → Mu → AH → Prop) : ∀ d i : Nat, p ≤ i → i + d + 1 = n → (Wp xs 8 10 [vr r, vi p, vi i] [] μ (aup f c (iC (tab n (fun j => if p ≤ j ∧ j < i then g (j + 1) else g j)))) Q = Q (.inl none) μ (aup f c (iC (tab n (fun j => if p ≤ j ∧ j < i + d then g (j + 1) else g j))))) := by
  have hn := h.2.2.2.2
  intro d
  induction d with
  | zero =>
    intro i hp hi
    have h2 := h.put (fun j => if p ≤ j ∧ j < i then g (j + 1) else g j)
    simp (disch := omega) only [e8_0, e8_1, e8_4, e8_5, e8_8, e8_9, e8_10, e8_11, e8_12, e8_15, e8_16, e8_17, e8_18, e8_21, e8_22, e8_25, e8_26, e8_27, e8_30, e8_31, e8_32, e8_33, e8_34, e8_35, e8_38, e8_41, WpV_some, WpH_some, ↓ite_t, ↓ite_f, rw_gf h2, rw_aN h2, wrp_id, Nat.add_zero]
  | succ d ih =>
    intro i hp hi
    have q := ih (i + 1) (by omega) (by omega)
    have h2 := h.put (fun j => if p ≤ j ∧ j < i then g (j + 1) else g j)
    rw [e8_10]
    simp (disch := omega) only [e8_0, e8_1, e8_4, e8_5, e8_8, e8_9, e8_11, e8_12, e8_15, e8_16, e8_17, e8_18, e8_21, e8_22, e8_25, e8_26, e8_27, e8_30, e8_31, e8_32, e8_33, e8_34, e8_35, e8_38, e8_41, WpV_some, WpH_some, ↓ite_t, ↓ite_f, rw_gf h2, rw_gI h2, rw_pi h2, rw_aN h2, wrp_id, aup_aup]
    have e1 : ((i : Int) + 1).toNat = i + 1 := by omega
    have e2 : tab n (fu (fun j => if p ≤ j ∧ j < i then g (j + 1) else g j) ((i : Int)).toNat (if p ≤ ((i : Int) + 1).toNat ∧ ((i : Int) + 1).toNat < i then g (((i : Int) + 1).toNat + 1) else g ((i : Int) + 1).toNat)) = tab n (fun j => if p ≤ j ∧ j < i + 1 then g (j + 1) else g j) := by
      apply tab_ext
      intro j hj
      rw [e1, Int.toNat_natCast]
      clear ih q h2
      unfold fu
      grind
    rw [e2]
    simp only [Int.natCast_add, Int.cast_ofNat_Int] at q
    rw [q, show i + 1 + d = i + (d + 1) by omega]
theorem close_runs (h : rowAt f r c n g) (p : Nat) (hp : p < n) : Runs xs 8 [vr r, vi p] μ f (.inl none) μ (aup f c (iC (tab n (cls g p n)))) := Runs.iff fun Q hQ => by
  have hn := h.2.2.2.2
  show Wp xs 8 0 [vr r, vi p, vu] [] μ f Q
  simp (disch := first | omega | rfl) only [e8_0, e8_1, e8_4, e8_5, e8_8, e8_9, e8_11, e8_12, e8_15, e8_16, e8_17, e8_18, e8_21, e8_22, e8_25, e8_26, e8_27, e8_30, e8_31, e8_32, e8_33, e8_34, e8_35, e8_38, e8_41, WpV_some, WpH_some, ↓ite_t, ↓ite_f]
  have q := cl_loop (xs := xs) (μ := μ) h p Q (n - 1 - p) p (Nat.le_refl _) (by omega)
  have e0 : tab n (fun j => if p ≤ j ∧ j < p then g (j + 1) else g j) = tab n g := tab_ext fun j hj => by grind
  have e1 : tab n (fun j => if p ≤ j ∧ j < p + (n - 1 - p) then g (j + 1) else g j) = tab n (cls g p n) := tab_ext fun j hj => by unfold cls; grind
  rw [e0, e1, aup_self h.2.1] at q
  rw [q]
  exact hQ
theorem cp_rows {r2 c2 : Nat} {g2 : Nat → Int} (h : rowAt f r c n g) (h2 : rowAt f r2 c2 n g2) : cp f c2 c (n : Int) = some (aup f c (iC (tab n g2))) := by
  unfold cp
  rw [h.2.1, h2.2.1]
  dsimp only
  rw [tab_len, tab_len, if_pos ⟨by omega, Int.le_refl _, Int.le_refl _⟩, Int.toNat_natCast, tab_copy]
theorem copy_runs {r2 c2 : Nat} {g2 : Nat → Int} (h : rowAt f r c n g) (h2 : rowAt f r2 c2 n g2) : Runs xs 2 [vr r, vr r2] μ f (.inl none) μ (aup f c (iC (tab n g2))) := Runs.iff fun Q hQ => by
  show Wp xs 2 0 [vr r, vr r2] [] μ f Q
  simp (disch := first | omega | rfl) only [e2_0, e2_1, e2_4, e2_5, e2_6, e2_9, e2_10, e2_11, e2_14, e2_15, e2_16, e2_19, e2_20, e2_23, e2_26, WpV_some, WpH_some, ↓ite_t, ↓ite_f, rw_gf h, rw_gf h2, rw_aN h, rw_aN h2, Int.le_refl, ↓reduceIte, cp_rows h h2]
  exact hQ
theorem init_loop (h : rowAt f r c n g) (v w : Int) (Q : Out → Mu → AH → Prop) : ∀ d i : Nat, i + d = n → (Wp xs 1 21 [vr r, vi w, vi v, vi i] [] μ (aup f c (iC (tab n (fun j => if j < i then v else g j)))) Q = Q (.inl none) μ (aup f c (iC (tab n (fun _ => v))))) := by
  have hn := h.2.2.2.2
  intro d
  induction d with
  | zero =>
    intro i hi
    have h2 := h.put (fun j => if j < i then v else g j)
    have e0 : tab n (fun j => if j < i then v else g j) = tab n (fun _ => v) := tab_ext fun j hj => by grind
    rw [e0] at h2 ⊢
    have h3 := h.put (fun _ => v)
    simp (disch := first | omega | rfl) only [e1_0, e1_1, e1_4, e1_5, e1_6, e1_9, e1_10, e1_13, e1_14, e1_16, e1_19, e1_20, e1_21, e1_22, e1_23, e1_26, e1_27, e1_30, e1_31, e1_34, e1_35, e1_36, e1_37, e1_40, e1_43, WpV_some, WpH_some, ↓ite_t, ↓ite_f, rw_gf h3, rw_aN h3]
  | succ d ih =>
    intro i hi
    have q := ih (i + 1) (by omega)
    have h2 := h.put (fun j => if j < i then v else g j)
    rw [e1_21]
    simp (disch := first | omega | rfl) only [e1_0, e1_1, e1_4, e1_5, e1_6, e1_9, e1_10, e1_13, e1_14, e1_16, e1_19, e1_20, e1_22, e1_23, e1_26, e1_27, e1_30, e1_31, e1_34, e1_35, e1_36, e1_37, e1_40, e1_43, WpV_some, WpH_some, ↓ite_t, ↓ite_f, rw_gf h2, rw_aN h2, rw_pi h2, aup_aup, wrp_id]
    have e2 : tab n (fu (fun j => if j < i then v else g j) ((i : Int)).toNat v) = tab n (fun j => if j < i + 1 then v else g j) := by
      apply tab_ext
      intro j hj
      rw [Int.toNat_natCast]
      clear ih q h2
      unfold fu
      grind
    rw [e2]
    simp only [Int.natCast_add, Int.cast_ofNat_Int] at q
    exact q
/-- a new row: its array is the next cell -/
theorem init_runs (hr : r ≠ 0) (hm : r ≤ μ.1) (h : f r = some (oC 0 [vn])) (n : Nat) (hn : n ≤ 1000) (v : Int) : Runs xs 1 [vr r, vi n, vi v] μ f (.inl none) (μ.1 + 1, (μ.2.1 + 1, μ.2.2 + n)) (aup (aup f r (oC 0 [vr (μ.1 + 1)])) (μ.1 + 1) (iC (tab n (fun _ => v)))) := Runs.iff fun Q hQ => by
  show Wp xs 1 0 [vr r, vi n, vi v, vu] [] μ f Q
  have hp : pf (aup f (μ.1 + 1) (iC (tab n (fun _ => 0)))) r 0 0 (vr (μ.1 + 1)) = some (aup (aup f (μ.1 + 1) (iC (tab n (fun _ => 0)))) r (oC 0 [vr (μ.1 + 1)])) := by
    unfold pf
    rw [aup_ne _ _ (by omega), h]
    rfl
  have hR : rowAt (aup (aup f (μ.1 + 1) (iC (tab n (fun _ => 0)))) r (oC 0 [vr (μ.1 + 1)])) r (μ.1 + 1) n (fun _ => 0) := ⟨aup_same _ _ _, by rw [aup_ne _ _ (by omega), aup_same], hr, by omega, hn⟩
  simp (disch := first | omega | rfl) only [e1_0, e1_1, e1_4, e1_5, e1_6, e1_9, e1_10, e1_13, e1_14, e1_16, e1_19, e1_20, e1_22, e1_23, e1_26, e1_27, e1_30, e1_31, e1_34, e1_35, e1_36, e1_37, e1_40, e1_43, WpV_some, WpH_some, ↓ite_t, ↓ite_f, Int.toNat_natCast, tab_const, hp]
  have q := init_loop (xs := xs) (μ := (μ.1 + 1, (μ.2.1 + 1, μ.2.2 + n))) hR v n Q n 0 (by omega)
  simp only [Nat.not_lt_zero, ↓reduceIte, Int.cast_ofNat_Int] at q
  rw [aup_self hR.2.1] at q
  rw [q]
  have e : aup (aup (aup f (μ.1 + 1) (iC (tab n (fun _ => 0)))) r (oC 0 [vr (μ.1 + 1)])) (μ.1 + 1) (iC (tab n (fun _ => v))) = aup (aup f r (oC 0 [vr (μ.1 + 1)])) (μ.1 + 1) (iC (tab n (fun _ => v))) := by
    funext a
    unfold aup
    grind
  rw [e]
  exact hQ
end ROW
