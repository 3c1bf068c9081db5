/-! THE MACHINE'S STATE BEHIND THE ABSTRACT ONE -/
theorem wrp_lo (x : Int) : -2147483648 ≤ wrp x := by unfold wrp; omega
theorem wrp_hi (x : Int) : wrp x < 2147483648 := by unfold wrp; omega
theorem wrp_id {x : Int} (h : -2147483648 ≤ x) (h2 : x < 2147483648) : wrp x = x := by unfold wrp; omega
theorem i32_wrp (x : Int) : i32 (wrp x) = i32 x := by
  unfold i32
  rw [← Int32.toInt_inj, Int32.toInt_ofInt, Int32.toInt_ofInt]
  show Int.bmod (wrp x) 4294967296 = Int.bmod x 4294967296
  unfold wrp
  simp only [Int.bmod]
  split <;> split <;> omega
theorem i32_int {z : Int} (h : -2147483648 ≤ z) (h2 : z < 2147483648) : (i32 z).toInt = z := Int32.toInt_ofInt_of_le h h2
theorem i32_of (x : Int32) : i32 x.toInt = x := Int32.ofInt_toInt x
theorem i32_lo (x : Int32) : -2147483648 ≤ x.toInt := Int32.le_toInt x
theorem i32_hi (x : Int32) : x.toInt < 2147483648 := Int32.toInt_lt x
theorem i32_le {x y : Int} (h : -2147483648 ≤ x ∧ x < 2147483648) (h2 : -2147483648 ≤ y ∧ y < 2147483648) : i32 x ≤ i32 y ↔ x ≤ y := by
  rw [Int32.le_iff_toInt_le, i32_int h.1 h.2, i32_int h2.1 h2.2]
theorem i32_lt {x y : Int} (h : -2147483648 ≤ x ∧ x < 2147483648) (h2 : -2147483648 ≤ y ∧ y < 2147483648) : i32 x < i32 y ↔ x < y := by
  rw [Int32.lt_iff_toInt_lt, i32_int h.1 h.2, i32_int h2.1 h2.2]
theorem i32_eq {x y : Int} (h : -2147483648 ≤ x ∧ x < 2147483648) (h2 : -2147483648 ≤ y ∧ y < 2147483648) : i32 x = i32 y ↔ x = y := by
  rw [← Int32.toInt_inj, i32_int h.1 h.2, i32_int h2.1 h2.2]
theorem i32_nat {z : Int} (h : 0 ≤ z) (h2 : z < 2147483648) : (i32 z).toNatClampNeg = z.toNat := by
  show (i32 z).toInt.toNat = z.toNat
  rw [i32_int (by omega) h2]
theorem i32_in {z : Int} {n : Nat} (h : 0 ≤ z) (h2 : z < n) (hn : n < 2147483648) : vp_in (i32 z) n := vp_in_iff.mpr (by rw [i32_int (by omega) (by omega)]; exact ⟨h, h2⟩)
theorem i32_0 : i32 0 = 0 := rfl
theorem i32_N (n : Nat) : i32 (n : Int) = Int32.ofNat n := rfl
/-- an abstract value as the machine has it -/
def cv (φ : Nat → Nat) (v : AV) : Value := match v with
  | .inl z => .int (i32 z)
  | .inr (.inl none) => .null
  | .inr (.inl (some a)) => .ref (φ a)
  | .inr (.inr (.inl x)) => .long x
  | .inr (.inr (.inr (.inl x))) => .double x
  | .inr (.inr (.inr (.inr _))) => .null
abbrev KI : Type := ClassId × (ClassId × ClassId)
def ce (K : KI) (φ : Nat → Nat) (c : AC) : va_E := match c with
  | .inl (k, fs) => .inr (k, fs.map (cv φ))
  | .inr (.inl xs) => .inl (K.1, xs.length, .inl (fun j => i32 (xs.getD j 0)))
  | .inr (.inr (.inl rs)) => .inl (K.2.1, rs.length, .inr (.inr (.inr (.inr (fun j => (rs.getD j none).map φ)))))
  | .inr (.inr (.inr xs)) => .inl (K.2.2, xs.length, .inr (.inl (fun j => xs.getD j 0)))
def wc (K : KI) (φ : Nat → Nat) (f : AH) (a : Nat) : va_E := match f a with
  | some c => ce K φ c
  | none => .inr (0, [])
def wld (K : KI) (φ : Nat → Nat) (f : AH) (n : Nat) : va_W := (List.range n).map (fun i => (φ (i + 1), wc K φ f (i + 1)))
theorem wld_at (K : KI) (φ : Nat → Nat) (f : AH) (n i : Nat) : (wld K φ f n)[i]? = if i < n then some (φ (i + 1), wc K φ f (i + 1)) else none := by
  unfold wld
  by_cases h : i < n
  · rw [if_pos h, List.getElem?_map, List.getElem?_range h]; rfl
  · rw [if_neg h, List.getElem?_eq_none (by simp; omega)]
theorem wld_len (K : KI) (φ : Nat → Nat) (f : AH) (n : Nat) : (wld K φ f n).length = n := by simp [wld]
def okV (n : Nat) (v : AV) : Prop := match v with
  | .inl z => -2147483648 ≤ z ∧ z < 2147483648
  | .inr (.inl (some a)) => a ≤ n
  | _ => True
theorem okV.up {n m : Nat} {v : AV} (h : okV n v) (hn : n ≤ m) : okV m v := by
  rcases v with z | (_ | a) | x | x | x
  · exact h
  · trivial
  · exact Nat.le_trans h hn
  · trivial
  · trivial
  · trivial
def okC (n : Nat) (c : AC) : Prop := match c with
  | .inl (k, fs) => k < 5 ∧ fs.length = cF k ∧ ∀ v ∈ fs, okV n v ∧ isU v = false
  | .inr (.inl xs) => (∀ x ∈ xs, -2147483648 ≤ x ∧ x < 2147483648) ∧ xs.length < 2147483648
  | .inr (.inr (.inl rs)) => (∀ a : Nat, some a ∈ rs → a ≤ n) ∧ rs.length < 2147483648
  | .inr (.inr (.inr xs)) => xs.length < 2147483648
theorem okC.up {n m : Nat} {c : AC} (h : okC n c) (hn : n ≤ m) : okC m c := by
  rcases c with ⟨k, fs⟩ | xs | rs | xs
  · exact ⟨h.1, h.2.1, fun v hv => ⟨(h.2.2 v hv).1.up hn, (h.2.2 v hv).2⟩⟩
  · exact h
  · exact ⟨fun a ha => Nat.le_trans (h.1 a ha) hn, h.2⟩
  · exact h
def okH (n : Nat) (f : AH) : Prop := (∀ (a : Nat) (c : AC), f a = some c → 1 ≤ a ∧ a ≤ n ∧ okC n c) ∧ ∀ a : Nat, 1 ≤ a → a ≤ n → f a ≠ none
def okS (n : Nat) (st : List AV) : Prop := ∀ v ∈ st, okV n v ∧ isU v = false
/-- two maps of addresses that agree so far -/
def ext (n : Nat) (φ ψ : Nat → Nat) : Prop := ∀ a, a ≤ n → ψ a = φ a
theorem ext.rf {n : Nat} {φ : Nat → Nat} : ext n φ φ := fun _ _ => rfl
theorem ext.tr {n m : Nat} {φ ψ χ : Nat → Nat} (h : ext n φ ψ) (h2 : ext m ψ χ) (hn : n ≤ m) : ext n φ χ := fun a ha => (h2 a (Nat.le_trans ha hn)).trans (h a ha)
theorem cv_ext {n : Nat} {φ ψ : Nat → Nat} (h : ext n φ ψ) {v : AV} (hv : okV n v) : cv ψ v = cv φ v := by
  rcases v with z | (_ | a) | x | x | x
  · rfl
  · rfl
  · show Value.ref (ψ a) = Value.ref (φ a); rw [h a hv]
  · rfl
  · rfl
  · rfl
theorem cvs_ext {n : Nat} {φ ψ : Nat → Nat} (h : ext n φ ψ) {st : List AV} (hv : okS n st) : st.map (cv ψ) = st.map (cv φ) := List.map_congr_left fun v hm => cv_ext h (hv v hm).1
theorem ce_ext {K : KI} {n : Nat} {φ ψ : Nat → Nat} (h : ext n φ ψ) {c : AC} (hc : okC n c) : ce K ψ c = ce K φ c := by
  rcases c with ⟨k, fs⟩ | xs | rs | xs
  · show Sum.inr (k, fs.map (cv ψ)) = Sum.inr (k, fs.map (cv φ))
    rw [List.map_congr_left fun v hm => cv_ext h (hc.2.2 v hm).1]
  · rfl
  · show Sum.inl (K.2.1, rs.length, Sum.inr (Sum.inr (Sum.inr (Sum.inr fun j => (rs.getD j none).map ψ)))) = Sum.inl (K.2.1, rs.length, Sum.inr (Sum.inr (Sum.inr (Sum.inr fun j => (rs.getD j none).map φ))))
    have e : (fun j => (rs.getD j none).map ψ) = (fun j => (rs.getD j none).map φ) := by
      funext j
      cases hj : rs.getD j none with
      | none => rfl
      | some a =>
        have hm : some a ∈ rs := by
          rw [List.getD_eq_getElem?_getD] at hj
          cases hq : rs[j]? with
          | none => rw [hq] at hj; cases hj
          | some w => rw [hq] at hj; cases hj; exact List.mem_of_getElem? hq
        show some (ψ a) = some (φ a)
        rw [h a (hc.1 a hm)]
    rw [e]
  · rfl
theorem wc_some {K : KI} {φ : Nat → Nat} {f : AH} {a : Nat} {c : AC} (h : f a = some c) : wc K φ f a = ce K φ c := by unfold wc; rw [h]
theorem wld_get {K : KI} {φ : Nat → Nat} {f : AH} {n a : Nat} {c : AC} (ho : okH n f) (h : f a = some c) : (wld K φ f n)[a - 1]? = some (φ a, ce K φ c) := by
  obtain ⟨h1, h2, -⟩ := ho.1 a c h
  rw [wld_at, if_pos (by omega), Nat.sub_add_cancel h1, wc_some h]
theorem aup_same (f : AH) (a : Nat) (c : AC) : aup f a c a = some c := by simp [aup]
theorem aup_ne (f : AH) {a b : Nat} (c : AC) (h : b ≠ a) : aup f a c b = f b := by simp [aup, h]
theorem wld_set {K : KI} {φ : Nat → Nat} {f : AH} {n a : Nat} {c c' : AC} (ho : okH n f) (h : f a = some c) : (wld K φ f n).set (a - 1) (φ a, ce K φ c') = wld K φ (aup f a c') n := by
  obtain ⟨h1, h2, -⟩ := ho.1 a c h
  apply List.ext_getElem?
  intro i
  rw [List.getElem?_set, wld_len, wld_at, wld_at]
  by_cases hi : a - 1 = i
  · subst hi
    rw [if_pos rfl, if_pos (by omega), if_pos (by omega), Nat.sub_add_cancel h1, wc_some (aup_same f a c')]
  · rw [if_neg hi]
    by_cases hn : i < n
    · rw [if_pos hn, if_pos hn]
      have e : wc K φ (aup f a c') (i + 1) = wc K φ f (i + 1) := by unfold wc; rw [aup_ne f c' (by omega)]
      rw [e]
    · rw [if_neg hn, if_neg hn]
theorem okH_set {n : Nat} {f : AH} {a : Nat} {c c' : AC} (ho : okH n f) (h : f a = some c) (hc : okC n c') : okH n (aup f a c') := by
  obtain ⟨h1, h2, -⟩ := ho.1 a c h
  refine ⟨fun b d hb => ?_, fun b b1 b2 => ?_⟩
  · by_cases e : b = a
    · subst e; rw [aup_same] at hb; cases hb; exact ⟨h1, h2, hc⟩
    · rw [aup_ne f c' e] at hb; exact ho.1 b d hb
  · by_cases e : b = a
    · subst e; rw [aup_same]; simp
    · rw [aup_ne f c' e]; exact ho.2 b b1 b2
theorem okH_new {n : Nat} {f : AH} {c : AC} (ho : okH n f) (hc : okC (n + 1) c) : okH (n + 1) (aup f (n + 1) c) := by
  refine ⟨fun b d hb => ?_, fun b b1 b2 => ?_⟩
  · by_cases e : b = n + 1
    · subst e; rw [aup_same] at hb; cases hb; exact ⟨by omega, Nat.le_refl _, hc⟩
    · rw [aup_ne f c e] at hb; obtain ⟨q1, q2, q3⟩ := ho.1 b d hb; exact ⟨q1, by omega, q3.up (by omega)⟩
  · by_cases e : b = n + 1
    · subst e; rw [aup_same]; simp
    · rw [aup_ne f c e]; exact ho.2 b b1 (by omega)
theorem wld_ext {K : KI} {n : Nat} {φ ψ : Nat → Nat} {f : AH} (h : ext n φ ψ) (ho : okH n f) : wld K ψ f n = wld K φ f n := by
  unfold wld
  apply List.map_congr_left
  intro i hi
  have hi := List.mem_range.mp hi
  rw [h (i + 1) (by omega)]
  cases hf : f (i + 1) with
  | none => exact absurd hf (ho.2 (i + 1) (by omega) (by omega))
  | some c => rw [wc_some hf, wc_some hf, ce_ext h (ho.1 _ _ hf).2.2]
def aupN (φ : Nat → Nat) (k q : Nat) : Nat → Nat := fun a => if a = k then q else φ a
theorem aupN_ext (φ : Nat → Nat) (n q : Nat) : ext n φ (aupN φ (n + 1) q) := fun a ha => by simp [aupN]; omega
theorem wld_new {K : KI} {φ : Nat → Nat} {f : AH} {n q : Nat} {c : AC} (ho : okH n f) : wld K φ f n ++ [(q, ce K (aupN φ (n + 1) q) c)] = wld K (aupN φ (n + 1) q) (aup f (n + 1) c) (n + 1) := by
  have e1 : wld K (aupN φ (n + 1) q) (aup f (n + 1) c) (n + 1) = wld K (aupN φ (n + 1) q) (aup f (n + 1) c) n ++ [(aupN φ (n + 1) q (n + 1), wc K (aupN φ (n + 1) q) (aup f (n + 1) c) (n + 1))] := by
    unfold wld
    rw [List.range_succ, List.map_append]
    rfl
  have e2 : wld K (aupN φ (n + 1) q) (aup f (n + 1) c) n = wld K (aupN φ (n + 1) q) f n := by
    unfold wld
    apply List.map_congr_left
    intro i hi
    have hi := List.mem_range.mp hi
    have e : wc K (aupN φ (n + 1) q) (aup f (n + 1) c) (i + 1) = wc K (aupN φ (n + 1) q) f (i + 1) := by unfold wc; rw [aup_ne f c (by omega)]
    rw [e]
  rw [e1, e2, wld_ext (aupN_ext φ n q) ho, wc_some (aup_same f (n + 1) c)]
  simp [aupN]
/-- the locals -/
def lps (φ : Nat → Nat) (L : List AV) : List (Nat × Value) := (List.range L.length).filterMap (fun i => match L[i]? with
  | some v => if isU v then none else some (i, cv φ v)
  | none => none)
theorem lps_mem {φ : Nat → Nat} {L : List AV} {i : Nat} {w : Value} : (i, w) ∈ lps φ L ↔ ∃ v, L[i]? = some v ∧ isU v = false ∧ w = cv φ v := by
  unfold lps
  rw [List.mem_filterMap]
  constructor
  · rintro ⟨j, hj, h⟩
    have hj := List.mem_range.mp hj
    rw [List.getElem?_eq_getElem hj] at h
    dsimp only at h
    by_cases hu : isU L[j] = true
    · rw [if_pos hu] at h; cases h
    · rw [if_neg hu] at h
      have h := Option.some.inj h
      have h1 := congrArg Prod.fst h
      have h2 := congrArg Prod.snd h
      dsimp only at h1 h2
      subst h1
      exact ⟨L[j], List.getElem?_eq_getElem hj, by simpa using hu, h2.symm⟩
  · rintro ⟨v, h1, h2, rfl⟩
    refine ⟨i, List.mem_range.mpr (List.getElem?_eq_some_iff.mp h1).1, ?_⟩
    rw [h1]
    simp [h2]
def LR (φ : Nat → Nat) (n nL : Nat) (L : List AV) (ls : Array Slot) : Prop := lv_has ls nL (lps φ L) ∧ L.length = nL ∧ ∀ v ∈ L, okV n v
theorem LR.at {φ : Nat → Nat} {n nL : Nat} {L : List AV} {ls : Array Slot} (h : LR φ n nL L ls) {i : Nat} {v : AV} (hi : L[i]? = some v) (hu : isU v = false) : ls[i]? = some (.val (cv φ v)) := h.1.2.2 (i, cv φ v) (lps_mem.mpr ⟨v, hi, hu, rfl⟩)
theorem LR.ok {φ : Nat → Nat} {n nL : Nat} {L : List AV} {ls : Array Slot} (h : LR φ n nL L ls) {i : Nat} {v : AV} (hi : L[i]? = some v) : okV n v := h.2.2 v (List.mem_of_getElem? hi)
theorem LR.ext {φ ψ : Nat → Nat} {n m nL : Nat} {L : List AV} {ls : Array Slot} (h : LR φ n nL L ls) (e : ext n φ ψ) (hn : n ≤ m) : LR ψ m nL L ls := by
  refine ⟨⟨h.1.1, h.1.2.1, fun q hq => ?_⟩, h.2.1, fun v hv => (h.2.2 v hv).up hn⟩
  obtain ⟨i, w⟩ := q
  obtain ⟨v, h1, h2, rfl⟩ := lps_mem.mp hq
  rw [cv_ext e (h.ok h1)]
  exact h.at h1 h2
theorem lv_mono {ls : Array Slot} {nL : Nat} {l l' : List (Nat × Value)} (h : lv_has ls nL l) (hs : ∀ q ∈ l', q ∈ l) : lv_has ls nL l' := ⟨h.1, h.2.1, fun q hq => h.2.2 q (hs q hq)⟩
theorem cat_cv {φ : Nat → Nat} {v : AV} (h : cat2 v = false) : (cv φ v).category = 1 := by
  rcases v with z | (_ | a) | x | x | x
  · rfl
  · rfl
  · rfl
  · cases h
  · cases h
  · rfl
theorem cat_cv2 {φ : Nat → Nat} {v : AV} : (cv φ v).category ≤ 2 := by
  rcases v with z | (_ | a) | x | x | x <;> simp [cv, Value.category]
/-- behind a store of one word -/
theorem LR.st {φ : Nat → Nat} {n nL i : Nat} {L : List AV} {v : AV} {ls' : Array Slot} (hl : L.length = nL) (ho : ∀ w ∈ L, okV n w) (hv : okV n v) (hu : isU v = false) (hi : i < L.length) (hc : i = 0 ∨ cat2 (L.getD (i - 1) vu) = false)
    (h : lv_has ls' nL ((i, cv φ v) :: (lps φ L).filter (fun q => !(q.1 == i) && !(q.1 + 1 == i && q.2.category == 2)))) : LR φ n nL (L.set i v) ls' := by
  refine ⟨lv_mono h fun q hq => ?_, by rw [List.length_set]; exact hl, fun w hw => ?_⟩
  · obtain ⟨j, w⟩ := q
    obtain ⟨v2, h1, h2, rfl⟩ := lps_mem.mp hq
    rw [List.getElem?_set] at h1
    by_cases e : i = j
    · subst e
      rw [if_pos rfl, if_pos hi] at h1
      cases h1
      exact List.mem_cons_self
    · rw [if_neg e] at h1
      refine List.mem_cons_of_mem _ (List.mem_filter.mpr ⟨lps_mem.mpr ⟨v2, h1, h2, rfl⟩, ?_⟩)
      have e1 : (j == i) = false := by simp; omega
      have e2 : (j + 1 == i && (cv φ v2).category == 2) = false := by
        by_cases e3 : j + 1 = i
        · rcases hc with hc | hc
          · omega
          · rw [← e3, Nat.add_sub_cancel, List.getD_eq_getElem?_getD, h1] at hc
            rw [cat_cv (v := v2) hc]; simp
        · simp [e3]
      show (!(j == i) && !(j + 1 == i && (cv φ v2).category == 2)) = true
      rw [e1, e2]; rfl
  · rcases List.mem_or_eq_of_mem_set hw with hw | rfl
    · exact ho w hw
    · exact hv
theorem LR.st2 {φ : Nat → Nat} {n nL i : Nat} {L : List AV} {v : AV} {ls' : Array Slot} (hl : L.length = nL) (ho : ∀ w ∈ L, okV n w) (hv : okV n v) (hu : isU v = false) (hi : i + 1 < L.length) (hc : i = 0 ∨ cat2 (L.getD (i - 1) vu) = false)
    (h : lv_has ls' nL ((i, cv φ v) :: (lps φ L).filter (fun q => !(q.1 == i) && (!(q.1 == i + 1) && !(q.1 + 1 == i && q.2.category == 2))))) : LR φ n nL ((L.set i v).set (i + 1) vu) ls' := by
  refine ⟨lv_mono h fun q hq => ?_, by rw [List.length_set, List.length_set]; exact hl, fun w hw => ?_⟩
  · obtain ⟨j, w⟩ := q
    obtain ⟨v2, h1, h2, rfl⟩ := lps_mem.mp hq
    rw [List.getElem?_set] at h1
    by_cases e0 : i + 1 = j
    · rw [if_pos e0, if_pos (by rw [List.length_set]; exact hi)] at h1
      cases h1
      cases h2
    rw [if_neg e0, List.getElem?_set] at h1
    by_cases e : i = j
    · subst e
      rw [if_pos rfl, if_pos (by omega)] at h1
      cases h1
      exact List.mem_cons_self
    · rw [if_neg e] at h1
      refine List.mem_cons_of_mem _ (List.mem_filter.mpr ⟨lps_mem.mpr ⟨v2, h1, h2, rfl⟩, ?_⟩)
      have e1 : (j == i) = false := by simp; omega
      have e4 : (j == i + 1) = false := by simp; omega
      have e2 : (j + 1 == i && (cv φ v2).category == 2) = false := by
        by_cases e3 : j + 1 = i
        · rcases hc with hc | hc
          · omega
          · rw [← e3, Nat.add_sub_cancel, List.getD_eq_getElem?_getD, h1] at hc
            rw [cat_cv (v := v2) hc]; simp
        · simp [e3]
      show (!(j == i) && (!(j == i + 1) && !(j + 1 == i && (cv φ v2).category == 2))) = true
      rw [e1, e2, e4]; rfl
  · rcases List.mem_or_eq_of_mem_set hw with hw | rfl
    · rcases List.mem_or_eq_of_mem_set hw with hw | rfl
      · exact ho w hw
      · exact hv
    · trivial
/-- fewer known locals -/
theorem LR.forget {φ : Nat → Nat} {n nL j : Nat} {L : List AV} {ls : Array Slot} (h : LR φ n nL L ls) : LR φ n nL (L.set j vu) ls := by
  refine ⟨lv_mono h.1 fun q hq => ?_, by rw [List.length_set]; exact h.2.1, fun w hw => ?_⟩
  · obtain ⟨i, w⟩ := q
    obtain ⟨v2, h1, h2, rfl⟩ := lps_mem.mp hq
    rw [List.getElem?_set] at h1
    by_cases e : j = i
    · rw [if_pos e] at h1
      split at h1
      · cases h1; cases h2
      · cases h1
    · rw [if_neg e] at h1; exact lps_mem.mpr ⟨v2, h1, h2, rfl⟩
  · rcases List.mem_or_eq_of_mem_set hw with hw | rfl
    · exact h.2.2 w hw
    · trivial
