/-! THE RULES' LAWS: an instruction known is an equation of Wp -/
def iAnd (x y : Int) : Int := (i32 x &&& i32 y).toInt
def iOr (x y : Int) : Int := (i32 x ||| i32 y).toInt
def iXor (x y : Int) : Int := (i32 x ^^^ i32 y).toInt
def iShl (x y : Int) : Int := (i32 x <<< (i32 y &&& 31)).toInt
def iShr (x y : Int) : Int := (i32 x >>> (i32 y &&& 31)).toInt
def iDiv (x y : Int) : Int := (i32 x / i32 y).toInt
def iRem (x y : Int) : Int := (i32 x - i32 x / i32 y * i32 y).toInt
def iL (x : Int) : Int64 := (i32 x).toInt64
def iD (x : Int) : UInt64 := FP.i2d (i32 x)
def lSh (x : Int64) (y : Int) : Int64 := x <<< ((i32 y).toInt64 &&& 63)
def bump (μ : Mu) : Mu := (μ.1, (μ.2.1 + 1, μ.2.2 + 6))
def gI (xs : List Int) (y : Nat) (f : AH) (a : Nat) (i : Int) : Option AV := if a = 0 then sG xs y i else gi f a i
def aN (xs : List Int) (y : Nat) (f : AH) (a : Nat) : Option AV := if a = 0 then (if scr y = true then some (vi xs.length) else none) else (an f a).map (fun n => vi (n : Int))
/-- a call on a receiver -/
def WpI (xs : List Int) (ok : Bool) (a : Nat) (y' : Nat) (as : List AV) (y pc : Nat) (L st : List AV) (μ : Mu) (f : AH) (Q : Out → Mu → AH → Prop) : Prop := if ok = true ∧ a ≠ 0 then WpC xs y' as y pc L st μ f Q else False
section RR
variable {xs : List Int} {y pc len : Nat} {i : Instr} {L st : List AV} {μ : Mu} {f : AH} {Q : Out → Mu → AH → Prop}
theorem R_S (hd : decode (mB y) pc = .ok (i, len)) : Wp xs y pc L st μ f Q = WpS xs y (istep xs y pc len i L st μ f) μ f Q := by
  rw [Wp_one]
  unfold Step1
  rw [hd]
theorem R_nx {pc' : Nat} {L' st' : List AV} {μ' : Mu} {f' : AH} (hd : decode (mB y) pc = .ok (i, len)) (hs : istep xs y pc len i L st μ f = some (.inl (pc', (L', (st', (μ', f')))))) : Wp xs y pc L st μ f Q = Wp xs y pc' L' st' μ' f' Q := by
  rw [R_S hd, hs]; rfl
theorem R_br {b : Prop} [Decidable b] {p1 p2 : Nat} {L1 st1 L2 st2 : List AV} {μ1 μ2 : Mu} {f1 f2 : AH} (hd : decode (mB y) pc = .ok (i, len)) (hs : istep xs y pc len i L st μ f = if b then some (.inl (p1, (L1, (st1, (μ1, f1))))) else some (.inl (p2, (L2, (st2, (μ2, f2)))))) : Wp xs y pc L st μ f Q = if b then Wp xs y p1 L1 st1 μ1 f1 Q else Wp xs y p2 L2 st2 μ2 f2 Q := by
  rw [R_S hd, hs]
  split <;> rfl
theorem R_ov {o : Option AV} {pc' : Nat} {L' st' : List AV} (hd : decode (mB y) pc = .ok (i, len)) (hs : istep xs y pc len i L st μ f = ov o pc' L' st' μ f) : Wp xs y pc L st μ f Q = WpV xs o y pc' L' st' μ f Q := by
  rw [R_S hd, hs]; cases o <;> rfl
theorem R_oh {o : Option AH} {pc' : Nat} {L' st' : List AV} (hd : decode (mB y) pc = .ok (i, len)) (hs : istep xs y pc len i L st μ f = oh o pc' L' st' μ) : Wp xs y pc L st μ f Q = WpH xs o y pc' L' st' μ Q := by
  rw [R_S hd, hs]; cases o <;> rfl
theorem R_dn {o : Out} {μ' : Mu} {f' : AH} (hd : decode (mB y) pc = .ok (i, len)) (hs : istep xs y pc len i L st μ f = some (.inr (.inl (o, (μ', f'))))) : Wp xs y pc L st μ f Q = Q o μ' f' := by
  rw [R_S hd, hs]; rfl
theorem R_cs {y' pc' : Nat} {as L' st' : List AV} (hd : decode (mB y) pc = .ok (i, len)) (hs : istep xs y pc len i L st μ f = some (.inr (.inr (y', (as, (pc', (L', st'))))))) : Wp xs y pc L st μ f Q = WpC xs y' as y pc' L' st' μ f Q := by
  rw [R_S hd, hs]; rfl
theorem R_iv {ok : Bool} {a y' pc' : Nat} {as L' st' : List AV} (hd : decode (mB y) pc = .ok (i, len)) (hs : istep xs y pc len i L st μ f = if ok = true ∧ a ≠ 0 then some (.inr (.inr (y', (as, (pc', (L', st')))))) else none) : Wp xs y pc L st μ f Q = WpI xs ok a y' as y pc' L' st' μ f Q := by
  rw [R_S hd, hs]
  unfold WpI
  split <;> rfl
theorem R_s1 {k pc' : Nat} {v : AV} {st' : List AV} (hd : decode (mB y) pc = .ok (i, len)) (hs : istep xs y pc len i L st μ f = ol (stI L k v) pc' st' μ f) (hk : k < L.length) (hc : k = 0 ∨ cat2 (L.getD (k - 1) vu) = false) : Wp xs y pc L st μ f Q = Wp xs y pc' (L.set k v) st' μ f Q := by
  rw [R_S hd, hs]
  unfold stI
  rw [if_pos ⟨hk, hc⟩]
  rfl
theorem R_s2 {k pc' : Nat} {v : AV} {st' : List AV} (hd : decode (mB y) pc = .ok (i, len)) (hs : istep xs y pc len i L st μ f = ol (stL L k v) pc' st' μ f) (hk : k + 1 < L.length) (hc : k = 0 ∨ cat2 (L.getD (k - 1) vu) = false) : Wp xs y pc L st μ f Q = Wp xs y pc' ((L.set k v).set (k + 1) vu) st' μ f Q := by
  rw [R_S hd, hs]
  unfold stL
  rw [if_pos ⟨hk, hc⟩]
  rfl
theorem R_ic {n : Int} (hd : decode (mB y) pc = .ok (.iconst n, 1)) (h1 : -2147483648 ≤ n) (h2 : n < 2147483648) : Wp xs y pc L st μ f Q = Wp xs y (pc + 1) L (vi n :: st) μ f Q := by
  have h : Wp xs y pc L st μ f Q = Wp xs y (pc + 1) L (vi (wrp n) :: st) μ f Q := R_nx hd rfl
  rw [wrp_id h1 h2] at h
  exact h
theorem bi_eq : ∀ n : Int, -128 ≤ n → n < 128 → (Int8.ofInt n).toInt32.toInt = n := by
  intro n h1 h2
  rw [Int8.toInt_toInt32, Int8.toInt_ofInt_of_le (by omega) (by omega)]
theorem si_eq : ∀ n : Int, -32768 ≤ n → n < 32768 → (Int16.ofInt n).toInt32.toInt = n := by
  intro n h1 h2
  rw [Int16.toInt_toInt32, Int16.toInt_ofInt_of_le (by omega) (by omega)]
theorem R_bi {n : Int} (hd : decode (mB y) pc = .ok (.bipush n, 2)) (h1 : -128 ≤ n) (h2 : n < 128) : Wp xs y pc L st μ f Q = Wp xs y (pc + 2) L (vi n :: st) μ f Q := by
  have h : Wp xs y pc L st μ f Q = Wp xs y (pc + 2) L (vi ((Int8.ofInt n).toInt32.toInt) :: st) μ f Q := R_nx hd rfl
  rw [bi_eq n h1 h2] at h
  exact h
theorem R_si {n : Int} (hd : decode (mB y) pc = .ok (.sipush n, 3)) (h1 : -32768 ≤ n) (h2 : n < 32768) : Wp xs y pc L st μ f Q = Wp xs y (pc + 3) L (vi n :: st) μ f Q := by
  have h : Wp xs y pc L st μ f Q = Wp xs y (pc + 3) L (vi ((Int16.ofInt n).toInt32.toInt) :: st) μ f Q := R_nx hd rfl
  rw [si_eq n h1 h2] at h
  exact h
theorem R_idiv {x z : Int} {st' : List AV} (hd : decode (mB y) pc = .ok (.idiv, 1)) (h : z ≠ 0) : Wp xs y pc L (vi z :: vi x :: st') μ f Q = Wp xs y (pc + 1) L (vi (iDiv x z) :: st') μ f Q := by
  refine R_nx hd ?_
  show ii2 (fun x y => if y = 0 then none else some ((i32 x / i32 y).toInt)) (pc + 1) L (vi z :: vi x :: st') μ f = _
  unfold ii2
  dsimp only
  rw [if_neg h]; rfl
theorem R_irem {x z : Int} {st' : List AV} (hd : decode (mB y) pc = .ok (.irem, 1)) (h : z ≠ 0) : Wp xs y pc L (vi z :: vi x :: st') μ f Q = Wp xs y (pc + 1) L (vi (iRem x z) :: st') μ f Q := by
  refine R_nx hd ?_
  show ii2 (fun x y => if y = 0 then none else some ((i32 x - i32 x / i32 y * i32 y).toInt)) (pc + 1) L (vi z :: vi x :: st') μ f = _
  unfold ii2
  dsimp only
  rw [if_neg h]; rfl
theorem R_dmul {x z : UInt64} {st' : List AV} (hd : decode (mB y) pc = .ok (.dmul, 1)) (h : nn64 (FP.dmul x z) = true) : Wp xs y pc L (vd z :: vd x :: st') μ f Q = Wp xs y (pc + 1) L (vd (FP.dmul x z) :: st') μ f Q := by
  refine R_nx hd ?_
  show dd2 FP.dmul (pc + 1) L (vd z :: vd x :: st') μ f = _
  unfold dd2
  dsimp only
  rw [if_pos h]; rfl
theorem R_ddiv {x z : UInt64} {st' : List AV} (hd : decode (mB y) pc = .ok (.ddiv, 1)) (h : nn64 (FP.ddiv x z) = true) : Wp xs y pc L (vd z :: vd x :: st') μ f Q = Wp xs y (pc + 1) L (vd (FP.ddiv x z) :: st') μ f Q := by
  refine R_nx hd ?_
  show dd2 FP.ddiv (pc + 1) L (vd z :: vd x :: st') μ f = _
  unfold dd2
  dsimp only
  rw [if_pos h]; rfl
theorem R_dsub {x z : UInt64} {st' : List AV} (hd : decode (mB y) pc = .ok (.dsub, 1)) (h : nn64 (FP.dsub x z) = true) : Wp xs y pc L (vd z :: vd x :: st') μ f Q = Wp xs y (pc + 1) L (vd (FP.dsub x z) :: st') μ f Q := by
  refine R_nx hd ?_
  show dd2 FP.dsub (pc + 1) L (vd z :: vd x :: st') μ f = _
  unfold dd2
  dsimp only
  rw [if_pos h]; rfl
theorem R_dr {x : UInt64} (hd : decode (mB y) pc = .ok (.dreturn, 1)) (hr : mR y = some .double) (h : nn64 x = true) : Wp xs y pc L [vd x] μ f Q = Q (.inl (some (vd x))) μ f := by
  refine R_dn hd ?_
  exact if_pos ⟨hr, h⟩
theorem R_al {a : Nat} {st' : List AV} (hd : decode (mB y) pc = .ok (.arraylength, 1)) : Wp xs y pc L (vr a :: st') μ f Q = WpV xs (aN xs y f a) y (pc + 1) L st' μ f Q := by
  rw [R_S hd]
  show WpS xs y (if a = 0 then (if scr y = true then nx (pc + 1) L (vi xs.length :: st') μ f else none) else (match an f a with
      | some n => nx (pc + 1) L (vi n :: st') μ f
      | none => none)) μ f Q = _
  unfold aN
  by_cases ha : a = 0
  · rw [if_pos ha, if_pos ha]
    by_cases hy : scr y = true
    · rw [if_pos hy, if_pos hy]; rfl
    · rw [if_neg hy, if_neg hy]; rfl
  · rw [if_neg ha, if_neg ha]
    cases an f a <;> rfl
theorem R_ni {n : Int} {st' : List AV} (hd : decode (mB y) pc = .ok (.newarray .int, 2)) (h0 : 0 ≤ n) (h1 : n ≤ 100000) : Wp xs y pc L (vi n :: st') μ f Q = Wp xs y (pc + 2) L (vr (μ.1 + 1) :: st') (μ.1 + 1, (μ.2.1 + 1, μ.2.2 + n.toNat)) (aup f (μ.1 + 1) (iC (List.replicate n.toNat 0))) Q := R_nx hd (if_pos ⟨h0, h1⟩)
end RR
