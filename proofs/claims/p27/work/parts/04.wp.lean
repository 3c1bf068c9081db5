/-! WHAT A RUN COMES TO: Wp, its equations; more fuel changes nothing. -/
def Step1 (xs : List Int) (y pc : Nat) (L st : List AV) (μ : Mu) (f : AH) : Option SR := match decode (mB y) pc with
  | .error _ => none
  | .ok (i, len) => istep xs y pc len i L st μ f
theorem exec_one (xs : List Int) (k y pc : Nat) (L st : List AV) (μ : Mu) (f : AH) : exec xs (k + 1) y pc L st μ f = (match Step1 xs y pc L st μ f with
      | none => none
      | some (.inl (pc', (L', (st', (μ', f'))))) => exec xs k y pc' L' st' μ' f'
      | some (.inr (.inl r)) => some r
      | some (.inr (.inr (y', (as, (pc', (L', st')))))) => match exec xs k y' 0 (ini y' as) [] μ f with
        | none => none
        | some (.inl none, (μ', f')) => exec xs k y pc' L' st' μ' f'
        | some (.inl (some v), (μ', f')) => exec xs k y pc' L' (v :: st') μ' f'
        | some (.inr E, (μ', f')) => match lk hTab y E with
          | none => if (mH y).isEmpty then some (.inr E, (μ', f')) else none
          | some (_, (_, (h, (j, _)))) => if hcov y (pc' - 3) = true then exec xs k y h (List.replicate (mL y) vu) [] μ' f' else none) := by
  unfold Step1
  rw [exec]
  cases decode (mB y) pc with
  | error e => rfl
  | ok q => rfl
theorem exec_up (xs : List Int) : ∀ (k y pc : Nat) (L st : List AV) (μ : Mu) (f : AH) (r : Out × (Mu × AH)), exec xs k y pc L st μ f = some r → exec xs (k + 1) y pc L st μ f = some r := by
  intro k
  induction k with
  | zero => intro y pc L st μ f r h; cases h
  | succ k ih =>
    intro y pc L st μ f r h
    rw [exec_one] at h ⊢
    cases hs : Step1 xs y pc L st μ f with
    | none => rw [hs] at h; cases h
    | some s =>
      rw [hs] at h
      rcases s with ⟨pc', L', st', μ', f'⟩ | q | ⟨y', as, pc', L', st'⟩
      · exact ih _ _ _ _ _ _ _ h
      · exact h
      · dsimp only at h ⊢
        cases hc : exec xs k y' 0 (ini y' as) [] μ f with
        | none => rw [hc] at h; cases h
        | some q =>
          rw [hc] at h
          rw [ih _ _ _ _ _ _ _ hc]
          obtain ⟨o, μ', f'⟩ := q
          rcases o with (_ | v) | E
          · exact ih _ _ _ _ _ _ _ h
          · exact ih _ _ _ _ _ _ _ h
          · dsimp only at h ⊢
            cases hE : lk hTab y E with
            | none => rw [hE] at h; exact h
            | some w =>
              rw [hE] at h
              obtain ⟨w1, w2, w3, w4, w5⟩ := w
              dsimp only at h ⊢
              by_cases hv : hcov y (pc' - 3) = true
              · rw [if_pos hv] at h ⊢
                exact ih _ _ _ _ _ _ _ h
              · rw [if_neg hv] at h; cases h
theorem exec_le (xs : List Int) {k k' y pc : Nat} {L st : List AV} {μ : Mu} {f : AH} {r : Out × (Mu × AH)} (hk : k ≤ k') (h : exec xs k y pc L st μ f = some r) : exec xs k' y pc L st μ f = some r := by
  induction hk with
  | refl => exact h
  | step _ ih => exact exec_up xs _ _ _ _ _ _ _ _ ih
theorem exec_det (xs : List Int) {k k' y pc : Nat} {L st : List AV} {μ : Mu} {f : AH} {r r' : Out × (Mu × AH)} (h : exec xs k y pc L st μ f = some r) (h' : exec xs k' y pc L st μ f = some r') : r = r' := by
  have h1 := exec_le xs (Nat.le_max_left k k') h
  have h2 := exec_le xs (Nat.le_max_right k k') h'
  rw [h1] at h2
  exact Option.some.inj h2
def Wp (xs : List Int) (y pc : Nat) (L st : List AV) (μ : Mu) (f : AH) (Q : Out → Mu → AH → Prop) : Prop := ∃ k o μ' f', exec xs k y pc L st μ f = some (o, (μ', f')) ∧ Q o μ' f'
def WpK (xs : List Int) (y pc : Nat) (L st : List AV) (Q : Out → Mu → AH → Prop) (o : Out) (μ : Mu) (f : AH) : Prop := match o with
  | .inl none => Wp xs y pc L st μ f Q
  | .inl (some v) => Wp xs y pc L (v :: st) μ f Q
  | .inr E => match lk hTab y E with
    | none => (mH y).isEmpty = true ∧ Q (.inr E) μ f
    | some (_, (_, (h, (j, _)))) => hcov y (pc - 3) = true ∧ Wp xs y h (List.replicate (mL y) vu) [] μ f Q
def WpC (xs : List Int) (y' : Nat) (as : List AV) (y pc : Nat) (L st : List AV) (μ : Mu) (f : AH) (Q : Out → Mu → AH → Prop) : Prop := Wp xs y' 0 (ini y' as) [] μ f (WpK xs y pc L st Q)
def WpV (xs : List Int) (o : Option AV) (y pc : Nat) (L st : List AV) (μ : Mu) (f : AH) (Q : Out → Mu → AH → Prop) : Prop := match o with
  | some v => Wp xs y pc L (v :: st) μ f Q
  | none => False
def WpH (xs : List Int) (o : Option AH) (y pc : Nat) (L st : List AV) (μ : Mu) (Q : Out → Mu → AH → Prop) : Prop := match o with
  | some f => Wp xs y pc L st μ f Q
  | none => False
def WpS (xs : List Int) (y : Nat) (s : Option SR) (μ : Mu) (f : AH) (Q : Out → Mu → AH → Prop) : Prop := match s with
  | none => False
  | some (.inl (pc', (L', (st', (μ', f'))))) => Wp xs y pc' L' st' μ' f' Q
  | some (.inr (.inl (o, (μ', f')))) => Q o μ' f'
  | some (.inr (.inr (y', (as, (pc', (L', st')))))) => WpC xs y' as y pc' L' st' μ f Q
theorem Wp_one (xs : List Int) (y pc : Nat) (L st : List AV) (μ : Mu) (f : AH) (Q : Out → Mu → AH → Prop) : Wp xs y pc L st μ f Q = WpS xs y (Step1 xs y pc L st μ f) μ f Q := by
  apply propext
  constructor
  · rintro ⟨k, o, μ', f', h, hQ⟩
    cases k with
    | zero => cases h
    | succ k =>
      rw [exec_one] at h
      cases hs : Step1 xs y pc L st μ f with
      | none => rw [hs] at h; cases h
      | some s =>
        rw [hs] at h
        rcases s with ⟨pc', L', st', μ1, f1⟩ | ⟨o1, μ1, f1⟩ | ⟨y', as, pc', L', st'⟩
        · exact ⟨k, o, μ', f', h, hQ⟩
        · cases h; exact hQ
        · dsimp only at h
          cases hc : exec xs k y' 0 (ini y' as) [] μ f with
          | none => rw [hc] at h; cases h
          | some q =>
            rw [hc] at h
            obtain ⟨o1, μ1, f1⟩ := q
            refine ⟨k, o1, μ1, f1, hc, ?_⟩
            rcases o1 with (_ | v) | E
            · exact ⟨k, o, μ', f', h, hQ⟩
            · exact ⟨k, o, μ', f', h, hQ⟩
            · dsimp only at h
              show (match lk hTab y E with
                | none => (mH y).isEmpty = true ∧ Q (.inr E) μ1 f1
                | some (_, (_, (h, (j, _)))) => hcov y (pc' - 3) = true ∧ Wp xs y h (List.replicate (mL y) vu) [] μ1 f1 Q)
              cases hE : lk hTab y E with
              | none =>
                rw [hE] at h
                dsimp only at h ⊢
                by_cases he : (mH y).isEmpty = true
                · rw [if_pos he] at h; cases h; exact ⟨he, hQ⟩
                · rw [if_neg he] at h; cases h
              | some w =>
                rw [hE] at h
                obtain ⟨w1, w2, w3, w4, w5⟩ := w
                dsimp only at h ⊢
                by_cases hv : hcov y (pc' - 3) = true
                · rw [if_pos hv] at h
                  exact ⟨hv, k, o, μ', f', h, hQ⟩
                · rw [if_neg hv] at h; cases h
  · intro h
    cases hs : Step1 xs y pc L st μ f with
    | none => rw [hs] at h; cases h
    | some s =>
      rw [hs] at h
      rcases s with ⟨pc', L', st', μ1, f1⟩ | ⟨o1, μ1, f1⟩ | ⟨y', as, pc', L', st'⟩
      · obtain ⟨k, o, μ', f', h, hQ⟩ := h
        refine ⟨k + 1, o, μ', f', ?_, hQ⟩
        rw [exec_one, hs]
        exact h
      · refine ⟨1, o1, μ1, f1, ?_, h⟩
        rw [exec_one, hs]
      · obtain ⟨k, o1, μ1, f1, hc, hK⟩ := h
        rcases o1 with (_ | v) | E
        · obtain ⟨k2, o, μ', f', h, hQ⟩ := hK
          refine ⟨max k k2 + 1, o, μ', f', ?_, hQ⟩
          rw [exec_one, hs]
          dsimp only
          rw [exec_le xs (Nat.le_max_left k k2) hc]
          exact exec_le xs (Nat.le_max_right k k2) h
        · obtain ⟨k2, o, μ', f', h, hQ⟩ := hK
          refine ⟨max k k2 + 1, o, μ', f', ?_, hQ⟩
          rw [exec_one, hs]
          dsimp only
          rw [exec_le xs (Nat.le_max_left k k2) hc]
          exact exec_le xs (Nat.le_max_right k k2) h
        · have hK : (match lk hTab y E with
                | none => (mH y).isEmpty = true ∧ Q (.inr E) μ1 f1
                | some (_, (_, (h, (j, _)))) => hcov y (pc' - 3) = true ∧ Wp xs y h (List.replicate (mL y) vu) [] μ1 f1 Q) := hK
          cases hE : lk hTab y E with
          | none =>
            rw [hE] at hK
            obtain ⟨he, hQ⟩ := hK
            refine ⟨k + 1, .inr E, μ1, f1, ?_, hQ⟩
            rw [exec_one, hs]
            dsimp only
            rw [hc]
            dsimp only
            rw [hE]
            dsimp only
            rw [if_pos he]
          | some w =>
            rw [hE] at hK
            obtain ⟨w1, w2, w3, w4, w5⟩ := w
            obtain ⟨hv, k2, o, μ', f', h, hQ⟩ := hK
            refine ⟨max k k2 + 1, o, μ', f', ?_, hQ⟩
            rw [exec_one, hs]
            dsimp only
            rw [exec_le xs (Nat.le_max_left k k2) hc]
            dsimp only
            rw [hE]
            dsimp only
            rw [if_pos hv]
            exact exec_le xs (Nat.le_max_right k k2) h
/-- a method's answer, known -/
def Runs (xs : List Int) (y : Nat) (as : List AV) (μ : Mu) (f : AH) (o : Out) (μ' : Mu) (f' : AH) : Prop := ∃ k, exec xs k y 0 (ini y as) [] μ f = some (o, (μ', f'))
theorem Runs.wp {xs : List Int} {y : Nat} {as : List AV} {μ μ' : Mu} {f f' : AH} {o : Out} (h : Runs xs y as μ f o μ' f') (Q : Out → Mu → AH → Prop) : Wp xs y 0 (ini y as) [] μ f Q = Q o μ' f' := by
  apply propext
  obtain ⟨k, hk⟩ := h
  constructor
  · rintro ⟨k2, o2, μ2, f2, h2, hQ⟩
    cases exec_det xs hk h2
    exact hQ
  · intro hQ
    exact ⟨k, o, μ', f', hk, hQ⟩
theorem Runs.of {xs : List Int} {y : Nat} {as : List AV} {μ μ' : Mu} {f f' : AH} {o : Out} (h : Wp xs y 0 (ini y as) [] μ f (fun o2 μ2 f2 => o2 = o ∧ μ2 = μ' ∧ f2 = f')) : Runs xs y as μ f o μ' f' := by
  obtain ⟨k, o2, μ2, f2, h2, rfl, rfl, rfl⟩ := h
  exact ⟨k, h2⟩
theorem Runs.c {xs : List Int} {y' : Nat} {as : List AV} {μ μ' : Mu} {f f' : AH} {o : Out} (h : Runs xs y' as μ f o μ' f') (y pc : Nat) (L st : List AV) (Q : Out → Mu → AH → Prop) : WpC xs y' as y pc L st μ f Q = WpK xs y pc L st Q o μ' f' := h.wp _
/-- any end is this end: the shape in which methods are told -/
theorem Runs.iff {xs : List Int} {y : Nat} {as : List AV} {μ μ' : Mu} {f f' : AH} {o : Out} (h : ∀ Q : Out → Mu → AH → Prop, Q o μ' f' → Wp xs y 0 (ini y as) [] μ f Q) : Runs xs y as μ f o μ' f' := Runs.of (h _ ⟨rfl, rfl, rfl⟩)
