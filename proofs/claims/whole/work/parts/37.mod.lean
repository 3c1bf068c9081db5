/-! THE HEAP OF THE MODEL: numbers (0 thrown, 1 savedMany, 2 typed, 3 firstRead), arrays (0 z, 1 saved, 2 spare, 3 buffer, 4 least, 5 then), hash -/
abbrev MG : Type := (Nat → Int) × ((Nat → Nat → Int) × Int64)
def mlen (k : Nat) : Nat := if k = 0 then 347 else if k = 1 then 2082 else if k = 2 then 347 else if k = 3 then 40 else 256
def mC (M : MG) (o : Nat) : AC := if o = 0 then oC 4 [vi (M.1 0), vr 191, vr 192, vi (M.1 1), vr 193, vr 194, vi (M.1 2), vi (M.1 3), vr 195, vr 196, vl M.2.2] else iC (tab (mlen (o - 1)) (M.2.1 (o - 1)))
def putM (f : AH) (M : MG) : AH := fun a => if 190 ≤ a ∧ a < 197 then some (mC M (a - 190)) else f a
def mS (M : MG) (k : Nat) (v : Int) : MG := (fu M.1 k v, M.2)
def mAr (M : MG) (k : Nat) (g : Nat → Int) : MG := (M.1, (ru M.2.1 k g, M.2.2))
def mh (M : MG) (v : Int64) : MG := (M.1, (M.2.1, v))
theorem mS_1 (M : MG) (k j : Nat) (v : Int) : (mS M k v).1 j = if j = k then v else M.1 j := rfl
theorem mS_2 (M : MG) (k : Nat) (v : Int) : (mS M k v).2 = M.2 := rfl
theorem mAr_1 (M : MG) (k : Nat) (g : Nat → Int) : (mAr M k g).1 = M.1 := rfl
theorem mAr_2 (M : MG) (k j : Nat) (g : Nat → Int) : (mAr M k g).2.1 j = if j = k then g else M.2.1 j := rfl
theorem mAr_h (M : MG) (k : Nat) (g : Nat → Int) : (mAr M k g).2.2 = M.2.2 := rfl
theorem mh_1 (M : MG) (v : Int64) : (mh M v).1 = M.1 := rfl
theorem mh_2 (M : MG) (v : Int64) : (mh M v).2.1 = M.2.1 := rfl
theorem mh_h (M : MG) (v : Int64) : (mh M v).2.2 = v := rfl
theorem putM_in (f : AH) (M : MG) {o : Nat} (h : o < 7) : putM f M (190 + o) = some (mC M o) := by
  unfold putM
  rw [if_pos (by omega), Nat.add_sub_cancel_left]
theorem putM_0 (f : AH) (M : MG) : putM f M 190 = some (mC M 0) := putM_in f M (o := 0) (by omega)
theorem putM_out (f : AH) {a : Nat} (M : MG) (h : a < 190 ∨ 197 ≤ a) : putM f M a = f a := by
  unfold putM
  rw [if_neg (by omega)]
theorem mC_row (M : MG) (k : Nat) : mC M (k + 1) = iC (tab (mlen k) (M.2.1 k)) := by
  unfold mC
  rw [if_neg (by omega), Nat.add_sub_cancel]
theorem putM_row (f : AH) (M : MG) {k : Nat} (h : k < 6) : putM f M (191 + k) = some (iC (tab (mlen k) (M.2.1 k))) := by
  rw [show 191 + k = 190 + (k + 1) by omega, putM_in f M (by omega), mC_row]
theorem putM_obj (f : AH) (M M' : MG) (h : M'.2.1 = M.2.1) : aup (putM f M) 190 (mC M' 0) = putM f M' := by
  funext a
  by_cases h1 : a = 190
  · subst h1; rw [aup_same, putM_0]
  · rw [aup_ne _ _ h1]
    by_cases h2 : 190 ≤ a ∧ a < 197
    · obtain ⟨k, rfl⟩ : ∃ k, a = 191 + k := ⟨a - 191, by omega⟩
      rw [putM_row f _ (by omega), putM_row f _ (by omega), h]
    · rw [putM_out f _ (by omega), putM_out f _ (by omega)]
theorem aup_M (f : AH) (M : MG) {k : Nat} (hk : k < 6) (g : Nat → Int) : aup (putM f M) (191 + k) (iC (tab (mlen k) g)) = putM f (mAr M k g) := by
  funext a
  by_cases h1 : a = 191 + k
  · subst h1; rw [aup_same, putM_row f _ hk, mAr_2, if_pos rfl]
  · rw [aup_ne _ _ h1]
    by_cases h2 : 190 ≤ a ∧ a < 197
    · by_cases h3 : a = 190
      · subst h3; rw [putM_0, putM_0]; rfl
      · obtain ⟨j, rfl⟩ : ∃ j, a = 191 + j := ⟨a - 191, by omega⟩
        rw [putM_row f _ (by omega), putM_row f _ (by omega), mAr_2, if_neg (by omega)]
    · rw [putM_out f _ (by omega), putM_out f _ (by omega)]
theorem mlen_r (k : Nat) : mlen k ≤ 2082 := by unfold mlen; repeat (first | omega | split)
section CM2
variable {xs : List Int} {f : AH} {M : MG} {μ : Mu} {y pc : Nat} {L st : List AV} {Q : Out → Mu → AH → Prop}
theorem M_o : isO (putM f M) 190 4 = true := by unfold isO; rw [putM_0]; rfl
theorem M_gI {k : Nat} (hk : k < 6) {i : Int} (h0 : 0 ≤ i) (h1 : i < mlen k) : gI xs y (putM f M) (191 + k) i = some (vi (M.2.1 k i.toNat)) := by
  unfold gI gi
  rw [if_neg (by omega), putM_row f M hk]
  dsimp only [iC]
  rw [if_pos ⟨h0, by rw [tab_len]; exact h1⟩, tab_get _ (by omega)]
theorem M_pi {k : Nat} (hk : k < 6) {i v : Int} (h0 : 0 ≤ i) (h1 : i < mlen k) : pi (putM f M) (191 + k) i v = some (putM f (mAr M k (fu (M.2.1 k) i.toNat v))) := by
  unfold pi
  rw [putM_row f M hk]
  dsimp only [iC]
  rw [if_pos ⟨h0, by rw [tab_len]; exact h1⟩, tab_set]
  exact congrArg some (aup_M f M hk _)
theorem M_f0 : gf (putM f M) 190 4 0 = some (vi (M.1 0)) := by unfold gf; rw [putM_0]; rfl
theorem M_f1 : gf (putM f M) 190 4 1 = some (vr 191) := by unfold gf; rw [putM_0]; rfl
theorem M_f2 : gf (putM f M) 190 4 2 = some (vr 192) := by unfold gf; rw [putM_0]; rfl
theorem M_f3 : gf (putM f M) 190 4 3 = some (vi (M.1 1)) := by unfold gf; rw [putM_0]; rfl
theorem M_f4 : gf (putM f M) 190 4 4 = some (vr 193) := by unfold gf; rw [putM_0]; rfl
theorem M_f5 : gf (putM f M) 190 4 5 = some (vr 194) := by unfold gf; rw [putM_0]; rfl
theorem M_f6 : gf (putM f M) 190 4 6 = some (vi (M.1 2)) := by unfold gf; rw [putM_0]; rfl
theorem M_f7 : gf (putM f M) 190 4 7 = some (vi (M.1 3)) := by unfold gf; rw [putM_0]; rfl
theorem M_f8 : gf (putM f M) 190 4 8 = some (vr 195) := by unfold gf; rw [putM_0]; rfl
theorem M_f9 : gf (putM f M) 190 4 9 = some (vr 196) := by unfold gf; rw [putM_0]; rfl
theorem M_f10 : gf (putM f M) 190 4 10 = some (vl M.2.2) := by unfold gf; rw [putM_0]; rfl
theorem M_p0 (v : Int) : pf (putM f M) 190 4 0 (vi v) = some (putM f (mS M 0 v)) := by unfold pf; rw [putM_0]; exact congrArg some (putM_obj f M (mS M 0 v) rfl)
theorem M_p3 (v : Int) : pf (putM f M) 190 4 3 (vi v) = some (putM f (mS M 1 v)) := by unfold pf; rw [putM_0]; exact congrArg some (putM_obj f M (mS M 1 v) rfl)
theorem M_p6 (v : Int) : pf (putM f M) 190 4 6 (vi v) = some (putM f (mS M 2 v)) := by unfold pf; rw [putM_0]; exact congrArg some (putM_obj f M (mS M 2 v) rfl)
theorem M_p7 (v : Int) : pf (putM f M) 190 4 7 (vi v) = some (putM f (mS M 3 v)) := by unfold pf; rw [putM_0]; exact congrArg some (putM_obj f M (mS M 3 v) rfl)
theorem M_p10 (v : Int64) : pf (putM f M) 190 4 10 (vl v) = some (putM f (mh M v)) := by unfold pf; rw [putM_0]; exact congrArg some (putM_obj f M (mh M v) rfl)
theorem M_g_0 {i : Int} (h0 : 0 ≤ i) (h1 : i < 347) : gI xs y (putM f M) 191 i = some (vi (M.2.1 0 i.toNat)) := M_gI (k := 0) (by decide) h0 h1
theorem M_s_0 {i v : Int} (h0 : 0 ≤ i) (h1 : i < 347) : pi (putM f M) 191 i v = some (putM f (mAr M 0 (fu (M.2.1 0) i.toNat v))) := M_pi (k := 0) (by decide) h0 h1
theorem M_g_1 {i : Int} (h0 : 0 ≤ i) (h1 : i < 2082) : gI xs y (putM f M) 192 i = some (vi (M.2.1 1 i.toNat)) := M_gI (k := 1) (by decide) h0 h1
theorem M_s_1 {i v : Int} (h0 : 0 ≤ i) (h1 : i < 2082) : pi (putM f M) 192 i v = some (putM f (mAr M 1 (fu (M.2.1 1) i.toNat v))) := M_pi (k := 1) (by decide) h0 h1
theorem M_g_2 {i : Int} (h0 : 0 ≤ i) (h1 : i < 347) : gI xs y (putM f M) 193 i = some (vi (M.2.1 2 i.toNat)) := M_gI (k := 2) (by decide) h0 h1
theorem M_s_2 {i v : Int} (h0 : 0 ≤ i) (h1 : i < 347) : pi (putM f M) 193 i v = some (putM f (mAr M 2 (fu (M.2.1 2) i.toNat v))) := M_pi (k := 2) (by decide) h0 h1
theorem M_g_3 {i : Int} (h0 : 0 ≤ i) (h1 : i < 40) : gI xs y (putM f M) 194 i = some (vi (M.2.1 3 i.toNat)) := M_gI (k := 3) (by decide) h0 h1
theorem M_s_3 {i v : Int} (h0 : 0 ≤ i) (h1 : i < 40) : pi (putM f M) 194 i v = some (putM f (mAr M 3 (fu (M.2.1 3) i.toNat v))) := M_pi (k := 3) (by decide) h0 h1
theorem M_g_4 {i : Int} (h0 : 0 ≤ i) (h1 : i < 256) : gI xs y (putM f M) 195 i = some (vi (M.2.1 4 i.toNat)) := M_gI (k := 4) (by decide) h0 h1
theorem M_s_4 {i v : Int} (h0 : 0 ≤ i) (h1 : i < 256) : pi (putM f M) 195 i v = some (putM f (mAr M 4 (fu (M.2.1 4) i.toNat v))) := M_pi (k := 4) (by decide) h0 h1
theorem M_g_5 {i : Int} (h0 : 0 ≤ i) (h1 : i < 256) : gI xs y (putM f M) 196 i = some (vi (M.2.1 5 i.toNat)) := M_gI (k := 5) (by decide) h0 h1
theorem M_s_5 {i v : Int} (h0 : 0 ≤ i) (h1 : i < 256) : pi (putM f M) 196 i v = some (putM f (mAr M 5 (fu (M.2.1 5) i.toNat v))) := M_pi (k := 5) (by decide) h0 h1
theorem h190 : (190 : Nat) ≠ 0 := by decide
end CM2
