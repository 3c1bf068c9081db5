/-! THE SHARE: a double from hits and asks; no NaN among all that can be -/
def shr (h d : Int) : UInt64 := if d < 1 then FP.dconst1 else FP.ddiv (iD h) (iD d)
section CD
variable {xs : List Int} {f : AH} {sc : Int} {T : TG} {τ σ : SG} {μ : Mu} {y pc : Nat} {L st : List AV} {Q : Out → Mu → AH → Prop}
theorem m50 (hw : wfS σ) (hn : nn64 (shr (co (σ.1 2) 0 0 (σ.2 1).toNat) (σ.2 1)) = true) : Runs xs 50 [vr 1] μ (PP f sc T τ σ) (.inl (some (vd (shr (co (σ.1 2) 0 0 (σ.2 1).toNat) (σ.2 1))))) μ (PP f sc T τ σ) := Runs.iff fun Q hQ => by
  show Wp xs 50 0 [vr 1] [] μ (PP f sc T τ σ) Q
  unfold shr at hQ hn
  by_cases c : σ.2 1 < 1
  · rw [if_pos c] at hQ hn
    simp (disch := first | assumption | omega | rfl) only [e50_0, e50_1, e50_4, e50_7, e50_8, e50_11, e50_12, e50_13, e50_14, e50_17, e50_20, e50_21, e50_22, e50_25, e50_28, e50_29, e50_30, WpV_some, WpH_some, ↓ite_t, ↓ite_f, P_f0, P_f1, P_f2, P_f3, P_f4, P_n0, P_n1, P_n2, P_n3, P_n4, P_n5, P_n6, P_n7, P_n8, P_n9, P_n10, P_n11, P_n12, P_n13, P_t0, P_t1, P_t2, P_t3, P_t4, P_t5, P_t6, P_t7, P_t8, P_t9, P_t10, P_t11, P_t12, P_t13, P_x0, P_x1]
    exact hQ
  · rw [if_neg c] at hQ hn
    simp (disch := first | assumption | omega | rfl) only [e50_0, e50_1, e50_4, e50_7, e50_8, e50_11, e50_12, e50_13, e50_14, e50_17, e50_20, e50_21, e50_22, e50_25, e50_28, e50_29, e50_30, WpV_some, WpH_some, ↓ite_t, ↓ite_f, P_f0, P_f1, P_f2, P_f3, P_f4, P_n0, P_n1, P_n2, P_n3, P_n4, P_n5, P_n6, P_n7, P_n8, P_n9, P_n10, P_n11, P_n12, P_n13, P_t0, P_t1, P_t2, P_t3, P_t4, P_t5, P_t6, P_t7, P_t8, P_t9, P_t10, P_t11, P_t12, P_t13, P_x0, P_x1, cI_v (Rn (m25 h2 hw)) P_on h2]
    exact hQ
end CD
def bOne (h d : Nat) : Bool := nn64 (shr h d) && decide ((Op.cmpValue (FP.dcmp (shr h d) (shr h d)) .l).toInt = 0)
def bRow (d : Nat) : Bool := (List.range (d + 1)).all fun h => bOne h d
theorem b_0 : bRow 0 = true := by decide +kernel
theorem b_1 : bRow 1 = true := by decide +kernel
theorem b_2 : bRow 2 = true := by decide +kernel
theorem b_3 : bRow 3 = true := by decide +kernel
theorem b_4 : bRow 4 = true := by decide +kernel
theorem b_5 : bRow 5 = true := by decide +kernel
theorem b_6 : bRow 6 = true := by decide +kernel
theorem b_7 : bRow 7 = true := by decide +kernel
theorem b_8 : bRow 8 = true := by decide +kernel
theorem b_9 : bRow 9 = true := by decide +kernel
theorem b_10 : bRow 10 = true := by decide +kernel
theorem b_11 : bRow 11 = true := by decide +kernel
theorem b_12 : bRow 12 = true := by decide +kernel
theorem b_13 : bRow 13 = true := by decide +kernel
theorem b_14 : bRow 14 = true := by decide +kernel
theorem b_15 : bRow 15 = true := by decide +kernel
theorem b_16 : bRow 16 = true := by decide +kernel
theorem b_17 : bRow 17 = true := by decide +kernel
theorem b_18 : bRow 18 = true := by decide +kernel
theorem b_19 : bRow 19 = true := by decide +kernel
theorem b_20 : bRow 20 = true := by decide +kernel
theorem b_21 : bRow 21 = true := by decide +kernel
theorem b_22 : bRow 22 = true := by decide +kernel
theorem b_23 : bRow 23 = true := by decide +kernel
theorem b_24 : bRow 24 = true := by decide +kernel
theorem b_25 : bRow 25 = true := by decide +kernel
theorem b_26 : bRow 26 = true := by decide +kernel
theorem b_27 : bRow 27 = true := by decide +kernel
theorem b_28 : bRow 28 = true := by decide +kernel
theorem b_29 : bRow 29 = true := by decide +kernel
theorem b_30 : bRow 30 = true := by decide +kernel
theorem b_31 : bRow 31 = true := by decide +kernel
theorem b_32 : bRow 32 = true := by decide +kernel
theorem b_33 : bRow 33 = true := by decide +kernel
theorem b_34 : bRow 34 = true := by decide +kernel
theorem b_35 : bRow 35 = true := by decide +kernel
theorem b_36 : bRow 36 = true := by decide +kernel
theorem b_37 : bRow 37 = true := by decide +kernel
theorem b_38 : bRow 38 = true := by decide +kernel
theorem b_39 : bRow 39 = true := by decide +kernel
theorem b_40 : bRow 40 = true := by decide +kernel
theorem b_41 : bRow 41 = true := by decide +kernel
theorem b_42 : bRow 42 = true := by decide +kernel
theorem b_43 : bRow 43 = true := by decide +kernel
theorem b_44 : bRow 44 = true := by decide +kernel
theorem b_45 : bRow 45 = true := by decide +kernel
theorem b_46 : bRow 46 = true := by decide +kernel
theorem b_47 : bRow 47 = true := by decide +kernel
theorem b_48 : bRow 48 = true := by decide +kernel
theorem b_49 : bRow 49 = true := by decide +kernel
theorem b_50 : bRow 50 = true := by decide +kernel
theorem b_51 : bRow 51 = true := by decide +kernel
theorem b_52 : bRow 52 = true := by decide +kernel
theorem b_53 : bRow 53 = true := by decide +kernel
theorem b_54 : bRow 54 = true := by decide +kernel
theorem b_55 : bRow 55 = true := by decide +kernel
theorem b_56 : bRow 56 = true := by decide +kernel
theorem b_57 : bRow 57 = true := by decide +kernel
theorem b_58 : bRow 58 = true := by decide +kernel
theorem b_59 : bRow 59 = true := by decide +kernel
theorem b_60 : bRow 60 = true := by decide +kernel
theorem b_61 : bRow 61 = true := by decide +kernel
theorem b_62 : bRow 62 = true := by decide +kernel
theorem b_63 : bRow 63 = true := by decide +kernel
theorem b_64 : bRow 64 = true := by decide +kernel
theorem b_65 : bRow 65 = true := by decide +kernel
theorem b_66 : bRow 66 = true := by decide +kernel
theorem b_67 : bRow 67 = true := by decide +kernel
theorem b_68 : bRow 68 = true := by decide +kernel
theorem b_69 : bRow 69 = true := by decide +kernel
theorem b_70 : bRow 70 = true := by decide +kernel
theorem b_71 : bRow 71 = true := by decide +kernel
theorem b_72 : bRow 72 = true := by decide +kernel
theorem b_73 : bRow 73 = true := by decide +kernel
theorem b_74 : bRow 74 = true := by decide +kernel
theorem b_75 : bRow 75 = true := by decide +kernel
theorem b_76 : bRow 76 = true := by decide +kernel
theorem b_77 : bRow 77 = true := by decide +kernel
theorem b_78 : bRow 78 = true := by decide +kernel
theorem b_79 : bRow 79 = true := by decide +kernel
theorem b_80 : bRow 80 = true := by decide +kernel
theorem b_all : ∀ d : Nat, d ≤ 80 → bRow d = true
  | 0, _ => b_0
  | 1, _ => b_1
  | 2, _ => b_2
  | 3, _ => b_3
  | 4, _ => b_4
  | 5, _ => b_5
  | 6, _ => b_6
  | 7, _ => b_7
  | 8, _ => b_8
  | 9, _ => b_9
  | 10, _ => b_10
  | 11, _ => b_11
  | 12, _ => b_12
  | 13, _ => b_13
  | 14, _ => b_14
  | 15, _ => b_15
  | 16, _ => b_16
  | 17, _ => b_17
  | 18, _ => b_18
  | 19, _ => b_19
  | 20, _ => b_20
  | 21, _ => b_21
  | 22, _ => b_22
  | 23, _ => b_23
  | 24, _ => b_24
  | 25, _ => b_25
  | 26, _ => b_26
  | 27, _ => b_27
  | 28, _ => b_28
  | 29, _ => b_29
  | 30, _ => b_30
  | 31, _ => b_31
  | 32, _ => b_32
  | 33, _ => b_33
  | 34, _ => b_34
  | 35, _ => b_35
  | 36, _ => b_36
  | 37, _ => b_37
  | 38, _ => b_38
  | 39, _ => b_39
  | 40, _ => b_40
  | 41, _ => b_41
  | 42, _ => b_42
  | 43, _ => b_43
  | 44, _ => b_44
  | 45, _ => b_45
  | 46, _ => b_46
  | 47, _ => b_47
  | 48, _ => b_48
  | 49, _ => b_49
  | 50, _ => b_50
  | 51, _ => b_51
  | 52, _ => b_52
  | 53, _ => b_53
  | 54, _ => b_54
  | 55, _ => b_55
  | 56, _ => b_56
  | 57, _ => b_57
  | 58, _ => b_58
  | 59, _ => b_59
  | 60, _ => b_60
  | 61, _ => b_61
  | 62, _ => b_62
  | 63, _ => b_63
  | 64, _ => b_64
  | 65, _ => b_65
  | 66, _ => b_66
  | 67, _ => b_67
  | 68, _ => b_68
  | 69, _ => b_69
  | 70, _ => b_70
  | 71, _ => b_71
  | 72, _ => b_72
  | 73, _ => b_73
  | 74, _ => b_74
  | 75, _ => b_75
  | 76, _ => b_76
  | 77, _ => b_77
  | 78, _ => b_78
  | 79, _ => b_79
  | 80, _ => b_80
  | n + 81, h => absurd h (by omega)
theorem b_ok {h d : Int} (h0 : 0 ≤ h) (h1 : h ≤ d) (h2 : d ≤ 80) : nn64 (shr h d) = true ∧ (Op.cmpValue (FP.dcmp (shr h d) (shr h d)) .l).toInt = 0 := by
  have k := b_all d.toNat (by omega)
  have k2 := List.all_eq_true.mp k h.toNat (List.mem_range.mpr (by omega))
  unfold bOne at k2
  rw [show ((h.toNat : Nat) : Int) = h by omega, show ((d.toNat : Nat) : Int) = d by omega] at k2
  simp only [Bool.and_eq_true, decide_eq_true_eq] at k2
  exact k2
