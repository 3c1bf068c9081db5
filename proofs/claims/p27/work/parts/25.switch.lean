theorem e52_1_h : decode (mB 52) 1 = .ok (.tableswitch 141 0 9 #[55, 63, 71, 79, 87, 95, 103, 114, 125, 136], 55) := by decide +kernel
theorem e52_1_0 {xs : List Int} {l0 l1 : AV} {μ : Mu} {f : AH} {Q : Out → Mu → AH → Prop} : Wp xs 52 1 [l0, l1] [vi 0] μ f Q = (Wp xs 52 56 [l0, l1] [] μ f Q) := R_nx e52_1_h rfl
theorem e52_1_1 {xs : List Int} {l0 l1 : AV} {μ : Mu} {f : AH} {Q : Out → Mu → AH → Prop} : Wp xs 52 1 [l0, l1] [vi 1] μ f Q = (Wp xs 52 64 [l0, l1] [] μ f Q) := R_nx e52_1_h rfl
theorem e52_1_2 {xs : List Int} {l0 l1 : AV} {μ : Mu} {f : AH} {Q : Out → Mu → AH → Prop} : Wp xs 52 1 [l0, l1] [vi 2] μ f Q = (Wp xs 52 72 [l0, l1] [] μ f Q) := R_nx e52_1_h rfl
theorem e52_1_3 {xs : List Int} {l0 l1 : AV} {μ : Mu} {f : AH} {Q : Out → Mu → AH → Prop} : Wp xs 52 1 [l0, l1] [vi 3] μ f Q = (Wp xs 52 80 [l0, l1] [] μ f Q) := R_nx e52_1_h rfl
theorem e52_1_4 {xs : List Int} {l0 l1 : AV} {μ : Mu} {f : AH} {Q : Out → Mu → AH → Prop} : Wp xs 52 1 [l0, l1] [vi 4] μ f Q = (Wp xs 52 88 [l0, l1] [] μ f Q) := R_nx e52_1_h rfl
theorem e52_1_5 {xs : List Int} {l0 l1 : AV} {μ : Mu} {f : AH} {Q : Out → Mu → AH → Prop} : Wp xs 52 1 [l0, l1] [vi 5] μ f Q = (Wp xs 52 96 [l0, l1] [] μ f Q) := R_nx e52_1_h rfl
theorem e52_1_6 {xs : List Int} {l0 l1 : AV} {μ : Mu} {f : AH} {Q : Out → Mu → AH → Prop} : Wp xs 52 1 [l0, l1] [vi 6] μ f Q = (Wp xs 52 104 [l0, l1] [] μ f Q) := R_nx e52_1_h rfl
theorem e52_1_7 {xs : List Int} {l0 l1 : AV} {μ : Mu} {f : AH} {Q : Out → Mu → AH → Prop} : Wp xs 52 1 [l0, l1] [vi 7] μ f Q = (Wp xs 52 115 [l0, l1] [] μ f Q) := R_nx e52_1_h rfl
theorem e52_1_8 {xs : List Int} {l0 l1 : AV} {μ : Mu} {f : AH} {Q : Out → Mu → AH → Prop} : Wp xs 52 1 [l0, l1] [vi 8] μ f Q = (Wp xs 52 126 [l0, l1] [] μ f Q) := R_nx e52_1_h rfl
theorem e52_1_9 {xs : List Int} {l0 l1 : AV} {μ : Mu} {f : AH} {Q : Out → Mu → AH → Prop} : Wp xs 52 1 [l0, l1] [vi 9] μ f Q = (Wp xs 52 137 [l0, l1] [] μ f Q) := R_nx e52_1_h rfl
theorem e52_1_d {xs : List Int} {l0 l1 : AV} {μ : Mu} {f : AH} {Q : Out → Mu → AH → Prop} {x0 : Int} (h : x0 < 0 ∨ 9 < x0) : Wp xs 52 1 [l0, l1] [vi x0] μ f Q = (Wp xs 52 142 [l0, l1] [] μ f Q) := R_nx e52_1_h (if_pos h)
theorem e54_26_h : decode (mB 54) 26 = .ok (.tableswitch 108 0 3 #[30, 42, 54, 81], 30) := by decide +kernel
theorem e54_26_0 {xs : List Int} {l0 l1 l2 : AV} {μ : Mu} {f : AH} {Q : Out → Mu → AH → Prop} : Wp xs 54 26 [l0, l1, l2] [vi 0] μ f Q = (Wp xs 54 56 [l0, l1, l2] [] μ f Q) := R_nx e54_26_h rfl
theorem e54_26_1 {xs : List Int} {l0 l1 l2 : AV} {μ : Mu} {f : AH} {Q : Out → Mu → AH → Prop} : Wp xs 54 26 [l0, l1, l2] [vi 1] μ f Q = (Wp xs 54 68 [l0, l1, l2] [] μ f Q) := R_nx e54_26_h rfl
theorem e54_26_2 {xs : List Int} {l0 l1 l2 : AV} {μ : Mu} {f : AH} {Q : Out → Mu → AH → Prop} : Wp xs 54 26 [l0, l1, l2] [vi 2] μ f Q = (Wp xs 54 80 [l0, l1, l2] [] μ f Q) := R_nx e54_26_h rfl
theorem e54_26_3 {xs : List Int} {l0 l1 l2 : AV} {μ : Mu} {f : AH} {Q : Out → Mu → AH → Prop} : Wp xs 54 26 [l0, l1, l2] [vi 3] μ f Q = (Wp xs 54 107 [l0, l1, l2] [] μ f Q) := R_nx e54_26_h rfl
theorem e54_26_d {xs : List Int} {l0 l1 l2 : AV} {μ : Mu} {f : AH} {Q : Out → Mu → AH → Prop} {x0 : Int} (h : x0 < 0 ∨ 3 < x0) : Wp xs 54 26 [l0, l1, l2] [vi x0] μ f Q = (Wp xs 54 134 [l0, l1, l2] [] μ f Q) := R_nx e54_26_h (if_pos h)
theorem e55_5_h : decode (mB 55) 5 = .ok (.tableswitch 161 0 7 #[47, 59, 71, 83, 99, 111, 123, 135], 47) := by decide +kernel
theorem e55_5_0 {xs : List Int} {l0 l1 l2 : AV} {μ : Mu} {f : AH} {Q : Out → Mu → AH → Prop} : Wp xs 55 5 [l0, l1, l2] [vi 0] μ f Q = (Wp xs 55 52 [l0, l1, l2] [] μ f Q) := R_nx e55_5_h rfl
theorem e55_5_1 {xs : List Int} {l0 l1 l2 : AV} {μ : Mu} {f : AH} {Q : Out → Mu → AH → Prop} : Wp xs 55 5 [l0, l1, l2] [vi 1] μ f Q = (Wp xs 55 64 [l0, l1, l2] [] μ f Q) := R_nx e55_5_h rfl
theorem e55_5_2 {xs : List Int} {l0 l1 l2 : AV} {μ : Mu} {f : AH} {Q : Out → Mu → AH → Prop} : Wp xs 55 5 [l0, l1, l2] [vi 2] μ f Q = (Wp xs 55 76 [l0, l1, l2] [] μ f Q) := R_nx e55_5_h rfl
theorem e55_5_3 {xs : List Int} {l0 l1 l2 : AV} {μ : Mu} {f : AH} {Q : Out → Mu → AH → Prop} : Wp xs 55 5 [l0, l1, l2] [vi 3] μ f Q = (Wp xs 55 88 [l0, l1, l2] [] μ f Q) := R_nx e55_5_h rfl
theorem e55_5_4 {xs : List Int} {l0 l1 l2 : AV} {μ : Mu} {f : AH} {Q : Out → Mu → AH → Prop} : Wp xs 55 5 [l0, l1, l2] [vi 4] μ f Q = (Wp xs 55 104 [l0, l1, l2] [] μ f Q) := R_nx e55_5_h rfl
theorem e55_5_5 {xs : List Int} {l0 l1 l2 : AV} {μ : Mu} {f : AH} {Q : Out → Mu → AH → Prop} : Wp xs 55 5 [l0, l1, l2] [vi 5] μ f Q = (Wp xs 55 116 [l0, l1, l2] [] μ f Q) := R_nx e55_5_h rfl
theorem e55_5_6 {xs : List Int} {l0 l1 l2 : AV} {μ : Mu} {f : AH} {Q : Out → Mu → AH → Prop} : Wp xs 55 5 [l0, l1, l2] [vi 6] μ f Q = (Wp xs 55 128 [l0, l1, l2] [] μ f Q) := R_nx e55_5_h rfl
theorem e55_5_7 {xs : List Int} {l0 l1 l2 : AV} {μ : Mu} {f : AH} {Q : Out → Mu → AH → Prop} : Wp xs 55 5 [l0, l1, l2] [vi 7] μ f Q = (Wp xs 55 140 [l0, l1, l2] [] μ f Q) := R_nx e55_5_h rfl
theorem e55_5_d {xs : List Int} {l0 l1 l2 : AV} {μ : Mu} {f : AH} {Q : Out → Mu → AH → Prop} {x0 : Int} (h : x0 < 0 ∨ 7 < x0) : Wp xs 55 5 [l0, l1, l2] [vi x0] μ f Q = (Wp xs 55 166 [l0, l1, l2] [] μ f Q) := R_nx e55_5_h (if_pos h)
