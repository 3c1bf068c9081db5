/-! ALL INSTRUCTIONS: what goes on, what ends, what is called; the counts only grow -/
section AL
variable {p : Program} {l : Launch} {e : Env} {R : Room} {s : State} {m : MethodId} {args : Array Value} {below : List Frame} {meth : Method} {c : Code} {Q : State → Prop}
variable {xs : List Int} {y : Nat} {K : KI} {D : va_G} {A : Nat → Prop} {sa : Nat → Nat} {f : AH} {μ : Mu} {L st : List AV}
theorem sn_ret (i : Instr) (hi : i = .ireturn ∨ i = .lreturn ∨ i = .dreturn ∨ i = .return_) : SNg p l e R s m args below meth c Q xs y K D A sa i := by
  intro pc len L st μ f φ ls H locs cells slots pc' L' st' μ' f' X hX hL hS hH hd h8 hc hs hF hl kk
  rcases hi with rfl | rfl | rfl | rfl
  · obtain ⟨-, h⟩ := ifs h8
    split at h
    · split at h
      · cases h
      · obtain ⟨-, h⟩ := ifs h; cases h
      · cases h
    · cases h
  · obtain ⟨-, h⟩ := ifs h8
    split at h
    · obtain ⟨-, h⟩ := ifs h; cases h
    · cases h
  · obtain ⟨-, h⟩ := ifs h8
    split at h
    · obtain ⟨-, h⟩ := ifs h; cases h
    · cases h
  · obtain ⟨-, h⟩ := ifs h8
    split at h
    · obtain ⟨-, h⟩ := ifs h; cases h
    · cases h
theorem sn_all (i : Instr) : SNg p l e R s m args below meth c Q xs y K D A sa i := by
  cases i with
  | aload_n k => exact sn_aload_n k
  | aload k => exact sn_aload k
  | iload_n k => exact sn_iload_n k
  | iload k => exact sn_iload k
  | lload_n k => exact sn_lload_n k
  | lload k => exact sn_lload k
  | dload_n k => exact sn_dload_n k
  | dload k => exact sn_dload k
  | astore_n k => exact sn_astore_n k
  | astore k => exact sn_astore k
  | istore_n k => exact sn_istore_n k
  | istore k => exact sn_istore k
  | lstore_n k => exact sn_lstore_n k
  | lstore k => exact sn_lstore k
  | dstore_n k => exact sn_dstore_n k
  | dstore k => exact sn_dstore k
  | iconst n => exact sn_iconst n
  | bipush n => exact sn_bipush n
  | sipush n => exact sn_sipush n
  | lconst n => exact sn_lconst n
  | dconst n => exact sn_dconst n
  | ldc2_w k => exact sn_ldc2_w k
  | ldc k => exact sn_ldc k
  | iadd => exact sn_iadd
  | isub => exact sn_isub
  | imul => exact sn_imul
  | idiv => exact sn_idiv
  | irem => exact sn_irem
  | iand => exact sn_iand
  | ior => exact sn_ior
  | ixor => exact sn_ixor
  | ishl => exact sn_ishl
  | ishr => exact sn_ishr
  | ineg => exact sn_ineg
  | i2l => exact sn_i2l
  | i2d => exact sn_i2d
  | d2l => exact sn_d2l
  | ladd => exact sn_ladd
  | lsub => exact sn_lsub
  | lmul => exact sn_lmul
  | lshl => exact sn_lshl
  | dmul => exact sn_dmul
  | ddiv => exact sn_ddiv
  | dsub => exact sn_dsub
  | lcmp => exact sn_lcmp
  | dcmp op => exact sn_dcmp op
  | iinc k n => exact sn_iinc k n
  | dup => exact sn_dup
  | dup2 => exact sn_dup2
  | pop => exact sn_pop
  | goto off => exact sn_goto off
  | ifCond cd off => exact sn_ifCond cd off
  | if_icmp cd off => exact sn_if_icmp cd off
  | ifnull off => exact sn_ifnull off
  | tableswitch d lo hi offs => exact sn_tableswitch d lo hi offs
  | getfield k => exact sn_getfield k
  | putfield k => exact sn_putfield k
  | iaload => exact sn_iaload
  | iastore => exact sn_iastore
  | aaload => exact sn_aaload
  | aastore => exact sn_aastore
  | arraylength => exact sn_arraylength
  | newarray t => exact sn_newarray t
  | anewarray k => exact sn_anewarray k
  | new k => exact sn_new k
  | invokestatic k => exact sn_invokestatic k
  | invokespecial k => exact sn_invokespecial k
  | invokevirtual k => exact sn_invokevirtual k
  | ireturn => exact sn_ret _ (Or.inl rfl)
  | lreturn => exact sn_ret _ (Or.inr (Or.inl rfl))
  | dreturn => exact sn_ret _ (Or.inr (Or.inr (Or.inl rfl)))
  | return_ => exact sn_ret _ (Or.inr (Or.inr (Or.inr rfl)))
  | _ => intro pc len L st μ f φ ls H locs cells slots pc' L' st' μ' f' X hX hL hS hH hd h8; exact (Option.some_ne_none _ (h8.symm : some _ = none)).elim
/-- the counts behind a step -/
def muLe (μ μ' : Mu) : Prop := μ.1 ≤ μ'.1 ∧ μ.2.1 ≤ μ'.2.1 ∧ μ.2.2 ≤ μ'.2.2
theorem muLe.rf {μ : Mu} : muLe μ μ := ⟨Nat.le_refl _, Nat.le_refl _, Nat.le_refl _⟩
theorem muLe.tr {μ μ1 μ2 : Mu} (h : muLe μ μ1) (h2 : muLe μ1 μ2) : muLe μ μ2 := ⟨Nat.le_trans h.1 h2.1, Nat.le_trans h.2.1 h2.2.1, Nat.le_trans h.2.2 h2.2.2⟩
def Mz (μ : Mu) (r : Option SR) : Prop := match r with
  | some (.inl (_, (_, (_, (μ', _))))) => muLe μ μ'
  | some (.inr (.inl (_, (μ', _)))) => muLe μ μ'
  | _ => True
theorem mz_no : Mz μ none := trivial
theorem mz_nx {pc : Nat} : Mz μ (nx pc L st μ f) := muLe.rf
theorem mz_dn {r : Out} : Mz μ (dn r μ f) := muLe.rf
theorem mz_ite {b : Prop} [Decidable b] {r r' : Option SR} (h : Mz μ r) (h2 : Mz μ r') : Mz μ (if b then r else r') := by
  by_cases hb : b
  · rw [if_pos hb]; exact h
  · rw [if_neg hb]; exact h2
theorem mz_if {b : Prop} [Decidable b] {r : Option SR} (h : Mz μ r) : Mz μ (if b then r else none) := mz_ite h mz_no
theorem mz_tg {pc : Nat} {off : Int} : Mz μ (tg pc off L st μ f) := mz_if mz_nx
theorem mz_br {b : Prop} [Decidable b] {pc : Nat} {off : Int} : Mz μ (br b pc off L st μ f) := mz_if (mz_ite mz_nx mz_nx)
theorem mz_cmp {cd : Jvm.ClassFile.Cond} {pc : Nat} {off x z : Int} : Mz μ (cmpA cd pc off x z L st μ f) := by cases cd <;> exact mz_br
theorem mz_ov {o : Option AV} {pc : Nat} : Mz μ (ov o pc L st μ f) := by cases o <;> first | exact mz_no | exact mz_nx
theorem mz_oh {o : Option AH} {pc : Nat} : Mz μ (oh o pc L st μ) := by cases o <;> first | exact mz_no | exact mz_nx
theorem mz_ol {o : Option (List AV)} {pc : Nat} : Mz μ (ol o pc st μ f) := by cases o <;> first | exact mz_no | exact mz_nx
theorem mz_ld {o : Option AV} {k pc : Nat} : Mz μ (ld1 o k pc L st μ f) := by
  unfold ld1
  split
  · split <;> first | exact mz_no | exact mz_nx
  · exact mz_no
theorem mz_st {k i pc : Nat} : Mz μ (st1 k i pc L st μ f) := by
  unfold st1
  split
  · split <;> first | exact mz_no | exact mz_ol
  · exact mz_no
theorem mz_ii {g : Int → Int → Option Int} {pc : Nat} : Mz μ (ii2 g pc L st μ f) := by
  unfold ii2
  split
  · split <;> first | exact mz_no | exact mz_nx
  · exact mz_no
theorem mz_ll {g : Int64 → Int64 → Int64} {pc : Nat} : Mz μ (ll2 g pc L st μ f) := by
  unfold ll2
  split <;> first | exact mz_no | exact mz_nx
theorem mz_dd {g : UInt64 → UInt64 → UInt64} {pc : Nat} : Mz μ (dd2 g pc L st μ f) := by
  unfold dd2
  split <;> first | exact mz_no | exact mz_if mz_nx
theorem mz_call {y' n pc : Nat} : Mz μ (callA y y' n pc L st) := by
  unfold callA
  split
  · exact mz_if trivial
  · trivial
theorem mz_new {n a b : Nat} {pc : Nat} {g : AH} : Mz μ (nx pc L st (μ.1 + n, (μ.2.1 + a, μ.2.2 + b)) g) := ⟨Nat.le_add_right _ _, Nat.le_add_right _ _, Nat.le_add_right _ _⟩
theorem istep_mu (pc len : Nat) (i : Instr) : Mz μ (istep xs y pc len i L st μ f) := by
  cases i with
  | aload_n k => exact mz_if mz_ld
  | aload k => exact mz_if mz_ld
  | iload_n k => exact mz_if mz_ld
  | iload k => exact mz_if mz_ld
  | lload_n k => exact mz_if mz_ld
  | lload k => exact mz_if mz_ld
  | dload_n k => exact mz_if mz_ld
  | dload k => exact mz_if mz_ld
  | astore_n k => exact mz_if mz_st
  | astore k => exact mz_if mz_st
  | istore_n k => exact mz_if mz_st
  | istore k => exact mz_if mz_st
  | lstore_n k => exact mz_if mz_st
  | lstore k => exact mz_if mz_st
  | dstore_n k => exact mz_if mz_st
  | dstore k => exact mz_if mz_st
  | iconst n => exact mz_if mz_nx
  | bipush n => exact mz_if mz_nx
  | sipush n => exact mz_if mz_nx
  | lconst n => exact mz_if mz_nx
  | dconst n => exact mz_if mz_nx
  | ldc2_w k => exact mz_if mz_no
  | ldc k => refine mz_if ?_; split <;> first | exact mz_no | exact mz_nx
  | iadd => exact mz_if mz_ii
  | isub => exact mz_if mz_ii
  | imul => exact mz_if mz_ii
  | idiv => exact mz_if mz_ii
  | irem => exact mz_if mz_ii
  | iand => exact mz_if mz_ii
  | ior => exact mz_if mz_ii
  | ixor => exact mz_if mz_ii
  | ishl => exact mz_if mz_ii
  | ishr => exact mz_if mz_ii
  | ineg => refine mz_if ?_; split <;> first | exact mz_no | exact mz_nx
  | i2l => refine mz_if ?_; split <;> first | exact mz_no | exact mz_nx
  | i2d => refine mz_if ?_; split <;> first | exact mz_no | exact mz_nx
  | d2l => refine mz_if ?_; split <;> first | exact mz_no | exact mz_nx
  | ladd => exact mz_if mz_ll
  | lsub => exact mz_if mz_ll
  | lmul => exact mz_if mz_ll
  | lshl => refine mz_if ?_; split <;> first | exact mz_no | exact mz_nx
  | dmul => exact mz_if mz_dd
  | ddiv => exact mz_if mz_dd
  | dsub => exact mz_if mz_dd
  | lcmp => refine mz_if ?_; split <;> first | exact mz_no | exact mz_nx
  | dcmp op => refine mz_if ?_; split <;> first | exact mz_no | exact mz_nx
  | iinc k n => refine mz_if ?_; split <;> first | exact mz_no | exact mz_nx
  | dup => refine mz_if ?_; split <;> first | exact mz_no | exact mz_if mz_nx
  | dup2 => refine mz_if ?_; split <;> first | exact mz_no | exact mz_if mz_nx
  | pop => refine mz_if ?_; split <;> first | exact mz_no | exact mz_if mz_nx
  | goto off => exact mz_if mz_tg
  | ifCond cd off => refine mz_if ?_; split <;> first | exact mz_no | exact mz_cmp
  | if_icmp cd off => refine mz_if ?_; split <;> first | exact mz_no | exact mz_cmp
  | ifnull off => refine mz_if ?_; split <;> first | exact mz_no | exact mz_nx | exact mz_tg
  | tableswitch d lo hi offs => show Mz μ (match st with | .inl x :: r => if x < lo ∨ hi < x then tg pc d L r μ f else (match offs[(x - lo).toNat]? with | some off => tg pc off L r μ f | none => none) | _ => none); split <;> first | exact mz_no | (refine mz_ite mz_tg ?_; split <;> first | exact mz_tg | exact mz_no)
  | getfield k => refine mz_if ?_; split <;> first | exact mz_no | exact mz_ov
  | putfield k => refine mz_if ?_; split <;> first | exact mz_no | exact mz_if mz_oh
  | iaload => refine mz_if ?_; split <;> first | exact mz_no | exact mz_ov
  | iastore => refine mz_if ?_; split <;> first | exact mz_no | exact mz_oh
  | aaload => refine mz_if ?_; split <;> first | exact mz_no | exact mz_ov
  | aastore => refine mz_if ?_; split <;> first | exact mz_no | exact mz_oh
  | arraylength => refine mz_if ?_; split <;> first | exact mz_no | (refine mz_ite (mz_if mz_nx) ?_; split <;> first | exact mz_nx | exact mz_no)
  | newarray t => refine mz_if ?_; split <;> first | exact mz_no | (refine mz_if ?_; split <;> first | exact mz_new (n := 1) (a := 1) | exact mz_no)
  | anewarray k => refine mz_if ?_; split <;> first | exact mz_no | exact mz_if (mz_new (n := 1) (a := 1))
  | new k => refine mz_if ?_; split <;> first | exact mz_if (⟨Nat.le_refl _, Nat.le_add_right _ _, Nat.le_add_right _ _⟩ : muLe μ (μ.1, (μ.2.1 + 1, μ.2.2 + 6))) | (split <;> first | exact mz_new (n := 1) (a := 1) | exact mz_no)
  | invokestatic k => refine mz_if ?_; split <;> first | exact mz_call | (split <;> first | exact mz_if mz_nx | exact mz_if mz_oh | exact mz_no)
  | invokespecial k => refine mz_if ?_; split <;> first | (split <;> first | exact mz_no | exact mz_if trivial) | (split <;> first | exact mz_if mz_nx | exact mz_no)
  | invokevirtual k => refine mz_if ?_; split <;> first | (split <;> first | exact mz_no | exact mz_if trivial) | exact mz_no
  | ireturn => refine mz_if ?_; split <;> first | exact mz_no | (split <;> first | exact mz_dn | exact mz_if mz_dn | exact mz_no)
  | lreturn => refine mz_if ?_; split <;> first | exact mz_no | exact mz_if mz_dn
  | dreturn => refine mz_if ?_; split <;> first | exact mz_no | exact mz_if mz_dn
  | return_ => refine mz_if ?_; split <;> first | exact mz_no | exact mz_if mz_dn
  | _ => exact mz_no
theorem exec_mu (xs : List Int) : ∀ (k y pc : Nat) (L st : List AV) (μ : Mu) (f : AH) (o : Out) (μ' : Mu) (f' : AH), exec xs k y pc L st μ f = some (o, (μ', f')) → muLe μ μ' := by
  intro k
  induction k with
  | zero => intro y pc L st μ f o μ' f' h; cases h
  | succ k ih =>
    intro y pc L st μ f o μ' f' h
    rw [exec_one] at h
    have hz : Mz μ (Step1 xs y pc L st μ f) := by
      unfold Step1
      split
      · exact mz_no
      · exact istep_mu _ _ _
    cases hs : Step1 xs y pc L st μ f with
    | none => rw [hs] at h; cases h
    | some q =>
      rw [hs] at h hz
      rcases q with ⟨pc1, L1, st1, μ1, f1⟩ | ⟨o1, μ1, f1⟩ | ⟨y1, as, pc1, L1, st1⟩
      · exact muLe.tr hz (ih _ _ _ _ _ _ _ _ _ h)
      · cases h; exact hz
      · dsimp only at h
        cases hc : exec xs k y1 0 (ini y1 as) [] μ f with
        | none => rw [hc] at h; cases h
        | some q =>
          rw [hc] at h
          obtain ⟨o1, μ1, f1⟩ := q
          have h1 := ih _ _ _ _ _ _ _ _ _ hc
          rcases o1 with (_ | v) | E
          · exact h1.tr (ih _ _ _ _ _ _ _ _ _ h)
          · exact h1.tr (ih _ _ _ _ _ _ _ _ _ h)
          · dsimp only at h
            cases hE : lk hTab y E with
            | none =>
              rw [hE] at h
              obtain ⟨-, h⟩ := ifs h
              cases h
              exact h1
            | some w =>
              rw [hE] at h
              obtain ⟨w1, w2, w3, w4, w5⟩ := w
              obtain ⟨-, h⟩ := ifs h
              exact h1.tr (ih _ _ _ _ _ _ _ _ _ h)
def NoD (r : Option SR) : Prop := match r with
  | some (.inr _) => False
  | _ => True
theorem nd_no : NoD none := trivial
theorem nd_nx {pc : Nat} : NoD (nx pc L st μ f) := trivial
theorem nd_ite {b : Prop} [Decidable b] {r r' : Option SR} (h : NoD r) (h2 : NoD r') : NoD (if b then r else r') := by
  by_cases hb : b
  · rw [if_pos hb]; exact h
  · rw [if_neg hb]; exact h2
theorem nd_if {b : Prop} [Decidable b] {r : Option SR} (h : NoD r) : NoD (if b then r else none) := nd_ite h nd_no
theorem nd_tg {pc : Nat} {off : Int} : NoD (tg pc off L st μ f) := nd_if nd_nx
theorem nd_br {b : Prop} [Decidable b] {pc : Nat} {off : Int} : NoD (br b pc off L st μ f) := nd_if (nd_ite nd_nx nd_nx)
theorem nd_cmp {cd : Jvm.ClassFile.Cond} {pc : Nat} {off x z : Int} : NoD (cmpA cd pc off x z L st μ f) := by cases cd <;> exact nd_br
theorem nd_ov {o : Option AV} {pc : Nat} : NoD (ov o pc L st μ f) := by cases o <;> first | exact nd_no | exact nd_nx
theorem nd_oh {o : Option AH} {pc : Nat} : NoD (oh o pc L st μ) := by cases o <;> first | exact nd_no | exact nd_nx
theorem nd_ol {o : Option (List AV)} {pc : Nat} : NoD (ol o pc st μ f) := by cases o <;> first | exact nd_no | exact nd_nx
theorem nd_ld {o : Option AV} {k pc : Nat} : NoD (ld1 o k pc L st μ f) := by
  unfold ld1
  split
  · split <;> first | exact nd_no | exact nd_nx
  · exact nd_no
theorem nd_st {k i pc : Nat} : NoD (st1 k i pc L st μ f) := by
  unfold st1
  split
  · split <;> first | exact nd_no | exact nd_ol
  · exact nd_no
theorem nd_ii {g : Int → Int → Option Int} {pc : Nat} : NoD (ii2 g pc L st μ f) := by
  unfold ii2
  split
  · split <;> first | exact nd_no | exact nd_nx
  · exact nd_no
theorem nd_ll {g : Int64 → Int64 → Int64} {pc : Nat} : NoD (ll2 g pc L st μ f) := by
  unfold ll2
  split <;> first | exact nd_no | exact nd_nx
theorem nd_dd {g : UInt64 → UInt64 → UInt64} {pc : Nat} : NoD (dd2 g pc L st μ f) := by
  unfold dd2
  split <;> first | exact nd_no | exact nd_if nd_nx
theorem nd_new {n a b : Nat} {pc : Nat} {g : AH} : NoD (nx pc L st (μ.1 + n, (μ.2.1 + a, μ.2.2 + b)) g) := trivial
theorem istep_nd (pc len : Nat) (i : Instr) (hne : (∀ k, i ≠ .new k) ∧ (∀ k, i ≠ .invokestatic k) ∧ (∀ k, i ≠ .invokespecial k) ∧ (∀ k, i ≠ .invokevirtual k) ∧ i ≠ .ireturn ∧ i ≠ .lreturn ∧ i ≠ .dreturn ∧ i ≠ .return_) : NoD (istep xs y pc len i L st μ f) := by
  cases i with
  | aload_n k => exact nd_if nd_ld
  | aload k => exact nd_if nd_ld
  | iload_n k => exact nd_if nd_ld
  | iload k => exact nd_if nd_ld
  | lload_n k => exact nd_if nd_ld
  | lload k => exact nd_if nd_ld
  | dload_n k => exact nd_if nd_ld
  | dload k => exact nd_if nd_ld
  | astore_n k => exact nd_if nd_st
  | astore k => exact nd_if nd_st
  | istore_n k => exact nd_if nd_st
  | istore k => exact nd_if nd_st
  | lstore_n k => exact nd_if nd_st
  | lstore k => exact nd_if nd_st
  | dstore_n k => exact nd_if nd_st
  | dstore k => exact nd_if nd_st
  | iconst n => exact nd_if nd_nx
  | bipush n => exact nd_if nd_nx
  | sipush n => exact nd_if nd_nx
  | lconst n => exact nd_if nd_nx
  | dconst n => exact nd_if nd_nx
  | ldc2_w k => exact nd_if nd_no
  | ldc k => refine nd_if ?_; split <;> first | exact nd_no | exact nd_nx
  | iadd => exact nd_if nd_ii
  | isub => exact nd_if nd_ii
  | imul => exact nd_if nd_ii
  | idiv => exact nd_if nd_ii
  | irem => exact nd_if nd_ii
  | iand => exact nd_if nd_ii
  | ior => exact nd_if nd_ii
  | ixor => exact nd_if nd_ii
  | ishl => exact nd_if nd_ii
  | ishr => exact nd_if nd_ii
  | ineg => refine nd_if ?_; split <;> first | exact nd_no | exact nd_nx
  | i2l => refine nd_if ?_; split <;> first | exact nd_no | exact nd_nx
  | i2d => refine nd_if ?_; split <;> first | exact nd_no | exact nd_nx
  | d2l => refine nd_if ?_; split <;> first | exact nd_no | exact nd_nx
  | ladd => exact nd_if nd_ll
  | lsub => exact nd_if nd_ll
  | lmul => exact nd_if nd_ll
  | lshl => refine nd_if ?_; split <;> first | exact nd_no | exact nd_nx
  | dmul => exact nd_if nd_dd
  | ddiv => exact nd_if nd_dd
  | dsub => exact nd_if nd_dd
  | lcmp => refine nd_if ?_; split <;> first | exact nd_no | exact nd_nx
  | dcmp op => refine nd_if ?_; split <;> first | exact nd_no | exact nd_nx
  | iinc k n => refine nd_if ?_; split <;> first | exact nd_no | exact nd_nx
  | dup => refine nd_if ?_; split <;> first | exact nd_no | exact nd_if nd_nx
  | dup2 => refine nd_if ?_; split <;> first | exact nd_no | exact nd_if nd_nx
  | pop => refine nd_if ?_; split <;> first | exact nd_no | exact nd_if nd_nx
  | goto off => exact nd_if nd_tg
  | ifCond cd off => refine nd_if ?_; split <;> first | exact nd_no | exact nd_cmp
  | if_icmp cd off => refine nd_if ?_; split <;> first | exact nd_no | exact nd_cmp
  | ifnull off => refine nd_if ?_; split <;> first | exact nd_no | exact nd_nx | exact nd_tg
  | tableswitch d lo hi offs => show NoD (match st with | .inl x :: r => if x < lo ∨ hi < x then tg pc d L r μ f else (match offs[(x - lo).toNat]? with | some off => tg pc off L r μ f | none => none) | _ => none); split <;> first | exact nd_no | (refine nd_ite nd_tg ?_; split <;> first | exact nd_tg | exact nd_no)
  | getfield k => refine nd_if ?_; split <;> first | exact nd_no | exact nd_ov
  | putfield k => refine nd_if ?_; split <;> first | exact nd_no | exact nd_if nd_oh
  | iaload => refine nd_if ?_; split <;> first | exact nd_no | exact nd_ov
  | iastore => refine nd_if ?_; split <;> first | exact nd_no | exact nd_oh
  | aaload => refine nd_if ?_; split <;> first | exact nd_no | exact nd_ov
  | aastore => refine nd_if ?_; split <;> first | exact nd_no | exact nd_oh
  | arraylength => refine nd_if ?_; split <;> first | exact nd_no | (refine nd_ite (nd_if nd_nx) ?_; split <;> first | exact nd_nx | exact nd_no)
  | newarray t => refine nd_if ?_; split <;> first | exact nd_no | (refine nd_if ?_; split <;> first | exact nd_new (n := 1) (a := 1) | exact nd_no)
  | anewarray k => refine nd_if ?_; split <;> first | exact nd_no | exact nd_if (nd_new (n := 1) (a := 1))
  | new k => exact absurd rfl (hne.1 k)
  | invokestatic k => exact absurd rfl (hne.2.1 k)
  | invokespecial k => exact absurd rfl (hne.2.2.1 k)
  | invokevirtual k => exact absurd rfl (hne.2.2.2.1 k)
  | ireturn => exact absurd rfl hne.2.2.2.2.1
  | lreturn => exact absurd rfl hne.2.2.2.2.2.1
  | dreturn => exact absurd rfl hne.2.2.2.2.2.2.1
  | return_ => exact absurd rfl hne.2.2.2.2.2.2.2
  | _ => exact nd_no
/-- an end by a return -/
def retI (y : Nat) (i : Instr) (v : Option AV) : Prop := match v with
  | none => i = .return_ ∧ mR y = none
  | some (.inl x) => i = .ireturn ∧ (mR y = some .int ∨ (mR y = some .boolean ∧ (x = 0 ∨ x = 1)))
  | some (.inr (.inr (.inl _))) => i = .lreturn ∧ mR y = some .long
  | some (.inr (.inr (.inr (.inl x)))) => i = .dreturn ∧ mR y = some .double ∧ nn64 x = true
  | _ => False
theorem istep_done {pc len : Nat} {i : Instr} {o : Out} {μ' : Mu} {f' : AH} (h9 : istep xs y pc len i L st μ f = some (.inr (.inl (o, (μ', f'))))) :
    (∃ v : Option AV, o = .inl v ∧ μ' = μ ∧ f' = f ∧ st = v.toList ∧ len = 1 ∧ retI y i v) ∨
    (∃ k E r, i = .new k ∧ len = 3 ∧ lk xTab y pc = some (E, r) ∧ o = .inr E ∧ st = [] ∧ 6 ≤ rF y ∧ 100 ≤ rL y ∧ μ' = (μ.1, (μ.2.1 + 1, μ.2.2 + 6)) ∧ f' = f) := by
  by_cases h1 : i = .ireturn
  · subst h1
    obtain ⟨e, h⟩ := ifs h9
    split at h
    · rename_i x
      split at h
      · rename_i hr; cases h; exact Or.inl ⟨some (vi x), rfl, rfl, rfl, rfl, e, rfl, Or.inl hr⟩
      · rename_i hr; obtain ⟨hx, h⟩ := ifs h; cases h; exact Or.inl ⟨some (vi x), rfl, rfl, rfl, rfl, e, rfl, Or.inr ⟨hr, hx⟩⟩
      · cases h
    · cases h
  by_cases h2 : i = .lreturn
  · subst h2
    obtain ⟨e, h⟩ := ifs h9
    split at h
    · rename_i x
      obtain ⟨hr, h⟩ := ifs h
      cases h
      exact Or.inl ⟨some (vl x), rfl, rfl, rfl, rfl, e, rfl, hr⟩
    · cases h
  by_cases h3 : i = .dreturn
  · subst h3
    obtain ⟨e, h⟩ := ifs h9
    split at h
    · rename_i x
      obtain ⟨hr, h⟩ := ifs h
      cases h
      exact Or.inl ⟨some (vd x), rfl, rfl, rfl, rfl, e, rfl, hr.1, hr.2⟩
    · cases h
  by_cases h4 : i = .return_
  · subst h4
    obtain ⟨e, h⟩ := ifs h9
    split at h
    · obtain ⟨hr, h⟩ := ifs h
      cases h
      exact Or.inl ⟨none, rfl, rfl, rfl, rfl, e, rfl, hr⟩
    · cases h
  by_cases h5 : ∃ k, i = .new k
  · obtain ⟨k, rfl⟩ := h5
    obtain ⟨e, h⟩ := ifs h9
    split at h
    · rename_i E r hx
      obtain ⟨hr, h⟩ := ifs h
      cases h
      exact Or.inr ⟨k, E, r, rfl, e, hx, rfl, hr.1, hr.2.1, hr.2.2, rfl, rfl⟩
    · split at h
      · cases h
      · cases h
  by_cases h6 : ∃ k, i = .invokestatic k
  · obtain ⟨k, rfl⟩ := h6
    obtain ⟨e, h⟩ := ifs h9
    split at h
    · unfold callA at h
      split at h
      · obtain ⟨-, h⟩ := ifs h; cases h
      · cases h
    · split at h
      · obtain ⟨-, h⟩ := ifs h; cases h
      · obtain ⟨-, h⟩ := ifs h
        obtain ⟨f2, -, h⟩ := oh_inv h
        cases h
      · cases h
  by_cases h7 : ∃ k, i = .invokespecial k
  · obtain ⟨k, rfl⟩ := h7
    obtain ⟨e, h⟩ := ifs h9
    split at h
    · split at h
      · obtain ⟨-, h⟩ := ifs h; cases h
      · cases h
    · split at h
      · obtain ⟨-, h⟩ := ifs h; cases h
      · cases h
  by_cases h8 : ∃ k, i = .invokevirtual k
  · obtain ⟨k, rfl⟩ := h8
    obtain ⟨e, h⟩ := ifs h9
    split at h
    · split at h
      · obtain ⟨-, h⟩ := ifs h; cases h
      · cases h
    · cases h
  have hn := istep_nd (xs := xs) (y := y) (L := L) (st := st) (μ := μ) (f := f) pc len i ⟨fun k z => h5 ⟨k, z⟩, fun k z => h6 ⟨k, z⟩, fun k z => h7 ⟨k, z⟩, fun k z => h8 ⟨k, z⟩, h1, h2, h3, h4⟩
  rw [h9] at hn
  exact hn.elim
theorem takeArgs_inv {n : Nat} {st as r : List AV} (h : takeArgs n st = some (as, r)) : st = as.reverse ++ r ∧ as.length = n := by
  unfold takeArgs at h
  obtain ⟨hn, h⟩ := ifs h
  cases h
  exact ⟨by rw [List.reverse_reverse, List.take_append_drop], by rw [List.length_reverse, List.length_take]; omega⟩
theorem callA_inv {y' n pc y1 pc1 : Nat} {as L1 r : List AV} (h : callA y y' n pc L st = some (.inr (.inr (y1, (as, (pc1, (L1, r))))))) : y1 = y' ∧ pc1 = pc ∧ L1 = L ∧ st = as.reverse ++ r ∧ as.length = n ∧ okArg y' as = true ∧ okRank y y' = true ∧ r.length ≤ 4 := by
  unfold callA at h
  split at h
  · rename_i as2 r2 ht
    obtain ⟨hc, h⟩ := ifs h
    cases h
    obtain ⟨e1, e2⟩ := takeArgs_inv ht
    exact ⟨rfl, rfl, rfl, e1, e2, hc⟩
  · cases h
theorem istep_call {pc len : Nat} {i : Instr} {y' pc1 : Nat} {as L1 r : List AV} (h9 : istep xs y pc len i L st μ f = some (.inr (.inr (y', (as, (pc1, (L1, r))))))) :
    len = 3 ∧ pc1 = pc + 3 ∧ L1 = L ∧ st = as.reverse ++ r ∧ okArg y' as = true ∧ okRank y y' = true ∧ r.length ≤ 4 ∧
    ((∃ k q a bs, i = .invokevirtual k ∧ lk vTab (mO y) k = some (y', q) ∧ as = vr a :: bs ∧ bs.length = mA y' ∧ isO f a (mO y') = true) ∨
     (∃ k q, i = .invokestatic k ∧ lk sTab (mO y) k = some (y', q) ∧ as.length = mA y') ∨
     (∃ k q a bs, i = .invokespecial k ∧ lk pTab (mO y) k = some (y', q) ∧ as = vr a :: bs ∧ bs.length = mA y' ∧ isO f a (mO y') = true)) := by
  by_cases h6 : ∃ k, i = .invokestatic k
  · obtain ⟨k, rfl⟩ := h6
    obtain ⟨e, h⟩ := ifs h9
    split at h
    · rename_i y2 q hk
      obtain ⟨rfl, rfl, rfl, e1, e2, e3, e4, e5⟩ := callA_inv h
      exact ⟨e, rfl, rfl, e1, e3, e4, e5, Or.inr (Or.inl ⟨k, q, rfl, hk, e2⟩)⟩
    · split at h
      · obtain ⟨-, h⟩ := ifs h; cases h
      · obtain ⟨-, h⟩ := ifs h
        obtain ⟨f2, -, h⟩ := oh_inv h
        cases h
      · cases h
  by_cases h7 : ∃ k, i = .invokespecial k
  · obtain ⟨k, rfl⟩ := h7
    obtain ⟨e, h⟩ := ifs h9
    split at h
    · rename_i y2 q hk
      split at h
      · rename_i y3 a as3 q3 hc
        obtain ⟨pc3, L3, r3⟩ := q3
        obtain ⟨ho, h⟩ := ifs h
        obtain ⟨rfl, rfl, rfl, e1, e2, e3, e4, e5⟩ := callA_inv hc
        cases h
        exact ⟨e, rfl, rfl, e1, e3, e4, e5, Or.inr (Or.inr ⟨k, q, a, as3, rfl, hk, rfl, by simpa using e2, ho.1⟩)⟩
      · cases h
    · split at h
      · obtain ⟨-, h⟩ := ifs h; cases h
      · cases h
  by_cases h8 : ∃ k, i = .invokevirtual k
  · obtain ⟨k, rfl⟩ := h8
    obtain ⟨e, h⟩ := ifs h9
    split at h
    · rename_i y2 q hk
      split at h
      · rename_i y3 a as3 q3 hc
        obtain ⟨pc3, L3, r3⟩ := q3
        obtain ⟨ho, h⟩ := ifs h
        obtain ⟨rfl, rfl, rfl, e1, e2, e3, e4, e5⟩ := callA_inv hc
        cases h
        exact ⟨e, rfl, rfl, e1, e3, e4, e5, Or.inl ⟨k, q, a, as3, rfl, hk, rfl, by simpa using e2, ho.1⟩⟩
      · cases h
    · cases h
  by_cases h5 : ∃ k, i = .new k
  · obtain ⟨k, rfl⟩ := h5
    obtain ⟨e, h⟩ := ifs h9
    split at h
    · obtain ⟨hr, h⟩ := ifs h
      cases h
    · split at h
      · cases h
      · cases h
  by_cases h1 : i = .ireturn
  · subst h1
    obtain ⟨e, h⟩ := ifs h9
    split at h
    · split at h
      · cases h
      · obtain ⟨hx, h⟩ := ifs h; cases h
      · cases h
    · cases h
  by_cases h2 : i = .lreturn
  · subst h2
    obtain ⟨e, h⟩ := ifs h9
    split at h
    · obtain ⟨hr, h⟩ := ifs h; cases h
    · cases h
  by_cases h3 : i = .dreturn
  · subst h3
    obtain ⟨e, h⟩ := ifs h9
    split at h
    · obtain ⟨hr, h⟩ := ifs h; cases h
    · cases h
  by_cases h4 : i = .return_
  · subst h4
    obtain ⟨e, h⟩ := ifs h9
    split at h
    · obtain ⟨hr, h⟩ := ifs h; cases h
    · cases h
  have hn := istep_nd (xs := xs) (y := y) (L := L) (st := st) (μ := μ) (f := f) pc len i ⟨fun k z => h5 ⟨k, z⟩, fun k z => h6 ⟨k, z⟩, fun k z => h7 ⟨k, z⟩, fun k z => h8 ⟨k, z⟩, h1, h2, h3, h4⟩
  rw [h9] at hn
  exact hn.elim
end AL
