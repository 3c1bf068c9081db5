/-! THE CLAIM OUT OF ONE WALK OF THE LAW'S BODY. Your part is whole_start (and what it stands on); all else here is the same for every law, but numbers. -/
def R_law : String := "PlannedPagesLaw"
def lw_P (b : Addr) (xs : List Int32) (args : Array Value) (s : State) : Prop := args = #[.ref b] ∧ s.IntsAt b xs ∧ xs.length ≤ 260 ∧ (Jvm.Cond.and given_1 narrow_1).before args s = true
/-- what a walk over the start with the record d0 says of its end, said of the start itself -/
theorem lw_closed {s t : State} {o : Outcome} {d0 : Drawn} {L : List Loc} {k n : Nat} (hd0 : s.drawn.sameBut d0 lw_cs) (hv : ∃ v, o = .returned v) (hW : (s.setDrawn d0).WarmedH t.vm) (hs : (s.setDrawn d0).sameButNew ({ t with vm := s.vm } : State) L k n) : State.butDraws s t lw_cs (fun t1 => Framed s o t1 L k n) := by
  have h2 : t.drawn = d0 := congrArg State.drawn hs.1
  refine ⟨⟨hv, hW, State.sameButNew.setDrawn hs s.drawn⟩, ?_, by decide⟩
  rw [h2]
  exact hd0
def lw_Q (_ : Array Value) (s : State) (o : Outcome) (t : State) : Prop := o = .returned (some (.int 1)) ∧ State.butDraws s t lw_cs (fun t1 => Framed s o t1 [] 600130 7301080)
def lw_Z (below : List Frame) (a : Array Value) (s : State) : State → Prop := fun t => ∃ o, t.status = .running ∧ Ended t below o ∧ lw_Q a s o t
/-- the law's own end, with 1 on the stack, nothing written that was there before, its room as the claim has it; d0: the record of draws at this point (at the entry s.drawn: begin with 'refine W.base ?_' and 'have hd0 := Drawn.sameBut.refl s.drawn lw_cs') -/
theorem lw_ret {p : Program} {l : Launch} {e : Env} {s : State} {m : MethodId} {below : List Frame} {meth : Method} {c : Code} {b : Nat} {d0 : Drawn} (hd0 : s.drawn.sameBut d0 lw_cs) (hx : p.tables.exec = Jvm.exec) (hb : c.code = code) (hr : meth.sig.returnType = ret) (hlocks : meth.locks = false) {pc : Nat} {H : Heap} {ls : Array Slot} (hdg : decode code pc = .ok (.ireturn, 1)) : W p l e room_1 (s.setDrawn d0) m #[Value.ref b] below meth c H [] 600130 7301080 (lw_Z below #[Value.ref b] s) (F0 m pc ls [.int 1]) := by
  intro T hT X
  obtain ⟨fs, hret, hrun, hended, hW, hframe⟩ := X.leave (v := some (.int 1)) (hlocks := hlocks) (fun h => by rw [hr] at h; cases h)
  have hmeth' : T.vm.method? m = some meth := X.method'
  refine ⟨T.setFrames fs, ?_, .returned (some (.int 1)), hrun, hended, rfl, lw_closed hd0 ⟨_, rfl⟩ hW hframe⟩
  jvm_step X.here [X.here.top, hx, hb, hdg, hmeth', hr, ret, narrow_b1]
  (try refine ⟨rfl, ?_⟩); (try refine ⟨rfl, ?_⟩)
  first | (intro acts; rw [hret _ acts rfl rfl rfl]) | rw [hret _ _ rfl rfl rfl]
  exact Steps.refl _
/-- what holds at the law's entry: the machine, the code, the tables' words (any of lw_tbl by 'hts w (by decide +kernel)'), the script of L ints xs at the cell b, what the Statement gives of the start (any of its parts by flat_of_before) -/
def lw_At (p : Program) (s : State) (m : MethodId) (meth : Method) (c : Code) (b L : Nat) (xs : Nat → Int32) : Prop :=
  p.tables.exec = Jvm.exec ∧ c.code = code ∧ meth.sig.returnType = ret ∧ c.maxLocals = 15 ∧ s.vm.findClass R_law = some m.cls ∧ (∀ w ∈ lw_tbl, w.before #[Value.ref b] s = true) ∧ va_X b L xs s s.heap ∧ b < s.heap.size ∧ meth.locks = false ∧ (Jvm.Cond.and given_1 narrow_1).before #[Value.ref b] s = true
/-! THE LAW'S WALK OUT OF A RUN OF THE ABSTRACT MACHINE -/
theorem st_str : ∀ k ∈ List.range 21, Cond.stringRef RX3 (txtI k) (txt k) ∈ lw_tbl := by decide +kernel
theorem st_exa : ∀ k ∈ List.range 21, Cond.exactly (.string RX3 (txtI k)) "java/lang/String" ∈ flatC (Jvm.Cond.and given_1 narrow_1) := by decide +kernel
theorem st_cas : Cond.castable (eN 0) (eN 0) ∈ lw_tbl ∧ Cond.castable (eN 1) (eN 1) ∈ lw_tbl ∧ Cond.castable (eN 2) (eN 2) ∈ lw_tbl := by decide +kernel
theorem st_dec : ∀ n ∈ NMd, Cond.declares (Bundle.initS n) ∈ lw_tbl := by decide +kernel
theorem st_ref : Cond.isRef (.static Bundle.tN "UNASSIGNED_STACK" Bundle.steD) ∈ flatC (Jvm.Cond.and given_1 narrow_1) ∧ Cond.isRef (.static Bundle.tN "SUPPRESSED_SENTINEL" Bundle.listD) ∈ flatC (Jvm.Cond.and given_1 narrow_1) := by decide +kernel
theorem st_lay : Cond.laysStatic Bundle.tN "UNASSIGNED_STACK" Bundle.steD ∈ lw_tbl ∧ Cond.laysStatic Bundle.tN "SUPPRESSED_SENTINEL" Bundle.listD ∈ lw_tbl ∧ Cond.initialized Bundle.tN ∈ lw_tbl := by decide +kernel
theorem st_arr : Cond.arrayOver (.object RX1) ∈ lw_tbl ∧ Cond.methodLinkNest RX3 9 yX1_init RX3 ∈ lw_tbl ∧ Cond.methodLinkNest RX3 29 yX2_init RX3 ∈ lw_tbl ∧ Cond.arrayClass .int ∈ lw_tbl := by decide +kernel
theorem st_ins : Cond.instantiable (cN 0) (cF 0) ∈ lw_tbl ∧ Cond.instantiable (cN 1) (cF 1) ∈ lw_tbl ∧ Cond.instantiable (cN 2) (cF 2) ∈ lw_tbl ∧ Cond.instantiable (cN 3) (cF 3) ∈ lw_tbl ∧ Cond.instantiable (cN 4) (cF 4) ∈ lw_tbl := by decide +kernel
theorem gd_sub {w : Cond} (h : w ∈ lw_gd) : w ∈ lw_tbl := (List.mem_filter.mp h).1
theorem eN_ge {E : Nat} (h : 2 ≤ E) : eN E = eN 2 := by
  match E, h with
  | 2, _ => rfl
  | n + 3, _ => rfl
theorem arr_known {s : State} {args : Array Value} {t : FieldType} (h : (Cond.arrayClass t).before args s = true) (ht : ∀ C, t ≠ .object C) : ∃ cA : ClassId, ArrOfT s cA t ∧ va_RA s cA t := by
  obtain ⟨c, k, comp, h1, h2, h3⟩ := Cond.arrayClass_spec h
  refine ⟨c, fun n z => ⟨fun k h => (by cases h), k, h2, comp, h3⟩, ?_⟩
  cases t with
  | object C => exact absurd rfl (ht C)
  | _ => exact h1
theorem arrO_known {s : State} {args : Array Value} {C : String} (h : (Cond.arrayOver (.object C)).before args s = true) : ∃ cA : ClassId, ArrOfT s cA (.object C) ∧ va_RA s cA (.object C) := by
  obtain ⟨comp, c, k, h1, h2, h3, h4, h5⟩ := Cond.arrayOver_spec h
  exact ⟨c, fun n z => ⟨fun k h => (by cases h), k, h3, comp, h4⟩, k, comp, h3, h4, h1, h5⟩
def LawRuns (xs : List Int) : Prop := ∃ (k : Nat) (μ' : Mu) (f' : AH), exec xs k 0 0 (ini 0 [vr 0]) [] (0, (0, 0)) (fun _ => none) = some (.inl (some (vi 1)), (μ', f')) ∧ μ'.2.1 ≤ 600130 ∧ μ'.2.2 ≤ 7301080
set_option maxHeartbeats 4000000 in
theorem start_of (hrun : ∀ xs : List Int, (∀ x ∈ xs, -2147483648 ≤ x ∧ x < 2147483648) → xs.length ≤ 260 → LawRuns xs) {p : Program} {e : Env} {s : State} {m : MethodId} {below : List Frame} {meth : Method} {c : Code} (l : Launch) (hflags : l.flags = flags0) {b L : Nat} {xs : Nat → Int32} (hL : L ≤ 260) (C0 : lw_At p s m meth c b L xs) : W p l e room_1 s m #[Value.ref b] below meth c s.heap [] 0 0 (lw_Z below #[Value.ref b] s) (entryFrame m ([Value.ref b] : List Value).toArray 15) := by
  obtain ⟨hx, hb, hr, hml, hown, hts, hX, hbl, hlocks, hgv⟩ := id C0
  have hs := flat_of_before _ hgv
  have hst : l.stackTraces = false := by unfold Launch.stackTraces; rw [hflags]; decide +kernel
  -- the tables
  obtain ⟨cI, i1, i2⟩ := arr_known (hts _ st_arr.2.2.2) (fun C => by simp)
  obtain ⟨cR, r1, r2⟩ := arrO_known (hts _ st_arr.1)
  obtain ⟨c0, iS0, k0⟩ := u_known (C := cN 0) (T := cT 0) (N := cF 0) hts (fun w hw => gd_sub (cW_in (by omega) w hw)) (hts _ st_ins.1)
  obtain ⟨c1, iS1, k1⟩ := u_known (C := cN 1) (T := cT 1) (N := cF 1) hts (fun w hw => gd_sub (cW_in (by omega) w hw)) (hts _ st_ins.2.1)
  obtain ⟨c2, iS2, k2⟩ := u_known (C := cN 2) (T := cT 2) (N := cF 2) hts (fun w hw => gd_sub (cW_in (by omega) w hw)) (hts _ st_ins.2.2.1)
  obtain ⟨c3, iS3, k3⟩ := u_known (C := cN 3) (T := cT 3) (N := cF 3) hts (fun w hw => gd_sub (cW_in (by omega) w hw)) (hts _ st_ins.2.2.2.1)
  obtain ⟨c4, iS4, k4⟩ := u_known (C := cN 4) (T := cT 4) (N := cF 4) hts (fun w hw => gd_sub (cW_in (by omega) w hw)) (hts _ st_ins.2.2.2.2)
  obtain ⟨D, hD⟩ : ∃ D : va_G, ∀ (k : Nat) (q : vw_C), vwCl[k]? = some q → u_Kn s q.1 q.2.1 q.2.2 (D.1 k) (D.2 k) := by
    refine ⟨(fun k => if k = 0 then c0 else if k = 1 then c1 else if k = 2 then c2 else if k = 3 then c3 else c4, fun k => if k = 0 then iS0 else if k = 1 then iS1 else if k = 2 then iS2 else if k = 3 then iS3 else iS4), ?_⟩
    intro k q hq
    match k, hq with
    | 0, hq => cases hq; exact k0
    | 1, hq => cases hq; exact k1
    | 2, hq => cases hq; exact k2
    | 3, hq => cases hq; exact k3
    | 4, hq => cases hq; exact k4
    | k + 5, hq => simp [vwCl] at hq
  have hK : va_K D vwCl [(cI, .int), (cR, .object RX1)] s := ⟨hD, fun k q h => by
    match k, h with
    | 0, h => cases h; exact ⟨i1, i2⟩
    | 1, h => cases h; exact ⟨r1, r2⟩
    | k + 2, h => simp at h⟩
  obtain ⟨sa, hsa⟩ : ∃ sa : Nat → Nat, ∀ k, k < 21 → vk_R RX3 (txtI k) (txt k) (sa k) s := by
    have h1 : ∀ k, ∃ a : Nat, k < 21 → vk_R RX3 (txtI k) (txt k) a s := by
      intro k
      by_cases hk : k < 21
      · obtain ⟨a, c, cA, kA, q1, -⟩ := Cond.exactly_spec (hs _ (st_exa k (List.mem_range.mpr hk)))
        refine ⟨a, fun _ => vk_R.of (A := #[Value.ref b]) (hts _ (st_str k (List.mem_range.mpr hk))) q1⟩
      · exact ⟨0, fun h => absurd h hk⟩
    exact ⟨fun k => (h1 k).choose, fun k hk => (h1 k).choose_spec hk⟩
  have hNA : ∀ a : Nat, a < s.heap.size → ¬ (fun q : Nat => s.heap.size ≤ q) a := fun a ha => Nat.not_le.mpr ha
  have hG : GW s (fun q : Nat => s.heap.size ≤ q) sa := by
    refine ⟨⟨vx_Zqof (hts _ st_lay.1) (hts _ st_lay.2.2) (hs _ st_ref.1) hNA, vx_Zqof (hts _ st_lay.2.1) (hts _ st_lay.2.2) (hs _ st_ref.2) hNA⟩, hsa, ⟨fun E => ?_, fun n hn => va_Nw.of rfl (hts _ (st_dec n hn))⟩, trivial, va_AO.of (hts _ st_arr.1), va_Nw.of rfl (hts _ st_arr.2.1), va_Nw.of rfl (hts _ st_arr.2.2.1)⟩
    by_cases h2 : 2 ≤ E
    · rw [eN_ge h2]; exact va_Nw.of rfl (hts _ st_cas.2.2)
    · match E, h2 with
      | 0, _ => exact va_Nw.of rfl (hts _ st_cas.1)
      | 1, _ => exact va_Nw.of rfl (hts _ st_cas.2.1)
      | n + 2, h2 => exact absurd (Nat.le_add_left 2 n) h2
  -- the run
  generalize hxl : (List.range L).map (fun j => (xs j).toInt) = xl
  have hlen : xl.length = L := by rw [← hxl]; simp
  have hrg : ∀ x ∈ xl, -2147483648 ≤ x ∧ x < 2147483648 := fun x hx => by
    rw [← hxl] at hx
    obtain ⟨j, -, rfl⟩ := List.mem_map.mp hx
    exact ⟨i32_lo _, i32_hi _⟩
  obtain ⟨k, μ', f', hk, hc1, hc2⟩ := hrun xl hrg (by omega)
  have X : CX p s m #[Value.ref b] meth c 0 (cI, (cR, cI)) D (fun q : Nat => s.heap.size ≤ q) sa := ⟨hx, hb, hml, hown, fun w hw => hts w (gd_sub hw), hK, fun _ h => h, hlocks, hG, fun h => absurd h (by decide +kernel), hr⟩
  have hH : RH (cI, (cR, cI)) D (fun q : Nat => s.heap.size ≤ q) s (fun _ => b) (fun _ => none) 0 s.heap [] :=
    ⟨fun k q h => by simp [wld] at h, ⟨fun i j p q h => by simp [wld] at h, fun k q h => by simp [wld] at h⟩, va_S.rf, ⟨(fun a c h => nomatch h), fun a h1 h2 => by omega⟩⟩
  have hSX : SX xl 0 s (fun q : Nat => s.heap.size ≤ q) (fun _ => b) := by
    obtain ⟨scr, h1, h2, h3, h4, h5⟩ := hX
    refine ⟨⟨scr, h1, h2, h3, by rw [hlen]; exact h4, fun j hj => ?_⟩, hbl, Nat.not_le.mpr hbl, hrg, by omega⟩
    rw [hlen] at hj
    rw [h5 j hj, ← hxl]
    show _ = some (Value.int (i32 (((List.range L).map (fun j => (xs j).toInt)).getD j 0)))
    rw [List.getD_eq_getElem?_getD, List.getElem?_map, List.getElem?_range hj]
    show _ = some (Value.int (i32 (xs j).toInt))
    rw [i32_of]
  have hlv := lv_entry ([.ref b]) (n := 15) (Nat.le_of_ble_eq_true rfl)
  rw [lg_entry_eq]
  generalize (lg_sl ([.ref b]) ++ List.replicate (15 - (lg_sl ([.ref b])).length) Slot.unset).toArray = ls at hlv ⊢
  have hLR : LR (fun _ => b) 0 (mL 0) (ini 0 [vr 0]) ls := LR_entry (y := 0) (φ := fun _ => b) rfl (fun v hv => by
    rcases List.mem_cons.mp hv with rfl | hv
    · exact ⟨Nat.le_refl _, rfl⟩
    · cases hv) hlv
  refine walk_all hst xl k p e room_1 s m #[Value.ref b] below meth c _ 0 (cI, (cR, cI)) D _ sa X (fun h => absurd h (by decide +kernel)) (by decide +kernel) (by decide +kernel) 0 (ini 0 [vr 0]) [] (0, (0, 0)) (fun _ => none) (fun _ => b) ls s.heap [] 0 0 _ μ' f' (μ'.2.1) (μ'.2.2) hSX hLR (fun v hv => absurd hv List.not_mem_nil) hH hk (by show _ = 0 + (μ'.2.1 - 0); omega) (by show _ = 0 + (μ'.2.2 - 0); omega) hc1 hc2 ?_ ?_ ?_
  · intro pc2 i v ψ ls2 H2 locs2 ho he hR2 hok hd hret
    cases ho
    obtain ⟨rfl, -⟩ := hret
    refine va_forget (fun q hq => hR2.2.2.1.2.2 q hq) ?_
    refine W.widen (k := 600130) (n := 7301080) hc1 hc2 ?_
    exact lw_ret (d0 := s.drawn) (Drawn.sameBut.refl s.drawn lw_cs) hx hb hr hlocks hd
  · intro pc2 E r ψ ls2 H2 locs2 c2 s2 ho; cases ho
  · intro pc2 E q ce ψ ls2 rest H2 locs2 ho; cases ho
