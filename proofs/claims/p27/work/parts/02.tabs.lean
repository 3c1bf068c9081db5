def lw_gd : List Cond := lw_tbl.filter goodWord
def inG (p : Nat) (w : Cond) : Bool := decide (lw_tbl[p]? = some w) && goodWord w
theorem inG_mem {p : Nat} {w : Cond} (h : inG p w = true) : w ∈ lw_gd := by
  simp only [inG, Bool.and_eq_true, decide_eq_true_eq] at h
  exact List.mem_filter.mpr ⟨List.mem_of_getElem? h.1, h.2⟩
def lk {β : Type} : List (Nat × (Nat × β)) → Nat → Nat → Option β
  | [], _, _ => none
  | q :: r, a, b => if (Nat.beq q.1 a && Nat.beq q.2.1 b) = true then some q.2.2 else lk r a b
theorem lk_mem {β : Type} {a b : Nat} {c : β} : ∀ {l : List (Nat × (Nat × β))}, lk l a b = some c → (a, (b, c)) ∈ l
  | [], h => by cases h
  | q :: r, h => by
    unfold lk at h
    split at h
    · rename_i hq
      simp only [Bool.and_eq_true] at hq
      have h1 := Nat.eq_of_beq_eq_true hq.1
      have h2 := Nat.eq_of_beq_eq_true hq.2
      cases h
      obtain ⟨q1, q2, q3⟩ := q
      simp only at h1 h2
      subst h1; subst h2
      exact List.mem_cons_self
    · exact List.mem_cons_of_mem _ (lk_mem h)
-- methods: name, bytes, locals, return type, handlers, class, place of the code word
abbrev MT : Type := MethodName × (ByteArray × (Nat × (Option FieldType × (List (Nat × Nat × Nat × Nat) × (Nat × (Nat × Nat))))))
def mTab : List MT := [
  (yL_law, (cL_law, (15, ((some .boolean : Option FieldType), (([] : List (Nat × Nat × Nat × Nat)), (5, (0, 1))))))),
  (yX0_init, (cX0_init, (4, ((none : Option FieldType), (([] : List (Nat × Nat × Nat × Nat)), (0, (38, 2))))))),
  (yX0_copyFrom, (cX0_copyFrom, (2, ((none : Option FieldType), (([] : List (Nat × Nat × Nat × Nat)), (0, (270, 1))))))),
  (yX0_sum, (cX0_sum, (3, ((some .int : Option FieldType), (([] : List (Nat × Nat × Nat × Nat)), (0, (359, 0))))))),
  (yX0_get, (cX0_get, (2, ((some .int : Option FieldType), (([] : List (Nat × Nat × Nat × Nat)), (0, (158, 1))))))),
  (yX0_set, (cX0_set, (3, ((none : Option FieldType), (([] : List (Nat × Nat × Nat × Nat)), (0, (294, 2))))))),
  (yX0_firstOf, (cX0_firstOf, (5, ((some .int : Option FieldType), (([] : List (Nat × Nat × Nat × Nat)), (0, (376, 3))))))),
  (yX0_countOf, (cX0_countOf, (6, ((some .int : Option FieldType), (([] : List (Nat × Nat × Nat × Nat)), (0, (431, 3))))))),
  (yX0_close, (cX0_close, (3, ((none : Option FieldType), (([] : List (Nat × Nat × Nat × Nat)), (0, (341, 1))))))),
  (yX0_open, (cX0_open, (4, ((none : Option FieldType), (([] : List (Nat × Nat × Nat × Nat)), (0, (290, 2))))))),
  (yX0_swap, (cX0_swap, (4, ((none : Option FieldType), (([] : List (Nat × Nat × Nat × Nat)), (0, (349, 2))))))),
  (yX1_init, (cX1_init, (1, ((none : Option FieldType), (([] : List (Nat × Nat × Nat × Nat)), (1, (32, 0))))))),
  (yX1_copyFrom, (cX1_copyFrom, (2, ((none : Option FieldType), (([] : List (Nat × Nat × Nat × Nat)), (1, (266, 1))))))),
  (yX1_writeBack, (cX1_writeBack, (2, ((none : Option FieldType), (([] : List (Nat × Nat × Nat × Nat)), (1, (392, 1))))))),
  (yX1_asksToCome, (cX1_asksToCome, (1, ((some .int : Option FieldType), (([] : List (Nat × Nat × Nat × Nat)), (1, (323, 0))))))),
  (yX1_lowestEmptyFrame, (cX1_lowestEmptyFrame, (2, ((some .int : Option FieldType), (([] : List (Nat × Nat × Nat × Nat)), (1, (368, 0))))))),
  (yX1_pageIn, (cX1_pageIn, (2, ((some .int : Option FieldType), (([] : List (Nat × Nat × Nat × Nat)), (1, (372, 1))))))),
  (yX1_victimBy, (cX1_victimBy, (7, ((some .int : Option FieldType), (([] : List (Nat × Nat × Nat × Nat)), (1, (380, 2))))))),
  (yX1_nextUse, (cX1_nextUse, (4, ((some .int : Option FieldType), (([] : List (Nat × Nat × Nat × Nat)), (1, (384, 2))))))),
  (yX1_doNext, (cX1_doNext, (6, ((none : Option FieldType), (([] : List (Nat × Nat × Nat × Nat)), (1, (363, 1))))))),
  (yX1_takeOut, (cX1_takeOut, (2, ((none : Option FieldType), (([] : List (Nat × Nat × Nat × Nat)), (1, (388, 1))))))),
  (yX1_readInto, (cX1_readInto, (3, ((none : Option FieldType), (([] : List (Nat × Nat × Nat × Nat)), (1, (397, 2))))))),
  (yX1_markDone, (cX1_markDone, (4, ((none : Option FieldType), (([] : List (Nat × Nat × Nat × Nat)), (1, (401, 3))))))),
  (yX1_canPinMore, (cX1_canPinMore, (1, ((some .boolean : Option FieldType), (([] : List (Nat × Nat × Nat × Nat)), (1, (409, 0))))))),
  (yX1_pinnedPages, (cX1_pinnedPages, (1, ((some .int : Option FieldType), (([] : List (Nat × Nat × Nat × Nat)), (1, (413, 0))))))),
  (yX1_hits, (cX1_hits, (1, ((some .int : Option FieldType), (([] : List (Nat × Nat × Nat × Nat)), (1, (456, 0))))))),
  (yX1_pagesInFrames, (cX1_pagesInFrames, (1, ((some .int : Option FieldType), (([] : List (Nat × Nat × Nat × Nat)), (1, (427, 0))))))),
  (yX1_firstRead, (cX1_firstRead, (3, ((some .int : Option FieldType), (([] : List (Nat × Nat × Nat × Nat)), (1, (533, 1))))))),
  (yX1_takeAsk, (cX1_takeAsk, (2, ((none : Option FieldType), (([] : List (Nat × Nat × Nat × Nat)), (1, (337, 1))))))),
  (yX1_putAsk, (cX1_putAsk, (4, ((none : Option FieldType), (([] : List (Nat × Nat × Nat × Nat)), (1, (286, 3))))))),
  (yX1_moveDown, (cX1_moveDown, (4, ((none : Option FieldType), (([] : List (Nat × Nat × Nat × Nat)), (1, (437, 0))))))),
  (yX2_init, (cX2_init, (1, ((none : Option FieldType), (([] : List (Nat × Nat × Nat × Nat)), (2, (106, 0))))))),
  (yX2_firstWrong, (cX2_firstWrong, (4, ((some .int : Option FieldType), (([] : List (Nat × Nat × Nat × Nat)), (2, (146, 0))))))),
  (yX2_pageAt, (cX2_pageAt, (3, ((some .int : Option FieldType), (([] : List (Nat × Nat × Nat × Nat)), (2, (150, 1))))))),
  (yX2_codeAt, (cX2_codeAt, (2, ((some .int : Option FieldType), (([] : List (Nat × Nat × Nat × Nat)), (2, (154, 1))))))),
  (yX2_isDigit, (cX2_isDigit, (3, ((some .boolean : Option FieldType), (([] : List (Nat × Nat × Nat × Nat)), (2, (162, 1))))))),
  (yX2_tellsAsks, (cX2_tellsAsks, (1, ((some .boolean : Option FieldType), (([] : List (Nat × Nat × Nat × Nat)), (2, (142, 0))))))),
  (yX2_asksTold, (cX2_asksTold, (3, ((some .int : Option FieldType), (([] : List (Nat × Nat × Nat × Nat)), (2, (234, 0))))))),
  (yX2_timesAt, (cX2_timesAt, (2, ((some .int : Option FieldType), (([] : List (Nat × Nat × Nat × Nat)), (2, (238, 1))))))),
  (yX2_writesAt, (cX2_writesAt, (3, ((some .int : Option FieldType), (([] : List (Nat × Nat × Nat × Nat)), (2, (282, 1))))))),
  (yX3_init, (cX3_init, (2, ((none : Option FieldType), (([] : List (Nat × Nat × Nat × Nat)), (3, (24, 0))))))),
  (yX3_flush, (cX3_flush, (3, ((some .int : Option FieldType), (([] : List (Nat × Nat × Nat × Nat)), (3, (441, 0))))))),
  (yX3_save, (cX3_save, (2, ((none : Option FieldType), (([] : List (Nat × Nat × Nat × Nat)), (3, (258, 0))))))),
  (yX3_dropOldestSaved, (cX3_dropOldestSaved, (3, ((none : Option FieldType), (([] : List (Nat × Nat × Nat × Nat)), (3, (262, 0))))))),
  (yX3_clearBuffer, (cX3_clearBuffer, (2, ((some .int : Option FieldType), (([] : List (Nat × Nat × Nat × Nat)), (3, (473, 0))))))),
  (yX0_get, (cX0_get, (2, ((some .int : Option FieldType), (([] : List (Nat × Nat × Nat × Nat)), (0, (158, 1))))))),
  (yX3_victim, (cX3_victim, (1, ((some .int : Option FieldType), (([] : List (Nat × Nat × Nat × Nat)), (3, (515, 0))))))),
  (yX3_fewestReads, (cX3_fewestReads, (1, ((some .int : Option FieldType), (([] : List (Nat × Nat × Nat × Nat)), (3, (537, 0))))))),
  (yX3_finishTrial, (cX3_finishTrial, (3, ((some .int : Option FieldType), (([] : List (Nat × Nat × Nat × Nat)), (3, (529, 1))))))),
  (yX0_get, (cX0_get, (2, ((some .int : Option FieldType), (([] : List (Nat × Nat × Nat × Nat)), (0, (158, 1))))))),
  (yX3_hitShare, (cX3_hitShare, (1, ((some .double : Option FieldType), (([] : List (Nat × Nat × Nat × Nat)), (3, (511, 0))))))),
  (yX0_get, (cX0_get, (2, ((some .int : Option FieldType), (([] : List (Nat × Nat × Nat × Nat)), (0, (158, 1))))))),
  (yX3_count, (cX3_count, (2, ((some .int : Option FieldType), (([] : List (Nat × Nat × Nat × Nat)), (3, (452, 1))))))),
  (yX0_get, (cX0_get, (2, ((some .int : Option FieldType), (([] : List (Nat × Nat × Nat × Nat)), (0, (158, 1))))))),
  (yX3_ask, (cX3_ask, (3, ((some .int : Option FieldType), (([] : List (Nat × Nat × Nat × Nat)), (3, (446, 2))))))),
  (yX3_page, (cX3_page, (3, ((some .int : Option FieldType), (([] : List (Nat × Nat × Nat × Nat)), (3, (504, 2))))))),
  (yX3_checkPage, (cX3_checkPage, (1, ((none : Option FieldType), (([] : List (Nat × Nat × Nat × Nat)), (3, (317, 1))))))),
  (yX3_byRule, (cX3_byRule, (4, ((some .int : Option FieldType), (([] : List (Nat × Nat × Nat × Nat)), (3, (523, 2))))))),
  (yX0_get, (cX0_get, (2, ((some .int : Option FieldType), (([] : List (Nat × Nat × Nat × Nat)), (0, (158, 1))))))),
  (yX0_get, (cX0_get, (2, ((some .int : Option FieldType), (([] : List (Nat × Nat × Nat × Nat)), (0, (158, 1))))))),
  (yX3_checkToCome, (cX3_checkToCome, (2, ((none : Option FieldType), (([] : List (Nat × Nat × Nat × Nat)), (3, (331, 1))))))),
  (yX0_get, (cX0_get, (2, ((some .int : Option FieldType), (([] : List (Nat × Nat × Nat × Nat)), (0, (158, 1))))))),
  (yX3_extend, (cX3_extend, (3, ((some .int : Option FieldType), (([] : List (Nat × Nat × Nat × Nat)), (3, (138, 0))))))),
  (yX3_insert, (cX3_insert, (4, ((some .int : Option FieldType), (([] : List (Nat × Nat × Nat × Nat)), (3, (298, 3))))))),
  (yX3_drop, (cX3_drop, (3, ((some .int : Option FieldType), (([] : List (Nat × Nat × Nat × Nat)), (3, (327, 1))))))),
  (yX3_exchange, (cX3_exchange, (3, ((some .int : Option FieldType), (([] : List (Nat × Nat × Nat × Nat)), (3, (345, 2))))))),
  (yX3_go, (cX3_go, (4, ((some .int : Option FieldType), (([] : List (Nat × Nat × Nat × Nat)), (3, (354, 1))))))),
  (yX3_pin, (cX3_pin, (3, ((some .int : Option FieldType), (([] : List (Nat × Nat × Nat × Nat)), (3, (405, 1))))))),
  (yX3_frames, (cX3_frames, (3, ((some .int : Option FieldType), (([] : List (Nat × Nat × Nat × Nat)), (3, (421, 1))))))),
  (yX3_append, (cX3_append, (2, ((some .int : Option FieldType), (([] : List (Nat × Nat × Nat × Nat)), (3, (477, 1))))))),
  (yX0_get, (cX0_get, (2, ((some .int : Option FieldType), (([] : List (Nat × Nat × Nat × Nat)), (0, (158, 1))))))),
  (yX0_get, (cX0_get, (2, ((some .int : Option FieldType), (([] : List (Nat × Nat × Nat × Nat)), (0, (158, 1))))))),
  (yX3_frame, (cX3_frame, (2, ((some .int : Option FieldType), (([] : List (Nat × Nat × Nat × Nat)), (3, (498, 1))))))),
  (yL_cell, (cL_cell, (2, ((some .int : Option FieldType), (([] : List (Nat × Nat × Nat × Nat)), (5, (460, 2))))))),
  (yL_low, (cL_low, (2, ((some .int : Option FieldType), (([] : List (Nat × Nat × Nat × Nat)), (5, (465, 2))))))),
  (yL_type, (cL_type, (9, ((some .int : Option FieldType), (([] : List (Nat × Nat × Nat × Nat)), (5, (469, 4))))))),
  (yL_frame, (cL_frame, (5, ((some .int : Option FieldType), (([] : List (Nat × Nat × Nat × Nat)), (5, (485, 3))))))),
  (yL_use, (cL_use, (4, ((some .int : Option FieldType), (([] : List (Nat × Nat × Nat × Nat)), (5, (491, 3))))))),
  (yL_victim, (cL_victim, (11, ((some .int : Option FieldType), (([] : List (Nat × Nat × Nat × Nat)), (5, (488, 6))))))),
  (yL_done, (cL_done, (10, ((some .int : Option FieldType), (([] : List (Nat × Nat × Nat × Nat)), (5, (482, 5))))))),
  (yL_tells, (cL_tells, (15, ((some .boolean : Option FieldType), (([] : List (Nat × Nat × Nat × Nat)), (5, (494, 4))))))),
  (yL_rule, (cL_rule, (13, ((some .boolean : Option FieldType), (([] : List (Nat × Nat × Nat × Nat)), (5, (519, 5))))))),
  (yL_frames, (cL_frames, (10, ((some .int : Option FieldType), (([] : List (Nat × Nat × Nat × Nat)), (5, (540, 5)))))))]
def mAt (y : Nat) : MT := mTab.getD y (yL_law, (code, (15, (some .boolean, ([], (5, (0, 1)))))))
def mN (y : Nat) : MethodName := (mAt y).1
def mB (y : Nat) : ByteArray := (mAt y).2.1
def mL (y : Nat) : Nat := (mAt y).2.2.1
def mR (y : Nat) : Option FieldType := (mAt y).2.2.2.1
def mH (y : Nat) : List (Nat × Nat × Nat × Nat) := (mAt y).2.2.2.2.1
def mO (y : Nat) : Nat := (mAt y).2.2.2.2.2.1
def mA (y : Nat) : Nat := (mAt y).2.2.2.2.2.2.2
def mCode (y : Nat) : Cond := if (mH y).isEmpty then .code (mN y) (mB y) (mL y) (mR y) else .codeWith (mN y) (mB y) (mL y) (mR y) (mH y)
def cN (o : Nat) : String := match o with
  | 0 => RX0
  | 1 => RX1
  | 2 => RX2
  | 3 => RX3
  | 4 => RX3
  | _ => RL
def cT (o : Nat) : u_T := match o with
  | 0 => TX0
  | 1 => TX1
  | 2 => TX2
  | _ => TX3
def cY (o : Nat) : Nat → FieldType := match o with
  | 0 => tyX0
  | 1 => tyX1
  | 2 => tyX2
  | _ => tyX3
def cF (o : Nat) : Nat := match o with
  | 0 => 1
  | 1 => 14
  | 2 => 2
  | 3 => 5
  | _ => 5
def mW (y : Nat) : List Cond := mCode y :: lw_gd
def mChk (y : Nat) : Bool := (plainName (mN y).cls && ((mN y).cls == cN (mO y) && (decide ((mN y).cls ≠ "java/lang/invoke/MethodHandle" ∧ (mN y).cls ≠ "java/lang/invoke/VarHandle") && decide ((parseMethodDescriptor (mN y).desc).map (fun d => d.parameters.length) = some (mA y)))))
set_option maxRecDepth 100000 in
theorem mChk_all : (List.range 82).all (fun y => mChk (y + 1)) = true := by decide +kernel
set_option maxRecDepth 100000 in
theorem mC_1 : lw_tbl[38]? = some (.code yX0_init cX0_init 4 (none)) := rfl
set_option maxRecDepth 100000 in
theorem mC_2 : lw_tbl[270]? = some (.code yX0_copyFrom cX0_copyFrom 2 (none)) := rfl
set_option maxRecDepth 100000 in
theorem mC_3 : lw_tbl[359]? = some (.code yX0_sum cX0_sum 3 (some .int)) := rfl
set_option maxRecDepth 100000 in
theorem mC_4 : lw_tbl[158]? = some (.code yX0_get cX0_get 2 (some .int)) := rfl
set_option maxRecDepth 100000 in
theorem mC_5 : lw_tbl[294]? = some (.code yX0_set cX0_set 3 (none)) := rfl
set_option maxRecDepth 100000 in
theorem mC_6 : lw_tbl[376]? = some (.code yX0_firstOf cX0_firstOf 5 (some .int)) := rfl
set_option maxRecDepth 100000 in
theorem mC_7 : lw_tbl[431]? = some (.code yX0_countOf cX0_countOf 6 (some .int)) := rfl
set_option maxRecDepth 100000 in
theorem mC_8 : lw_tbl[341]? = some (.code yX0_close cX0_close 3 (none)) := rfl
set_option maxRecDepth 100000 in
theorem mC_9 : lw_tbl[290]? = some (.code yX0_open cX0_open 4 (none)) := rfl
set_option maxRecDepth 100000 in
theorem mC_10 : lw_tbl[349]? = some (.code yX0_swap cX0_swap 4 (none)) := rfl
set_option maxRecDepth 100000 in
theorem mC_11 : lw_tbl[32]? = some (.code yX1_init cX1_init 1 (none)) := rfl
set_option maxRecDepth 100000 in
theorem mC_12 : lw_tbl[266]? = some (.code yX1_copyFrom cX1_copyFrom 2 (none)) := rfl
set_option maxRecDepth 100000 in
theorem mC_13 : lw_tbl[392]? = some (.code yX1_writeBack cX1_writeBack 2 (none)) := rfl
set_option maxRecDepth 100000 in
theorem mC_14 : lw_tbl[323]? = some (.code yX1_asksToCome cX1_asksToCome 1 (some .int)) := rfl
set_option maxRecDepth 100000 in
theorem mC_15 : lw_tbl[368]? = some (.code yX1_lowestEmptyFrame cX1_lowestEmptyFrame 2 (some .int)) := rfl
set_option maxRecDepth 100000 in
theorem mC_16 : lw_tbl[372]? = some (.code yX1_pageIn cX1_pageIn 2 (some .int)) := rfl
set_option maxRecDepth 100000 in
theorem mC_17 : lw_tbl[380]? = some (.code yX1_victimBy cX1_victimBy 7 (some .int)) := rfl
set_option maxRecDepth 100000 in
theorem mC_18 : lw_tbl[384]? = some (.code yX1_nextUse cX1_nextUse 4 (some .int)) := rfl
set_option maxRecDepth 100000 in
theorem mC_19 : lw_tbl[363]? = some (.code yX1_doNext cX1_doNext 6 (none)) := rfl
set_option maxRecDepth 100000 in
theorem mC_20 : lw_tbl[388]? = some (.code yX1_takeOut cX1_takeOut 2 (none)) := rfl
set_option maxRecDepth 100000 in
theorem mC_21 : lw_tbl[397]? = some (.code yX1_readInto cX1_readInto 3 (none)) := rfl
set_option maxRecDepth 100000 in
theorem mC_22 : lw_tbl[401]? = some (.code yX1_markDone cX1_markDone 4 (none)) := rfl
set_option maxRecDepth 100000 in
theorem mC_23 : lw_tbl[409]? = some (.code yX1_canPinMore cX1_canPinMore 1 (some .boolean)) := rfl
set_option maxRecDepth 100000 in
theorem mC_24 : lw_tbl[413]? = some (.code yX1_pinnedPages cX1_pinnedPages 1 (some .int)) := rfl
set_option maxRecDepth 100000 in
theorem mC_25 : lw_tbl[456]? = some (.code yX1_hits cX1_hits 1 (some .int)) := rfl
set_option maxRecDepth 100000 in
theorem mC_26 : lw_tbl[427]? = some (.code yX1_pagesInFrames cX1_pagesInFrames 1 (some .int)) := rfl
set_option maxRecDepth 100000 in
theorem mC_27 : lw_tbl[533]? = some (.code yX1_firstRead cX1_firstRead 3 (some .int)) := rfl
set_option maxRecDepth 100000 in
theorem mC_28 : lw_tbl[337]? = some (.code yX1_takeAsk cX1_takeAsk 2 (none)) := rfl
set_option maxRecDepth 100000 in
theorem mC_29 : lw_tbl[286]? = some (.code yX1_putAsk cX1_putAsk 4 (none)) := rfl
set_option maxRecDepth 100000 in
theorem mC_30 : lw_tbl[437]? = some (.code yX1_moveDown cX1_moveDown 4 (none)) := rfl
set_option maxRecDepth 100000 in
theorem mC_31 : lw_tbl[106]? = some (.code yX2_init cX2_init 1 (none)) := rfl
set_option maxRecDepth 100000 in
theorem mC_32 : lw_tbl[146]? = some (.code yX2_firstWrong cX2_firstWrong 4 (some .int)) := rfl
set_option maxRecDepth 100000 in
theorem mC_33 : lw_tbl[150]? = some (.code yX2_pageAt cX2_pageAt 3 (some .int)) := rfl
set_option maxRecDepth 100000 in
theorem mC_34 : lw_tbl[154]? = some (.code yX2_codeAt cX2_codeAt 2 (some .int)) := rfl
set_option maxRecDepth 100000 in
theorem mC_35 : lw_tbl[162]? = some (.code yX2_isDigit cX2_isDigit 3 (some .boolean)) := rfl
set_option maxRecDepth 100000 in
theorem mC_36 : lw_tbl[142]? = some (.code yX2_tellsAsks cX2_tellsAsks 1 (some .boolean)) := rfl
set_option maxRecDepth 100000 in
theorem mC_37 : lw_tbl[234]? = some (.code yX2_asksTold cX2_asksTold 3 (some .int)) := rfl
set_option maxRecDepth 100000 in
theorem mC_38 : lw_tbl[238]? = some (.code yX2_timesAt cX2_timesAt 2 (some .int)) := rfl
set_option maxRecDepth 100000 in
theorem mC_39 : lw_tbl[282]? = some (.code yX2_writesAt cX2_writesAt 3 (some .int)) := rfl
set_option maxRecDepth 100000 in
theorem mC_40 : lw_tbl[24]? = some (.code yX3_init cX3_init 2 (none)) := rfl
set_option maxRecDepth 100000 in
theorem mC_41 : lw_tbl[441]? = some (.code yX3_flush cX3_flush 3 (some .int)) := rfl
set_option maxRecDepth 100000 in
theorem mC_42 : lw_tbl[258]? = some (.code yX3_save cX3_save 2 (none)) := rfl
set_option maxRecDepth 100000 in
theorem mC_43 : lw_tbl[262]? = some (.code yX3_dropOldestSaved cX3_dropOldestSaved 3 (none)) := rfl
set_option maxRecDepth 100000 in
theorem mC_44 : lw_tbl[473]? = some (.code yX3_clearBuffer cX3_clearBuffer 2 (some .int)) := rfl
set_option maxRecDepth 100000 in
theorem mC_45 : lw_tbl[158]? = some (.code yX0_get cX0_get 2 (some .int)) := rfl
set_option maxRecDepth 100000 in
theorem mC_46 : lw_tbl[515]? = some (.code yX3_victim cX3_victim 1 (some .int)) := rfl
set_option maxRecDepth 100000 in
theorem mC_47 : lw_tbl[537]? = some (.code yX3_fewestReads cX3_fewestReads 1 (some .int)) := rfl
set_option maxRecDepth 100000 in
theorem mC_48 : lw_tbl[529]? = some (.code yX3_finishTrial cX3_finishTrial 3 (some .int)) := rfl
set_option maxRecDepth 100000 in
theorem mC_49 : lw_tbl[158]? = some (.code yX0_get cX0_get 2 (some .int)) := rfl
set_option maxRecDepth 100000 in
theorem mC_50 : lw_tbl[511]? = some (.code yX3_hitShare cX3_hitShare 1 (some .double)) := rfl
set_option maxRecDepth 100000 in
theorem mC_51 : lw_tbl[158]? = some (.code yX0_get cX0_get 2 (some .int)) := rfl
set_option maxRecDepth 100000 in
theorem mC_52 : lw_tbl[452]? = some (.code yX3_count cX3_count 2 (some .int)) := rfl
set_option maxRecDepth 100000 in
theorem mC_53 : lw_tbl[158]? = some (.code yX0_get cX0_get 2 (some .int)) := rfl
set_option maxRecDepth 100000 in
theorem mC_54 : lw_tbl[446]? = some (.code yX3_ask cX3_ask 3 (some .int)) := rfl
set_option maxRecDepth 100000 in
theorem mC_55 : lw_tbl[504]? = some (.code yX3_page cX3_page 3 (some .int)) := rfl
set_option maxRecDepth 100000 in
theorem mC_56 : lw_tbl[317]? = some (.code yX3_checkPage cX3_checkPage 1 (none)) := rfl
set_option maxRecDepth 100000 in
theorem mC_57 : lw_tbl[523]? = some (.code yX3_byRule cX3_byRule 4 (some .int)) := rfl
set_option maxRecDepth 100000 in
theorem mC_58 : lw_tbl[158]? = some (.code yX0_get cX0_get 2 (some .int)) := rfl
set_option maxRecDepth 100000 in
theorem mC_59 : lw_tbl[158]? = some (.code yX0_get cX0_get 2 (some .int)) := rfl
set_option maxRecDepth 100000 in
theorem mC_60 : lw_tbl[331]? = some (.code yX3_checkToCome cX3_checkToCome 2 (none)) := rfl
set_option maxRecDepth 100000 in
theorem mC_61 : lw_tbl[158]? = some (.code yX0_get cX0_get 2 (some .int)) := rfl
set_option maxRecDepth 100000 in
theorem mC_62 : lw_tbl[138]? = some (.code yX3_extend cX3_extend 3 (some .int)) := rfl
set_option maxRecDepth 100000 in
theorem mC_63 : lw_tbl[298]? = some (.code yX3_insert cX3_insert 4 (some .int)) := rfl
set_option maxRecDepth 100000 in
theorem mC_64 : lw_tbl[327]? = some (.code yX3_drop cX3_drop 3 (some .int)) := rfl
set_option maxRecDepth 100000 in
theorem mC_65 : lw_tbl[345]? = some (.code yX3_exchange cX3_exchange 3 (some .int)) := rfl
set_option maxRecDepth 100000 in
theorem mC_66 : lw_tbl[354]? = some (.code yX3_go cX3_go 4 (some .int)) := rfl
set_option maxRecDepth 100000 in
theorem mC_67 : lw_tbl[405]? = some (.code yX3_pin cX3_pin 3 (some .int)) := rfl
set_option maxRecDepth 100000 in
theorem mC_68 : lw_tbl[421]? = some (.code yX3_frames cX3_frames 3 (some .int)) := rfl
set_option maxRecDepth 100000 in
theorem mC_69 : lw_tbl[477]? = some (.code yX3_append cX3_append 2 (some .int)) := rfl
set_option maxRecDepth 100000 in
theorem mC_70 : lw_tbl[158]? = some (.code yX0_get cX0_get 2 (some .int)) := rfl
set_option maxRecDepth 100000 in
theorem mC_71 : lw_tbl[158]? = some (.code yX0_get cX0_get 2 (some .int)) := rfl
set_option maxRecDepth 100000 in
theorem mC_72 : lw_tbl[498]? = some (.code yX3_frame cX3_frame 2 (some .int)) := rfl
set_option maxRecDepth 100000 in
theorem mC_73 : lw_tbl[460]? = some (.code yL_cell cL_cell 2 (some .int)) := rfl
set_option maxRecDepth 100000 in
theorem mC_74 : lw_tbl[465]? = some (.code yL_low cL_low 2 (some .int)) := rfl
set_option maxRecDepth 100000 in
theorem mC_75 : lw_tbl[469]? = some (.code yL_type cL_type 9 (some .int)) := rfl
set_option maxRecDepth 100000 in
theorem mC_76 : lw_tbl[485]? = some (.code yL_frame cL_frame 5 (some .int)) := rfl
set_option maxRecDepth 100000 in
theorem mC_77 : lw_tbl[491]? = some (.code yL_use cL_use 4 (some .int)) := rfl
set_option maxRecDepth 100000 in
theorem mC_78 : lw_tbl[488]? = some (.code yL_victim cL_victim 11 (some .int)) := rfl
set_option maxRecDepth 100000 in
theorem mC_79 : lw_tbl[482]? = some (.code yL_done cL_done 10 (some .int)) := rfl
set_option maxRecDepth 100000 in
theorem mC_80 : lw_tbl[494]? = some (.code yL_tells cL_tells 15 (some .boolean)) := rfl
set_option maxRecDepth 100000 in
theorem mC_81 : lw_tbl[519]? = some (.code yL_rule cL_rule 13 (some .boolean)) := rfl
set_option maxRecDepth 100000 in
theorem mC_82 : lw_tbl[540]? = some (.code yL_frames cL_frames 10 (some .int)) := rfl
set_option maxRecDepth 100000 in
theorem mC_all : ∀ y, y < 83 → 0 < y → lw_tbl[(mAt y).2.2.2.2.2.2.1]? = some (mCode y) := lt_s (lt_s (lt_s (lt_s (lt_s (lt_s (lt_s (lt_s (lt_s (lt_s (lt_s (lt_s (lt_s (lt_s (lt_s (lt_s (lt_s (lt_s (lt_s (lt_s (lt_s (lt_s (lt_s (lt_s (lt_s (lt_s (lt_s (lt_s (lt_s (lt_s (lt_s (lt_s (lt_s (lt_s (lt_s (lt_s (lt_s (lt_s (lt_s (lt_s (lt_s (lt_s (lt_s (lt_s (lt_s (lt_s (lt_s (lt_s (lt_s (lt_s (lt_s (lt_s (lt_s (lt_s (lt_s (lt_s (lt_s (lt_s (lt_s (lt_s (lt_s (lt_s (lt_s (lt_s (lt_s (lt_s (lt_s (lt_s (lt_s (lt_s (lt_s (lt_s (lt_s (lt_s (lt_s (lt_s (lt_s (lt_s (lt_s (lt_s (lt_s (lt_s (lt_s lt_0 (fun h => absurd h (Nat.lt_irrefl 0))) (fun _ => mC_1)) (fun _ => mC_2)) (fun _ => mC_3)) (fun _ => mC_4)) (fun _ => mC_5)) (fun _ => mC_6)) (fun _ => mC_7)) (fun _ => mC_8)) (fun _ => mC_9)) (fun _ => mC_10)) (fun _ => mC_11)) (fun _ => mC_12)) (fun _ => mC_13)) (fun _ => mC_14)) (fun _ => mC_15)) (fun _ => mC_16)) (fun _ => mC_17)) (fun _ => mC_18)) (fun _ => mC_19)) (fun _ => mC_20)) (fun _ => mC_21)) (fun _ => mC_22)) (fun _ => mC_23)) (fun _ => mC_24)) (fun _ => mC_25)) (fun _ => mC_26)) (fun _ => mC_27)) (fun _ => mC_28)) (fun _ => mC_29)) (fun _ => mC_30)) (fun _ => mC_31)) (fun _ => mC_32)) (fun _ => mC_33)) (fun _ => mC_34)) (fun _ => mC_35)) (fun _ => mC_36)) (fun _ => mC_37)) (fun _ => mC_38)) (fun _ => mC_39)) (fun _ => mC_40)) (fun _ => mC_41)) (fun _ => mC_42)) (fun _ => mC_43)) (fun _ => mC_44)) (fun _ => mC_45)) (fun _ => mC_46)) (fun _ => mC_47)) (fun _ => mC_48)) (fun _ => mC_49)) (fun _ => mC_50)) (fun _ => mC_51)) (fun _ => mC_52)) (fun _ => mC_53)) (fun _ => mC_54)) (fun _ => mC_55)) (fun _ => mC_56)) (fun _ => mC_57)) (fun _ => mC_58)) (fun _ => mC_59)) (fun _ => mC_60)) (fun _ => mC_61)) (fun _ => mC_62)) (fun _ => mC_63)) (fun _ => mC_64)) (fun _ => mC_65)) (fun _ => mC_66)) (fun _ => mC_67)) (fun _ => mC_68)) (fun _ => mC_69)) (fun _ => mC_70)) (fun _ => mC_71)) (fun _ => mC_72)) (fun _ => mC_73)) (fun _ => mC_74)) (fun _ => mC_75)) (fun _ => mC_76)) (fun _ => mC_77)) (fun _ => mC_78)) (fun _ => mC_79)) (fun _ => mC_80)) (fun _ => mC_81)) (fun _ => mC_82)
def iniP : List Nat := [10, 9, 11, 8, 8, 7]
theorem ini_all : (List.range 6).all (fun o => inG (iniP.getD o 0) (.initialized (cN o))) = true := by decide +kernel
def fTab : List (Nat × (Nat × (Nat × (Nat × Nat)))) := [(0, (9, (0, (0, 40)))), (1, (14, (1, (0, 45)))), (1, (20, (1, (1, 47)))), (1, (23, (1, (2, 49)))), (1, (26, (1, (3, 51)))), (1, (29, (1, (4, 53)))), (1, (33, (1, (5, 55)))), (1, (36, (1, (6, 57)))), (1, (39, (1, (7, 59)))), (1, (42, (1, (8, 61)))), (1, (45, (1, (9, 63)))), (1, (48, (1, (10, 65)))), (1, (51, (1, (11, 67)))), (1, (54, (1, (12, 68)))), (1, (57, (1, (13, 70)))), (2, (14, (2, (0, 110)))), (2, (20, (2, (1, 112)))), (3, (10, (3, (0, 119)))), (3, (16, (3, (1, 120)))), (3, (19, (3, (2, 121)))), (3, (23, (3, (3, 122)))), (3, (30, (3, (4, 123)))), (3, (45, (1, (4, 54)))), (3, (60, (2, (1, 113)))), (3, (77, (1, (5, 56)))), (3, (97, (1, (0, 46)))), (3, (113, (1, (1, 48)))), (3, (118, (1, (12, 69)))), (3, (127, (1, (9, 64)))), (3, (155, (1, (6, 58)))), (3, (161, (1, (13, 71)))), (3, (171, (2, (0, 111)))), (3, (184, (1, (2, 50)))), (3, (187, (1, (3, 52)))), (3, (192, (1, (7, 60)))), (3, (195, (1, (8, 62)))), (3, (201, (1, (10, 66))))]
set_option maxRecDepth 100000 in
theorem fTab_ok : (fTab.all fun e => inG e.2.2.2.2 (.fieldLink (cN e.1) e.2.1 (cN e.2.2.1) (cT e.2.2.1 e.2.2.2.1).2.1 (cT e.2.2.1 e.2.2.2.1).2.2.1) && ((cT e.2.2.1 e.2.2.2.1).1 == cN e.2.2.1 && (Nat.blt e.2.2.2.1 (cF e.2.2.1) && Nat.blt e.2.2.1 5))) = true := by decide +kernel
def cTab : List (Nat × (Nat × (Nat × (Nat × Nat)))) := [(1, (9, (0, (34, 35)))), (2, (9, (0, (108, 35)))), (3, (7, (1, (28, 29)))), (3, (27, (2, (102, 103)))), (5, (11, (3, (20, 21))))]
set_option maxRecDepth 100000 in
theorem cTab_ok : (cTab.all fun e => inG e.2.2.2.1 (.classLink (cN e.1) e.2.1 (cN e.2.2.1)) && (inG e.2.2.2.2 (.instantiable (cN e.2.2.1) (cF e.2.2.1)) && Nat.blt e.2.2.1 5)) = true := by decide +kernel
def vTab : List (Nat × (Nat × (Nat × (Nat × (Nat × Nat))))) := [(0, (15, (4, (350, (156, 157))))), (0, (19, (5, (291, (292, 293))))), (1, (60, (2, (267, (268, 269))))), (1, (64, (7, (428, (429, 430))))), (1, (68, (3, (414, (357, 358))))), (1, (72, (24, (410, (411, 412))))), (1, (75, (6, (373, (374, 375))))), (1, (78, (16, (369, (370, 371))))), (1, (82, (4, (364, (156, 157))))), (1, (85, (9, (287, (288, 289))))), (1, (88, (8, (338, (339, 340))))), (1, (92, (18, (381, (382, 383))))), (1, (96, (15, (365, (366, 367))))), (1, (99, (17, (377, (378, 379))))), (1, (102, (20, (385, (386, 387))))), (1, (105, (21, (394, (396, 4))))), (1, (108, (22, (398, (400, 5))))), (1, (112, (5, (393, (292, 293))))), (1, (115, (13, (389, (390, 391))))), (2, (24, (4, (155, (156, 157))))), (2, (28, (34, (151, (152, 153))))), (2, (31, (33, (147, (148, 149))))), (2, (34, (35, (159, (160, 161))))), (2, (38, (38, (235, (236, 237))))), (2, (41, (32, (143, (144, 145))))), (3, (34, (36, (139, (140, 141))))), (3, (48, (37, (231, (232, 233))))), (3, (57, (42, (255, (257, 1))))), (3, (63, (38, (277, (236, 237))))), (3, (67, (33, (278, (148, 149))))), (3, (70, (39, (279, (280, 281))))), (3, (73, (29, (283, (284, 285))))), (3, (91, (14, (320, (321, 322))))), (3, (94, (60, (328, (330, 3))))), (3, (101, (4, (333, (156, 157))))), (3, (106, (28, (334, (335, 336))))), (3, (109, (10, (346, (347, 348))))), (3, (121, (3, (356, (357, 358))))), (3, (124, (19, (360, (361, 362))))), (3, (130, (23, (406, (407, 408))))), (3, (135, (5, (416, (292, 293))))), (3, (138, (24, (417, (411, 412))))), (3, (145, (26, (424, (425, 426))))), (3, (148, (17, (432, (378, 379))))), (3, (152, (20, (433, (386, 387))))), (3, (158, (30, (434, (435, 436))))), (3, (164, (13, (442, (390, 391))))), (3, (198, (18, (505, (382, 383))))), (3, (204, (7, (506, (429, 430))))), (3, (212, (16, (500, (370, 371))))), (3, (215, (25, (453, (454, 455))))), (3, (220, (15, (516, (366, 367))))), (3, (227, (12, (263, (264, 265))))), (3, (231, (48, (526, (528, 6))))), (3, (234, (27, (530, (531, 532))))), (3, (287, (43, (259, (261, 2))))), (5, (10, (44, (470, (471, 472))))), (5, (22, (69, (474, (475, 476))))), (5, (26, (52, (449, (450, 451))))), (5, (29, (54, (443, (444, 445))))), (5, (44, (72, (495, (496, 497))))), (5, (46, (55, (501, (502, 503))))), (5, (49, (50, (508, (509, 510))))), (5, (53, (46, (512, (513, 514))))), (5, (59, (57, (520, (521, 522))))), (5, (62, (47, (534, (535, 536))))), (5, (74, (62, (135, (136, 137))))), (5, (77, (66, (351, (352, 353))))), (5, (80, (67, (402, (403, 404))))), (5, (86, (68, (418, (419, 420))))), (5, (88, (41, (438, (439, 440))))), (5, (91, (63, (295, (296, 297))))), (5, (95, (64, (324, (325, 326))))), (5, (98, (65, (342, (343, 344)))))]
set_option maxRecDepth 100000 in
theorem vTab_ok : (vTab.all fun e => inG e.2.2.2.1 (.methodLink (cN e.1) e.2.1 (mN e.2.2.1)) && (inG e.2.2.2.2.1 (.instanceMethod (mN e.2.2.1)) && (inG e.2.2.2.2.2 (.selects (cN (mO e.2.2.1)) (mN e.2.2.1) (mN e.2.2.1)) && (Nat.blt e.2.2.1 83 && (Nat.blt 0 e.2.2.1 && (mH e.2.2.1).isEmpty))))) = true := by decide +kernel
def sTab : List (Nat × (Nat × (Nat × (Nat × Nat)))) := [(3, (85, (56, (315, 316)))), (5, (16, (74, (463, 464)))), (5, (32, (77, (489, 490)))), (5, (36, (76, (483, 484)))), (5, (40, (78, (486, 487)))), (5, (55, (79, (480, 481)))), (5, (66, (73, (458, 459)))), (5, (70, (75, (467, 468)))), (5, (83, (82, (538, 539)))), (5, (101, (80, (492, 493)))), (5, (105, (81, (517, 518))))]
set_option maxRecDepth 100000 in
theorem sTab_ok : (sTab.all fun e => inG e.2.2.2.1 (.methodLink (cN e.1) e.2.1 (mN e.2.2.1)) && (inG e.2.2.2.2 (.static (mN e.2.2.1)) && (Nat.blt e.2.2.1 83 && (Nat.blt 0 e.2.2.1 && Nat.beq (mO e.2.2.1) e.1)))) = true := by decide +kernel
def pTab : List (Nat × (Nat × (Nat × (Nat × (Nat × Nat))))) := [(1, (11, (1, (0, (36, 37))))), (2, (11, (1, (0, (109, 37))))), (3, (9, (11, (1, (30, 31))))), (3, (29, (31, (1, (104, 105))))), (5, (65, (40, (0, (22, 23)))))]
set_option maxRecDepth 100000 in
theorem pTab_ok : (pTab.all fun e => (if e.2.2.2.1 = 1 then decide (lw_tbl[e.2.2.2.2.1]? = some (.methodLinkNest (cN e.1) e.2.1 (mN e.2.2.1) RX3)) else inG e.2.2.2.2.1 (.methodLink (cN e.1) e.2.1 (mN e.2.2.1))) && (inG e.2.2.2.2.2 (.instanceMethod (mN e.2.2.1)) && ((mN e.2.2.1).name == "<init>" && (Nat.blt e.2.2.1 83 && (Nat.blt 0 e.2.2.1 && ((mH e.2.2.1).isEmpty && decide (mR e.2.2.1 = none))))))) = true := by decide +kernel
def oTab : List (Nat × (Nat × (Nat × Nat))) := [(0, (3, (0, 39))), (0, (23, (1, 271))), (0, (29, (2, 274))), (1, (3, (0, 33))), (2, (3, (0, 107))), (3, (1, (0, 25)))]
def oName (k : Nat) : MethodName := match k with
  | 0 => Lib.objectInit
  | 1 => Lib.Math.min.name
  | _ => arraycopyName
set_option maxRecDepth 100000 in
theorem oTab_ok : (oTab.all fun e => inG e.2.2.2 (.methodLink (cN e.1) e.2.1 (oName e.2.2.1))) = true := by decide +kernel
theorem oWords : (inG 26 (.instanceMethod Lib.objectInit) && (inG 27 (.code Lib.objectInit ⟨#[0xb1]⟩ 1 none) && (inG 272 (.static Lib.Math.min.name) && (inG 17 (.initialized "java/lang/Math") && (inG 273 (.code Lib.Math.min.name Lib.Math.min.code 2 (some .int)) && (inG 276 (.native arraycopyName) && (inG 275 (.static arraycopyName) && (inG 18 (.initialized "java/lang/System") && inG 44 (.arrayClass .int))))))))) = true := by decide +kernel
def kTab : List (Nat × (Nat × ((Int64 ⊕ UInt64) × Nat))) := []
def kCond (o i : Nat) (v : Int64 ⊕ UInt64) : Cond := match v with
  | .inl x => .constantLong (cN o) i x
  | .inr x => .constantDouble (cN o) i x
theorem kTab_ok : (kTab.all fun e => inG e.2.2.2 (kCond e.1 e.2.1 e.2.2.1)) = true := by decide +kernel
def jTab : List (Nat × (Nat × (Int × Nat))) := [(5, (7, (32452867, 461))), (5, (8, (15485863, 462))), (5, (9, (2147483647, 466)))]
theorem jTab_ok : (jTab.all fun e => inG e.2.2.2 (.constant (cN e.1) e.2.1 (Int32.ofInt e.2.2.1)) && (decide (-2147483648 ≤ e.2.2.1) && decide (e.2.2.1 < 2147483648))) = true := by decide +kernel
def fwP : List (List Nat) := [[41], [72, 74, 76, 78, 80, 82, 84, 86, 88, 90, 92, 94, 96, 98], [114, 116], [124, 126, 128, 130, 132], [124, 126, 128, 130, 132]]
set_option maxRecDepth 100000 in
theorem fwP_ok : ((List.range 5).all fun o => (List.range (cF o)).all fun k => inG ((fwP.getD o []).getD k 0) (u_lay (cN o) (cT o) k)) = true := by decide +kernel
def eN (E : Nat) : String := match E with
  | 0 => "java/lang/IllegalArgumentException"
  | 1 => "java/lang/IllegalStateException"
  | _ => "java/lang/IndexOutOfBoundsException"
def txt (k : Nat) : String := (["what is not 0 to 9", "no such ask", "what is not 0 to 3", "what is not 0 to 7", "page is not 0 to 7", "rule is not 0 to 2", "what is not 0 to 2", "no such ask to come", "the buffer does not tell asks", "the plan would have too many asks", "no such place to come", "the plan is full", "asks is not 1 to 80", "no more pages can be pinned", "frames is not 1 to 6", "too many pages are pinned", "code is not 33 to 126", "the buffer is full", "no such frame", "what is not 0 to 9", "what is not 0 to 9"] : List String).getD k ""
def txtI (k : Nat) : Nat := ([218, 182, 190, 208, 283, 223, 225, 285, 40, 54, 82, 89, 116, 133, 141, 143, 167, 169, 210, 218, 218] : List Nat).getD k 0
-- throws: method, pc: exception, class entry, text entry, init entry, text, wide
def xTab : List (Nat × (Nat × (Nat × (Nat × (Nat × (Nat × (Nat × Nat))))))) := [(52, (142, (0, (38, (218, (42, (0, 0))))))), (54, (15, (2, (80, (182, (84, (1, 0))))))), (54, (134, (0, (38, (190, (42, (2, 0))))))), (55, (166, (0, (38, (208, (42, (3, 0))))))), (56, (10, (0, (38, (283, (42, (4, 1))))))), (57, (9, (0, (38, (223, (42, (5, 0))))))), (57, (28, (0, (38, (225, (42, (6, 0))))))), (60, (22, (2, (80, (285, (84, (7, 1))))))), (62, (10, (0, (38, (40, (42, (8, 0))))))), (62, (40, (1, (52, (54, (56, (9, 0))))))), (63, (22, (2, (80, (82, (84, (10, 0))))))), (63, (48, (1, (52, (89, (56, (11, 0))))))), (66, (11, (0, (38, (116, (42, (12, 0))))))), (67, (38, (1, (52, (133, (56, (13, 0))))))), (68, (11, (0, (38, (141, (42, (14, 0))))))), (68, (34, (1, (52, (143, (56, (15, 0))))))), (69, (12, (0, (38, (167, (42, (16, 0))))))), (69, (34, (1, (52, (169, (56, (17, 0))))))), (72, (15, (2, (80, (210, (84, (18, 0)))))))]
def xDec (y pc : Nat) (v : Nat × (Nat × (Nat × (Nat × (Nat × Nat))))) : Prop := if v.2.2.2.2.2 = 1 then
    decode (mB y) pc = .ok (.new v.2.1, 3) ∧ decode (mB y) (pc + 3) = .ok (.dup, 1) ∧ decode (mB y) (pc + 4) = .ok (.ldc_w v.2.2.1, 3) ∧ decode (mB y) (pc + 7) = .ok (.invokespecial v.2.2.2.1, 3) ∧ decode (mB y) (pc + 10) = .ok (.athrow, 1)
  else decode (mB y) pc = .ok (.new v.2.1, 3) ∧ decode (mB y) (pc + 3) = .ok (.dup, 1) ∧ decode (mB y) (pc + 4) = .ok (.ldc v.2.2.1, 2) ∧ decode (mB y) (pc + 6) = .ok (.invokespecial v.2.2.2.1, 3) ∧ decode (mB y) (pc + 9) = .ok (.athrow, 1)
-- handlers: method, exception: row of its table, handler pc, pc behind the store, local, wide
def hTab : List (Nat × (Nat × (Nat × (Nat × (Nat × (Nat × Nat)))))) := []
def rF (y : Nat) : Nat := ([11, 1, 1, 0, 0, 0, 0, 0, 0, 1, 1, 2, 2, 1, 0, 2, 1, 2, 1, 3, 2, 1, 1, 2, 1, 1, 1, 1, 1, 2, 2, 2, 3, 2, 1, 2, 4, 4, 3, 2, 3, 4, 3, 0, 0, 0, 3, 5, 4, 0, 2, 0, 6, 0, 6, 7, 6, 6, 0, 0, 6, 0, 6, 7, 7, 7, 6, 7, 6, 6, 0, 0, 6, 0, 0, 7, 0, 7, 8, 9, 9, 10, 9] : List Nat).getD y 0
def rL (y : Nat) : Nat := ([236, 70, 70, 0, 0, 0, 0, 0, 0, 22, 22, 93, 91, 22, 0, 45, 24, 47, 24, 73, 43, 22, 22, 42, 22, 25, 25, 21, 22, 45, 45, 93, 64, 42, 21, 42, 87, 85, 64, 42, 113, 133, 112, 0, 0, 0, 73, 120, 98, 0, 45, 0, 100, 0, 100, 120, 100, 120, 0, 0, 100, 0, 133, 133, 133, 133, 133, 133, 133, 100, 0, 0, 100, 0, 0, 121, 0, 122, 145, 175, 175, 204, 175] : List Nat).getD y 0
