def lw_gd : List Cond := lw_tbl.filter goodWord
def inG (p : Nat) (w : Cond) : Bool := decide (lw_tbl[p]? = some w) && goodWord w
theorem inG_mem {p : Nat} {w : Cond} (h : inG p w = true) : w ∈ lw_gd := by
  simp only [inG, Bool.and_eq_true, decide_eq_true_eq] at h
  exact List.mem_filter.mpr ⟨List.mem_of_getElem? h.1, h.2⟩
def lk {β : Type} : List (Nat × (Nat × β)) → Nat → Nat → Option β
  | [], _, _ => none
  | q :: r, a, b => if (Nat.beq q.1 a && Nat.beq q.2.1 b) = true then some q.2.2 else lk r a b
theorem lk_mem {β : Type} {a b : Nat} {c : β} : ∀ {l : List (Nat × (Nat × β))}, lk l a b = some c → (a, (b, c)) ∈ l
  | [], h => by cases h
  | q :: r, h => by
    unfold lk at h
    split at h
    · rename_i hq
      simp only [Bool.and_eq_true] at hq
      have h1 := Nat.eq_of_beq_eq_true hq.1
      have h2 := Nat.eq_of_beq_eq_true hq.2
      cases h
      obtain ⟨q1, q2, q3⟩ := q
      simp only at h1 h2
      subst h1; subst h2
      exact List.mem_cons_self
    · exact List.mem_cons_of_mem _ (lk_mem h)
-- methods: name, bytes, locals, return type, handlers, class, place of the code word
abbrev MT : Type := MethodName × (ByteArray × (Nat × (Option FieldType × (List (Nat × Nat × Nat × Nat) × (Nat × (Nat × Nat))))))
def mTab : List MT := [
  (yL_law, (cL_law, (9, ((some .boolean : Option FieldType), (([] : List (Nat × Nat × Nat × Nat)), (5, (0, 1))))))),
  (yX0_init, (cX0_init, (4, ((none : Option FieldType), (([] : List (Nat × Nat × Nat × Nat)), (0, (79, 2))))))),
  (yX0_copyFrom, (cX0_copyFrom, (2, ((none : Option FieldType), (([] : List (Nat × Nat × Nat × Nat)), (0, (195, 1))))))),
  (yX0_sum, (cX0_sum, (3, ((some .int : Option FieldType), (([] : List (Nat × Nat × Nat × Nat)), (0, (205, 0))))))),
  (yX0_get, (cX0_get, (2, ((some .int : Option FieldType), (([] : List (Nat × Nat × Nat × Nat)), (0, (213, 1))))))),
  (yX0_set, (cX0_set, (3, ((none : Option FieldType), (([] : List (Nat × Nat × Nat × Nat)), (0, (217, 2))))))),
  (yX0_firstOf, (cX0_firstOf, (5, ((some .int : Option FieldType), (([] : List (Nat × Nat × Nat × Nat)), (0, (262, 3))))))),
  (yX0_countOf, (cX0_countOf, (6, ((some .int : Option FieldType), (([] : List (Nat × Nat × Nat × Nat)), (0, (324, 3))))))),
  (yX0_close, (cX0_close, (3, ((none : Option FieldType), (([] : List (Nat × Nat × Nat × Nat)), (0, (477, 1))))))),
  (yX0_open, (cX0_open, (4, ((none : Option FieldType), (([] : List (Nat × Nat × Nat × Nat)), (0, (539, 2))))))),
  (yX0_swap, (cX0_swap, (4, ((none : Option FieldType), (([] : List (Nat × Nat × Nat × Nat)), (0, (568, 2))))))),
  (yX1_init, (cX1_init, (1, ((none : Option FieldType), (([] : List (Nat × Nat × Nat × Nat)), (1, (73, 0))))))),
  (yX1_copyFrom, (cX1_copyFrom, (2, ((none : Option FieldType), (([] : List (Nat × Nat × Nat × Nat)), (1, (191, 1))))))),
  (yX1_writeBack, (cX1_writeBack, (2, ((none : Option FieldType), (([] : List (Nat × Nat × Nat × Nat)), (1, (209, 1))))))),
  (yX1_asksToCome, (cX1_asksToCome, (1, ((some .int : Option FieldType), (([] : List (Nat × Nat × Nat × Nat)), (1, (250, 0))))))),
  (yX1_lowestEmptyFrame, (cX1_lowestEmptyFrame, (2, ((some .int : Option FieldType), (([] : List (Nat × Nat × Nat × Nat)), (1, (254, 0))))))),
  (yX1_pageIn, (cX1_pageIn, (2, ((some .int : Option FieldType), (([] : List (Nat × Nat × Nat × Nat)), (1, (258, 1))))))),
  (yX1_victimBy, (cX1_victimBy, (7, ((some .int : Option FieldType), (([] : List (Nat × Nat × Nat × Nat)), (1, (266, 2))))))),
  (yX1_nextUse, (cX1_nextUse, (4, ((some .int : Option FieldType), (([] : List (Nat × Nat × Nat × Nat)), (1, (270, 2))))))),
  (yX1_doNext, (cX1_doNext, (6, ((none : Option FieldType), (([] : List (Nat × Nat × Nat × Nat)), (1, (282, 1))))))),
  (yX1_takeOut, (cX1_takeOut, (2, ((none : Option FieldType), (([] : List (Nat × Nat × Nat × Nat)), (1, (288, 1))))))),
  (yX1_readInto, (cX1_readInto, (3, ((none : Option FieldType), (([] : List (Nat × Nat × Nat × Nat)), (1, (293, 2))))))),
  (yX1_markDone, (cX1_markDone, (4, ((none : Option FieldType), (([] : List (Nat × Nat × Nat × Nat)), (1, (297, 3))))))),
  (yX1_canPinMore, (cX1_canPinMore, (1, ((some .boolean : Option FieldType), (([] : List (Nat × Nat × Nat × Nat)), (1, (305, 0))))))),
  (yX1_pinnedPages, (cX1_pinnedPages, (1, ((some .int : Option FieldType), (([] : List (Nat × Nat × Nat × Nat)), (1, (309, 0))))))),
  (yX1_hits, (cX1_hits, (1, ((some .int : Option FieldType), (([] : List (Nat × Nat × Nat × Nat)), (1, (320, 0))))))),
  (yX1_pagesInFrames, (cX1_pagesInFrames, (1, ((some .int : Option FieldType), (([] : List (Nat × Nat × Nat × Nat)), (1, (337, 0))))))),
  (yX1_firstRead, (cX1_firstRead, (3, ((some .int : Option FieldType), (([] : List (Nat × Nat × Nat × Nat)), (1, (454, 1))))))),
  (yX1_takeAsk, (cX1_takeAsk, (2, ((none : Option FieldType), (([] : List (Nat × Nat × Nat × Nat)), (1, (473, 1))))))),
  (yX1_putAsk, (cX1_putAsk, (4, ((none : Option FieldType), (([] : List (Nat × Nat × Nat × Nat)), (1, (535, 3))))))),
  (yX1_moveDown, (cX1_moveDown, (4, ((none : Option FieldType), (([] : List (Nat × Nat × Nat × Nat)), (1, (599, 0))))))),
  (yX2_init, (cX2_init, (1, ((none : Option FieldType), (([] : List (Nat × Nat × Nat × Nat)), (2, (147, 0))))))),
  (yX2_firstWrong, (cX2_firstWrong, (4, ((some .int : Option FieldType), (([] : List (Nat × Nat × Nat × Nat)), (2, (229, 0))))))),
  (yX2_pageAt, (cX2_pageAt, (3, ((some .int : Option FieldType), (([] : List (Nat × Nat × Nat × Nat)), (2, (233, 1))))))),
  (yX2_codeAt, (cX2_codeAt, (2, ((some .int : Option FieldType), (([] : List (Nat × Nat × Nat × Nat)), (2, (237, 1))))))),
  (yX2_isDigit, (cX2_isDigit, (3, ((some .boolean : Option FieldType), (([] : List (Nat × Nat × Nat × Nat)), (2, (242, 1))))))),
  (yX2_tellsAsks, (cX2_tellsAsks, (1, ((some .boolean : Option FieldType), (([] : List (Nat × Nat × Nat × Nat)), (2, (499, 0))))))),
  (yX2_asksTold, (cX2_asksTold, (3, ((some .int : Option FieldType), (([] : List (Nat × Nat × Nat × Nat)), (2, (505, 0))))))),
  (yX2_timesAt, (cX2_timesAt, (2, ((some .int : Option FieldType), (([] : List (Nat × Nat × Nat × Nat)), (2, (509, 1))))))),
  (yX2_writesAt, (cX2_writesAt, (3, ((some .int : Option FieldType), (([] : List (Nat × Nat × Nat × Nat)), (2, (531, 1))))))),
  (yX3_init, (cX3_init, (2, ((none : Option FieldType), (([] : List (Nat × Nat × Nat × Nat)), (3, (65, 0))))))),
  (yX3_flush, (cX3_flush, (3, ((some .int : Option FieldType), (([] : List (Nat × Nat × Nat × Nat)), (3, (179, 0))))))),
  (yX3_save, (cX3_save, (2, ((none : Option FieldType), (([] : List (Nat × Nat × Nat × Nat)), (3, (183, 0))))))),
  (yX3_dropOldestSaved, (cX3_dropOldestSaved, (3, ((none : Option FieldType), (([] : List (Nat × Nat × Nat × Nat)), (3, (187, 0))))))),
  (yX3_clearBuffer, (cX3_clearBuffer, (2, ((some .int : Option FieldType), (([] : List (Nat × Nat × Nat × Nat)), (3, (221, 0))))))),
  (yX3_firstError, (cX3_firstError, (1, ((some .int : Option FieldType), (([] : List (Nat × Nat × Nat × Nat)), (3, (225, 0))))))),
  (yX3_victim, (cX3_victim, (1, ((some .int : Option FieldType), (([] : List (Nat × Nat × Nat × Nat)), (3, (246, 0))))))),
  (yX3_fewestReads, (cX3_fewestReads, (1, ((some .int : Option FieldType), (([] : List (Nat × Nat × Nat × Nat)), (3, (274, 0))))))),
  (yX3_finishTrial, (cX3_finishTrial, (3, ((some .int : Option FieldType), (([] : List (Nat × Nat × Nat × Nat)), (3, (278, 1))))))),
  (yX3_bestPin, (cX3_bestPin, (5, ((some .int : Option FieldType), (([] : List (Nat × Nat × Nat × Nat)), (3, (301, 0))))))),
  (yX3_hitShare, (cX3_hitShare, (1, ((some .double : Option FieldType), (([] : List (Nat × Nat × Nat × Nat)), (3, (316, 0))))))),
  (yX3_digest, (cX3_digest, (5, ((some .long : Option FieldType), (([] : List (Nat × Nat × Nat × Nat)), (3, (328, 0))))))),
  (yX3_count, (cX3_count, (2, ((some .int : Option FieldType), (([] : List (Nat × Nat × Nat × Nat)), (3, (333, 1))))))),
  (yX3_mixed, (cX3_mixed, (4, ((some .long : Option FieldType), (([] : List (Nat × Nat × Nat × Nat)), (3, (409, 2))))))),
  (yX3_ask, (cX3_ask, (3, ((some .int : Option FieldType), (([] : List (Nat × Nat × Nat × Nat)), (3, (414, 2))))))),
  (yX3_page, (cX3_page, (3, ((some .int : Option FieldType), (([] : List (Nat × Nat × Nat × Nat)), (3, (435, 2))))))),
  (yX3_checkPage, (cX3_checkPage, (1, ((none : Option FieldType), (([] : List (Nat × Nat × Nat × Nat)), (3, (438, 1))))))),
  (yX3_byRule, (cX3_byRule, (4, ((some .int : Option FieldType), (([] : List (Nat × Nat × Nat × Nat)), (3, (448, 2))))))),
  (yX3_framesFor, (cX3_framesFor, (3, ((some .int : Option FieldType), (([] : List (Nat × Nat × Nat × Nat)), (3, (459, 1))))))),
  (yX3_ifDropped, (cX3_ifDropped, (2, ((some .int : Option FieldType), (([] : List (Nat × Nat × Nat × Nat)), (3, (464, 1))))))),
  (yX3_checkToCome, (cX3_checkToCome, (2, ((none : Option FieldType), (([] : List (Nat × Nat × Nat × Nat)), (3, (468, 1))))))),
  (yX3_bitsOfShare, (cX3_bitsOfShare, (8, ((some .long : Option FieldType), (([] : List (Nat × Nat × Nat × Nat)), (3, (482, 1))))))),
  (yX3_extend, (cX3_extend, (3, ((some .int : Option FieldType), (([] : List (Nat × Nat × Nat × Nat)), (3, (495, 0))))))),
  (yX3_insert, (cX3_insert, (4, ((some .int : Option FieldType), (([] : List (Nat × Nat × Nat × Nat)), (3, (548, 3))))))),
  (yX3_drop, (cX3_drop, (3, ((some .int : Option FieldType), (([] : List (Nat × Nat × Nat × Nat)), (3, (557, 1))))))),
  (yX3_exchange, (cX3_exchange, (3, ((some .int : Option FieldType), (([] : List (Nat × Nat × Nat × Nat)), (3, (564, 2))))))),
  (yX3_go, (cX3_go, (4, ((some .int : Option FieldType), (([] : List (Nat × Nat × Nat × Nat)), (3, (576, 1))))))),
  (yX3_pin, (cX3_pin, (3, ((some .int : Option FieldType), (([] : List (Nat × Nat × Nat × Nat)), (3, (584, 1))))))),
  (yX3_frames, (cX3_frames, (3, ((some .int : Option FieldType), (([] : List (Nat × Nat × Nat × Nat)), (3, (592, 1))))))),
  (yX3_append, (cX3_append, (2, ((some .int : Option FieldType), (([] : List (Nat × Nat × Nat × Nat)), (3, (606, 1))))))),
  (yX3_undo, (cX3_undo, (1, ((some .int : Option FieldType), (([] : List (Nat × Nat × Nat × Nat)), (3, (615, 0))))))),
  (yX3_copySaved, (cX3_copySaved, (3, ((none : Option FieldType), (([] : List (Nat × Nat × Nat × Nat)), (3, (620, 1))))))),
  (yX3_frame, (cX3_frame, (2, ((some .int : Option FieldType), (([] : List (Nat × Nat × Nat × Nat)), (3, (635, 1))))))),
  (yX4_init, (cX4_init, (2, ((none : Option FieldType), (([] : List (Nat × Nat × Nat × Nat)), (4, (657, 0))))))),
  (yX4_thrown, (cX4_thrown, (1, ((some .int : Option FieldType), (([] : List (Nat × Nat × Nat × Nat)), (4, (696, 0))))))),
  (yX4_undo, (cX4_undo, (2, ((some .int : Option FieldType), (([] : List (Nat × Nat × Nat × Nat)), (4, (700, 0))))))),
  (yX4_append, (cX4_append, (2, ((some .int : Option FieldType), (([] : List (Nat × Nat × Nat × Nat)), (4, (704, 1))))))),
  (yX4_in, (cX4_in, (3, ((some .boolean : Option FieldType), (([] : List (Nat × Nat × Nat × Nat)), (4, (707, 3))))))),
  (yX4_clearBuffer, (cX4_clearBuffer, (2, ((some .int : Option FieldType), (([] : List (Nat × Nat × Nat × Nat)), (4, (711, 0))))))),
  (yX4_firstError, (cX4_firstError, (1, ((some .int : Option FieldType), (([] : List (Nat × Nat × Nat × Nat)), (4, (715, 0))))))),
  (yX4_readBuffer, (cX4_readBuffer, (3, ((some .int : Option FieldType), (([] : List (Nat × Nat × Nat × Nat)), (4, (719, 0))))))),
  (yX4_isLetter, (cX4_isLetter, (1, ((some .boolean : Option FieldType), (([] : List (Nat × Nat × Nat × Nat)), (4, (722, 1))))))),
  (yX4_extend, (cX4_extend, (5, ((some .int : Option FieldType), (([] : List (Nat × Nat × Nat × Nat)), (4, (726, 0))))))),
  (yX4_asksTyped, (cX4_asksTyped, (3, ((some .int : Option FieldType), (([] : List (Nat × Nat × Nat × Nat)), (4, (730, 0))))))),
  (yX4_timesAt, (cX4_timesAt, (2, ((some .int : Option FieldType), (([] : List (Nat × Nat × Nat × Nat)), (4, (734, 1))))))),
  (yX4_save, (cX4_save, (2, ((none : Option FieldType), (([] : List (Nat × Nat × Nat × Nat)), (4, (738, 0))))))),
  (yX4_layAsk, (cX4_layAsk, (4, ((none : Option FieldType), (([] : List (Nat × Nat × Nat × Nat)), (4, (742, 3))))))),
  (yX4_lay, (cX4_lay, (4, ((none : Option FieldType), (([] : List (Nat × Nat × Nat × Nat)), (4, (746, 3))))))),
  (yX4_insert, (cX4_insert, (5, ((some .int : Option FieldType), (([] : List (Nat × Nat × Nat × Nat)), (4, (750, 3))))))),
  (yX4_isPage, (cX4_isPage, (1, ((some .boolean : Option FieldType), (([] : List (Nat × Nat × Nat × Nat)), (4, (753, 1))))))),
  (yX4_drop, (cX4_drop, (3, ((some .int : Option FieldType), (([] : List (Nat × Nat × Nat × Nat)), (4, (757, 1))))))),
  (yX4_isToCome, (cX4_isToCome, (2, ((some .boolean : Option FieldType), (([] : List (Nat × Nat × Nat × Nat)), (4, (761, 1))))))),
  (yX4_its, (cX4_its, (3, ((some .int : Option FieldType), (([] : List (Nat × Nat × Nat × Nat)), (4, (765, 2))))))),
  (yX4_takeOut, (cX4_takeOut, (3, ((none : Option FieldType), (([] : List (Nat × Nat × Nat × Nat)), (4, (769, 1))))))),
  (yX4_exchange, (cX4_exchange, (5, ((some .int : Option FieldType), (([] : List (Nat × Nat × Nat × Nat)), (4, (773, 2))))))),
  (yX4_go, (cX4_go, (4, ((some .int : Option FieldType), (([] : List (Nat × Nat × Nat × Nat)), (4, (777, 1))))))),
  (yX4_doNext, (cX4_doNext, (7, ((some .boolean : Option FieldType), (([] : List (Nat × Nat × Nat × Nat)), (4, (781, 1))))))),
  (yX4_frameOf, (cX4_frameOf, (4, ((some .int : Option FieldType), (([] : List (Nat × Nat × Nat × Nat)), (4, (785, 1))))))),
  (yX4_emptyFrame, (cX4_emptyFrame, (3, ((some .int : Option FieldType), (([] : List (Nat × Nat × Nat × Nat)), (4, (789, 0))))))),
  (yX4_victimBy, (cX4_victimBy, (6, ((some .int : Option FieldType), (([] : List (Nat × Nat × Nat × Nat)), (4, (793, 2))))))),
  (yX4_has, (cX4_has, (2, ((some .boolean : Option FieldType), (([] : List (Nat × Nat × Nat × Nat)), (4, (796, 2))))))),
  (yX4_worth, (cX4_worth, (4, ((some .int : Option FieldType), (([] : List (Nat × Nat × Nat × Nat)), (4, (800, 3))))))),
  (yX4_useFrom, (cX4_useFrom, (5, ((some .int : Option FieldType), (([] : List (Nat × Nat × Nat × Nat)), (4, (804, 2))))))),
  (yX4_latest, (cX4_latest, (5, ((some .int : Option FieldType), (([] : List (Nat × Nat × Nat × Nat)), (4, (808, 2))))))),
  (yX4_goes, (cX4_goes, (3, ((some .boolean : Option FieldType), (([] : List (Nat × Nat × Nat × Nat)), (4, (812, 1))))))),
  (yX4_pin, (cX4_pin, (2, ((some .int : Option FieldType), (([] : List (Nat × Nat × Nat × Nat)), (4, (816, 1))))))),
  (yX4_bits, (cX4_bits, (3, ((some .int : Option FieldType), (([] : List (Nat × Nat × Nat × Nat)), (4, (819, 1))))))),
  (yX4_frames, (cX4_frames, (3, ((some .int : Option FieldType), (([] : List (Nat × Nat × Nat × Nat)), (4, (823, 1))))))),
  (yX4_inFrames, (cX4_inFrames, (3, ((some .int : Option FieldType), (([] : List (Nat × Nat × Nat × Nat)), (4, (827, 0))))))),
  (yX4_moveDown, (cX4_moveDown, (4, ((none : Option FieldType), (([] : List (Nat × Nat × Nat × Nat)), (4, (831, 0))))))),
  (yX4_flush, (cX4_flush, (3, ((some .int : Option FieldType), (([] : List (Nat × Nat × Nat × Nat)), (4, (835, 0))))))),
  (yX4_ask, (cX4_ask, (3, ((some .int : Option FieldType), (([] : List (Nat × Nat × Nat × Nat)), (4, (839, 2))))))),
  (yX4_toldAsk, (cX4_toldAsk, (3, ((some .int : Option FieldType), (([] : List (Nat × Nat × Nat × Nat)), (4, (843, 2))))))),
  (yX4_page, (cX4_page, (3, ((some .int : Option FieldType), (([] : List (Nat × Nat × Nat × Nat)), (4, (847, 2))))))),
  (yX4_toldPage, (cX4_toldPage, (3, ((some .int : Option FieldType), (([] : List (Nat × Nat × Nat × Nat)), (4, (851, 2))))))),
  (yX4_asksToCome, (cX4_asksToCome, (4, ((some .int : Option FieldType), (([] : List (Nat × Nat × Nat × Nat)), (4, (855, 1))))))),
  (yX4_frame, (cX4_frame, (2, ((some .int : Option FieldType), (([] : List (Nat × Nat × Nat × Nat)), (4, (859, 1))))))),
  (yX4_count, (cX4_count, (2, ((some .int : Option FieldType), (([] : List (Nat × Nat × Nat × Nat)), (4, (863, 1))))))),
  (yX4_counted, (cX4_counted, (2, ((some .int : Option FieldType), (([] : List (Nat × Nat × Nat × Nat)), (4, (867, 1))))))),
  (yX4_hits, (cX4_hits, (3, ((some .int : Option FieldType), (([] : List (Nat × Nat × Nat × Nat)), (4, (871, 0))))))),
  (yX4_allOf, (cX4_allOf, (4, ((some .int : Option FieldType), (([] : List (Nat × Nat × Nat × Nat)), (4, (875, 1))))))),
  (yX4_victim, (cX4_victim, (1, ((some .int : Option FieldType), (([] : List (Nat × Nat × Nat × Nat)), (4, (879, 0))))))),
  (yX4_nextVictim, (cX4_nextVictim, (1, ((some .int : Option FieldType), (([] : List (Nat × Nat × Nat × Nat)), (4, (883, 0))))))),
  (yX4_byRule, (cX4_byRule, (3, ((some .int : Option FieldType), (([] : List (Nat × Nat × Nat × Nat)), (4, (887, 2))))))),
  (yX4_tried, (cX4_tried, (5, ((some .int : Option FieldType), (([] : List (Nat × Nat × Nat × Nat)), (4, (891, 2))))))),
  (yX4_putAside, (cX4_putAside, (2, ((none : Option FieldType), (([] : List (Nat × Nat × Nat × Nat)), (4, (895, 0))))))),
  (yX4_goOn, (cX4_goOn, (5, ((some .int : Option FieldType), (([] : List (Nat × Nat × Nat × Nat)), (4, (899, 1))))))),
  (yX4_bringBack, (cX4_bringBack, (2, ((none : Option FieldType), (([] : List (Nat × Nat × Nat × Nat)), (4, (903, 0))))))),
  (yX4_fewestReads, (cX4_fewestReads, (1, ((some .int : Option FieldType), (([] : List (Nat × Nat × Nat × Nat)), (4, (907, 0))))))),
  (yX4_fewest, (cX4_fewest, (3, ((some .int : Option FieldType), (([] : List (Nat × Nat × Nat × Nat)), (4, (911, 0))))))),
  (yX4_askFor, (cX4_askFor, (4, ((none : Option FieldType), (([] : List (Nat × Nat × Nat × Nat)), (4, (915, 1))))))),
  (yX4_reach, (cX4_reach, (3, ((none : Option FieldType), (([] : List (Nat × Nat × Nat × Nat)), (4, (919, 2))))))),
  (yX4_framesFor, (cX4_framesFor, (2, ((some .int : Option FieldType), (([] : List (Nat × Nat × Nat × Nat)), (4, (923, 1))))))),
  (yX4_enough, (cX4_enough, (4, ((some .int : Option FieldType), (([] : List (Nat × Nat × Nat × Nat)), (4, (927, 1))))))),
  (yX4_ifDropped, (cX4_ifDropped, (2, ((some .int : Option FieldType), (([] : List (Nat × Nat × Nat × Nat)), (4, (931, 1))))))),
  (yX4_without, (cX4_without, (3, ((some .int : Option FieldType), (([] : List (Nat × Nat × Nat × Nat)), (4, (935, 1))))))),
  (yX4_bestPin, (cX4_bestPin, (1, ((some .int : Option FieldType), (([] : List (Nat × Nat × Nat × Nat)), (4, (939, 0))))))),
  (yX4_pinBest, (cX4_pinBest, (5, ((some .int : Option FieldType), (([] : List (Nat × Nat × Nat × Nat)), (4, (943, 0))))))),
  (yX4_hitShare, (cX4_hitShare, (1, ((some .double : Option FieldType), (([] : List (Nat × Nat × Nat × Nat)), (4, (947, 0))))))),
  (yX4_share, (cX4_share, (1, ((some .double : Option FieldType), (([] : List (Nat × Nat × Nat × Nat)), (4, (951, 0))))))),
  (yX4_digest, (cX4_digest, (2, ((some .long : Option FieldType), (([] : List (Nat × Nat × Nat × Nat)), (4, (955, 0))))))),
  (yX4_mix, (cX4_mix, (3, ((none : Option FieldType), (([] : List (Nat × Nat × Nat × Nat)), (4, (960, 1))))))),
  (yX4_mixPlan, (cX4_mixPlan, (3, ((none : Option FieldType), (([] : List (Nat × Nat × Nat × Nat)), (4, (965, 0))))))),
  (yX4_bitsOf, (cX4_bitsOf, (6, ((some .long : Option FieldType), (([] : List (Nat × Nat × Nat × Nat)), (4, (968, 1))))))),
  (yL_extend, (cL_extend, (3, ((some .int : Option FieldType), (([(0, 8, 11, 13), (0, 8, 14, 15)] : List (Nat × Nat × Nat × Nat)), (5, (489, 2))))))),
  (yL_insert, (cL_insert, (6, ((some .int : Option FieldType), (([(0, 12, 15, 21), (0, 12, 19, 13), (0, 12, 23, 15)] : List (Nat × Nat × Nat × Nat)), (5, (543, 5))))))),
  (yL_drop, (cL_drop, (4, ((some .int : Option FieldType), (([(0, 9, 12, 21)] : List (Nat × Nat × Nat × Nat)), (5, (553, 3))))))),
  (yL_exchange, (cL_exchange, (5, ((some .int : Option FieldType), (([(0, 10, 13, 21)] : List (Nat × Nat × Nat × Nat)), (5, (560, 4))))))),
  (yL_go, (cL_go, (4, ((some .int : Option FieldType), (([(0, 9, 12, 13)] : List (Nat × Nat × Nat × Nat)), (5, (572, 3))))))),
  (yL_pin, (cL_pin, (4, ((some .int : Option FieldType), (([(0, 9, 12, 13), (0, 9, 15, 15)] : List (Nat × Nat × Nat × Nat)), (5, (580, 3))))))),
  (yL_frames, (cL_frames, (4, ((some .int : Option FieldType), (([(0, 9, 12, 13), (0, 9, 15, 15)] : List (Nat × Nat × Nat × Nat)), (5, (588, 3))))))),
  (yL_append, (cL_append, (4, ((some .int : Option FieldType), (([(0, 9, 12, 13), (0, 9, 15, 15)] : List (Nat × Nat × Nat × Nat)), (5, (602, 3))))))),
  (yL_undo, (cL_undo, (3, ((some .int : Option FieldType), (([(0, 8, 11, 15)] : List (Nat × Nat × Nat × Nat)), (5, (611, 2))))))),
  (yL_ask, (cL_ask, (5, ((some .int : Option FieldType), (([(0, 10, 13, 21), (0, 10, 17, 13)] : List (Nat × Nat × Nat × Nat)), (5, (623, 4))))))),
  (yL_page, (cL_page, (5, ((some .int : Option FieldType), (([(0, 10, 13, 13)] : List (Nat × Nat × Nat × Nat)), (5, (627, 4))))))),
  (yL_frame, (cL_frame, (4, ((some .int : Option FieldType), (([(0, 9, 12, 21)] : List (Nat × Nat × Nat × Nat)), (5, (631, 3))))))),
  (yL_count, (cL_count, (4, ((some .int : Option FieldType), (([(0, 9, 12, 13)] : List (Nat × Nat × Nat × Nat)), (5, (639, 3))))))),
  (yL_byRule, (cL_byRule, (5, ((some .int : Option FieldType), (([(0, 10, 13, 13)] : List (Nat × Nat × Nat × Nat)), (5, (643, 4))))))),
  (yL_framesFor, (cL_framesFor, (4, ((some .int : Option FieldType), (([(0, 9, 12, 13)] : List (Nat × Nat × Nat × Nat)), (5, (647, 3))))))),
  (yL_ifDropped, (cL_ifDropped, (4, ((some .int : Option FieldType), (([(0, 9, 12, 21)] : List (Nat × Nat × Nat × Nat)), (5, (651, 3)))))))]
def mAt (y : Nat) : MT := mTab.getD y (yL_law, (code, (9, (some .boolean, ([], (5, (0, 1)))))))
def mN (y : Nat) : MethodName := (mAt y).1
def mB (y : Nat) : ByteArray := (mAt y).2.1
def mL (y : Nat) : Nat := (mAt y).2.2.1
def mR (y : Nat) : Option FieldType := (mAt y).2.2.2.1
def mH (y : Nat) : List (Nat × Nat × Nat × Nat) := (mAt y).2.2.2.2.1
def mO (y : Nat) : Nat := (mAt y).2.2.2.2.2.1
def mA (y : Nat) : Nat := (mAt y).2.2.2.2.2.2.2
def mCode (y : Nat) : Cond := if (mH y).isEmpty then .code (mN y) (mB y) (mL y) (mR y) else .codeWith (mN y) (mB y) (mL y) (mR y) (mH y)
def cN (o : Nat) : String := match o with
  | 0 => RX0
  | 1 => RX1
  | 2 => RX2
  | 3 => RX3
  | 4 => RX4
  | _ => RL
def cT (o : Nat) : u_T := match o with
  | 0 => TX0
  | 1 => TX1
  | 2 => TX2
  | 3 => TX3
  | _ => TX4
def cY (o : Nat) : Nat → FieldType := match o with
  | 0 => tyX0
  | 1 => tyX1
  | 2 => tyX2
  | 3 => tyX3
  | _ => tyX4
def cF (o : Nat) : Nat := match o with
  | 0 => 1
  | 1 => 14
  | 2 => 2
  | 3 => 5
  | _ => 11
def mW (y : Nat) : List Cond := mCode y :: lw_gd
def mChk (y : Nat) : Bool := (plainName (mN y).cls && ((mN y).cls == cN (mO y) && (decide ((mN y).cls ≠ "java/lang/invoke/MethodHandle" ∧ (mN y).cls ≠ "java/lang/invoke/VarHandle") && decide ((parseMethodDescriptor (mN y).desc).map (fun d => d.parameters.length) = some (mA y)))))
set_option maxRecDepth 100000 in
theorem mChk_all : (List.range 159).all (fun y => mChk (y + 1)) = true := by decide +kernel
set_option maxRecDepth 100000 in
theorem mC_1 : lw_tbl[79]? = some (.code yX0_init cX0_init 4 (none)) := rfl
set_option maxRecDepth 100000 in
theorem mC_2 : lw_tbl[195]? = some (.code yX0_copyFrom cX0_copyFrom 2 (none)) := rfl
set_option maxRecDepth 100000 in
theorem mC_3 : lw_tbl[205]? = some (.code yX0_sum cX0_sum 3 (some .int)) := rfl
set_option maxRecDepth 100000 in
theorem mC_4 : lw_tbl[213]? = some (.code yX0_get cX0_get 2 (some .int)) := rfl
set_option maxRecDepth 100000 in
theorem mC_5 : lw_tbl[217]? = some (.code yX0_set cX0_set 3 (none)) := rfl
set_option maxRecDepth 100000 in
theorem mC_6 : lw_tbl[262]? = some (.code yX0_firstOf cX0_firstOf 5 (some .int)) := rfl
set_option maxRecDepth 100000 in
theorem mC_7 : lw_tbl[324]? = some (.code yX0_countOf cX0_countOf 6 (some .int)) := rfl
set_option maxRecDepth 100000 in
theorem mC_8 : lw_tbl[477]? = some (.code yX0_close cX0_close 3 (none)) := rfl
set_option maxRecDepth 100000 in
theorem mC_9 : lw_tbl[539]? = some (.code yX0_open cX0_open 4 (none)) := rfl
set_option maxRecDepth 100000 in
theorem mC_10 : lw_tbl[568]? = some (.code yX0_swap cX0_swap 4 (none)) := rfl
set_option maxRecDepth 100000 in
theorem mC_11 : lw_tbl[73]? = some (.code yX1_init cX1_init 1 (none)) := rfl
set_option maxRecDepth 100000 in
theorem mC_12 : lw_tbl[191]? = some (.code yX1_copyFrom cX1_copyFrom 2 (none)) := rfl
set_option maxRecDepth 100000 in
theorem mC_13 : lw_tbl[209]? = some (.code yX1_writeBack cX1_writeBack 2 (none)) := rfl
set_option maxRecDepth 100000 in
theorem mC_14 : lw_tbl[250]? = some (.code yX1_asksToCome cX1_asksToCome 1 (some .int)) := rfl
set_option maxRecDepth 100000 in
theorem mC_15 : lw_tbl[254]? = some (.code yX1_lowestEmptyFrame cX1_lowestEmptyFrame 2 (some .int)) := rfl
set_option maxRecDepth 100000 in
theorem mC_16 : lw_tbl[258]? = some (.code yX1_pageIn cX1_pageIn 2 (some .int)) := rfl
set_option maxRecDepth 100000 in
theorem mC_17 : lw_tbl[266]? = some (.code yX1_victimBy cX1_victimBy 7 (some .int)) := rfl
set_option maxRecDepth 100000 in
theorem mC_18 : lw_tbl[270]? = some (.code yX1_nextUse cX1_nextUse 4 (some .int)) := rfl
set_option maxRecDepth 100000 in
theorem mC_19 : lw_tbl[282]? = some (.code yX1_doNext cX1_doNext 6 (none)) := rfl
set_option maxRecDepth 100000 in
theorem mC_20 : lw_tbl[288]? = some (.code yX1_takeOut cX1_takeOut 2 (none)) := rfl
set_option maxRecDepth 100000 in
theorem mC_21 : lw_tbl[293]? = some (.code yX1_readInto cX1_readInto 3 (none)) := rfl
set_option maxRecDepth 100000 in
theorem mC_22 : lw_tbl[297]? = some (.code yX1_markDone cX1_markDone 4 (none)) := rfl
set_option maxRecDepth 100000 in
theorem mC_23 : lw_tbl[305]? = some (.code yX1_canPinMore cX1_canPinMore 1 (some .boolean)) := rfl
set_option maxRecDepth 100000 in
theorem mC_24 : lw_tbl[309]? = some (.code yX1_pinnedPages cX1_pinnedPages 1 (some .int)) := rfl
set_option maxRecDepth 100000 in
theorem mC_25 : lw_tbl[320]? = some (.code yX1_hits cX1_hits 1 (some .int)) := rfl
set_option maxRecDepth 100000 in
theorem mC_26 : lw_tbl[337]? = some (.code yX1_pagesInFrames cX1_pagesInFrames 1 (some .int)) := rfl
set_option maxRecDepth 100000 in
theorem mC_27 : lw_tbl[454]? = some (.code yX1_firstRead cX1_firstRead 3 (some .int)) := rfl
set_option maxRecDepth 100000 in
theorem mC_28 : lw_tbl[473]? = some (.code yX1_takeAsk cX1_takeAsk 2 (none)) := rfl
set_option maxRecDepth 100000 in
theorem mC_29 : lw_tbl[535]? = some (.code yX1_putAsk cX1_putAsk 4 (none)) := rfl
set_option maxRecDepth 100000 in
theorem mC_30 : lw_tbl[599]? = some (.code yX1_moveDown cX1_moveDown 4 (none)) := rfl
set_option maxRecDepth 100000 in
theorem mC_31 : lw_tbl[147]? = some (.code yX2_init cX2_init 1 (none)) := rfl
set_option maxRecDepth 100000 in
theorem mC_32 : lw_tbl[229]? = some (.code yX2_firstWrong cX2_firstWrong 4 (some .int)) := rfl
set_option maxRecDepth 100000 in
theorem mC_33 : lw_tbl[233]? = some (.code yX2_pageAt cX2_pageAt 3 (some .int)) := rfl
set_option maxRecDepth 100000 in
theorem mC_34 : lw_tbl[237]? = some (.code yX2_codeAt cX2_codeAt 2 (some .int)) := rfl
set_option maxRecDepth 100000 in
theorem mC_35 : lw_tbl[242]? = some (.code yX2_isDigit cX2_isDigit 3 (some .boolean)) := rfl
set_option maxRecDepth 100000 in
theorem mC_36 : lw_tbl[499]? = some (.code yX2_tellsAsks cX2_tellsAsks 1 (some .boolean)) := rfl
set_option maxRecDepth 100000 in
theorem mC_37 : lw_tbl[505]? = some (.code yX2_asksTold cX2_asksTold 3 (some .int)) := rfl
set_option maxRecDepth 100000 in
theorem mC_38 : lw_tbl[509]? = some (.code yX2_timesAt cX2_timesAt 2 (some .int)) := rfl
set_option maxRecDepth 100000 in
theorem mC_39 : lw_tbl[531]? = some (.code yX2_writesAt cX2_writesAt 3 (some .int)) := rfl
set_option maxRecDepth 100000 in
theorem mC_40 : lw_tbl[65]? = some (.code yX3_init cX3_init 2 (none)) := rfl
set_option maxRecDepth 100000 in
theorem mC_41 : lw_tbl[179]? = some (.code yX3_flush cX3_flush 3 (some .int)) := rfl
set_option maxRecDepth 100000 in
theorem mC_42 : lw_tbl[183]? = some (.code yX3_save cX3_save 2 (none)) := rfl
set_option maxRecDepth 100000 in
theorem mC_43 : lw_tbl[187]? = some (.code yX3_dropOldestSaved cX3_dropOldestSaved 3 (none)) := rfl
set_option maxRecDepth 100000 in
theorem mC_44 : lw_tbl[221]? = some (.code yX3_clearBuffer cX3_clearBuffer 2 (some .int)) := rfl
set_option maxRecDepth 100000 in
theorem mC_45 : lw_tbl[225]? = some (.code yX3_firstError cX3_firstError 1 (some .int)) := rfl
set_option maxRecDepth 100000 in
theorem mC_46 : lw_tbl[246]? = some (.code yX3_victim cX3_victim 1 (some .int)) := rfl
set_option maxRecDepth 100000 in
theorem mC_47 : lw_tbl[274]? = some (.code yX3_fewestReads cX3_fewestReads 1 (some .int)) := rfl
set_option maxRecDepth 100000 in
theorem mC_48 : lw_tbl[278]? = some (.code yX3_finishTrial cX3_finishTrial 3 (some .int)) := rfl
set_option maxRecDepth 100000 in
theorem mC_49 : lw_tbl[301]? = some (.code yX3_bestPin cX3_bestPin 5 (some .int)) := rfl
set_option maxRecDepth 100000 in
theorem mC_50 : lw_tbl[316]? = some (.code yX3_hitShare cX3_hitShare 1 (some .double)) := rfl
set_option maxRecDepth 100000 in
theorem mC_51 : lw_tbl[328]? = some (.code yX3_digest cX3_digest 5 (some .long)) := rfl
set_option maxRecDepth 100000 in
theorem mC_52 : lw_tbl[333]? = some (.code yX3_count cX3_count 2 (some .int)) := rfl
set_option maxRecDepth 100000 in
theorem mC_53 : lw_tbl[409]? = some (.code yX3_mixed cX3_mixed 4 (some .long)) := rfl
set_option maxRecDepth 100000 in
theorem mC_54 : lw_tbl[414]? = some (.code yX3_ask cX3_ask 3 (some .int)) := rfl
set_option maxRecDepth 100000 in
theorem mC_55 : lw_tbl[435]? = some (.code yX3_page cX3_page 3 (some .int)) := rfl
set_option maxRecDepth 100000 in
theorem mC_56 : lw_tbl[438]? = some (.code yX3_checkPage cX3_checkPage 1 (none)) := rfl
set_option maxRecDepth 100000 in
theorem mC_57 : lw_tbl[448]? = some (.code yX3_byRule cX3_byRule 4 (some .int)) := rfl
set_option maxRecDepth 100000 in
theorem mC_58 : lw_tbl[459]? = some (.code yX3_framesFor cX3_framesFor 3 (some .int)) := rfl
set_option maxRecDepth 100000 in
theorem mC_59 : lw_tbl[464]? = some (.code yX3_ifDropped cX3_ifDropped 2 (some .int)) := rfl
set_option maxRecDepth 100000 in
theorem mC_60 : lw_tbl[468]? = some (.code yX3_checkToCome cX3_checkToCome 2 (none)) := rfl
set_option maxRecDepth 100000 in
theorem mC_61 : lw_tbl[482]? = some (.code yX3_bitsOfShare cX3_bitsOfShare 8 (some .long)) := rfl
set_option maxRecDepth 100000 in
theorem mC_62 : lw_tbl[495]? = some (.code yX3_extend cX3_extend 3 (some .int)) := rfl
set_option maxRecDepth 100000 in
theorem mC_63 : lw_tbl[548]? = some (.code yX3_insert cX3_insert 4 (some .int)) := rfl
set_option maxRecDepth 100000 in
theorem mC_64 : lw_tbl[557]? = some (.code yX3_drop cX3_drop 3 (some .int)) := rfl
set_option maxRecDepth 100000 in
theorem mC_65 : lw_tbl[564]? = some (.code yX3_exchange cX3_exchange 3 (some .int)) := rfl
set_option maxRecDepth 100000 in
theorem mC_66 : lw_tbl[576]? = some (.code yX3_go cX3_go 4 (some .int)) := rfl
set_option maxRecDepth 100000 in
theorem mC_67 : lw_tbl[584]? = some (.code yX3_pin cX3_pin 3 (some .int)) := rfl
set_option maxRecDepth 100000 in
theorem mC_68 : lw_tbl[592]? = some (.code yX3_frames cX3_frames 3 (some .int)) := rfl
set_option maxRecDepth 100000 in
theorem mC_69 : lw_tbl[606]? = some (.code yX3_append cX3_append 2 (some .int)) := rfl
set_option maxRecDepth 100000 in
theorem mC_70 : lw_tbl[615]? = some (.code yX3_undo cX3_undo 1 (some .int)) := rfl
set_option maxRecDepth 100000 in
theorem mC_71 : lw_tbl[620]? = some (.code yX3_copySaved cX3_copySaved 3 (none)) := rfl
set_option maxRecDepth 100000 in
theorem mC_72 : lw_tbl[635]? = some (.code yX3_frame cX3_frame 2 (some .int)) := rfl
set_option maxRecDepth 100000 in
theorem mC_73 : lw_tbl[657]? = some (.code yX4_init cX4_init 2 (none)) := rfl
set_option maxRecDepth 100000 in
theorem mC_74 : lw_tbl[696]? = some (.code yX4_thrown cX4_thrown 1 (some .int)) := rfl
set_option maxRecDepth 100000 in
theorem mC_75 : lw_tbl[700]? = some (.code yX4_undo cX4_undo 2 (some .int)) := rfl
set_option maxRecDepth 100000 in
theorem mC_76 : lw_tbl[704]? = some (.code yX4_append cX4_append 2 (some .int)) := rfl
set_option maxRecDepth 100000 in
theorem mC_77 : lw_tbl[707]? = some (.code yX4_in cX4_in 3 (some .boolean)) := rfl
set_option maxRecDepth 100000 in
theorem mC_78 : lw_tbl[711]? = some (.code yX4_clearBuffer cX4_clearBuffer 2 (some .int)) := rfl
set_option maxRecDepth 100000 in
theorem mC_79 : lw_tbl[715]? = some (.code yX4_firstError cX4_firstError 1 (some .int)) := rfl
set_option maxRecDepth 100000 in
theorem mC_80 : lw_tbl[719]? = some (.code yX4_readBuffer cX4_readBuffer 3 (some .int)) := rfl
set_option maxRecDepth 100000 in
theorem mC_81 : lw_tbl[722]? = some (.code yX4_isLetter cX4_isLetter 1 (some .boolean)) := rfl
set_option maxRecDepth 100000 in
theorem mC_82 : lw_tbl[726]? = some (.code yX4_extend cX4_extend 5 (some .int)) := rfl
set_option maxRecDepth 100000 in
theorem mC_83 : lw_tbl[730]? = some (.code yX4_asksTyped cX4_asksTyped 3 (some .int)) := rfl
set_option maxRecDepth 100000 in
theorem mC_84 : lw_tbl[734]? = some (.code yX4_timesAt cX4_timesAt 2 (some .int)) := rfl
set_option maxRecDepth 100000 in
theorem mC_85 : lw_tbl[738]? = some (.code yX4_save cX4_save 2 (none)) := rfl
set_option maxRecDepth 100000 in
theorem mC_86 : lw_tbl[742]? = some (.code yX4_layAsk cX4_layAsk 4 (none)) := rfl
set_option maxRecDepth 100000 in
theorem mC_87 : lw_tbl[746]? = some (.code yX4_lay cX4_lay 4 (none)) := rfl
set_option maxRecDepth 100000 in
theorem mC_88 : lw_tbl[750]? = some (.code yX4_insert cX4_insert 5 (some .int)) := rfl
set_option maxRecDepth 100000 in
theorem mC_89 : lw_tbl[753]? = some (.code yX4_isPage cX4_isPage 1 (some .boolean)) := rfl
set_option maxRecDepth 100000 in
theorem mC_90 : lw_tbl[757]? = some (.code yX4_drop cX4_drop 3 (some .int)) := rfl
set_option maxRecDepth 100000 in
theorem mC_91 : lw_tbl[761]? = some (.code yX4_isToCome cX4_isToCome 2 (some .boolean)) := rfl
set_option maxRecDepth 100000 in
theorem mC_92 : lw_tbl[765]? = some (.code yX4_its cX4_its 3 (some .int)) := rfl
set_option maxRecDepth 100000 in
theorem mC_93 : lw_tbl[769]? = some (.code yX4_takeOut cX4_takeOut 3 (none)) := rfl
set_option maxRecDepth 100000 in
theorem mC_94 : lw_tbl[773]? = some (.code yX4_exchange cX4_exchange 5 (some .int)) := rfl
set_option maxRecDepth 100000 in
theorem mC_95 : lw_tbl[777]? = some (.code yX4_go cX4_go 4 (some .int)) := rfl
set_option maxRecDepth 100000 in
theorem mC_96 : lw_tbl[781]? = some (.code yX4_doNext cX4_doNext 7 (some .boolean)) := rfl
set_option maxRecDepth 100000 in
theorem mC_97 : lw_tbl[785]? = some (.code yX4_frameOf cX4_frameOf 4 (some .int)) := rfl
set_option maxRecDepth 100000 in
theorem mC_98 : lw_tbl[789]? = some (.code yX4_emptyFrame cX4_emptyFrame 3 (some .int)) := rfl
set_option maxRecDepth 100000 in
theorem mC_99 : lw_tbl[793]? = some (.code yX4_victimBy cX4_victimBy 6 (some .int)) := rfl
set_option maxRecDepth 100000 in
theorem mC_100 : lw_tbl[796]? = some (.code yX4_has cX4_has 2 (some .boolean)) := rfl
set_option maxRecDepth 100000 in
theorem mC_101 : lw_tbl[800]? = some (.code yX4_worth cX4_worth 4 (some .int)) := rfl
set_option maxRecDepth 100000 in
theorem mC_102 : lw_tbl[804]? = some (.code yX4_useFrom cX4_useFrom 5 (some .int)) := rfl
set_option maxRecDepth 100000 in
theorem mC_103 : lw_tbl[808]? = some (.code yX4_latest cX4_latest 5 (some .int)) := rfl
set_option maxRecDepth 100000 in
theorem mC_104 : lw_tbl[812]? = some (.code yX4_goes cX4_goes 3 (some .boolean)) := rfl
set_option maxRecDepth 100000 in
theorem mC_105 : lw_tbl[816]? = some (.code yX4_pin cX4_pin 2 (some .int)) := rfl
set_option maxRecDepth 100000 in
theorem mC_106 : lw_tbl[819]? = some (.code yX4_bits cX4_bits 3 (some .int)) := rfl
set_option maxRecDepth 100000 in
theorem mC_107 : lw_tbl[823]? = some (.code yX4_frames cX4_frames 3 (some .int)) := rfl
set_option maxRecDepth 100000 in
theorem mC_108 : lw_tbl[827]? = some (.code yX4_inFrames cX4_inFrames 3 (some .int)) := rfl
set_option maxRecDepth 100000 in
theorem mC_109 : lw_tbl[831]? = some (.code yX4_moveDown cX4_moveDown 4 (none)) := rfl
set_option maxRecDepth 100000 in
theorem mC_110 : lw_tbl[835]? = some (.code yX4_flush cX4_flush 3 (some .int)) := rfl
set_option maxRecDepth 100000 in
theorem mC_111 : lw_tbl[839]? = some (.code yX4_ask cX4_ask 3 (some .int)) := rfl
set_option maxRecDepth 100000 in
theorem mC_112 : lw_tbl[843]? = some (.code yX4_toldAsk cX4_toldAsk 3 (some .int)) := rfl
set_option maxRecDepth 100000 in
theorem mC_113 : lw_tbl[847]? = some (.code yX4_page cX4_page 3 (some .int)) := rfl
set_option maxRecDepth 100000 in
theorem mC_114 : lw_tbl[851]? = some (.code yX4_toldPage cX4_toldPage 3 (some .int)) := rfl
set_option maxRecDepth 100000 in
theorem mC_115 : lw_tbl[855]? = some (.code yX4_asksToCome cX4_asksToCome 4 (some .int)) := rfl
set_option maxRecDepth 100000 in
theorem mC_116 : lw_tbl[859]? = some (.code yX4_frame cX4_frame 2 (some .int)) := rfl
set_option maxRecDepth 100000 in
theorem mC_117 : lw_tbl[863]? = some (.code yX4_count cX4_count 2 (some .int)) := rfl
set_option maxRecDepth 100000 in
theorem mC_118 : lw_tbl[867]? = some (.code yX4_counted cX4_counted 2 (some .int)) := rfl
set_option maxRecDepth 100000 in
theorem mC_119 : lw_tbl[871]? = some (.code yX4_hits cX4_hits 3 (some .int)) := rfl
set_option maxRecDepth 100000 in
theorem mC_120 : lw_tbl[875]? = some (.code yX4_allOf cX4_allOf 4 (some .int)) := rfl
set_option maxRecDepth 100000 in
theorem mC_121 : lw_tbl[879]? = some (.code yX4_victim cX4_victim 1 (some .int)) := rfl
set_option maxRecDepth 100000 in
theorem mC_122 : lw_tbl[883]? = some (.code yX4_nextVictim cX4_nextVictim 1 (some .int)) := rfl
set_option maxRecDepth 100000 in
theorem mC_123 : lw_tbl[887]? = some (.code yX4_byRule cX4_byRule 3 (some .int)) := rfl
set_option maxRecDepth 100000 in
theorem mC_124 : lw_tbl[891]? = some (.code yX4_tried cX4_tried 5 (some .int)) := rfl
set_option maxRecDepth 100000 in
theorem mC_125 : lw_tbl[895]? = some (.code yX4_putAside cX4_putAside 2 (none)) := rfl
set_option maxRecDepth 100000 in
theorem mC_126 : lw_tbl[899]? = some (.code yX4_goOn cX4_goOn 5 (some .int)) := rfl
set_option maxRecDepth 100000 in
theorem mC_127 : lw_tbl[903]? = some (.code yX4_bringBack cX4_bringBack 2 (none)) := rfl
set_option maxRecDepth 100000 in
theorem mC_128 : lw_tbl[907]? = some (.code yX4_fewestReads cX4_fewestReads 1 (some .int)) := rfl
set_option maxRecDepth 100000 in
theorem mC_129 : lw_tbl[911]? = some (.code yX4_fewest cX4_fewest 3 (some .int)) := rfl
set_option maxRecDepth 100000 in
theorem mC_130 : lw_tbl[915]? = some (.code yX4_askFor cX4_askFor 4 (none)) := rfl
set_option maxRecDepth 100000 in
theorem mC_131 : lw_tbl[919]? = some (.code yX4_reach cX4_reach 3 (none)) := rfl
set_option maxRecDepth 100000 in
theorem mC_132 : lw_tbl[923]? = some (.code yX4_framesFor cX4_framesFor 2 (some .int)) := rfl
set_option maxRecDepth 100000 in
theorem mC_133 : lw_tbl[927]? = some (.code yX4_enough cX4_enough 4 (some .int)) := rfl
set_option maxRecDepth 100000 in
theorem mC_134 : lw_tbl[931]? = some (.code yX4_ifDropped cX4_ifDropped 2 (some .int)) := rfl
set_option maxRecDepth 100000 in
theorem mC_135 : lw_tbl[935]? = some (.code yX4_without cX4_without 3 (some .int)) := rfl
set_option maxRecDepth 100000 in
theorem mC_136 : lw_tbl[939]? = some (.code yX4_bestPin cX4_bestPin 1 (some .int)) := rfl
set_option maxRecDepth 100000 in
theorem mC_137 : lw_tbl[943]? = some (.code yX4_pinBest cX4_pinBest 5 (some .int)) := rfl
set_option maxRecDepth 100000 in
theorem mC_138 : lw_tbl[947]? = some (.code yX4_hitShare cX4_hitShare 1 (some .double)) := rfl
set_option maxRecDepth 100000 in
theorem mC_139 : lw_tbl[951]? = some (.code yX4_share cX4_share 1 (some .double)) := rfl
set_option maxRecDepth 100000 in
theorem mC_140 : lw_tbl[955]? = some (.code yX4_digest cX4_digest 2 (some .long)) := rfl
set_option maxRecDepth 100000 in
theorem mC_141 : lw_tbl[960]? = some (.code yX4_mix cX4_mix 3 (none)) := rfl
set_option maxRecDepth 100000 in
theorem mC_142 : lw_tbl[965]? = some (.code yX4_mixPlan cX4_mixPlan 3 (none)) := rfl
set_option maxRecDepth 100000 in
theorem mC_143 : lw_tbl[968]? = some (.code yX4_bitsOf cX4_bitsOf 6 (some .long)) := rfl
set_option maxRecDepth 100000 in
theorem mC_144 : lw_tbl[489]? = some (.codeWith yL_extend cL_extend 3 (some .int) [(0, 8, 11, 13), (0, 8, 14, 15)]) := rfl
set_option maxRecDepth 100000 in
theorem mC_145 : lw_tbl[543]? = some (.codeWith yL_insert cL_insert 6 (some .int) [(0, 12, 15, 21), (0, 12, 19, 13), (0, 12, 23, 15)]) := rfl
set_option maxRecDepth 100000 in
theorem mC_146 : lw_tbl[553]? = some (.codeWith yL_drop cL_drop 4 (some .int) [(0, 9, 12, 21)]) := rfl
set_option maxRecDepth 100000 in
theorem mC_147 : lw_tbl[560]? = some (.codeWith yL_exchange cL_exchange 5 (some .int) [(0, 10, 13, 21)]) := rfl
set_option maxRecDepth 100000 in
theorem mC_148 : lw_tbl[572]? = some (.codeWith yL_go cL_go 4 (some .int) [(0, 9, 12, 13)]) := rfl
set_option maxRecDepth 100000 in
theorem mC_149 : lw_tbl[580]? = some (.codeWith yL_pin cL_pin 4 (some .int) [(0, 9, 12, 13), (0, 9, 15, 15)]) := rfl
set_option maxRecDepth 100000 in
theorem mC_150 : lw_tbl[588]? = some (.codeWith yL_frames cL_frames 4 (some .int) [(0, 9, 12, 13), (0, 9, 15, 15)]) := rfl
set_option maxRecDepth 100000 in
theorem mC_151 : lw_tbl[602]? = some (.codeWith yL_append cL_append 4 (some .int) [(0, 9, 12, 13), (0, 9, 15, 15)]) := rfl
set_option maxRecDepth 100000 in
theorem mC_152 : lw_tbl[611]? = some (.codeWith yL_undo cL_undo 3 (some .int) [(0, 8, 11, 15)]) := rfl
set_option maxRecDepth 100000 in
theorem mC_153 : lw_tbl[623]? = some (.codeWith yL_ask cL_ask 5 (some .int) [(0, 10, 13, 21), (0, 10, 17, 13)]) := rfl
set_option maxRecDepth 100000 in
theorem mC_154 : lw_tbl[627]? = some (.codeWith yL_page cL_page 5 (some .int) [(0, 10, 13, 13)]) := rfl
set_option maxRecDepth 100000 in
theorem mC_155 : lw_tbl[631]? = some (.codeWith yL_frame cL_frame 4 (some .int) [(0, 9, 12, 21)]) := rfl
set_option maxRecDepth 100000 in
theorem mC_156 : lw_tbl[639]? = some (.codeWith yL_count cL_count 4 (some .int) [(0, 9, 12, 13)]) := rfl
set_option maxRecDepth 100000 in
theorem mC_157 : lw_tbl[643]? = some (.codeWith yL_byRule cL_byRule 5 (some .int) [(0, 10, 13, 13)]) := rfl
set_option maxRecDepth 100000 in
theorem mC_158 : lw_tbl[647]? = some (.codeWith yL_framesFor cL_framesFor 4 (some .int) [(0, 9, 12, 13)]) := rfl
set_option maxRecDepth 100000 in
theorem mC_159 : lw_tbl[651]? = some (.codeWith yL_ifDropped cL_ifDropped 4 (some .int) [(0, 9, 12, 21)]) := rfl
set_option maxRecDepth 100000 in
theorem mC_all : ∀ y, y < 160 → 0 < y → lw_tbl[(mAt y).2.2.2.2.2.2.1]? = some (mCode y) := lt_s (lt_s (lt_s (lt_s (lt_s (lt_s (lt_s (lt_s (lt_s (lt_s (lt_s (lt_s (lt_s (lt_s (lt_s (lt_s (lt_s (lt_s (lt_s (lt_s (lt_s (lt_s (lt_s (lt_s (lt_s (lt_s (lt_s (lt_s (lt_s (lt_s (lt_s (lt_s (lt_s (lt_s (lt_s (lt_s (lt_s (lt_s (lt_s (lt_s (lt_s (lt_s (lt_s (lt_s (lt_s (lt_s (lt_s (lt_s (lt_s (lt_s (lt_s (lt_s (lt_s (lt_s (lt_s (lt_s (lt_s (lt_s (lt_s (lt_s (lt_s (lt_s (lt_s (lt_s (lt_s (lt_s (lt_s (lt_s (lt_s (lt_s (lt_s (lt_s (lt_s (lt_s (lt_s (lt_s (lt_s (lt_s (lt_s (lt_s (lt_s (lt_s (lt_s (lt_s (lt_s (lt_s (lt_s (lt_s (lt_s (lt_s (lt_s (lt_s (lt_s (lt_s (lt_s (lt_s (lt_s (lt_s (lt_s (lt_s (lt_s (lt_s (lt_s (lt_s (lt_s (lt_s (lt_s (lt_s (lt_s (lt_s (lt_s (lt_s (lt_s (lt_s (lt_s (lt_s (lt_s (lt_s (lt_s (lt_s (lt_s (lt_s (lt_s (lt_s (lt_s (lt_s (lt_s (lt_s (lt_s (lt_s (lt_s (lt_s (lt_s (lt_s (lt_s (lt_s (lt_s (lt_s (lt_s (lt_s (lt_s (lt_s (lt_s (lt_s (lt_s (lt_s (lt_s (lt_s (lt_s (lt_s (lt_s (lt_s (lt_s (lt_s (lt_s (lt_s (lt_s (lt_s (lt_s (lt_s lt_0 (fun h => absurd h (Nat.lt_irrefl 0))) (fun _ => mC_1)) (fun _ => mC_2)) (fun _ => mC_3)) (fun _ => mC_4)) (fun _ => mC_5)) (fun _ => mC_6)) (fun _ => mC_7)) (fun _ => mC_8)) (fun _ => mC_9)) (fun _ => mC_10)) (fun _ => mC_11)) (fun _ => mC_12)) (fun _ => mC_13)) (fun _ => mC_14)) (fun _ => mC_15)) (fun _ => mC_16)) (fun _ => mC_17)) (fun _ => mC_18)) (fun _ => mC_19)) (fun _ => mC_20)) (fun _ => mC_21)) (fun _ => mC_22)) (fun _ => mC_23)) (fun _ => mC_24)) (fun _ => mC_25)) (fun _ => mC_26)) (fun _ => mC_27)) (fun _ => mC_28)) (fun _ => mC_29)) (fun _ => mC_30)) (fun _ => mC_31)) (fun _ => mC_32)) (fun _ => mC_33)) (fun _ => mC_34)) (fun _ => mC_35)) (fun _ => mC_36)) (fun _ => mC_37)) (fun _ => mC_38)) (fun _ => mC_39)) (fun _ => mC_40)) (fun _ => mC_41)) (fun _ => mC_42)) (fun _ => mC_43)) (fun _ => mC_44)) (fun _ => mC_45)) (fun _ => mC_46)) (fun _ => mC_47)) (fun _ => mC_48)) (fun _ => mC_49)) (fun _ => mC_50)) (fun _ => mC_51)) (fun _ => mC_52)) (fun _ => mC_53)) (fun _ => mC_54)) (fun _ => mC_55)) (fun _ => mC_56)) (fun _ => mC_57)) (fun _ => mC_58)) (fun _ => mC_59)) (fun _ => mC_60)) (fun _ => mC_61)) (fun _ => mC_62)) (fun _ => mC_63)) (fun _ => mC_64)) (fun _ => mC_65)) (fun _ => mC_66)) (fun _ => mC_67)) (fun _ => mC_68)) (fun _ => mC_69)) (fun _ => mC_70)) (fun _ => mC_71)) (fun _ => mC_72)) (fun _ => mC_73)) (fun _ => mC_74)) (fun _ => mC_75)) (fun _ => mC_76)) (fun _ => mC_77)) (fun _ => mC_78)) (fun _ => mC_79)) (fun _ => mC_80)) (fun _ => mC_81)) (fun _ => mC_82)) (fun _ => mC_83)) (fun _ => mC_84)) (fun _ => mC_85)) (fun _ => mC_86)) (fun _ => mC_87)) (fun _ => mC_88)) (fun _ => mC_89)) (fun _ => mC_90)) (fun _ => mC_91)) (fun _ => mC_92)) (fun _ => mC_93)) (fun _ => mC_94)) (fun _ => mC_95)) (fun _ => mC_96)) (fun _ => mC_97)) (fun _ => mC_98)) (fun _ => mC_99)) (fun _ => mC_100)) (fun _ => mC_101)) (fun _ => mC_102)) (fun _ => mC_103)) (fun _ => mC_104)) (fun _ => mC_105)) (fun _ => mC_106)) (fun _ => mC_107)) (fun _ => mC_108)) (fun _ => mC_109)) (fun _ => mC_110)) (fun _ => mC_111)) (fun _ => mC_112)) (fun _ => mC_113)) (fun _ => mC_114)) (fun _ => mC_115)) (fun _ => mC_116)) (fun _ => mC_117)) (fun _ => mC_118)) (fun _ => mC_119)) (fun _ => mC_120)) (fun _ => mC_121)) (fun _ => mC_122)) (fun _ => mC_123)) (fun _ => mC_124)) (fun _ => mC_125)) (fun _ => mC_126)) (fun _ => mC_127)) (fun _ => mC_128)) (fun _ => mC_129)) (fun _ => mC_130)) (fun _ => mC_131)) (fun _ => mC_132)) (fun _ => mC_133)) (fun _ => mC_134)) (fun _ => mC_135)) (fun _ => mC_136)) (fun _ => mC_137)) (fun _ => mC_138)) (fun _ => mC_139)) (fun _ => mC_140)) (fun _ => mC_141)) (fun _ => mC_142)) (fun _ => mC_143)) (fun _ => mC_144)) (fun _ => mC_145)) (fun _ => mC_146)) (fun _ => mC_147)) (fun _ => mC_148)) (fun _ => mC_149)) (fun _ => mC_150)) (fun _ => mC_151)) (fun _ => mC_152)) (fun _ => mC_153)) (fun _ => mC_154)) (fun _ => mC_155)) (fun _ => mC_156)) (fun _ => mC_157)) (fun _ => mC_158)) (fun _ => mC_159)
def iniP : List Nat := [50, 49, 51, 48, 52, 47]
theorem ini_all : (List.range 6).all (fun o => inG (iniP.getD o 0) (.initialized (cN o))) = true := by decide +kernel
def fTab : List (Nat × (Nat × (Nat × (Nat × Nat)))) := [(0, (9, (0, (0, 81)))), (1, (14, (1, (0, 86)))), (1, (20, (1, (1, 88)))), (1, (23, (1, (2, 90)))), (1, (26, (1, (3, 92)))), (1, (29, (1, (4, 94)))), (1, (33, (1, (5, 96)))), (1, (36, (1, (6, 98)))), (1, (39, (1, (7, 100)))), (1, (42, (1, (8, 102)))), (1, (45, (1, (9, 104)))), (1, (48, (1, (10, 106)))), (1, (51, (1, (11, 108)))), (1, (54, (1, (12, 109)))), (1, (57, (1, (13, 111)))), (2, (14, (2, (0, 151)))), (2, (20, (2, (1, 153)))), (3, (10, (3, (0, 160)))), (3, (16, (3, (1, 161)))), (3, (19, (3, (2, 162)))), (3, (23, (3, (3, 163)))), (3, (30, (3, (4, 164)))), (3, (45, (1, (4, 95)))), (3, (60, (2, (1, 154)))), (3, (77, (1, (5, 97)))), (3, (97, (1, (0, 87)))), (3, (113, (1, (1, 89)))), (3, (118, (1, (12, 110)))), (3, (127, (1, (9, 105)))), (3, (155, (1, (6, 99)))), (3, (161, (1, (13, 112)))), (3, (171, (2, (0, 152)))), (3, (184, (1, (2, 91)))), (3, (187, (1, (3, 93)))), (3, (192, (1, (7, 101)))), (3, (195, (1, (8, 103)))), (3, (201, (1, (10, 107)))), (4, (7, (4, (1, 660)))), (4, (13, (4, (2, 661)))), (4, (16, (4, (4, 663)))), (4, (19, (4, (5, 664)))), (4, (22, (4, (8, 667)))), (4, (25, (4, (9, 668)))), (4, (28, (4, (0, 659)))), (4, (36, (4, (3, 662)))), (4, (77, (4, (6, 665)))), (4, (141, (4, (7, 666)))), (4, (189, (4, (10, 669))))]
set_option maxRecDepth 100000 in
theorem fTab_ok : (fTab.all fun e => inG e.2.2.2.2 (.fieldLink (cN e.1) e.2.1 (cN e.2.2.1) (cT e.2.2.1 e.2.2.2.1).2.1 (cT e.2.2.1 e.2.2.2.1).2.2.1) && ((cT e.2.2.1 e.2.2.2.1).1 == cN e.2.2.1 && (Nat.blt e.2.2.2.1 (cF e.2.2.1) && Nat.blt e.2.2.1 5))) = true := by decide +kernel
def cTab : List (Nat × (Nat × (Nat × (Nat × Nat)))) := [(1, (9, (0, (75, 76)))), (2, (9, (0, (149, 76)))), (3, (7, (1, (69, 70)))), (3, (27, (2, (143, 144)))), (5, (8, (3, (61, 62)))), (5, (68, (4, (653, 654))))]
set_option maxRecDepth 100000 in
theorem cTab_ok : (cTab.all fun e => inG e.2.2.2.1 (.classLink (cN e.1) e.2.1 (cN e.2.2.1)) && (inG e.2.2.2.2 (.instantiable (cN e.2.2.1) (cF e.2.2.1)) && Nat.blt e.2.2.1 5)) = true := by decide +kernel
def vTab : List (Nat × (Nat × (Nat × (Nat × (Nat × Nat))))) := [(0, (15, (4, (569, (211, 212))))), (0, (19, (5, (540, (215, 216))))), (1, (60, (2, (192, (193, 194))))), (1, (64, (7, (321, (322, 323))))), (1, (68, (3, (310, (203, 204))))), (1, (72, (24, (306, (307, 308))))), (1, (75, (6, (259, (260, 261))))), (1, (78, (16, (255, (256, 257))))), (1, (82, (4, (210, (211, 212))))), (1, (85, (9, (536, (537, 538))))), (1, (88, (8, (474, (475, 476))))), (1, (92, (18, (267, (268, 269))))), (1, (96, (15, (283, (252, 253))))), (1, (99, (17, (284, (264, 265))))), (1, (102, (20, (285, (286, 287))))), (1, (105, (21, (290, (292, 3))))), (1, (108, (22, (294, (296, 4))))), (1, (112, (5, (214, (215, 216))))), (1, (115, (13, (289, (207, 208))))), (2, (24, (4, (238, (211, 212))))), (2, (28, (34, (234, (235, 236))))), (2, (31, (33, (230, (231, 232))))), (2, (34, (35, (239, (240, 241))))), (2, (38, (38, (506, (507, 508))))), (2, (41, (32, (500, (227, 228))))), (3, (34, (36, (496, (497, 498))))), (3, (48, (37, (502, (503, 504))))), (3, (57, (42, (180, (182, 0))))), (3, (63, (38, (526, (507, 508))))), (3, (67, (33, (527, (231, 232))))), (3, (70, (39, (528, (529, 530))))), (3, (73, (29, (532, (533, 534))))), (3, (91, (14, (247, (248, 249))))), (3, (94, (60, (465, (467, 6))))), (3, (101, (4, (311, (211, 212))))), (3, (106, (28, (470, (471, 472))))), (3, (109, (10, (565, (566, 567))))), (3, (121, (3, (202, (203, 204))))), (3, (124, (19, (279, (280, 281))))), (3, (130, (23, (302, (303, 304))))), (3, (135, (5, (312, (215, 216))))), (3, (138, (24, (338, (307, 308))))), (3, (145, (26, (334, (335, 336))))), (3, (148, (17, (263, (264, 265))))), (3, (152, (20, (595, (286, 287))))), (3, (158, (30, (596, (597, 598))))), (3, (164, (13, (206, (207, 208))))), (3, (174, (32, (226, (227, 228))))), (3, (179, (71, (617, (619, 7))))), (3, (198, (18, (440, (268, 269))))), (3, (204, (7, (441, (322, 323))))), (3, (212, (16, (443, (256, 257))))), (3, (215, (25, (317, (318, 319))))), (3, (220, (15, (251, (252, 253))))), (3, (227, (12, (188, (189, 190))))), (3, (231, (48, (275, (277, 2))))), (3, (234, (27, (451, (452, 453))))), (3, (241, (52, (330, (331, 332))))), (3, (248, (54, (411, (412, 413))))), (3, (251, (55, (432, (433, 434))))), (3, (254, (46, (444, (244, 245))))), (3, (257, (57, (445, (446, 447))))), (3, (260, (47, (455, (272, 273))))), (3, (263, (58, (456, (457, 458))))), (3, (266, (59, (461, (462, 463))))), (3, (269, (49, (478, (299, 300))))), (3, (272, (50, (479, (314, 315))))), (3, (280, (34, (486, (235, 236))))), (3, (287, (43, (184, (186, 1))))), (4, (39, (92, (762, (764, 15))))), (4, (43, (102, (801, (803, 22))))), (4, (46, (103, (805, (807, 23))))), (4, (50, (97, (782, (784, 18))))), (4, (58, (101, (797, (799, 21))))), (4, (62, (98, (786, (788, 19))))), (4, (66, (99, (790, (792, 20))))), (4, (69, (104, (809, (811, 24))))), (4, (73, (87, (743, (745, 13))))), (4, (83, (80, (716, (718, 8))))), (4, (86, (84, (731, (733, 10))))), (4, (89, (83, (727, (729, 9))))), (4, (92, (85, (735, (737, 11))))), (4, (95, (86, (739, (741, 12))))), (4, (101, (91, (758, (760, 14))))), (4, (104, (93, (766, (768, 16))))), (4, (108, (96, (778, (780, 17))))), (4, (114, (108, (824, (826, 25))))), (4, (117, (109, (828, (830, 26))))), (4, (120, (112, (840, (842, 27))))), (4, (123, (115, (852, (854, 29))))), (4, (126, (114, (848, (850, 28))))), (4, (129, (119, (868, (870, 31))))), (4, (132, (120, (872, (874, 32))))), (4, (135, (118, (864, (866, 30))))), (4, (138, (122, (880, (882, 33))))), (4, (144, (125, (892, (894, 35))))), (4, (147, (126, (896, (898, 36))))), (4, (150, (127, (900, (902, 37))))), (4, (153, (124, (888, (890, 34))))), (4, (156, (131, (916, (918, 40))))), (4, (160, (130, (912, (914, 39))))), (4, (163, (129, (908, (910, 38))))), (4, (166, (133, (924, (926, 41))))), (4, (169, (135, (932, (934, 42))))), (4, (172, (137, (940, (942, 43))))), (4, (175, (139, (948, (950, 44))))), (4, (193, (141, (957, (959, 45))))), (4, (199, (142, (962, (964, 46))))), (5, (7, (62, (492, (493, 494))))), (5, (17, (63, (545, (546, 547))))), (5, (23, (64, (554, (555, 556))))), (5, (27, (65, (561, (562, 563))))), (5, (31, (66, (573, (574, 575))))), (5, (34, (67, (581, (582, 583))))), (5, (37, (68, (589, (590, 591))))), (5, (40, (69, (603, (604, 605))))), (5, (43, (70, (612, (613, 614))))), (5, (46, (54, (624, (412, 413))))), (5, (49, (55, (628, (433, 434))))), (5, (52, (72, (632, (633, 634))))), (5, (55, (52, (640, (331, 332))))), (5, (58, (57, (644, (446, 447))))), (5, (61, (58, (648, (457, 458))))), (5, (64, (59, (652, (462, 463))))), (5, (76, (82, (723, (724, 725))))), (5, (77, (74, (693, (694, 695))))), (5, (83, (88, (747, (748, 749))))), (5, (87, (90, (754, (755, 756))))), (5, (91, (94, (770, (771, 772))))), (5, (94, (95, (774, (775, 776))))), (5, (97, (105, (813, (814, 815))))), (5, (100, (107, (820, (821, 822))))), (5, (101, (41, (176, (177, 178))))), (5, (104, (110, (832, (833, 834))))), (5, (107, (76, (701, (702, 703))))), (5, (108, (44, (218, (219, 220))))), (5, (111, (78, (708, (709, 710))))), (5, (112, (45, (222, (223, 224))))), (5, (115, (79, (712, (713, 714))))), (5, (118, (75, (697, (698, 699))))), (5, (121, (111, (836, (837, 838))))), (5, (124, (113, (844, (845, 846))))), (5, (127, (116, (856, (857, 858))))), (5, (130, (117, (860, (861, 862))))), (5, (131, (46, (243, (244, 245))))), (5, (134, (121, (876, (877, 878))))), (5, (137, (123, (884, (885, 886))))), (5, (138, (47, (271, (272, 273))))), (5, (141, (128, (904, (905, 906))))), (5, (144, (132, (920, (921, 922))))), (5, (147, (134, (928, (929, 930))))), (5, (148, (49, (298, (299, 300))))), (5, (151, (136, (936, (937, 938))))), (5, (152, (50, (313, (314, 315))))), (5, (156, (138, (944, (945, 946))))), (5, (157, (51, (325, (326, 327))))), (5, (161, (140, (952, (953, 954)))))]
set_option maxRecDepth 100000 in
theorem vTab_ok : (vTab.all fun e => inG e.2.2.2.1 (.methodLink (cN e.1) e.2.1 (mN e.2.2.1)) && (inG e.2.2.2.2.1 (.instanceMethod (mN e.2.2.1)) && (inG e.2.2.2.2.2 (.selects (cN (mO e.2.2.1)) (mN e.2.2.1) (mN e.2.2.1)) && (Nat.blt e.2.2.1 160 && (Nat.blt 0 e.2.2.1 && (mH e.2.2.1).isEmpty))))) = true := by decide +kernel
def sTab : List (Nat × (Nat × (Nat × (Nat × Nat)))) := [(3, (85, (56, (436, 437)))), (3, (244, (53, (407, 408)))), (3, (276, (61, (480, 481)))), (4, (32, (77, (705, 706)))), (4, (54, (100, (794, 795)))), (4, (80, (81, (720, 721)))), (4, (98, (89, (751, 752)))), (4, (111, (106, (817, 818)))), (4, (202, (143, (966, 967)))), (5, (71, (144, (487, 488)))), (5, (80, (145, (541, 542)))), (5, (84, (146, (551, 552)))), (5, (88, (147, (558, 559)))), (5, (92, (148, (570, 571)))), (5, (95, (149, (578, 579)))), (5, (98, (150, (586, 587)))), (5, (105, (151, (600, 601)))), (5, (116, (152, (609, 610)))), (5, (119, (153, (621, 622)))), (5, (122, (154, (625, 626)))), (5, (125, (155, (629, 630)))), (5, (128, (156, (637, 638)))), (5, (135, (157, (641, 642)))), (5, (142, (158, (645, 646)))), (5, (145, (159, (649, 650))))]
set_option maxRecDepth 100000 in
theorem sTab_ok : (sTab.all fun e => inG e.2.2.2.1 (.methodLink (cN e.1) e.2.1 (mN e.2.2.1)) && (inG e.2.2.2.2 (.static (mN e.2.2.1)) && (Nat.blt e.2.2.1 160 && (Nat.blt 0 e.2.2.1 && Nat.beq (mO e.2.2.1) e.1)))) = true := by decide +kernel
def pTab : List (Nat × (Nat × (Nat × (Nat × (Nat × Nat))))) := [(1, (11, (1, (0, (77, 78))))), (2, (11, (1, (0, (150, 78))))), (3, (9, (11, (1, (71, 72))))), (3, (29, (31, (1, (145, 146))))), (5, (67, (40, (0, (63, 64))))), (5, (70, (73, (0, (655, 656)))))]
set_option maxRecDepth 100000 in
theorem pTab_ok : (pTab.all fun e => (if e.2.2.2.1 = 1 then decide (lw_tbl[e.2.2.2.2.1]? = some (.methodLinkNest (cN e.1) e.2.1 (mN e.2.2.1) RX3)) else inG e.2.2.2.2.1 (.methodLink (cN e.1) e.2.1 (mN e.2.2.1))) && (inG e.2.2.2.2.2 (.instanceMethod (mN e.2.2.1)) && ((mN e.2.2.1).name == "<init>" && (Nat.blt e.2.2.1 160 && (Nat.blt 0 e.2.2.1 && ((mH e.2.2.1).isEmpty && decide (mR e.2.2.1 = none))))))) = true := by decide +kernel
def oTab : List (Nat × (Nat × (Nat × Nat))) := [(0, (3, (0, 80))), (0, (23, (1, 196))), (0, (29, (2, 199))), (1, (3, (0, 74))), (2, (3, (0, 148))), (3, (1, (0, 66))), (4, (1, (0, 658)))]
def oName (k : Nat) : MethodName := match k with
  | 0 => Lib.objectInit
  | 1 => Lib.Math.min.name
  | _ => arraycopyName
set_option maxRecDepth 100000 in
theorem oTab_ok : (oTab.all fun e => inG e.2.2.2 (.methodLink (cN e.1) e.2.1 (oName e.2.2.1))) = true := by decide +kernel
theorem oWords : (inG 67 (.instanceMethod Lib.objectInit) && (inG 68 (.code Lib.objectInit ⟨#[0xb1]⟩ 1 none) && (inG 197 (.static Lib.Math.min.name) && (inG 58 (.initialized "java/lang/Math") && (inG 198 (.code Lib.Math.min.name Lib.Math.min.code 2 (some .int)) && (inG 201 (.native arraycopyName) && (inG 200 (.static arraycopyName) && (inG 59 (.initialized "java/lang/System") && (inG 85 (.arrayClass .int) && inG 973 (.arrayClass .long)))))))))) = true := by decide +kernel
def kTab : List (Nat × (Nat × ((Int64 ⊕ UInt64) × Nat))) := [(3, (239, (.inl 3001, 329))), (3, (290, (.inl 31, 410))), (3, (292, (.inl 1023, 483))), (3, (294, (.inr 4611686018427387904, 484))), (3, (296, (.inr 4841369599423283200, 485))), (4, (179, (.inl 1023, 969))), (4, (181, (.inr 4611686018427387904, 970))), (4, (183, (.inr 4841369599423283200, 971))), (4, (185, (.inl 4503599627370496, 972))), (4, (187, (.inl 31, 961))), (4, (197, (.inl 3001, 956)))]
def kCond (o i : Nat) (v : Int64 ⊕ UInt64) : Cond := match v with
  | .inl x => .constantLong (cN o) i x
  | .inr x => .constantDouble (cN o) i x
theorem kTab_ok : (kTab.all fun e => inG e.2.2.2 (kCond e.1 e.2.1 e.2.2.1)) = true := by decide +kernel
def fwP : List (List Nat) := [[82], [113, 115, 117, 119, 121, 123, 125, 127, 129, 131, 133, 135, 137, 139], [155, 157], [165, 167, 169, 171, 173], [670, 672, 674, 676, 678, 680, 682, 684, 686, 688, 690]]
set_option maxRecDepth 100000 in
theorem fwP_ok : ((List.range 5).all fun o => (List.range (cF o)).all fun k => inG ((fwP.getD o []).getD k 0) (u_lay (cN o) (cT o) k)) = true := by decide +kernel
def eN (E : Nat) : String := match E with
  | 0 => "java/lang/IllegalArgumentException"
  | 1 => "java/lang/IllegalStateException"
  | _ => "java/lang/IndexOutOfBoundsException"
def txt (k : Nat) : String := (["what is not 0 to 9", "no such ask", "what is not 0 to 3", "what is not 0 to 7", "page is not 0 to 7", "rule is not 0 to 2", "what is not 0 to 2", "reads is below 0", "no such ask to come", "the buffer does not tell asks", "the plan would have too many asks", "no such place to come", "the plan is full", "asks is not 1 to 80", "no more pages can be pinned", "frames is not 1 to 6", "too many pages are pinned", "code is not 33 to 126", "the buffer is full", "there is no saved state", "no such frame"] : List String).getD k ""
def txtI (k : Nat) : Nat := ([218, 182, 190, 208, 283, 223, 225, 237, 285, 40, 54, 82, 89, 116, 133, 141, 143, 167, 169, 177, 210] : List Nat).getD k 0
-- throws: method, pc: exception, class entry, text entry, init entry, text, wide
def xTab : List (Nat × (Nat × (Nat × (Nat × (Nat × (Nat × (Nat × Nat))))))) := [(52, (142, (0, (38, (218, (42, (0, 0))))))), (54, (15, (2, (80, (182, (84, (1, 0))))))), (54, (134, (0, (38, (190, (42, (2, 0))))))), (55, (166, (0, (38, (208, (42, (3, 0))))))), (56, (10, (0, (38, (283, (42, (4, 1))))))), (57, (9, (0, (38, (223, (42, (5, 0))))))), (57, (28, (0, (38, (225, (42, (6, 0))))))), (58, (4, (0, (38, (237, (42, (7, 0))))))), (60, (22, (2, (80, (285, (84, (8, 1))))))), (62, (10, (0, (38, (40, (42, (9, 0))))))), (62, (40, (1, (52, (54, (56, (10, 0))))))), (63, (22, (2, (80, (82, (84, (11, 0))))))), (63, (48, (1, (52, (89, (56, (12, 0))))))), (66, (11, (0, (38, (116, (42, (13, 0))))))), (67, (38, (1, (52, (133, (56, (14, 0))))))), (68, (11, (0, (38, (141, (42, (15, 0))))))), (68, (34, (1, (52, (143, (56, (16, 0))))))), (69, (12, (0, (38, (167, (42, (17, 0))))))), (69, (34, (1, (52, (169, (56, (18, 0))))))), (70, (8, (1, (52, (177, (56, (19, 0))))))), (72, (15, (2, (80, (210, (84, (20, 0)))))))]
def xDec (y pc : Nat) (v : Nat × (Nat × (Nat × (Nat × (Nat × Nat))))) : Prop := if v.2.2.2.2.2 = 1 then
    decode (mB y) pc = .ok (.new v.2.1, 3) ∧ decode (mB y) (pc + 3) = .ok (.dup, 1) ∧ decode (mB y) (pc + 4) = .ok (.ldc_w v.2.2.1, 3) ∧ decode (mB y) (pc + 7) = .ok (.invokespecial v.2.2.2.1, 3) ∧ decode (mB y) (pc + 10) = .ok (.athrow, 1)
  else decode (mB y) pc = .ok (.new v.2.1, 3) ∧ decode (mB y) (pc + 3) = .ok (.dup, 1) ∧ decode (mB y) (pc + 4) = .ok (.ldc v.2.2.1, 2) ∧ decode (mB y) (pc + 6) = .ok (.invokespecial v.2.2.2.1, 3) ∧ decode (mB y) (pc + 9) = .ok (.athrow, 1)
-- handlers: method, exception: row of its table, handler pc, pc behind the store, local, wide
def hTab : List (Nat × (Nat × (Nat × (Nat × (Nat × (Nat × Nat)))))) := [(144, (0, (0, (11, (12, (2, 0)))))), (144, (1, (1, (14, (15, (2, 0)))))), (145, (0, (1, (19, (21, (5, 1)))))), (145, (1, (2, (23, (25, (5, 1)))))), (145, (2, (0, (15, (17, (5, 1)))))), (146, (2, (0, (12, (13, (3, 0)))))), (147, (2, (0, (13, (15, (4, 1)))))), (148, (0, (0, (12, (13, (3, 0)))))), (149, (0, (0, (12, (13, (3, 0)))))), (149, (1, (1, (15, (16, (3, 0)))))), (150, (0, (0, (12, (13, (3, 0)))))), (150, (1, (1, (15, (16, (3, 0)))))), (151, (0, (0, (12, (13, (3, 0)))))), (151, (1, (1, (15, (16, (3, 0)))))), (152, (1, (0, (11, (12, (2, 0)))))), (153, (0, (1, (17, (19, (4, 1)))))), (153, (2, (0, (13, (15, (4, 1)))))), (154, (0, (0, (13, (15, (4, 1)))))), (155, (2, (0, (12, (13, (3, 0)))))), (156, (0, (0, (12, (13, (3, 0)))))), (157, (0, (0, (13, (15, (4, 1)))))), (158, (0, (0, (12, (13, (3, 0)))))), (159, (2, (0, (12, (13, (3, 0))))))]
def rF (y : Nat) : Nat := ([9, 1, 1, 0, 0, 0, 0, 0, 0, 1, 1, 2, 2, 1, 0, 2, 1, 2, 1, 3, 2, 1, 1, 2, 1, 1, 1, 1, 1, 2, 2, 2, 3, 2, 1, 2, 4, 4, 3, 2, 3, 4, 3, 0, 0, 4, 3, 5, 4, 5, 2, 8, 6, 0, 6, 7, 6, 6, 6, 7, 6, 0, 6, 7, 7, 7, 6, 7, 6, 6, 6, 3, 6, 1, 0, 0, 1, 0, 0, 3, 2, 1, 4, 3, 2, 0, 1, 0, 2, 1, 2, 1, 0, 0, 2, 5, 4, 0, 0, 3, 0, 2, 1, 1, 1, 2, 0, 4, 0, 0, 1, 2, 1, 3, 2, 1, 1, 3, 2, 1, 0, 5, 4, 7, 6, 0, 5, 0, 3, 2, 1, 0, 7, 6, 7, 6, 7, 6, 3, 2, 7, 0, 3, 0, 7, 8, 8, 8, 7, 8, 7, 7, 7, 7, 8, 7, 7, 7, 7, 8] : List Nat).getD y 0
def rL (y : Nat) : Nat := ([190, 70, 70, 0, 0, 0, 0, 0, 0, 22, 22, 93, 91, 22, 0, 45, 24, 47, 24, 73, 43, 22, 22, 42, 22, 25, 25, 21, 22, 45, 45, 93, 64, 42, 21, 42, 87, 85, 64, 42, 113, 133, 112, 0, 0, 87, 73, 120, 98, 120, 45, 144, 100, 0, 100, 120, 100, 120, 120, 121, 100, 0, 133, 133, 133, 133, 133, 133, 133, 100, 134, 112, 100, 70, 0, 0, 22, 0, 0, 64, 42, 22, 85, 63, 42, 0, 23, 0, 46, 22, 43, 22, 0, 0, 46, 120, 94, 0, 0, 69, 0, 46, 22, 22, 23, 42, 0, 94, 0, 0, 22, 44, 22, 68, 46, 22, 22, 65, 44, 22, 0, 114, 94, 168, 144, 0, 120, 0, 67, 45, 22, 0, 167, 144, 166, 144, 168, 144, 64, 44, 168, 0, 68, 0, 155, 156, 155, 155, 156, 155, 155, 121, 154, 122, 142, 121, 121, 143, 142, 142] : List Nat).getD y 0
