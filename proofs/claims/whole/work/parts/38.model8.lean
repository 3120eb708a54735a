theorem hdX7_drawn : yX7_drawn.cls = RX7 ∧ yX7_drawn.cls ≠ "java/lang/invoke/MethodHandle" ∧ yX7_drawn.cls ≠ "java/lang/invoke/VarHandle" ∧ (parseMethodDescriptor yX7_drawn.desc).map (fun d => d.parameters.length) = some 1 := by decide +kernel
theorem hdX7_keep : yX7_keep.cls = RX7 ∧ yX7_keep.cls ≠ "java/lang/invoke/MethodHandle" ∧ yX7_keep.cls ≠ "java/lang/invoke/VarHandle" ∧ (parseMethodDescriptor yX7_keep.desc).map (fun d => d.parameters.length) = some 1 := by decide +kernel
theorem hdX7_again : yX7_again.cls = RX7 ∧ yX7_again.cls ≠ "java/lang/invoke/MethodHandle" ∧ yX7_again.cls ≠ "java/lang/invoke/VarHandle" ∧ (parseMethodDescriptor yX7_again.desc).map (fun d => d.parameters.length) = some 1 := by decide +kernel
theorem hdX7_manyClash : yX7_manyClash.cls = RX7 ∧ yX7_manyClash.cls ≠ "java/lang/invoke/MethodHandle" ∧ yX7_manyClash.cls ≠ "java/lang/invoke/VarHandle" ∧ (parseMethodDescriptor yX7_manyClash.desc).map (fun d => d.parameters.length) = some 0 := by decide +kernel
theorem hdX7_count : yX7_count.cls = RX7 ∧ yX7_count.cls ≠ "java/lang/invoke/MethodHandle" ∧ yX7_count.cls ≠ "java/lang/invoke/VarHandle" ∧ (parseMethodDescriptor yX7_count.desc).map (fun d => d.parameters.length) = some 1 := by decide +kernel
def j_X7_drawn_106 (rc : Int32 → Int32 → Int64 → Int32 → Int32 → (Nat → Int32) → (Nat → Int32) → (Nat → Int32) → (Nat → Int32) → (Nat → Int32) → (Nat → Int32) → (Nat → Int32) → Option (Int32 × Int64 × Int32 × Int32 × (Nat → Int32) × (Nat → Int32) × (Nat → Int32) × (Nat → Int32) × (Nat → Int32) × (Nat → Int32) × (Nat → Int32))) (N : Nat) (x3 : Int32) (x4 : Int32) (v_t_seed : Int64) (v_t_cases : Int32) (v_t_lastReason : Int32) (r_t_caseFirst : Nat → Int32) (r_t_finds : Nat → Int32) (r_t_label : Nat → Int32) (r_t_reason : Nat → Int32) (r_t_renamed : Nat → Int32) (r_t_trial : Nat → Int32) (r_t_work : Nat → Int32) : Option (Int32 × Int64 × Int32 × Int32 × (Nat → Int32) × (Nat → Int32) × (Nat → Int32) × (Nat → Int32) × (Nat → Int32) × (Nat → Int32) × (Nat → Int32)) :=
  pn_bd6 (f_X7_findAll N v_t_cases v_t_lastReason r_t_caseFirst r_t_finds r_t_label r_t_reason r_t_trial) fun v_t_cases_u1 v_t_lastReason_u1 r_t_caseFirst_u1 r_t_finds_u1 r_t_label_u1 r_t_reason_u1 =>
  pn_bd1 (f_X7_manyFound N r_t_finds_u1) fun ru2 =>
  pn_nm (x3 + ru2) fun z3 =>
  pn_nm (x4 + (1 : Int32)) fun z4 =>
  rc z3 z4 v_t_seed v_t_cases_u1 v_t_lastReason_u1 r_t_caseFirst_u1 r_t_finds_u1 r_t_label_u1 r_t_reason_u1 r_t_renamed r_t_trial r_t_work
def lp_X7_drawn_43 (N : Nat) (p1 : Int32) (x2 : Int32) : Nat → Int32 → Int32 → Int64 → Int32 → Int32 → (Nat → Int32) → (Nat → Int32) → (Nat → Int32) → (Nat → Int32) → (Nat → Int32) → (Nat → Int32) → (Nat → Int32) → Option (Int32 × Int64 × Int32 × Int32 × (Nat → Int32) × (Nat → Int32) × (Nat → Int32) × (Nat → Int32) × (Nat → Int32) × (Nat → Int32) × (Nat → Int32))
  | 0, _, _, _, _, _, _, _, _, _, _, _, _ => none
  | n + 1, x3, x4, v_t_seed, v_t_cases, v_t_lastReason, r_t_caseFirst, r_t_finds, r_t_label, r_t_reason, r_t_renamed, r_t_trial, r_t_work =>
    if p1 ≤ x4 then
  some (x3, v_t_seed, v_t_cases, v_t_lastReason, r_t_caseFirst, r_t_finds, r_t_label, r_t_reason, r_t_renamed, r_t_trial, r_t_work)
  else
  pn_nm ((v_t_seed * (6364136223846793005 : Int64)) + (1442695040888963407 : Int64)) fun z6 =>
  pn_nm (((z6.toUInt64 >>> ((33 : Int32).toInt64.toUInt64 &&& Int64.toUInt64 63)).toInt64).toInt32) fun z7 =>
  if x2 ≤ 0 then
  j_X7_drawn_106 (lp_X7_drawn_43 N p1 x2 n) N x3 x4 z6 v_t_cases v_t_lastReason r_t_caseFirst r_t_finds r_t_label r_t_reason r_t_renamed r_t_trial r_t_work
  else
  pn_nz x2 <|
  pn_nz x2 <|
  pn_bd3 (f_X7_moveOn N r_t_renamed r_t_work r_t_trial (z7 - z7 / x2 * x2) ((z7 / (16 : Int32)) - (z7 / (16 : Int32)) / x2 * x2) ((z7 / (256 : Int32)) - (z7 / (256 : Int32)) / (2 : Int32) * (2 : Int32))) fun r_t_renamed_u11 r_t_work_u11 r_t_trial_u11 =>
  j_X7_drawn_106 (lp_X7_drawn_43 N p1 x2 n) N x3 x4 z6 v_t_cases v_t_lastReason r_t_caseFirst r_t_finds r_t_label r_t_reason r_t_renamed_u11 r_t_trial_u11 r_t_work_u11
def f_X7_drawn (N : Nat) (v_t_thrown : Int32) (v_t_seed : Int64) (v_t_cases : Int32) (v_t_lastReason : Int32) (r_t_caseFirst : Nat → Int32) (r_t_finds : Nat → Int32) (r_t_label : Nat → Int32) (r_t_page : Nat → Int32) (r_t_reason : Nat → Int32) (r_t_renamed : Nat → Int32) (r_t_trial : Nat → Int32) (r_t_work : Nat → Int32) (p1 : Int32) : Option (Int32 × Int32 × Int64 × Int32 × Int32 × (Nat → Int32) × (Nat → Int32) × (Nat → Int32) × (Nat → Int32) × (Nat → Int32) × (Nat → Int32) × (Nat → Int32)) :=
  pn_bd1 (f_X7_in p1.toInt64 (1 : Int64) (20 : Int64)) fun ru12 =>
  if ¬ ru12 = 0 then
  pn_bd1 (f_X7_lay N r_t_trial r_t_page) fun r_t_trial_u14 =>
  pn_rd 265 r_t_page (0 : Int32) fun w15 =>
  pn_bd1 (lp_X7_drawn_43 N p1 w15 N (0 : Int32) (0 : Int32) v_t_seed v_t_cases v_t_lastReason r_t_caseFirst r_t_finds r_t_label r_t_reason r_t_renamed r_t_trial_u14 r_t_work) (fun X43 => (pn_u11 fun x3_w17 v_t_seed_w17 v_t_cases_w17 v_t_lastReason_w17 r_t_caseFirst_w17 r_t_finds_w17 r_t_label_w17 r_t_reason_w17 r_t_renamed_w17 r_t_trial_w17 r_t_work_w17 => some (x3_w17, (0 : Int32), v_t_seed_w17, v_t_cases_w17, v_t_lastReason_w17, r_t_caseFirst_w17, r_t_finds_w17, r_t_label_w17, r_t_reason_w17, r_t_renamed_w17, r_t_trial_w17, r_t_work_w17)) X43)
  else
  some ((-2 : Int32), (0 : Int32), v_t_seed, v_t_cases, v_t_lastReason, r_t_caseFirst, r_t_finds, r_t_label, r_t_reason, r_t_renamed, r_t_trial, r_t_work)
set_option maxHeartbeats 4000000 in
set_option maxRecDepth 100000 in
theorem c_X7_drawn (l : Launch) (D : va_G) (cI cJ cZ : ClassId) (a_t a_t_text a_t_readPage a_t_page a_t_trial a_t_work a_t_book a_t_kept a_t_isKept a_t_seenWhat a_t_seenV a_t_seenIs a_t_label a_t_finds a_t_reason a_t_caseFirst a_t_brief a_t_printed a_t_renamed a_t_worth : Nat) (sz : Nat) (v_t_textSize : Int32) (v_t_place : Int32) (v_t_doings : Int32) (v_t_seen : Int32) (v_t_printedSize : Int32) (N : Nat) (v_t_thrown : Int32) (v_t_seed : Int64) (v_t_cases : Int32) (v_t_lastReason : Int32) (r_t_caseFirst : Nat → Int32) (r_t_finds : Nat → Int32) (r_t_label : Nat → Int32) (r_t_page : Nat → Int32) (r_t_reason : Nat → Int32) (r_t_renamed : Nat → Int32) (r_t_trial : Nat → Int32) (r_t_work : Nat → Int32) (p1 : Int32) (rR : Int32) (o_t_thrown : Int32) (o_t_seed : Int64) (o_t_cases : Int32) (o_t_lastReason : Int32) (o_t_caseFirst : Nat → Int32) (o_t_finds : Nat → Int32) (o_t_label : Nat → Int32) (o_t_reason : Nat → Int32) (o_t_renamed : Nat → Int32) (o_t_trial : Nat → Int32) (o_t_work : Nat → Int32) (hf : f_X7_drawn N v_t_thrown v_t_seed v_t_cases v_t_lastReason r_t_caseFirst r_t_finds r_t_label r_t_page r_t_reason r_t_renamed r_t_trial r_t_work p1 = some (rR, o_t_thrown, o_t_seed, o_t_cases, o_t_lastReason, o_t_caseFirst, o_t_finds, o_t_label, o_t_reason, o_t_renamed, o_t_trial, o_t_work)) : Met l yX7_drawn wsX7_drawn { frames := 7, cells := 0, slots := 0, locals := 168 } (pn_Pc D cI cJ cZ [.ref a_t, .int p1] [(a_t, .inr (6, [.int v_t_thrown, .ref a_t_text, .int v_t_textSize, .int v_t_place, .ref a_t_readPage, .ref a_t_page, .ref a_t_trial, .ref a_t_work, .ref a_t_book, .int v_t_doings, .ref a_t_kept, .ref a_t_isKept, .int v_t_seen, .ref a_t_seenWhat, .ref a_t_seenV, .ref a_t_seenIs, .long v_t_seed, .ref a_t_label, .ref a_t_finds, .ref a_t_reason, .ref a_t_caseFirst, .int v_t_cases, .ref a_t_brief, .ref a_t_printed, .int v_t_printedSize, .ref a_t_renamed, .ref a_t_worth, .int v_t_lastReason])), (a_t_caseFirst, .inl (cI, 32, .inl r_t_caseFirst)), (a_t_finds, .inl (cI, 32, .inl r_t_finds)), (a_t_label, .inl (cI, 32, .inl r_t_label)), (a_t_page, .inl (cI, 265, .inl r_t_page)), (a_t_reason, .inl (cI, 32, .inl r_t_reason)), (a_t_renamed, .inl (cI, 8, .inl r_t_renamed)), (a_t_trial, .inl (cI, 265, .inl r_t_trial)), (a_t_work, .inl (cI, 265, .inl r_t_work))] sz) (pn_Qi D rR [(a_t, .inr (6, [.int o_t_thrown, .ref a_t_text, .int v_t_textSize, .int v_t_place, .ref a_t_readPage, .ref a_t_page, .ref a_t_trial, .ref a_t_work, .ref a_t_book, .int v_t_doings, .ref a_t_kept, .ref a_t_isKept, .int v_t_seen, .ref a_t_seenWhat, .ref a_t_seenV, .ref a_t_seenIs, .long o_t_seed, .ref a_t_label, .ref a_t_finds, .ref a_t_reason, .ref a_t_caseFirst, .int o_t_cases, .ref a_t_brief, .ref a_t_printed, .int v_t_printedSize, .ref a_t_renamed, .ref a_t_worth, .int o_t_lastReason])), (a_t_caseFirst, .inl (cI, 32, .inl o_t_caseFirst)), (a_t_finds, .inl (cI, 32, .inl o_t_finds)), (a_t_label, .inl (cI, 32, .inl o_t_label)), (a_t_page, .inl (cI, 265, .inl r_t_page)), (a_t_reason, .inl (cI, 32, .inl o_t_reason)), (a_t_renamed, .inl (cI, 8, .inl o_t_renamed)), (a_t_trial, .inl (cI, 265, .inl o_t_trial)), (a_t_work, .inl (cI, 265, .inl o_t_work))] (va_A [(a_t, .inr (6, [.int v_t_thrown, .ref a_t_text, .int v_t_textSize, .int v_t_place, .ref a_t_readPage, .ref a_t_page, .ref a_t_trial, .ref a_t_work, .ref a_t_book, .int v_t_doings, .ref a_t_kept, .ref a_t_isKept, .int v_t_seen, .ref a_t_seenWhat, .ref a_t_seenV, .ref a_t_seenIs, .long v_t_seed, .ref a_t_label, .ref a_t_finds, .ref a_t_reason, .ref a_t_caseFirst, .int v_t_cases, .ref a_t_brief, .ref a_t_printed, .int v_t_printedSize, .ref a_t_renamed, .ref a_t_worth, .int v_t_lastReason])), (a_t_caseFirst, .inl (cI, 32, .inl r_t_caseFirst)), (a_t_finds, .inl (cI, 32, .inl r_t_finds)), (a_t_label, .inl (cI, 32, .inl r_t_label)), (a_t_page, .inl (cI, 265, .inl r_t_page)), (a_t_reason, .inl (cI, 32, .inl r_t_reason)), (a_t_renamed, .inl (cI, 8, .inl r_t_renamed)), (a_t_trial, .inl (cI, 265, .inl r_t_trial)), (a_t_work, .inl (cI, 265, .inl r_t_work))] sz)) 0 0 (va_A [(a_t, .inr (6, [.int v_t_thrown, .ref a_t_text, .int v_t_textSize, .int v_t_place, .ref a_t_readPage, .ref a_t_page, .ref a_t_trial, .ref a_t_work, .ref a_t_book, .int v_t_doings, .ref a_t_kept, .ref a_t_isKept, .int v_t_seen, .ref a_t_seenWhat, .ref a_t_seenV, .ref a_t_seenIs, .long v_t_seed, .ref a_t_label, .ref a_t_finds, .ref a_t_reason, .ref a_t_caseFirst, .int v_t_cases, .ref a_t_brief, .ref a_t_printed, .int v_t_printedSize, .ref a_t_renamed, .ref a_t_worth, .int v_t_lastReason])), (a_t_caseFirst, .inl (cI, 32, .inl r_t_caseFirst)), (a_t_finds, .inl (cI, 32, .inl r_t_finds)), (a_t_label, .inl (cI, 32, .inl r_t_label)), (a_t_page, .inl (cI, 265, .inl r_t_page)), (a_t_reason, .inl (cI, 32, .inl r_t_reason)), (a_t_renamed, .inl (cI, 8, .inl r_t_renamed)), (a_t_trial, .inl (cI, 265, .inl r_t_trial)), (a_t_work, .inl (cI, 265, .inl r_t_work))] sz) := by
  refine pn_entry (cc := cX7_drawn) (maxL := 6) (ret := (some .int)) (Qf := pn_Qi D rR [(a_t, .inr (6, [.int o_t_thrown, .ref a_t_text, .int v_t_textSize, .int v_t_place, .ref a_t_readPage, .ref a_t_page, .ref a_t_trial, .ref a_t_work, .ref a_t_book, .int v_t_doings, .ref a_t_kept, .ref a_t_isKept, .int v_t_seen, .ref a_t_seenWhat, .ref a_t_seenV, .ref a_t_seenIs, .long o_t_seed, .ref a_t_label, .ref a_t_finds, .ref a_t_reason, .ref a_t_caseFirst, .int o_t_cases, .ref a_t_brief, .ref a_t_printed, .int v_t_printedSize, .ref a_t_renamed, .ref a_t_worth, .int o_t_lastReason])), (a_t_caseFirst, .inl (cI, 32, .inl o_t_caseFirst)), (a_t_finds, .inl (cI, 32, .inl o_t_finds)), (a_t_label, .inl (cI, 32, .inl o_t_label)), (a_t_page, .inl (cI, 265, .inl r_t_page)), (a_t_reason, .inl (cI, 32, .inl o_t_reason)), (a_t_renamed, .inl (cI, 8, .inl o_t_renamed)), (a_t_trial, .inl (cI, 265, .inl o_t_trial)), (a_t_work, .inl (cI, 265, .inl o_t_work))]) (by decide) rfl (Nat.le_of_ble_eq_true rfl) ?_
  intro p e s m args below meth c A ls H locs Qm hQ hx hb hr hlocks hml hown hts hK hP hD hA hS hl
  have hl : lv_has ls 6 [(0, .ref a_t), (1, .int p1)] := hl
  have hinX7 : ∀ w ∈ wsX70, w ∈ wsX7_drawn := by decide +kernel
  have fl_16 := hts (.fieldLink RX7 16 "PointingNotesModel" "page" "[I") (by decide +kernel)
  have fl_19 := hts (.fieldLink RX7 19 "PointingNotesModel" "trial" "[I") (by decide +kernel)
  have fl_68 := hts (.fieldLink RX7 68 "PointingNotesModel" "thrown" "I") (by decide +kernel)
  have fl_333 := hts (.fieldLink RX7 333 "PointingNotesModel" "seed" "J") (by decide +kernel)
  have kl_337 := hts (.constantLong RX7 337 (20)) (by decide +kernel)
  have kl_339 := hts (.constantLong RX7 339 (6364136223846793005)) (by decide +kernel)
  have kl_341 := hts (.constantLong RX7 341 (1442695040888963407)) (by decide +kernel)
  rw [f_X7_drawn] at hf
  have lp43 : ∀ (n : Nat) (x2 : Int32) (x3 : Int32) (x4 : Int32) (v_t_thrown : Int32) (v_t_seed : Int64) (v_t_cases : Int32) (v_t_lastReason : Int32) (r_t_caseFirst : Nat → Int32) (r_t_finds : Nat → Int32) (r_t_label : Nat → Int32) (r_t_reason : Nat → Int32) (r_t_renamed : Nat → Int32) (r_t_trial : Nat → Int32) (r_t_work : Nat → Int32) (X : Int32 × Int64 × Int32 × Int32 × (Nat → Int32) × (Nat → Int32) × (Nat → Int32) × (Nat → Int32) × (Nat → Int32) × (Nat → Int32) × (Nat → Int32)) (H : Heap) (locs : List Loc) (ls : Array Slot), lp_X7_drawn_43 N p1 x2 n x3 x4 v_t_seed v_t_cases v_t_lastReason r_t_caseFirst r_t_finds r_t_label r_t_reason r_t_renamed r_t_trial r_t_work = some X → va_P D vwCl [(a_t, .inr (6, [.int v_t_thrown, .ref a_t_text, .int v_t_textSize, .int v_t_place, .ref a_t_readPage, .ref a_t_page, .ref a_t_trial, .ref a_t_work, .ref a_t_book, .int v_t_doings, .ref a_t_kept, .ref a_t_isKept, .int v_t_seen, .ref a_t_seenWhat, .ref a_t_seenV, .ref a_t_seenIs, .long v_t_seed, .ref a_t_label, .ref a_t_finds, .ref a_t_reason, .ref a_t_caseFirst, .int v_t_cases, .ref a_t_brief, .ref a_t_printed, .int v_t_printedSize, .ref a_t_renamed, .ref a_t_worth, .int v_t_lastReason])), (a_t_caseFirst, .inl (cI, 32, .inl r_t_caseFirst)), (a_t_finds, .inl (cI, 32, .inl r_t_finds)), (a_t_label, .inl (cI, 32, .inl r_t_label)), (a_t_page, .inl (cI, 265, .inl r_t_page)), (a_t_reason, .inl (cI, 32, .inl r_t_reason)), (a_t_renamed, .inl (cI, 8, .inl r_t_renamed)), (a_t_trial, .inl (cI, 265, .inl r_t_trial)), (a_t_work, .inl (cI, 265, .inl r_t_work))] H → va_S A s.heap H locs → lv_has ls 6 [(0, .ref a_t), (1, .int p1), (2, .int x2), (3, .int x3), (4, .int x4)] → (∀ (y3 : Int32) (v_t_seed' : Int64) (v_t_cases' : Int32) (v_t_lastReason' : Int32) (r_t_caseFirst' : Nat → Int32) (r_t_finds' : Nat → Int32) (r_t_label' : Nat → Int32) (r_t_reason' : Nat → Int32) (r_t_renamed' : Nat → Int32) (r_t_trial' : Nat → Int32) (r_t_work' : Nat → Int32) (H : Heap) (locs : List Loc) (ls : Array Slot), X = (y3, v_t_seed', v_t_cases', v_t_lastReason', r_t_caseFirst', r_t_finds', r_t_label', r_t_reason', r_t_renamed', r_t_trial', r_t_work') → va_P D vwCl [(a_t, .inr (6, [.int v_t_thrown, .ref a_t_text, .int v_t_textSize, .int v_t_place, .ref a_t_readPage, .ref a_t_page, .ref a_t_trial, .ref a_t_work, .ref a_t_book, .int v_t_doings, .ref a_t_kept, .ref a_t_isKept, .int v_t_seen, .ref a_t_seenWhat, .ref a_t_seenV, .ref a_t_seenIs, .long (v_t_seed'), .ref a_t_label, .ref a_t_finds, .ref a_t_reason, .ref a_t_caseFirst, .int (v_t_cases'), .ref a_t_brief, .ref a_t_printed, .int v_t_printedSize, .ref a_t_renamed, .ref a_t_worth, .int (v_t_lastReason')])), (a_t_caseFirst, .inl (cI, 32, .inl (r_t_caseFirst'))), (a_t_finds, .inl (cI, 32, .inl (r_t_finds'))), (a_t_label, .inl (cI, 32, .inl (r_t_label'))), (a_t_page, .inl (cI, 265, .inl r_t_page)), (a_t_reason, .inl (cI, 32, .inl (r_t_reason'))), (a_t_renamed, .inl (cI, 8, .inl (r_t_renamed'))), (a_t_trial, .inl (cI, 265, .inl (r_t_trial'))), (a_t_work, .inl (cI, 265, .inl (r_t_work')))] H → va_S A s.heap H locs → lv_has ls 6 [(3, .int y3)] → W p l e { frames := 7, cells := 0, slots := 0, locals := 168 } s m args below meth c H locs 0 0 Qm (F0 m 127 ls [])) → W p l e { frames := 7, cells := 0, slots := 0, locals := 168 } s m args below meth c H locs 0 0 Qm (F0 m 43 ls []) := by
    intro n
    induction n with
    | zero => intro x2 x3 x4 v_t_thrown v_t_seed v_t_cases v_t_lastReason r_t_caseFirst r_t_finds r_t_label r_t_reason r_t_renamed r_t_trial r_t_work X H locs ls hf; cases hf
    | succ n ih =>
      intro x2 x3 x4 v_t_thrown v_t_seed v_t_cases v_t_lastReason r_t_caseFirst r_t_finds r_t_label r_t_reason r_t_renamed r_t_trial r_t_work X H locs ls hf hP hS hl kx127
      rw [lp_X7_drawn_43] at hf
      have jn106 : ∀ (x3 : Int32) (x4 : Int32) (v_t_seed : Int64) (v_t_cases : Int32) (v_t_lastReason : Int32) (r_t_caseFirst : Nat → Int32) (r_t_finds : Nat → Int32) (r_t_label : Nat → Int32) (r_t_reason : Nat → Int32) (r_t_renamed : Nat → Int32) (r_t_trial : Nat → Int32) (r_t_work : Nat → Int32) (H : Heap) (locs : List Loc) (ls : Array Slot), j_X7_drawn_106 (lp_X7_drawn_43 N p1 x2 n) N x3 x4 v_t_seed v_t_cases v_t_lastReason r_t_caseFirst r_t_finds r_t_label r_t_reason r_t_renamed r_t_trial r_t_work = some X → va_P D vwCl [(a_t, .inr (6, [.int v_t_thrown, .ref a_t_text, .int v_t_textSize, .int v_t_place, .ref a_t_readPage, .ref a_t_page, .ref a_t_trial, .ref a_t_work, .ref a_t_book, .int v_t_doings, .ref a_t_kept, .ref a_t_isKept, .int v_t_seen, .ref a_t_seenWhat, .ref a_t_seenV, .ref a_t_seenIs, .long v_t_seed, .ref a_t_label, .ref a_t_finds, .ref a_t_reason, .ref a_t_caseFirst, .int v_t_cases, .ref a_t_brief, .ref a_t_printed, .int v_t_printedSize, .ref a_t_renamed, .ref a_t_worth, .int v_t_lastReason])), (a_t_caseFirst, .inl (cI, 32, .inl r_t_caseFirst)), (a_t_finds, .inl (cI, 32, .inl r_t_finds)), (a_t_label, .inl (cI, 32, .inl r_t_label)), (a_t_page, .inl (cI, 265, .inl r_t_page)), (a_t_reason, .inl (cI, 32, .inl r_t_reason)), (a_t_renamed, .inl (cI, 8, .inl r_t_renamed)), (a_t_trial, .inl (cI, 265, .inl r_t_trial)), (a_t_work, .inl (cI, 265, .inl r_t_work))] H → va_S A s.heap H locs → lv_has ls 6 [(0, .ref a_t), (1, .int p1), (2, .int x2), (3, .int x3), (4, .int x4)] → W p l e { frames := 7, cells := 0, slots := 0, locals := 168 } s m args below meth c H locs 0 0 Qm (F0 m 106 ls []) := by
        intro x3 x4 v_t_seed v_t_cases v_t_lastReason r_t_caseFirst r_t_finds r_t_label r_t_reason r_t_renamed r_t_trial r_t_work H locs ls hf hP hS hl
        rw [j_X7_drawn_106] at hf
        refine lv_aload_n hx hb dX7_drawn_106 rfl (lv_at hl 0 rfl) ?_
        refine lv_aload_n hx hb dX7_drawn_107 rfl (lv_at hl 0 rfl) ?_
        refine va_get (D := D) (ci := 6) (v := .ref a_t_trial) (C := RX7) (T := TX7) (N := 28) hx hb hts hinX7 hown hK.1 hP 0 rfl rfl 6 (by decide) fl_19 (fun _ h9 => h9) rfl dX7_drawn_108 ?_
        obtain ⟨v_t_cases_u1, v_t_lastReason_u1, r_t_caseFirst_u1, r_t_finds_u1, r_t_label_u1, r_t_reason_u1, hu1, hf⟩ := pn_bd6_at hf
        refine pn_callv [0, 1, 2, 3, 5, 7] (va_runV (As := [.ref a_t_trial]) (rest := []) ⟨hx, hb, hml, hown, hts⟩ (c_X7_findAll l D cI cJ cZ a_t a_t_text a_t_readPage a_t_page a_t_trial a_t_work a_t_book a_t_kept a_t_isKept a_t_seenWhat a_t_seenV a_t_seenIs a_t_label a_t_finds a_t_reason a_t_caseFirst a_t_brief a_t_printed a_t_renamed a_t_worth a_t_trial H.size v_t_thrown v_t_textSize v_t_place v_t_doings v_t_seen v_t_seed v_t_printedSize N v_t_cases v_t_lastReason r_t_caseFirst r_t_finds r_t_label r_t_reason r_t_trial v_t_cases_u1 v_t_lastReason_u1 r_t_caseFirst_u1 r_t_finds_u1 r_t_label_u1 r_t_reason_u1 hu1) (cwV 1 hts gX7_drawn_X7_findAll rfl rfl rfl hdX7_findAll ⟨Nat.le_of_ble_eq_true rfl, Nat.le_of_ble_eq_true rfl⟩) (pn_preV [0, 1, 2, 3, 5, 7] hP (hD.addr rfl) hK rfl rfl (q0 := 0) (ci := 6) rfl rfl) rfl rfl hl.1 rfl (lv_room (Nat.le_of_ble_eq_true rfl)) dX7_drawn_111 ⟨Nat.zero_le _, Nat.zero_le _⟩) hP (hD.addr rfl) hS hA rfl rfl rfl (fun H locs (hP : va_P D vwCl [(a_t, .inr (6, [.int v_t_thrown, .ref a_t_text, .int v_t_textSize, .int v_t_place, .ref a_t_readPage, .ref a_t_page, .ref a_t_trial, .ref a_t_work, .ref a_t_book, .int v_t_doings, .ref a_t_kept, .ref a_t_isKept, .int v_t_seen, .ref a_t_seenWhat, .ref a_t_seenV, .ref a_t_seenIs, .long v_t_seed, .ref a_t_label, .ref a_t_finds, .ref a_t_reason, .ref a_t_caseFirst, .int v_t_cases_u1, .ref a_t_brief, .ref a_t_printed, .int v_t_printedSize, .ref a_t_renamed, .ref a_t_worth, .int v_t_lastReason_u1])), (a_t_caseFirst, .inl (cI, 32, .inl r_t_caseFirst_u1)), (a_t_finds, .inl (cI, 32, .inl r_t_finds_u1)), (a_t_label, .inl (cI, 32, .inl r_t_label_u1)), (a_t_page, .inl (cI, 265, .inl r_t_page)), (a_t_reason, .inl (cI, 32, .inl r_t_reason_u1)), (a_t_renamed, .inl (cI, 8, .inl r_t_renamed)), (a_t_trial, .inl (cI, 265, .inl r_t_trial)), (a_t_work, .inl (cI, 265, .inl r_t_work))] H) _ hS => ?_)
        refine lv_iload_n hx hb dX7_drawn_114 rfl (lv_at hl 3 rfl) ?_
        refine lv_aload_n hx hb dX7_drawn_115 rfl (lv_at hl 0 rfl) ?_
        obtain ⟨ru2, hu2, hf⟩ := pn_bd1_at hf
        refine pn_calli [0, 2] (va_runV (As := []) (rest := [.int x3]) ⟨hx, hb, hml, hown, hts⟩ (c_X7_manyFound l D cI cJ cZ a_t a_t_text a_t_readPage a_t_page a_t_trial a_t_work a_t_book a_t_kept a_t_isKept a_t_seenWhat a_t_seenV a_t_seenIs a_t_label a_t_finds a_t_reason a_t_caseFirst a_t_brief a_t_printed a_t_renamed a_t_worth H.size v_t_thrown v_t_textSize v_t_place v_t_doings v_t_seen v_t_seed v_t_cases_u1 v_t_printedSize v_t_lastReason_u1 N r_t_finds_u1 ru2 hu2) (cwV 0 hts gX7_drawn_X7_manyFound rfl rfl rfl hdX7_manyFound ⟨Nat.le_of_ble_eq_true rfl, Nat.le_of_ble_eq_true rfl⟩) (pn_preV [0, 2] hP (hD.addr rfl) hK rfl rfl (q0 := 0) (ci := 6) rfl rfl) rfl rfl hl.1 rfl (lv_room (Nat.le_of_ble_eq_true rfl)) dX7_drawn_116 ⟨Nat.zero_le _, Nat.zero_le _⟩) hP (hD.addr rfl) hS hA rfl rfl rfl (fun H locs (hP : va_P D vwCl [(a_t, .inr (6, [.int v_t_thrown, .ref a_t_text, .int v_t_textSize, .int v_t_place, .ref a_t_readPage, .ref a_t_page, .ref a_t_trial, .ref a_t_work, .ref a_t_book, .int v_t_doings, .ref a_t_kept, .ref a_t_isKept, .int v_t_seen, .ref a_t_seenWhat, .ref a_t_seenV, .ref a_t_seenIs, .long v_t_seed, .ref a_t_label, .ref a_t_finds, .ref a_t_reason, .ref a_t_caseFirst, .int v_t_cases_u1, .ref a_t_brief, .ref a_t_printed, .int v_t_printedSize, .ref a_t_renamed, .ref a_t_worth, .int v_t_lastReason_u1])), (a_t_caseFirst, .inl (cI, 32, .inl r_t_caseFirst_u1)), (a_t_finds, .inl (cI, 32, .inl r_t_finds_u1)), (a_t_label, .inl (cI, 32, .inl r_t_label_u1)), (a_t_page, .inl (cI, 265, .inl r_t_page)), (a_t_reason, .inl (cI, 32, .inl r_t_reason_u1)), (a_t_renamed, .inl (cI, 8, .inl r_t_renamed)), (a_t_trial, .inl (cI, 265, .inl r_t_trial)), (a_t_work, .inl (cI, 265, .inl r_t_work))] H) _ hS => ?_)
        refine lv_iadd hx hb dX7_drawn_119 ?_
        refine lv_topi (fun z3 ez3 => ?_)
        have hf := pn_nm_at ez3 hf
        refine lv_istore_n (lv' := [(3, .int z3), (0, .ref a_t), (1, .int p1), (2, .int x2), (4, .int x4)]) hx hb dX7_drawn_120 rfl hl (by decide) rfl (fun ls hl => ?_)
        obtain ⟨z4, ez4⟩ : ∃ y : Int32, y = x4 + (1) := ⟨_, rfl⟩
        have hf := pn_nm_at ez4 hf
        refine lv_iinc (v := z4) (lv' := [(4, .int z4), (3, .int z3), (0, .ref a_t), (1, .int p1), (2, .int x2)]) hx hb dX7_drawn_121 hl (k := 4) rfl (by rw [ez4]; rfl) (by decide) rfl (fun ls hl => ?_)
        refine lv_goto (tgt := 43) hx hb dX7_drawn_124 (by decide) ?_
        exact ih x2 z3 z4 v_t_thrown v_t_seed v_t_cases_u1 v_t_lastReason_u1 r_t_caseFirst_u1 r_t_finds_u1 r_t_label_u1 r_t_reason_u1 r_t_renamed r_t_trial r_t_work X H locs ls hf hP hS (lv_sub hl [2, 3, 4, 1, 0] rfl) kx127
      refine lv_iload hx hb dX7_drawn_43 (lv_at hl 4 rfl) ?_
      refine lv_iload_n hx hb dX7_drawn_45 rfl (lv_at hl 1 rfl) ?_
      refine lv_icmp_ge (tgt := 127) hx hb dX7_drawn_46 (by decide) (fun c5 => ?_) (fun c5 => ?_)
      · have hf := pn_ifp c5 hf
        exact kx127 x3 v_t_seed v_t_cases v_t_lastReason r_t_caseFirst r_t_finds r_t_label r_t_reason r_t_renamed r_t_trial r_t_work H locs ls (Option.some.inj hf).symm hP hS (lv_sub hl [3] rfl)
      · have hf := pn_ifn c5 hf
        refine lv_aload_n hx hb dX7_drawn_49 rfl (lv_at hl 0 rfl) ?_
        refine lv_aload_n hx hb dX7_drawn_50 rfl (lv_at hl 0 rfl) ?_
        refine va_get (D := D) (ci := 6) (v := .long v_t_seed) (C := RX7) (T := TX7) (N := 28) hx hb hts hinX7 hown hK.1 hP 0 rfl rfl 16 (by decide) fl_333 (fun _ h9 => h9) rfl dX7_drawn_51 ?_
        refine lv_ldc2 hx hb hown kl_339 dX7_drawn_54 ?_
        refine lv_lmul hx hb dX7_drawn_57 ?_
        refine lv_ldc2 hx hb hown kl_341 dX7_drawn_58 ?_
        refine lv_ladd hx hb dX7_drawn_61 ?_
        refine lv_topl (fun z6 ez6 => ?_)
        have hf := pn_nm_at ez6 hf
        refine va_put (D := D) (ci := 6) (v := .long z6) (ty := .long) (C := RX7) (T := TX7) (N := 28) hx hb hts hinX7 tyX7 tyX7_ok nmX7 hown hK.1 hP (hD.addr rfl) hS 0 rfl rfl 16 (by decide) fl_333 (fun _ h9 => h9) rfl (by decide +kernel) rfl rfl (Nat.le_of_ble_eq_true rfl) dX7_drawn_62 (fun H locs (hP : va_P D vwCl [(a_t, .inr (6, [.int v_t_thrown, .ref a_t_text, .int v_t_textSize, .int v_t_place, .ref a_t_readPage, .ref a_t_page, .ref a_t_trial, .ref a_t_work, .ref a_t_book, .int v_t_doings, .ref a_t_kept, .ref a_t_isKept, .int v_t_seen, .ref a_t_seenWhat, .ref a_t_seenV, .ref a_t_seenIs, .long z6, .ref a_t_label, .ref a_t_finds, .ref a_t_reason, .ref a_t_caseFirst, .int v_t_cases, .ref a_t_brief, .ref a_t_printed, .int v_t_printedSize, .ref a_t_renamed, .ref a_t_worth, .int v_t_lastReason])), (a_t_caseFirst, .inl (cI, 32, .inl r_t_caseFirst)), (a_t_finds, .inl (cI, 32, .inl r_t_finds)), (a_t_label, .inl (cI, 32, .inl r_t_label)), (a_t_page, .inl (cI, 265, .inl r_t_page)), (a_t_reason, .inl (cI, 32, .inl r_t_reason)), (a_t_renamed, .inl (cI, 8, .inl r_t_renamed)), (a_t_trial, .inl (cI, 265, .inl r_t_trial)), (a_t_work, .inl (cI, 265, .inl r_t_work))] H) _ hS => ?_)
        refine lv_aload_n hx hb dX7_drawn_65 rfl (lv_at hl 0 rfl) ?_
        refine va_get (D := D) (ci := 6) (v := .long z6) (C := RX7) (T := TX7) (N := 28) hx hb hts hinX7 hown hK.1 hP 0 rfl rfl 16 (by decide) fl_333 (fun _ h9 => h9) rfl dX7_drawn_66 ?_
        refine lv_bipush (v := (33)) hx hb dX7_drawn_69 (by decide) ?_
        refine lv_lushr hx hb dX7_drawn_71 rfl ?_
        refine lv_l2i hx hb dX7_drawn_72 rfl ?_
        refine lv_topi (fun z7 ez7 => ?_)
        have hf := pn_nm_at ez7 hf
        refine lv_istore (lv' := [(5, .int z7), (0, .ref a_t), (1, .int p1), (2, .int x2), (3, .int x3), (4, .int x4)]) hx hb dX7_drawn_73 hl (by decide) rfl (fun ls hl => ?_)
        refine lv_iload_n hx hb dX7_drawn_75 rfl (lv_at hl 3 rfl) ?_
        refine lv_if_le (tgt := 106) hx hb dX7_drawn_76 (by decide) (fun c8 => ?_) (fun c8 => ?_)
        · have hf := pn_ifp c8 hf
          exact jn106 x3 x4 z6 v_t_cases v_t_lastReason r_t_caseFirst r_t_finds r_t_label r_t_reason r_t_renamed r_t_trial r_t_work H locs ls hf hP hS (lv_sub hl [1, 2, 3, 4, 5] rfl)
        · have hf := pn_ifn c8 hf
          refine lv_aload_n hx hb dX7_drawn_79 rfl (lv_at hl 1 rfl) ?_
          refine lv_aload_n hx hb dX7_drawn_80 rfl (lv_at hl 1 rfl) ?_
          refine va_get (D := D) (ci := 6) (v := .ref a_t_trial) (C := RX7) (T := TX7) (N := 28) hx hb hts hinX7 hown hK.1 hP 0 rfl rfl 6 (by decide) fl_19 (fun _ h9 => h9) rfl dX7_drawn_81 ?_
          refine lv_iload hx hb dX7_drawn_84 (lv_at hl 0 rfl) ?_
          refine lv_iload_n hx hb dX7_drawn_86 rfl (lv_at hl 3 rfl) ?_
          obtain ⟨hz9, hf⟩ := pn_nz_at hf
          refine lv_irem hx hb dX7_drawn_87 hz9 ?_
          refine lv_iload hx hb dX7_drawn_88 (lv_at hl 0 rfl) ?_
          refine lv_bipush (v := (16)) hx hb dX7_drawn_90 (by decide) ?_
          refine lv_idiv hx hb dX7_drawn_92 (by decide) ?_
          refine lv_iload_n hx hb dX7_drawn_93 rfl (lv_at hl 3 rfl) ?_
          obtain ⟨hz10, hf⟩ := pn_nz_at hf
          refine lv_irem hx hb dX7_drawn_94 hz10 ?_
          refine lv_iload hx hb dX7_drawn_95 (lv_at hl 0 rfl) ?_
          refine lv_sipush (v := (256)) hx hb dX7_drawn_97 (by decide) ?_
          refine lv_idiv hx hb dX7_drawn_100 (by decide) ?_
          refine lv_iconst (v := (2)) hx hb dX7_drawn_101 (by decide) ?_
          refine lv_irem hx hb dX7_drawn_102 (by decide) ?_
          obtain ⟨r_t_renamed_u11, r_t_work_u11, r_t_trial_u11, hu11, hf⟩ := pn_bd3_at hf
          refine pn_callv [0, 6, 8, 7] (va_runV (As := [.ref a_t_trial, .int (z7 - z7 / x2 * x2), .int ((z7 / (16 : Int32)) - (z7 / (16 : Int32)) / x2 * x2), .int ((z7 / (256 : Int32)) - (z7 / (256 : Int32)) / (2 : Int32) * (2 : Int32))]) (rest := []) ⟨hx, hb, hml, hown, hts⟩ (c_X7_moveOn l D cI cJ cZ a_t a_t_text a_t_readPage a_t_page a_t_trial a_t_work a_t_book a_t_kept a_t_isKept a_t_seenWhat a_t_seenV a_t_seenIs a_t_label a_t_finds a_t_reason a_t_caseFirst a_t_brief a_t_printed a_t_renamed a_t_worth a_t_trial H.size v_t_thrown v_t_textSize v_t_place v_t_doings v_t_seen z6 v_t_cases v_t_printedSize v_t_lastReason N r_t_renamed r_t_work r_t_trial (z7 - z7 / x2 * x2) ((z7 / (16 : Int32)) - (z7 / (16 : Int32)) / x2 * x2) ((z7 / (256 : Int32)) - (z7 / (256 : Int32)) / (2 : Int32) * (2 : Int32)) r_t_renamed_u11 r_t_work_u11 r_t_trial_u11 hu11) (cwV 4 hts gX7_drawn_X7_moveOn rfl rfl rfl hdX7_moveOn ⟨Nat.le_of_ble_eq_true rfl, Nat.le_of_ble_eq_true rfl⟩) (pn_preV [0, 6, 8, 7] hP (hD.addr rfl) hK rfl rfl (q0 := 0) (ci := 6) rfl rfl) rfl rfl hl.1 rfl (lv_room (Nat.le_of_ble_eq_true rfl)) dX7_drawn_103 ⟨Nat.zero_le _, Nat.zero_le _⟩) hP (hD.addr rfl) hS hA rfl rfl rfl (fun H locs (hP : va_P D vwCl [(a_t, .inr (6, [.int v_t_thrown, .ref a_t_text, .int v_t_textSize, .int v_t_place, .ref a_t_readPage, .ref a_t_page, .ref a_t_trial, .ref a_t_work, .ref a_t_book, .int v_t_doings, .ref a_t_kept, .ref a_t_isKept, .int v_t_seen, .ref a_t_seenWhat, .ref a_t_seenV, .ref a_t_seenIs, .long z6, .ref a_t_label, .ref a_t_finds, .ref a_t_reason, .ref a_t_caseFirst, .int v_t_cases, .ref a_t_brief, .ref a_t_printed, .int v_t_printedSize, .ref a_t_renamed, .ref a_t_worth, .int v_t_lastReason])), (a_t_caseFirst, .inl (cI, 32, .inl r_t_caseFirst)), (a_t_finds, .inl (cI, 32, .inl r_t_finds)), (a_t_label, .inl (cI, 32, .inl r_t_label)), (a_t_page, .inl (cI, 265, .inl r_t_page)), (a_t_reason, .inl (cI, 32, .inl r_t_reason)), (a_t_renamed, .inl (cI, 8, .inl r_t_renamed_u11)), (a_t_trial, .inl (cI, 265, .inl r_t_trial_u11)), (a_t_work, .inl (cI, 265, .inl r_t_work_u11))] H) _ hS => ?_)
          exact jn106 x3 x4 z6 v_t_cases v_t_lastReason r_t_caseFirst r_t_finds r_t_label r_t_reason r_t_renamed_u11 r_t_trial_u11 r_t_work_u11 H locs ls hf hP hS (lv_sub hl [1, 2, 3, 4, 5] rfl)
  refine lv_aload_n hx hb dX7_drawn_0 rfl (lv_at hl 0 rfl) ?_
  refine lv_iconst (v := (0)) hx hb dX7_drawn_1 (by decide) ?_
  refine va_put (D := D) (ci := 6) (v := .int (0 : Int32)) (ty := .int) (C := RX7) (T := TX7) (N := 28) hx hb hts hinX7 tyX7 tyX7_ok nmX7 hown hK.1 hP (hD.addr rfl) hS 0 rfl rfl 0 (by decide) fl_68 (fun _ h9 => h9) rfl (by decide +kernel) rfl rfl (Nat.le_of_ble_eq_true rfl) dX7_drawn_2 (fun H locs (hP : va_P D vwCl [(a_t, .inr (6, [.int ((0 : Int32)), .ref a_t_text, .int v_t_textSize, .int v_t_place, .ref a_t_readPage, .ref a_t_page, .ref a_t_trial, .ref a_t_work, .ref a_t_book, .int v_t_doings, .ref a_t_kept, .ref a_t_isKept, .int v_t_seen, .ref a_t_seenWhat, .ref a_t_seenV, .ref a_t_seenIs, .long v_t_seed, .ref a_t_label, .ref a_t_finds, .ref a_t_reason, .ref a_t_caseFirst, .int v_t_cases, .ref a_t_brief, .ref a_t_printed, .int v_t_printedSize, .ref a_t_renamed, .ref a_t_worth, .int v_t_lastReason])), (a_t_caseFirst, .inl (cI, 32, .inl r_t_caseFirst)), (a_t_finds, .inl (cI, 32, .inl r_t_finds)), (a_t_label, .inl (cI, 32, .inl r_t_label)), (a_t_page, .inl (cI, 265, .inl r_t_page)), (a_t_reason, .inl (cI, 32, .inl r_t_reason)), (a_t_renamed, .inl (cI, 8, .inl r_t_renamed)), (a_t_trial, .inl (cI, 265, .inl r_t_trial)), (a_t_work, .inl (cI, 265, .inl r_t_work))] H) _ hS => ?_)
  refine lv_iload_n hx hb dX7_drawn_5 rfl (lv_at hl 1 rfl) ?_
  refine lv_i2l hx hb dX7_drawn_6 rfl ?_
  refine lv_lconst (v := 1) hx hb dX7_drawn_7 (by decide) ?_
  refine lv_ldc2 hx hb hown kl_337 dX7_drawn_8 ?_
  obtain ⟨ru12, hu12, hf⟩ := pn_bd1_at hf
  refine pn_calli [] (va_runS (As := [.long p1.toInt64, .long (1 : Int64), .long (20 : Int64)]) (rest := []) ⟨hx, hb, hml, hown, hts⟩ (c_X7_in l D cI cJ cZ H.size p1.toInt64 (1 : Int64) (20 : Int64) ru12 hu12) (va_cwS 3 hts gX7_drawn_X7_in rfl rfl rfl hdX7_in ⟨Nat.le_of_ble_eq_true rfl, Nat.le_of_ble_eq_true rfl⟩) (pn_preS [] hP (hD.addr rfl) hK rfl rfl) rfl rfl hl.1 rfl (lv_room (Nat.le_of_ble_eq_true rfl)) dX7_drawn_11 ⟨Nat.zero_le _, Nat.zero_le _⟩) hP (hD.addr rfl) hS hA rfl rfl rfl (fun H locs (hP : va_P D vwCl [(a_t, .inr (6, [.int ((0 : Int32)), .ref a_t_text, .int v_t_textSize, .int v_t_place, .ref a_t_readPage, .ref a_t_page, .ref a_t_trial, .ref a_t_work, .ref a_t_book, .int v_t_doings, .ref a_t_kept, .ref a_t_isKept, .int v_t_seen, .ref a_t_seenWhat, .ref a_t_seenV, .ref a_t_seenIs, .long v_t_seed, .ref a_t_label, .ref a_t_finds, .ref a_t_reason, .ref a_t_caseFirst, .int v_t_cases, .ref a_t_brief, .ref a_t_printed, .int v_t_printedSize, .ref a_t_renamed, .ref a_t_worth, .int v_t_lastReason])), (a_t_caseFirst, .inl (cI, 32, .inl r_t_caseFirst)), (a_t_finds, .inl (cI, 32, .inl r_t_finds)), (a_t_label, .inl (cI, 32, .inl r_t_label)), (a_t_page, .inl (cI, 265, .inl r_t_page)), (a_t_reason, .inl (cI, 32, .inl r_t_reason)), (a_t_renamed, .inl (cI, 8, .inl r_t_renamed)), (a_t_trial, .inl (cI, 265, .inl r_t_trial)), (a_t_work, .inl (cI, 265, .inl r_t_work))] H) _ hS => ?_)
  refine lv_if_ne (tgt := 20) hx hb dX7_drawn_14 (by decide) (fun c13 => ?_) (fun c13 => ?_)
  · have hf := pn_ifp c13 hf
    refine lv_aload_n hx hb dX7_drawn_20 rfl (lv_at hl 0 rfl) ?_
    refine va_get (D := D) (ci := 6) (v := .ref a_t_trial) (C := RX7) (T := TX7) (N := 28) hx hb hts hinX7 hown hK.1 hP 0 rfl rfl 6 (by decide) fl_19 (fun _ h9 => h9) rfl dX7_drawn_21 ?_
    refine lv_aload_n hx hb dX7_drawn_24 rfl (lv_at hl 0 rfl) ?_
    refine va_get (D := D) (ci := 6) (v := .ref a_t_page) (C := RX7) (T := TX7) (N := 28) hx hb hts hinX7 hown hK.1 hP 0 rfl rfl 5 (by decide) fl_16 (fun _ h9 => h9) rfl dX7_drawn_25 ?_
    obtain ⟨r_t_trial_u14, hu14, hf⟩ := pn_bd1_at hf
    refine pn_callv [7, 4] (va_runS (As := [.ref a_t_trial, .ref a_t_page]) (rest := []) ⟨hx, hb, hml, hown, hts⟩ (c_X7_lay l D cI cJ cZ a_t_trial a_t_page H.size N r_t_trial r_t_page r_t_trial_u14 hu14) (va_cwS 2 hts gX7_drawn_X7_lay rfl rfl rfl hdX7_lay ⟨Nat.le_of_ble_eq_true rfl, Nat.le_of_ble_eq_true rfl⟩) (pn_preS [7, 4] hP (hD.addr rfl) hK rfl rfl) rfl rfl hl.1 rfl (lv_room (Nat.le_of_ble_eq_true rfl)) dX7_drawn_28 ⟨Nat.zero_le _, Nat.zero_le _⟩) hP (hD.addr rfl) hS hA rfl rfl rfl (fun H locs (hP : va_P D vwCl [(a_t, .inr (6, [.int ((0 : Int32)), .ref a_t_text, .int v_t_textSize, .int v_t_place, .ref a_t_readPage, .ref a_t_page, .ref a_t_trial, .ref a_t_work, .ref a_t_book, .int v_t_doings, .ref a_t_kept, .ref a_t_isKept, .int v_t_seen, .ref a_t_seenWhat, .ref a_t_seenV, .ref a_t_seenIs, .long v_t_seed, .ref a_t_label, .ref a_t_finds, .ref a_t_reason, .ref a_t_caseFirst, .int v_t_cases, .ref a_t_brief, .ref a_t_printed, .int v_t_printedSize, .ref a_t_renamed, .ref a_t_worth, .int v_t_lastReason])), (a_t_caseFirst, .inl (cI, 32, .inl r_t_caseFirst)), (a_t_finds, .inl (cI, 32, .inl r_t_finds)), (a_t_label, .inl (cI, 32, .inl r_t_label)), (a_t_page, .inl (cI, 265, .inl r_t_page)), (a_t_reason, .inl (cI, 32, .inl r_t_reason)), (a_t_renamed, .inl (cI, 8, .inl r_t_renamed)), (a_t_trial, .inl (cI, 265, .inl r_t_trial_u14)), (a_t_work, .inl (cI, 265, .inl r_t_work))] H) _ hS => ?_)
    refine lv_aload_n hx hb dX7_drawn_31 rfl (lv_at hl 0 rfl) ?_
    refine va_get (D := D) (ci := 6) (v := .ref a_t_page) (C := RX7) (T := TX7) (N := 28) hx hb hts hinX7 hown hK.1 hP 0 rfl rfl 5 (by decide) fl_16 (fun _ h9 => h9) rfl dX7_drawn_32 ?_
    refine lv_iconst (v := (0)) hx hb dX7_drawn_35 (by decide) ?_
    obtain ⟨hi16, w15, ew15, hf⟩ := pn_rd_at hf
    refine pn_ldI hx hb hK.1 hP 4 0 rfl rfl hi16 ew15 dX7_drawn_36 ?_
    refine lv_istore_n (lv' := [(2, .int w15), (0, .ref a_t), (1, .int p1)]) hx hb dX7_drawn_37 rfl hl (by decide) rfl (fun ls hl => ?_)
    refine lv_iconst (v := (0)) hx hb dX7_drawn_38 (by decide) ?_
    refine lv_istore_n (lv' := [(3, .int (0 : Int32)), (2, .int w15), (0, .ref a_t), (1, .int p1)]) hx hb dX7_drawn_39 rfl hl (by decide) rfl (fun ls hl => ?_)
    refine lv_iconst (v := (0)) hx hb dX7_drawn_40 (by decide) ?_
    refine lv_istore (lv' := [(4, .int (0 : Int32)), (3, .int (0 : Int32)), (2, .int w15), (0, .ref a_t), (1, .int p1)]) hx hb dX7_drawn_41 hl (by decide) rfl (fun ls hl => ?_)
    obtain ⟨X43, hX43, hf⟩ := pn_bd1_at hf
    refine lp43 N w15 (0 : Int32) (0 : Int32) (0 : Int32) v_t_seed v_t_cases v_t_lastReason r_t_caseFirst r_t_finds r_t_label r_t_reason r_t_renamed r_t_trial_u14 r_t_work X43 H locs ls hX43 hP hS (lv_sub hl [3, 4, 2, 1, 0] rfl) ?_
    · intro x3_w17 v_t_seed_w17 v_t_cases_w17 v_t_lastReason_w17 r_t_caseFirst_w17 r_t_finds_w17 r_t_label_w17 r_t_reason_w17 r_t_renamed_w17 r_t_trial_w17 r_t_work_w17 H locs ls eX hP hS hl
      rw [eX] at hf
      have hf := pn_u11_at hf
      refine lv_iload_n hx hb dX7_drawn_127 rfl (lv_at hl 0 rfl) ?_
      cases hf
      rw [hQ]
      exact pn_reti hx hb hr hlocks hP hS rfl dX7_drawn_128
  · have hf := pn_ifq c13 hf
    refine lv_bipush (v := (-2)) hx hb dX7_drawn_17 (by decide) ?_
    cases hf
    rw [hQ]
    exact pn_reti hx hb hr hlocks hP hS rfl dX7_drawn_19
def lp_X7_keep_26 (r_t_page : Nat → Int32) (p1 : Int32) : Nat → Int32 → (Nat → Int32) → Option ((Nat → Int32))
  | 0, _, _ => none
  | n + 1, x2, r_t_kept =>
    if (265 : Int32) ≤ x2 then
  some r_t_kept
  else
  pn_rd 265 r_t_page x2 fun w2 =>
  pn_wrI 530 r_t_kept (((265 : Int32) * p1) + x2) w2 fun g4 =>
  pn_nm (x2 + (1 : Int32)) fun z6 =>
  lp_X7_keep_26 r_t_page p1 n z6 g4
def f_X7_keep (N : Nat) (v_t_thrown : Int32) (r_t_isKept : Nat → Int32) (r_t_kept : Nat → Int32) (r_t_page : Nat → Int32) (p1 : Int32) : Option (Int32 × Int32 × (Nat → Int32) × (Nat → Int32)) :=
  pn_bd1 (f_X7_in p1.toInt64 (0 : Int64) (1 : Int64)) fun ru7 =>
  if ¬ ru7 = 0 then
  pn_wrZ 2 r_t_isKept p1 (1 : Int32) fun g9 =>
  pn_bd1 (lp_X7_keep_26 r_t_page p1 N (0 : Int32) r_t_kept) (fun X26 => (pn_u1 fun r_t_kept_w11 => pn_rd 265 r_t_page (0 : Int32) fun w12 =>
  some (w12, (0 : Int32), g9, r_t_kept_w11)) X26)
  else
  some ((-1 : Int32), (0 : Int32), r_t_isKept, r_t_kept)
set_option maxHeartbeats 4000000 in
set_option maxRecDepth 100000 in
theorem c_X7_keep (l : Launch) (D : va_G) (cI cJ cZ : ClassId) (a_t a_t_text a_t_readPage a_t_page a_t_trial a_t_work a_t_book a_t_kept a_t_isKept a_t_seenWhat a_t_seenV a_t_seenIs a_t_label a_t_finds a_t_reason a_t_caseFirst a_t_brief a_t_printed a_t_renamed a_t_worth : Nat) (sz : Nat) (v_t_textSize : Int32) (v_t_place : Int32) (v_t_doings : Int32) (v_t_seen : Int32) (v_t_seed : Int64) (v_t_cases : Int32) (v_t_printedSize : Int32) (v_t_lastReason : Int32) (N : Nat) (v_t_thrown : Int32) (r_t_isKept : Nat → Int32) (r_t_kept : Nat → Int32) (r_t_page : Nat → Int32) (p1 : Int32) (rR : Int32) (o_t_thrown : Int32) (o_t_isKept : Nat → Int32) (o_t_kept : Nat → Int32) (hf : f_X7_keep N v_t_thrown r_t_isKept r_t_kept r_t_page p1 = some (rR, o_t_thrown, o_t_isKept, o_t_kept)) : Met l yX7_keep wsX7_keep { frames := 1, cells := 0, slots := 0, locals := 25 } (pn_Pc D cI cJ cZ [.ref a_t, .int p1] [(a_t, .inr (6, [.int v_t_thrown, .ref a_t_text, .int v_t_textSize, .int v_t_place, .ref a_t_readPage, .ref a_t_page, .ref a_t_trial, .ref a_t_work, .ref a_t_book, .int v_t_doings, .ref a_t_kept, .ref a_t_isKept, .int v_t_seen, .ref a_t_seenWhat, .ref a_t_seenV, .ref a_t_seenIs, .long v_t_seed, .ref a_t_label, .ref a_t_finds, .ref a_t_reason, .ref a_t_caseFirst, .int v_t_cases, .ref a_t_brief, .ref a_t_printed, .int v_t_printedSize, .ref a_t_renamed, .ref a_t_worth, .int v_t_lastReason])), (a_t_isKept, .inl (cZ, 2, .inl r_t_isKept)), (a_t_kept, .inl (cI, 530, .inl r_t_kept)), (a_t_page, .inl (cI, 265, .inl r_t_page))] sz) (pn_Qi D rR [(a_t, .inr (6, [.int o_t_thrown, .ref a_t_text, .int v_t_textSize, .int v_t_place, .ref a_t_readPage, .ref a_t_page, .ref a_t_trial, .ref a_t_work, .ref a_t_book, .int v_t_doings, .ref a_t_kept, .ref a_t_isKept, .int v_t_seen, .ref a_t_seenWhat, .ref a_t_seenV, .ref a_t_seenIs, .long v_t_seed, .ref a_t_label, .ref a_t_finds, .ref a_t_reason, .ref a_t_caseFirst, .int v_t_cases, .ref a_t_brief, .ref a_t_printed, .int v_t_printedSize, .ref a_t_renamed, .ref a_t_worth, .int v_t_lastReason])), (a_t_isKept, .inl (cZ, 2, .inl o_t_isKept)), (a_t_kept, .inl (cI, 530, .inl o_t_kept)), (a_t_page, .inl (cI, 265, .inl r_t_page))] (va_A [(a_t, .inr (6, [.int v_t_thrown, .ref a_t_text, .int v_t_textSize, .int v_t_place, .ref a_t_readPage, .ref a_t_page, .ref a_t_trial, .ref a_t_work, .ref a_t_book, .int v_t_doings, .ref a_t_kept, .ref a_t_isKept, .int v_t_seen, .ref a_t_seenWhat, .ref a_t_seenV, .ref a_t_seenIs, .long v_t_seed, .ref a_t_label, .ref a_t_finds, .ref a_t_reason, .ref a_t_caseFirst, .int v_t_cases, .ref a_t_brief, .ref a_t_printed, .int v_t_printedSize, .ref a_t_renamed, .ref a_t_worth, .int v_t_lastReason])), (a_t_isKept, .inl (cZ, 2, .inl r_t_isKept)), (a_t_kept, .inl (cI, 530, .inl r_t_kept)), (a_t_page, .inl (cI, 265, .inl r_t_page))] sz)) 0 0 (va_A [(a_t, .inr (6, [.int v_t_thrown, .ref a_t_text, .int v_t_textSize, .int v_t_place, .ref a_t_readPage, .ref a_t_page, .ref a_t_trial, .ref a_t_work, .ref a_t_book, .int v_t_doings, .ref a_t_kept, .ref a_t_isKept, .int v_t_seen, .ref a_t_seenWhat, .ref a_t_seenV, .ref a_t_seenIs, .long v_t_seed, .ref a_t_label, .ref a_t_finds, .ref a_t_reason, .ref a_t_caseFirst, .int v_t_cases, .ref a_t_brief, .ref a_t_printed, .int v_t_printedSize, .ref a_t_renamed, .ref a_t_worth, .int v_t_lastReason])), (a_t_isKept, .inl (cZ, 2, .inl r_t_isKept)), (a_t_kept, .inl (cI, 530, .inl r_t_kept)), (a_t_page, .inl (cI, 265, .inl r_t_page))] sz) := by
  refine pn_entry (cc := cX7_keep) (maxL := 3) (ret := (some .int)) (Qf := pn_Qi D rR [(a_t, .inr (6, [.int o_t_thrown, .ref a_t_text, .int v_t_textSize, .int v_t_place, .ref a_t_readPage, .ref a_t_page, .ref a_t_trial, .ref a_t_work, .ref a_t_book, .int v_t_doings, .ref a_t_kept, .ref a_t_isKept, .int v_t_seen, .ref a_t_seenWhat, .ref a_t_seenV, .ref a_t_seenIs, .long v_t_seed, .ref a_t_label, .ref a_t_finds, .ref a_t_reason, .ref a_t_caseFirst, .int v_t_cases, .ref a_t_brief, .ref a_t_printed, .int v_t_printedSize, .ref a_t_renamed, .ref a_t_worth, .int v_t_lastReason])), (a_t_isKept, .inl (cZ, 2, .inl o_t_isKept)), (a_t_kept, .inl (cI, 530, .inl o_t_kept)), (a_t_page, .inl (cI, 265, .inl r_t_page))]) (by decide) rfl (Nat.le_of_ble_eq_true rfl) ?_
  intro p e s m args below meth c A ls H locs Qm hQ hx hb hr hlocks hml hown hts hK hP hD hA hS hl
  have hl : lv_has ls 3 [(0, .ref a_t), (1, .int p1)] := hl
  have hinX7 : ∀ w ∈ wsX70, w ∈ wsX7_keep := by decide +kernel
  have fl_16 := hts (.fieldLink RX7 16 "PointingNotesModel" "page" "[I") (by decide +kernel)
  have fl_28 := hts (.fieldLink RX7 28 "PointingNotesModel" "kept" "[I") (by decide +kernel)
  have fl_31 := hts (.fieldLink RX7 31 "PointingNotesModel" "isKept" "[Z") (by decide +kernel)
  have fl_68 := hts (.fieldLink RX7 68 "PointingNotesModel" "thrown" "I") (by decide +kernel)
  rw [f_X7_keep] at hf
  have lp26 : ∀ (n : Nat) (x2 : Int32) (v_t_thrown : Int32) (r_t_isKept : Nat → Int32) (r_t_kept : Nat → Int32) (X : (Nat → Int32)) (H : Heap) (locs : List Loc) (ls : Array Slot), lp_X7_keep_26 r_t_page p1 n x2 r_t_kept = some X → va_P D vwCl [(a_t, .inr (6, [.int v_t_thrown, .ref a_t_text, .int v_t_textSize, .int v_t_place, .ref a_t_readPage, .ref a_t_page, .ref a_t_trial, .ref a_t_work, .ref a_t_book, .int v_t_doings, .ref a_t_kept, .ref a_t_isKept, .int v_t_seen, .ref a_t_seenWhat, .ref a_t_seenV, .ref a_t_seenIs, .long v_t_seed, .ref a_t_label, .ref a_t_finds, .ref a_t_reason, .ref a_t_caseFirst, .int v_t_cases, .ref a_t_brief, .ref a_t_printed, .int v_t_printedSize, .ref a_t_renamed, .ref a_t_worth, .int v_t_lastReason])), (a_t_isKept, .inl (cZ, 2, .inl r_t_isKept)), (a_t_kept, .inl (cI, 530, .inl r_t_kept)), (a_t_page, .inl (cI, 265, .inl r_t_page))] H → va_S A s.heap H locs → lv_has ls 3 [(0, .ref a_t), (1, .int p1), (2, .int x2)] → (∀  (r_t_kept' : Nat → Int32) (H : Heap) (locs : List Loc) (ls : Array Slot), X = r_t_kept' → va_P D vwCl [(a_t, .inr (6, [.int v_t_thrown, .ref a_t_text, .int v_t_textSize, .int v_t_place, .ref a_t_readPage, .ref a_t_page, .ref a_t_trial, .ref a_t_work, .ref a_t_book, .int v_t_doings, .ref a_t_kept, .ref a_t_isKept, .int v_t_seen, .ref a_t_seenWhat, .ref a_t_seenV, .ref a_t_seenIs, .long v_t_seed, .ref a_t_label, .ref a_t_finds, .ref a_t_reason, .ref a_t_caseFirst, .int v_t_cases, .ref a_t_brief, .ref a_t_printed, .int v_t_printedSize, .ref a_t_renamed, .ref a_t_worth, .int v_t_lastReason])), (a_t_isKept, .inl (cZ, 2, .inl r_t_isKept)), (a_t_kept, .inl (cI, 530, .inl (r_t_kept'))), (a_t_page, .inl (cI, 265, .inl r_t_page))] H → va_S A s.heap H locs → lv_has ls 3 [(0, .ref a_t)] → W p l e { frames := 1, cells := 0, slots := 0, locals := 25 } s m args below meth c H locs 0 0 Qm (F0 m 57 ls [])) → W p l e { frames := 1, cells := 0, slots := 0, locals := 25 } s m args below meth c H locs 0 0 Qm (F0 m 26 ls []) := by
    intro n
    induction n with
    | zero => intro x2 v_t_thrown r_t_isKept r_t_kept X H locs ls hf; cases hf
    | succ n ih =>
      intro x2 v_t_thrown r_t_isKept r_t_kept X H locs ls hf hP hS hl kx57
      rw [lp_X7_keep_26] at hf
      refine lv_iload_n hx hb dX7_keep_26 rfl (lv_at hl 2 rfl) ?_
      refine lv_sipush (v := (265)) hx hb dX7_keep_27 (by decide) ?_
      refine lv_icmp_ge (tgt := 57) hx hb dX7_keep_30 (by decide) (fun c1 => ?_) (fun c1 => ?_)
      · have hf := pn_ifp c1 hf
        exact kx57 r_t_kept H locs ls (Option.some.inj hf).symm hP hS (lv_sub hl [0] rfl)
      · have hf := pn_ifn c1 hf
        refine lv_aload_n hx hb dX7_keep_33 rfl (lv_at hl 0 rfl) ?_
        refine va_get (D := D) (ci := 6) (v := .ref a_t_kept) (C := RX7) (T := TX7) (N := 28) hx hb hts hinX7 hown hK.1 hP 0 rfl rfl 10 (by decide) fl_28 (fun _ h9 => h9) rfl dX7_keep_34 ?_
        refine lv_sipush (v := (265)) hx hb dX7_keep_37 (by decide) ?_
        refine lv_iload_n hx hb dX7_keep_40 rfl (lv_at hl 1 rfl) ?_
        refine lv_imul hx hb dX7_keep_41 ?_
        refine lv_iload_n hx hb dX7_keep_42 rfl (lv_at hl 2 rfl) ?_
        refine lv_iadd hx hb dX7_keep_43 ?_
        refine lv_aload_n hx hb dX7_keep_44 rfl (lv_at hl 0 rfl) ?_
        refine va_get (D := D) (ci := 6) (v := .ref a_t_page) (C := RX7) (T := TX7) (N := 28) hx hb hts hinX7 hown hK.1 hP 0 rfl rfl 5 (by decide) fl_16 (fun _ h9 => h9) rfl dX7_keep_45 ?_
        refine lv_iload_n hx hb dX7_keep_48 rfl (lv_at hl 2 rfl) ?_
        obtain ⟨hi3, w2, ew2, hf⟩ := pn_rd_at hf
        refine pn_ldI hx hb hK.1 hP 3 0 rfl rfl hi3 ew2 dX7_keep_49 ?_
        obtain ⟨hi5, g4, eg4, hf⟩ := pn_wrI_at hf
        refine pn_stI hx hb hK.1 hP (hD.addr rfl) hS 2 0 rfl rfl hi5 eg4 dX7_keep_50 (fun H locs (hP : va_P D vwCl [(a_t, .inr (6, [.int v_t_thrown, .ref a_t_text, .int v_t_textSize, .int v_t_place, .ref a_t_readPage, .ref a_t_page, .ref a_t_trial, .ref a_t_work, .ref a_t_book, .int v_t_doings, .ref a_t_kept, .ref a_t_isKept, .int v_t_seen, .ref a_t_seenWhat, .ref a_t_seenV, .ref a_t_seenIs, .long v_t_seed, .ref a_t_label, .ref a_t_finds, .ref a_t_reason, .ref a_t_caseFirst, .int v_t_cases, .ref a_t_brief, .ref a_t_printed, .int v_t_printedSize, .ref a_t_renamed, .ref a_t_worth, .int v_t_lastReason])), (a_t_isKept, .inl (cZ, 2, .inl r_t_isKept)), (a_t_kept, .inl (cI, 530, .inl g4)), (a_t_page, .inl (cI, 265, .inl r_t_page))] H) _ hS => ?_)
        obtain ⟨z6, ez6⟩ : ∃ y : Int32, y = x2 + (1) := ⟨_, rfl⟩
        have hf := pn_nm_at ez6 hf
        refine lv_iinc (v := z6) (lv' := [(2, .int z6), (0, .ref a_t), (1, .int p1)]) hx hb dX7_keep_51 hl (k := 2) rfl (by rw [ez6]; rfl) (by decide) rfl (fun ls hl => ?_)
        refine lv_goto (tgt := 26) hx hb dX7_keep_54 (by decide) ?_
        exact ih z6 v_t_thrown r_t_isKept g4 X H locs ls hf hP hS (lv_sub hl [1, 2, 0] rfl) kx57
  refine lv_aload_n hx hb dX7_keep_0 rfl (lv_at hl 0 rfl) ?_
  refine lv_iconst (v := (0)) hx hb dX7_keep_1 (by decide) ?_
  refine va_put (D := D) (ci := 6) (v := .int (0 : Int32)) (ty := .int) (C := RX7) (T := TX7) (N := 28) hx hb hts hinX7 tyX7 tyX7_ok nmX7 hown hK.1 hP (hD.addr rfl) hS 0 rfl rfl 0 (by decide) fl_68 (fun _ h9 => h9) rfl (by decide +kernel) rfl rfl (Nat.le_of_ble_eq_true rfl) dX7_keep_2 (fun H locs (hP : va_P D vwCl [(a_t, .inr (6, [.int ((0 : Int32)), .ref a_t_text, .int v_t_textSize, .int v_t_place, .ref a_t_readPage, .ref a_t_page, .ref a_t_trial, .ref a_t_work, .ref a_t_book, .int v_t_doings, .ref a_t_kept, .ref a_t_isKept, .int v_t_seen, .ref a_t_seenWhat, .ref a_t_seenV, .ref a_t_seenIs, .long v_t_seed, .ref a_t_label, .ref a_t_finds, .ref a_t_reason, .ref a_t_caseFirst, .int v_t_cases, .ref a_t_brief, .ref a_t_printed, .int v_t_printedSize, .ref a_t_renamed, .ref a_t_worth, .int v_t_lastReason])), (a_t_isKept, .inl (cZ, 2, .inl r_t_isKept)), (a_t_kept, .inl (cI, 530, .inl r_t_kept)), (a_t_page, .inl (cI, 265, .inl r_t_page))] H) _ hS => ?_)
  refine lv_iload_n hx hb dX7_keep_5 rfl (lv_at hl 1 rfl) ?_
  refine lv_i2l hx hb dX7_keep_6 rfl ?_
  refine lv_lconst (v := 0) hx hb dX7_keep_7 (by decide) ?_
  refine lv_lconst (v := 1) hx hb dX7_keep_8 (by decide) ?_
  obtain ⟨ru7, hu7, hf⟩ := pn_bd1_at hf
  refine pn_calli [] (va_runS (As := [.long p1.toInt64, .long (0 : Int64), .long (1 : Int64)]) (rest := []) ⟨hx, hb, hml, hown, hts⟩ (c_X7_in l D cI cJ cZ H.size p1.toInt64 (0 : Int64) (1 : Int64) ru7 hu7) (va_cwS 3 hts gX7_keep_X7_in rfl rfl rfl hdX7_in ⟨Nat.le_of_ble_eq_true rfl, Nat.le_of_ble_eq_true rfl⟩) (pn_preS [] hP (hD.addr rfl) hK rfl rfl) rfl rfl hl.1 rfl (lv_room (Nat.le_of_ble_eq_true rfl)) dX7_keep_9 ⟨Nat.zero_le _, Nat.zero_le _⟩) hP (hD.addr rfl) hS hA rfl rfl rfl (fun H locs (hP : va_P D vwCl [(a_t, .inr (6, [.int ((0 : Int32)), .ref a_t_text, .int v_t_textSize, .int v_t_place, .ref a_t_readPage, .ref a_t_page, .ref a_t_trial, .ref a_t_work, .ref a_t_book, .int v_t_doings, .ref a_t_kept, .ref a_t_isKept, .int v_t_seen, .ref a_t_seenWhat, .ref a_t_seenV, .ref a_t_seenIs, .long v_t_seed, .ref a_t_label, .ref a_t_finds, .ref a_t_reason, .ref a_t_caseFirst, .int v_t_cases, .ref a_t_brief, .ref a_t_printed, .int v_t_printedSize, .ref a_t_renamed, .ref a_t_worth, .int v_t_lastReason])), (a_t_isKept, .inl (cZ, 2, .inl r_t_isKept)), (a_t_kept, .inl (cI, 530, .inl r_t_kept)), (a_t_page, .inl (cI, 265, .inl r_t_page))] H) _ hS => ?_)
  refine lv_if_ne (tgt := 17) hx hb dX7_keep_12 (by decide) (fun c8 => ?_) (fun c8 => ?_)
  · have hf := pn_ifp c8 hf
    refine lv_aload_n hx hb dX7_keep_17 rfl (lv_at hl 0 rfl) ?_
    refine va_get (D := D) (ci := 6) (v := .ref a_t_isKept) (C := RX7) (T := TX7) (N := 28) hx hb hts hinX7 hown hK.1 hP 0 rfl rfl 11 (by decide) fl_31 (fun _ h9 => h9) rfl dX7_keep_18 ?_
    refine lv_iload_n hx hb dX7_keep_21 rfl (lv_at hl 1 rfl) ?_
    refine lv_iconst (v := (1)) hx hb dX7_keep_22 (by decide) ?_
    obtain ⟨hi10, g9, eg9, hf⟩ := pn_wrZ_at hf
    refine pn_stZ hx hb hK.1 hP (hD.addr rfl) hS 1 2 rfl rfl hi10 eg9 dX7_keep_23 (fun H locs (hP : va_P D vwCl [(a_t, .inr (6, [.int ((0 : Int32)), .ref a_t_text, .int v_t_textSize, .int v_t_place, .ref a_t_readPage, .ref a_t_page, .ref a_t_trial, .ref a_t_work, .ref a_t_book, .int v_t_doings, .ref a_t_kept, .ref a_t_isKept, .int v_t_seen, .ref a_t_seenWhat, .ref a_t_seenV, .ref a_t_seenIs, .long v_t_seed, .ref a_t_label, .ref a_t_finds, .ref a_t_reason, .ref a_t_caseFirst, .int v_t_cases, .ref a_t_brief, .ref a_t_printed, .int v_t_printedSize, .ref a_t_renamed, .ref a_t_worth, .int v_t_lastReason])), (a_t_isKept, .inl (cZ, 2, .inl g9)), (a_t_kept, .inl (cI, 530, .inl r_t_kept)), (a_t_page, .inl (cI, 265, .inl r_t_page))] H) _ hS => ?_)
    refine lv_iconst (v := (0)) hx hb dX7_keep_24 (by decide) ?_
    refine lv_istore_n (lv' := [(2, .int (0 : Int32)), (0, .ref a_t), (1, .int p1)]) hx hb dX7_keep_25 rfl hl (by decide) rfl (fun ls hl => ?_)
    obtain ⟨X26, hX26, hf⟩ := pn_bd1_at hf
    refine lp26 N (0 : Int32) (0 : Int32) g9 r_t_kept X26 H locs ls hX26 hP hS (lv_sub hl [1, 2, 0] rfl) ?_
    · intro r_t_kept_w11 H locs ls eX hP hS hl
      rw [eX] at hf
      have hf := pn_u1_at hf
      refine lv_aload_n hx hb dX7_keep_57 rfl (lv_at hl 0 rfl) ?_
      refine va_get (D := D) (ci := 6) (v := .ref a_t_page) (C := RX7) (T := TX7) (N := 28) hx hb hts hinX7 hown hK.1 hP 0 rfl rfl 5 (by decide) fl_16 (fun _ h9 => h9) rfl dX7_keep_58 ?_
      refine lv_iconst (v := (0)) hx hb dX7_keep_61 (by decide) ?_
      obtain ⟨hi13, w12, ew12, hf⟩ := pn_rd_at hf
      refine pn_ldI hx hb hK.1 hP 3 0 rfl rfl hi13 ew12 dX7_keep_62 ?_
      cases hf
      rw [hQ]
      exact pn_reti hx hb hr hlocks hP hS rfl dX7_keep_63
  · have hf := pn_ifq c8 hf
    refine lv_iconst (v := (-1)) hx hb dX7_keep_15 (by decide) ?_
    cases hf
    rw [hQ]
    exact pn_reti hx hb hr hlocks hP hS rfl dX7_keep_16
def lp_X7_again_31 (r_t_kept : Nat → Int32) (p1 : Int32) : Nat → Int32 → (Nat → Int32) → Option ((Nat → Int32))
  | 0, _, _ => none
  | n + 1, x2, r_t_page =>
    if (265 : Int32) ≤ x2 then
  some r_t_page
  else
  pn_rd 530 r_t_kept (((265 : Int32) * p1) + x2) fun w2 =>
  pn_wrI 265 r_t_page x2 w2 fun g4 =>
  pn_nm (x2 + (1 : Int32)) fun z6 =>
  lp_X7_again_31 r_t_kept p1 n z6 g4
def f_X7_again (N : Nat) (v_t_thrown : Int32) (v_t_doings : Int32) (r_t_isKept : Nat → Int32) (r_t_kept : Nat → Int32) (r_t_page : Nat → Int32) (p1 : Int32) : Option (Int32 × Int32 × Int32 × (Nat → Int32)) :=
  pn_bd1 (f_X7_in p1.toInt64 (0 : Int64) (1 : Int64)) fun ru7 =>
  if ¬ ru7 = 0 then
  pn_rd 2 r_t_isKept p1 fun w9 =>
  if ¬ w9 = 0 then
  pn_bd1 (lp_X7_again_31 r_t_kept p1 N (0 : Int32) r_t_page) (fun X31 => (pn_u1 fun r_t_page_w12 => pn_rd 265 r_t_page_w12 (0 : Int32) fun w13 =>
  some (w13, (0 : Int32), (0 : Int32), r_t_page_w12)) X31)
  else
  some ((-3 : Int32), (0 : Int32), v_t_doings, r_t_page)
  else
  some ((-1 : Int32), (0 : Int32), v_t_doings, r_t_page)
set_option maxHeartbeats 4000000 in
set_option maxRecDepth 100000 in
theorem c_X7_again (l : Launch) (D : va_G) (cI cJ cZ : ClassId) (a_t a_t_text a_t_readPage a_t_page a_t_trial a_t_work a_t_book a_t_kept a_t_isKept a_t_seenWhat a_t_seenV a_t_seenIs a_t_label a_t_finds a_t_reason a_t_caseFirst a_t_brief a_t_printed a_t_renamed a_t_worth : Nat) (sz : Nat) (v_t_textSize : Int32) (v_t_place : Int32) (v_t_seen : Int32) (v_t_seed : Int64) (v_t_cases : Int32) (v_t_printedSize : Int32) (v_t_lastReason : Int32) (N : Nat) (v_t_thrown : Int32) (v_t_doings : Int32) (r_t_isKept : Nat → Int32) (r_t_kept : Nat → Int32) (r_t_page : Nat → Int32) (p1 : Int32) (rR : Int32) (o_t_thrown : Int32) (o_t_doings : Int32) (o_t_page : Nat → Int32) (hf : f_X7_again N v_t_thrown v_t_doings r_t_isKept r_t_kept r_t_page p1 = some (rR, o_t_thrown, o_t_doings, o_t_page)) : Met l yX7_again wsX7_again { frames := 1, cells := 0, slots := 0, locals := 25 } (pn_Pc D cI cJ cZ [.ref a_t, .int p1] [(a_t, .inr (6, [.int v_t_thrown, .ref a_t_text, .int v_t_textSize, .int v_t_place, .ref a_t_readPage, .ref a_t_page, .ref a_t_trial, .ref a_t_work, .ref a_t_book, .int v_t_doings, .ref a_t_kept, .ref a_t_isKept, .int v_t_seen, .ref a_t_seenWhat, .ref a_t_seenV, .ref a_t_seenIs, .long v_t_seed, .ref a_t_label, .ref a_t_finds, .ref a_t_reason, .ref a_t_caseFirst, .int v_t_cases, .ref a_t_brief, .ref a_t_printed, .int v_t_printedSize, .ref a_t_renamed, .ref a_t_worth, .int v_t_lastReason])), (a_t_isKept, .inl (cZ, 2, .inl r_t_isKept)), (a_t_kept, .inl (cI, 530, .inl r_t_kept)), (a_t_page, .inl (cI, 265, .inl r_t_page))] sz) (pn_Qi D rR [(a_t, .inr (6, [.int o_t_thrown, .ref a_t_text, .int v_t_textSize, .int v_t_place, .ref a_t_readPage, .ref a_t_page, .ref a_t_trial, .ref a_t_work, .ref a_t_book, .int o_t_doings, .ref a_t_kept, .ref a_t_isKept, .int v_t_seen, .ref a_t_seenWhat, .ref a_t_seenV, .ref a_t_seenIs, .long v_t_seed, .ref a_t_label, .ref a_t_finds, .ref a_t_reason, .ref a_t_caseFirst, .int v_t_cases, .ref a_t_brief, .ref a_t_printed, .int v_t_printedSize, .ref a_t_renamed, .ref a_t_worth, .int v_t_lastReason])), (a_t_isKept, .inl (cZ, 2, .inl r_t_isKept)), (a_t_kept, .inl (cI, 530, .inl r_t_kept)), (a_t_page, .inl (cI, 265, .inl o_t_page))] (va_A [(a_t, .inr (6, [.int v_t_thrown, .ref a_t_text, .int v_t_textSize, .int v_t_place, .ref a_t_readPage, .ref a_t_page, .ref a_t_trial, .ref a_t_work, .ref a_t_book, .int v_t_doings, .ref a_t_kept, .ref a_t_isKept, .int v_t_seen, .ref a_t_seenWhat, .ref a_t_seenV, .ref a_t_seenIs, .long v_t_seed, .ref a_t_label, .ref a_t_finds, .ref a_t_reason, .ref a_t_caseFirst, .int v_t_cases, .ref a_t_brief, .ref a_t_printed, .int v_t_printedSize, .ref a_t_renamed, .ref a_t_worth, .int v_t_lastReason])), (a_t_isKept, .inl (cZ, 2, .inl r_t_isKept)), (a_t_kept, .inl (cI, 530, .inl r_t_kept)), (a_t_page, .inl (cI, 265, .inl r_t_page))] sz)) 0 0 (va_A [(a_t, .inr (6, [.int v_t_thrown, .ref a_t_text, .int v_t_textSize, .int v_t_place, .ref a_t_readPage, .ref a_t_page, .ref a_t_trial, .ref a_t_work, .ref a_t_book, .int v_t_doings, .ref a_t_kept, .ref a_t_isKept, .int v_t_seen, .ref a_t_seenWhat, .ref a_t_seenV, .ref a_t_seenIs, .long v_t_seed, .ref a_t_label, .ref a_t_finds, .ref a_t_reason, .ref a_t_caseFirst, .int v_t_cases, .ref a_t_brief, .ref a_t_printed, .int v_t_printedSize, .ref a_t_renamed, .ref a_t_worth, .int v_t_lastReason])), (a_t_isKept, .inl (cZ, 2, .inl r_t_isKept)), (a_t_kept, .inl (cI, 530, .inl r_t_kept)), (a_t_page, .inl (cI, 265, .inl r_t_page))] sz) := by
  refine pn_entry (cc := cX7_again) (maxL := 3) (ret := (some .int)) (Qf := pn_Qi D rR [(a_t, .inr (6, [.int o_t_thrown, .ref a_t_text, .int v_t_textSize, .int v_t_place, .ref a_t_readPage, .ref a_t_page, .ref a_t_trial, .ref a_t_work, .ref a_t_book, .int o_t_doings, .ref a_t_kept, .ref a_t_isKept, .int v_t_seen, .ref a_t_seenWhat, .ref a_t_seenV, .ref a_t_seenIs, .long v_t_seed, .ref a_t_label, .ref a_t_finds, .ref a_t_reason, .ref a_t_caseFirst, .int v_t_cases, .ref a_t_brief, .ref a_t_printed, .int v_t_printedSize, .ref a_t_renamed, .ref a_t_worth, .int v_t_lastReason])), (a_t_isKept, .inl (cZ, 2, .inl r_t_isKept)), (a_t_kept, .inl (cI, 530, .inl r_t_kept)), (a_t_page, .inl (cI, 265, .inl o_t_page))]) (by decide) rfl (Nat.le_of_ble_eq_true rfl) ?_
  intro p e s m args below meth c A ls H locs Qm hQ hx hb hr hlocks hml hown hts hK hP hD hA hS hl
  have hl : lv_has ls 3 [(0, .ref a_t), (1, .int p1)] := hl
  have hinX7 : ∀ w ∈ wsX70, w ∈ wsX7_again := by decide +kernel
  have fl_16 := hts (.fieldLink RX7 16 "PointingNotesModel" "page" "[I") (by decide +kernel)
  have fl_28 := hts (.fieldLink RX7 28 "PointingNotesModel" "kept" "[I") (by decide +kernel)
  have fl_31 := hts (.fieldLink RX7 31 "PointingNotesModel" "isKept" "[Z") (by decide +kernel)
  have fl_68 := hts (.fieldLink RX7 68 "PointingNotesModel" "thrown" "I") (by decide +kernel)
  have fl_131 := hts (.fieldLink RX7 131 "PointingNotesModel" "doings" "I") (by decide +kernel)
  rw [f_X7_again] at hf
  have lp31 : ∀ (n : Nat) (x2 : Int32) (v_t_thrown : Int32) (v_t_doings : Int32) (r_t_page : Nat → Int32) (X : (Nat → Int32)) (H : Heap) (locs : List Loc) (ls : Array Slot), lp_X7_again_31 r_t_kept p1 n x2 r_t_page = some X → va_P D vwCl [(a_t, .inr (6, [.int v_t_thrown, .ref a_t_text, .int v_t_textSize, .int v_t_place, .ref a_t_readPage, .ref a_t_page, .ref a_t_trial, .ref a_t_work, .ref a_t_book, .int v_t_doings, .ref a_t_kept, .ref a_t_isKept, .int v_t_seen, .ref a_t_seenWhat, .ref a_t_seenV, .ref a_t_seenIs, .long v_t_seed, .ref a_t_label, .ref a_t_finds, .ref a_t_reason, .ref a_t_caseFirst, .int v_t_cases, .ref a_t_brief, .ref a_t_printed, .int v_t_printedSize, .ref a_t_renamed, .ref a_t_worth, .int v_t_lastReason])), (a_t_isKept, .inl (cZ, 2, .inl r_t_isKept)), (a_t_kept, .inl (cI, 530, .inl r_t_kept)), (a_t_page, .inl (cI, 265, .inl r_t_page))] H → va_S A s.heap H locs → lv_has ls 3 [(0, .ref a_t), (1, .int p1), (2, .int x2)] → (∀  (r_t_page' : Nat → Int32) (H : Heap) (locs : List Loc) (ls : Array Slot), X = r_t_page' → va_P D vwCl [(a_t, .inr (6, [.int v_t_thrown, .ref a_t_text, .int v_t_textSize, .int v_t_place, .ref a_t_readPage, .ref a_t_page, .ref a_t_trial, .ref a_t_work, .ref a_t_book, .int v_t_doings, .ref a_t_kept, .ref a_t_isKept, .int v_t_seen, .ref a_t_seenWhat, .ref a_t_seenV, .ref a_t_seenIs, .long v_t_seed, .ref a_t_label, .ref a_t_finds, .ref a_t_reason, .ref a_t_caseFirst, .int v_t_cases, .ref a_t_brief, .ref a_t_printed, .int v_t_printedSize, .ref a_t_renamed, .ref a_t_worth, .int v_t_lastReason])), (a_t_isKept, .inl (cZ, 2, .inl r_t_isKept)), (a_t_kept, .inl (cI, 530, .inl r_t_kept)), (a_t_page, .inl (cI, 265, .inl (r_t_page')))] H → va_S A s.heap H locs → lv_has ls 3 [(0, .ref a_t)] → W p l e { frames := 1, cells := 0, slots := 0, locals := 25 } s m args below meth c H locs 0 0 Qm (F0 m 62 ls [])) → W p l e { frames := 1, cells := 0, slots := 0, locals := 25 } s m args below meth c H locs 0 0 Qm (F0 m 31 ls []) := by
    intro n
    induction n with
    | zero => intro x2 v_t_thrown v_t_doings r_t_page X H locs ls hf; cases hf
    | succ n ih =>
      intro x2 v_t_thrown v_t_doings r_t_page X H locs ls hf hP hS hl kx62
      rw [lp_X7_again_31] at hf
      refine lv_iload_n hx hb dX7_again_31 rfl (lv_at hl 2 rfl) ?_
      refine lv_sipush (v := (265)) hx hb dX7_again_32 (by decide) ?_
      refine lv_icmp_ge (tgt := 62) hx hb dX7_again_35 (by decide) (fun c1 => ?_) (fun c1 => ?_)
      · have hf := pn_ifp c1 hf
        exact kx62 r_t_page H locs ls (Option.some.inj hf).symm hP hS (lv_sub hl [0] rfl)
      · have hf := pn_ifn c1 hf
        refine lv_aload_n hx hb dX7_again_38 rfl (lv_at hl 0 rfl) ?_
        refine va_get (D := D) (ci := 6) (v := .ref a_t_page) (C := RX7) (T := TX7) (N := 28) hx hb hts hinX7 hown hK.1 hP 0 rfl rfl 5 (by decide) fl_16 (fun _ h9 => h9) rfl dX7_again_39 ?_
        refine lv_iload_n hx hb dX7_again_42 rfl (lv_at hl 2 rfl) ?_
        refine lv_aload_n hx hb dX7_again_43 rfl (lv_at hl 0 rfl) ?_
        refine va_get (D := D) (ci := 6) (v := .ref a_t_kept) (C := RX7) (T := TX7) (N := 28) hx hb hts hinX7 hown hK.1 hP 0 rfl rfl 10 (by decide) fl_28 (fun _ h9 => h9) rfl dX7_again_44 ?_
        refine lv_sipush (v := (265)) hx hb dX7_again_47 (by decide) ?_
        refine lv_iload_n hx hb dX7_again_50 rfl (lv_at hl 1 rfl) ?_
        refine lv_imul hx hb dX7_again_51 ?_
        refine lv_iload_n hx hb dX7_again_52 rfl (lv_at hl 2 rfl) ?_
        refine lv_iadd hx hb dX7_again_53 ?_
        obtain ⟨hi3, w2, ew2, hf⟩ := pn_rd_at hf
        refine pn_ldI hx hb hK.1 hP 2 0 rfl rfl hi3 ew2 dX7_again_54 ?_
        obtain ⟨hi5, g4, eg4, hf⟩ := pn_wrI_at hf
        refine pn_stI hx hb hK.1 hP (hD.addr rfl) hS 3 0 rfl rfl hi5 eg4 dX7_again_55 (fun H locs (hP : va_P D vwCl [(a_t, .inr (6, [.int v_t_thrown, .ref a_t_text, .int v_t_textSize, .int v_t_place, .ref a_t_readPage, .ref a_t_page, .ref a_t_trial, .ref a_t_work, .ref a_t_book, .int v_t_doings, .ref a_t_kept, .ref a_t_isKept, .int v_t_seen, .ref a_t_seenWhat, .ref a_t_seenV, .ref a_t_seenIs, .long v_t_seed, .ref a_t_label, .ref a_t_finds, .ref a_t_reason, .ref a_t_caseFirst, .int v_t_cases, .ref a_t_brief, .ref a_t_printed, .int v_t_printedSize, .ref a_t_renamed, .ref a_t_worth, .int v_t_lastReason])), (a_t_isKept, .inl (cZ, 2, .inl r_t_isKept)), (a_t_kept, .inl (cI, 530, .inl r_t_kept)), (a_t_page, .inl (cI, 265, .inl g4))] H) _ hS => ?_)
        obtain ⟨z6, ez6⟩ : ∃ y : Int32, y = x2 + (1) := ⟨_, rfl⟩
        have hf := pn_nm_at ez6 hf
        refine lv_iinc (v := z6) (lv' := [(2, .int z6), (0, .ref a_t), (1, .int p1)]) hx hb dX7_again_56 hl (k := 2) rfl (by rw [ez6]; rfl) (by decide) rfl (fun ls hl => ?_)
        refine lv_goto (tgt := 31) hx hb dX7_again_59 (by decide) ?_
        exact ih z6 v_t_thrown v_t_doings g4 X H locs ls hf hP hS (lv_sub hl [1, 2, 0] rfl) kx62
  refine lv_aload_n hx hb dX7_again_0 rfl (lv_at hl 0 rfl) ?_
  refine lv_iconst (v := (0)) hx hb dX7_again_1 (by decide) ?_
  refine va_put (D := D) (ci := 6) (v := .int (0 : Int32)) (ty := .int) (C := RX7) (T := TX7) (N := 28) hx hb hts hinX7 tyX7 tyX7_ok nmX7 hown hK.1 hP (hD.addr rfl) hS 0 rfl rfl 0 (by decide) fl_68 (fun _ h9 => h9) rfl (by decide +kernel) rfl rfl (Nat.le_of_ble_eq_true rfl) dX7_again_2 (fun H locs (hP : va_P D vwCl [(a_t, .inr (6, [.int ((0 : Int32)), .ref a_t_text, .int v_t_textSize, .int v_t_place, .ref a_t_readPage, .ref a_t_page, .ref a_t_trial, .ref a_t_work, .ref a_t_book, .int v_t_doings, .ref a_t_kept, .ref a_t_isKept, .int v_t_seen, .ref a_t_seenWhat, .ref a_t_seenV, .ref a_t_seenIs, .long v_t_seed, .ref a_t_label, .ref a_t_finds, .ref a_t_reason, .ref a_t_caseFirst, .int v_t_cases, .ref a_t_brief, .ref a_t_printed, .int v_t_printedSize, .ref a_t_renamed, .ref a_t_worth, .int v_t_lastReason])), (a_t_isKept, .inl (cZ, 2, .inl r_t_isKept)), (a_t_kept, .inl (cI, 530, .inl r_t_kept)), (a_t_page, .inl (cI, 265, .inl r_t_page))] H) _ hS => ?_)
  refine lv_iload_n hx hb dX7_again_5 rfl (lv_at hl 1 rfl) ?_
  refine lv_i2l hx hb dX7_again_6 rfl ?_
  refine lv_lconst (v := 0) hx hb dX7_again_7 (by decide) ?_
  refine lv_lconst (v := 1) hx hb dX7_again_8 (by decide) ?_
  obtain ⟨ru7, hu7, hf⟩ := pn_bd1_at hf
  refine pn_calli [] (va_runS (As := [.long p1.toInt64, .long (0 : Int64), .long (1 : Int64)]) (rest := []) ⟨hx, hb, hml, hown, hts⟩ (c_X7_in l D cI cJ cZ H.size p1.toInt64 (0 : Int64) (1 : Int64) ru7 hu7) (va_cwS 3 hts gX7_again_X7_in rfl rfl rfl hdX7_in ⟨Nat.le_of_ble_eq_true rfl, Nat.le_of_ble_eq_true rfl⟩) (pn_preS [] hP (hD.addr rfl) hK rfl rfl) rfl rfl hl.1 rfl (lv_room (Nat.le_of_ble_eq_true rfl)) dX7_again_9 ⟨Nat.zero_le _, Nat.zero_le _⟩) hP (hD.addr rfl) hS hA rfl rfl rfl (fun H locs (hP : va_P D vwCl [(a_t, .inr (6, [.int ((0 : Int32)), .ref a_t_text, .int v_t_textSize, .int v_t_place, .ref a_t_readPage, .ref a_t_page, .ref a_t_trial, .ref a_t_work, .ref a_t_book, .int v_t_doings, .ref a_t_kept, .ref a_t_isKept, .int v_t_seen, .ref a_t_seenWhat, .ref a_t_seenV, .ref a_t_seenIs, .long v_t_seed, .ref a_t_label, .ref a_t_finds, .ref a_t_reason, .ref a_t_caseFirst, .int v_t_cases, .ref a_t_brief, .ref a_t_printed, .int v_t_printedSize, .ref a_t_renamed, .ref a_t_worth, .int v_t_lastReason])), (a_t_isKept, .inl (cZ, 2, .inl r_t_isKept)), (a_t_kept, .inl (cI, 530, .inl r_t_kept)), (a_t_page, .inl (cI, 265, .inl r_t_page))] H) _ hS => ?_)
  refine lv_if_ne (tgt := 17) hx hb dX7_again_12 (by decide) (fun c8 => ?_) (fun c8 => ?_)
  · have hf := pn_ifp c8 hf
    refine lv_aload_n hx hb dX7_again_17 rfl (lv_at hl 0 rfl) ?_
    refine va_get (D := D) (ci := 6) (v := .ref a_t_isKept) (C := RX7) (T := TX7) (N := 28) hx hb hts hinX7 hown hK.1 hP 0 rfl rfl 11 (by decide) fl_31 (fun _ h9 => h9) rfl dX7_again_18 ?_
    refine lv_iload_n hx hb dX7_again_21 rfl (lv_at hl 1 rfl) ?_
    obtain ⟨hi10, w9, ew9, hf⟩ := pn_rd_at hf
    refine pn_ldZ hx hb hK.1 hP 1 2 rfl rfl hi10 ew9 dX7_again_22 ?_
    refine lv_if_ne (tgt := 29) hx hb dX7_again_23 (by decide) (fun c11 => ?_) (fun c11 => ?_)
    · have hf := pn_ifp c11 hf
      refine lv_iconst (v := (0)) hx hb dX7_again_29 (by decide) ?_
      refine lv_istore_n (lv' := [(2, .int (0 : Int32)), (0, .ref a_t), (1, .int p1)]) hx hb dX7_again_30 rfl hl (by decide) rfl (fun ls hl => ?_)
      obtain ⟨X31, hX31, hf⟩ := pn_bd1_at hf
      refine lp31 N (0 : Int32) (0 : Int32) v_t_doings r_t_page X31 H locs ls hX31 hP hS (lv_sub hl [1, 2, 0] rfl) ?_
      · intro r_t_page_w12 H locs ls eX hP hS hl
        rw [eX] at hf
        have hf := pn_u1_at hf
        refine lv_aload_n hx hb dX7_again_62 rfl (lv_at hl 0 rfl) ?_
        refine lv_iconst (v := (0)) hx hb dX7_again_63 (by decide) ?_
        refine va_put (D := D) (ci := 6) (v := .int (0 : Int32)) (ty := .int) (C := RX7) (T := TX7) (N := 28) hx hb hts hinX7 tyX7 tyX7_ok nmX7 hown hK.1 hP (hD.addr rfl) hS 0 rfl rfl 9 (by decide) fl_131 (fun _ h9 => h9) rfl (by decide +kernel) rfl rfl (Nat.le_of_ble_eq_true rfl) dX7_again_64 (fun H locs (hP : va_P D vwCl [(a_t, .inr (6, [.int ((0 : Int32)), .ref a_t_text, .int v_t_textSize, .int v_t_place, .ref a_t_readPage, .ref a_t_page, .ref a_t_trial, .ref a_t_work, .ref a_t_book, .int ((0 : Int32)), .ref a_t_kept, .ref a_t_isKept, .int v_t_seen, .ref a_t_seenWhat, .ref a_t_seenV, .ref a_t_seenIs, .long v_t_seed, .ref a_t_label, .ref a_t_finds, .ref a_t_reason, .ref a_t_caseFirst, .int v_t_cases, .ref a_t_brief, .ref a_t_printed, .int v_t_printedSize, .ref a_t_renamed, .ref a_t_worth, .int v_t_lastReason])), (a_t_isKept, .inl (cZ, 2, .inl r_t_isKept)), (a_t_kept, .inl (cI, 530, .inl r_t_kept)), (a_t_page, .inl (cI, 265, .inl r_t_page_w12))] H) _ hS => ?_)
        refine lv_aload_n hx hb dX7_again_67 rfl (lv_at hl 0 rfl) ?_
        refine va_get (D := D) (ci := 6) (v := .ref a_t_page) (C := RX7) (T := TX7) (N := 28) hx hb hts hinX7 hown hK.1 hP 0 rfl rfl 5 (by decide) fl_16 (fun _ h9 => h9) rfl dX7_again_68 ?_
        refine lv_iconst (v := (0)) hx hb dX7_again_71 (by decide) ?_
        obtain ⟨hi14, w13, ew13, hf⟩ := pn_rd_at hf
        refine pn_ldI hx hb hK.1 hP 3 0 rfl rfl hi14 ew13 dX7_again_72 ?_
        cases hf
        rw [hQ]
        exact pn_reti hx hb hr hlocks hP hS rfl dX7_again_73
    · have hf := pn_ifq c11 hf
      refine lv_bipush (v := (-3)) hx hb dX7_again_26 (by decide) ?_
      cases hf
      rw [hQ]
      exact pn_reti hx hb hr hlocks hP hS rfl dX7_again_28
  · have hf := pn_ifq c8 hf
    refine lv_iconst (v := (-1)) hx hb dX7_again_15 (by decide) ?_
    cases hf
    rw [hQ]
    exact pn_reti hx hb hr hlocks hP hS rfl dX7_again_16
def lp_X7_manyClash_12 (N : Nat) (r_t_page : Nat → Int32) (v_t_cases : Int32) (r_t_caseFirst : Nat → Int32) (r_t_finds : Nat → Int32) : Nat → Int32 → Int32 → Option (Int32)
  | 0, _, _ => none
  | n + 1, x1, x2 =>
    if v_t_cases ≤ x2 then
  some x1
  else
  pn_bd1 (f_X7_clashes N r_t_caseFirst r_t_finds r_t_page x2) fun ru2 =>
  if ru2 = 0 then
  pn_nm (x1 + (0 : Int32)) fun z4 =>
  pn_nm (x2 + (1 : Int32)) fun z5 =>
  lp_X7_manyClash_12 N r_t_page v_t_cases r_t_caseFirst r_t_finds n z4 z5
  else
  pn_nm (x1 + (1 : Int32)) fun z6 =>
  pn_nm (x2 + (1 : Int32)) fun z7 =>
  lp_X7_manyClash_12 N r_t_page v_t_cases r_t_caseFirst r_t_finds n z6 z7
def f_X7_manyClash (N : Nat) (v_t_cases : Int32) (v_t_lastReason : Int32) (r_t_caseFirst : Nat → Int32) (r_t_finds : Nat → Int32) (r_t_label : Nat → Int32) (r_t_page : Nat → Int32) (r_t_reason : Nat → Int32) : Option (Int32 × Int32 × Int32 × (Nat → Int32) × (Nat → Int32) × (Nat → Int32) × (Nat → Int32)) :=
  pn_bd6 (f_X7_findAll N v_t_cases v_t_lastReason r_t_caseFirst r_t_finds r_t_label r_t_reason r_t_page) fun v_t_cases_u8 v_t_lastReason_u8 r_t_caseFirst_u8 r_t_finds_u8 r_t_label_u8 r_t_reason_u8 =>
  pn_bd1 (lp_X7_manyClash_12 N r_t_page v_t_cases_u8 r_t_caseFirst_u8 r_t_finds_u8 N (0 : Int32) (0 : Int32)) (fun X12 => (pn_u1 fun x1_w9 => some (x1_w9, v_t_cases_u8, v_t_lastReason_u8, r_t_caseFirst_u8, r_t_finds_u8, r_t_label_u8, r_t_reason_u8)) X12)
set_option maxHeartbeats 4000000 in
set_option maxRecDepth 100000 in
theorem c_X7_manyClash (l : Launch) (D : va_G) (cI cJ cZ : ClassId) (a_t a_t_text a_t_readPage a_t_page a_t_trial a_t_work a_t_book a_t_kept a_t_isKept a_t_seenWhat a_t_seenV a_t_seenIs a_t_label a_t_finds a_t_reason a_t_caseFirst a_t_brief a_t_printed a_t_renamed a_t_worth : Nat) (sz : Nat) (v_t_thrown : Int32) (v_t_textSize : Int32) (v_t_place : Int32) (v_t_doings : Int32) (v_t_seen : Int32) (v_t_seed : Int64) (v_t_printedSize : Int32) (N : Nat) (v_t_cases : Int32) (v_t_lastReason : Int32) (r_t_caseFirst : Nat → Int32) (r_t_finds : Nat → Int32) (r_t_label : Nat → Int32) (r_t_page : Nat → Int32) (r_t_reason : Nat → Int32) (rR : Int32) (o_t_cases : Int32) (o_t_lastReason : Int32) (o_t_caseFirst : Nat → Int32) (o_t_finds : Nat → Int32) (o_t_label : Nat → Int32) (o_t_reason : Nat → Int32) (hf : f_X7_manyClash N v_t_cases v_t_lastReason r_t_caseFirst r_t_finds r_t_label r_t_page r_t_reason = some (rR, o_t_cases, o_t_lastReason, o_t_caseFirst, o_t_finds, o_t_label, o_t_reason)) : Met l yX7_manyClash wsX7_manyClash { frames := 7, cells := 0, slots := 0, locals := 168 } (pn_Pc D cI cJ cZ [.ref a_t] [(a_t, .inr (6, [.int v_t_thrown, .ref a_t_text, .int v_t_textSize, .int v_t_place, .ref a_t_readPage, .ref a_t_page, .ref a_t_trial, .ref a_t_work, .ref a_t_book, .int v_t_doings, .ref a_t_kept, .ref a_t_isKept, .int v_t_seen, .ref a_t_seenWhat, .ref a_t_seenV, .ref a_t_seenIs, .long v_t_seed, .ref a_t_label, .ref a_t_finds, .ref a_t_reason, .ref a_t_caseFirst, .int v_t_cases, .ref a_t_brief, .ref a_t_printed, .int v_t_printedSize, .ref a_t_renamed, .ref a_t_worth, .int v_t_lastReason])), (a_t_caseFirst, .inl (cI, 32, .inl r_t_caseFirst)), (a_t_finds, .inl (cI, 32, .inl r_t_finds)), (a_t_label, .inl (cI, 32, .inl r_t_label)), (a_t_page, .inl (cI, 265, .inl r_t_page)), (a_t_reason, .inl (cI, 32, .inl r_t_reason))] sz) (pn_Qi D rR [(a_t, .inr (6, [.int v_t_thrown, .ref a_t_text, .int v_t_textSize, .int v_t_place, .ref a_t_readPage, .ref a_t_page, .ref a_t_trial, .ref a_t_work, .ref a_t_book, .int v_t_doings, .ref a_t_kept, .ref a_t_isKept, .int v_t_seen, .ref a_t_seenWhat, .ref a_t_seenV, .ref a_t_seenIs, .long v_t_seed, .ref a_t_label, .ref a_t_finds, .ref a_t_reason, .ref a_t_caseFirst, .int o_t_cases, .ref a_t_brief, .ref a_t_printed, .int v_t_printedSize, .ref a_t_renamed, .ref a_t_worth, .int o_t_lastReason])), (a_t_caseFirst, .inl (cI, 32, .inl o_t_caseFirst)), (a_t_finds, .inl (cI, 32, .inl o_t_finds)), (a_t_label, .inl (cI, 32, .inl o_t_label)), (a_t_page, .inl (cI, 265, .inl r_t_page)), (a_t_reason, .inl (cI, 32, .inl o_t_reason))] (va_A [(a_t, .inr (6, [.int v_t_thrown, .ref a_t_text, .int v_t_textSize, .int v_t_place, .ref a_t_readPage, .ref a_t_page, .ref a_t_trial, .ref a_t_work, .ref a_t_book, .int v_t_doings, .ref a_t_kept, .ref a_t_isKept, .int v_t_seen, .ref a_t_seenWhat, .ref a_t_seenV, .ref a_t_seenIs, .long v_t_seed, .ref a_t_label, .ref a_t_finds, .ref a_t_reason, .ref a_t_caseFirst, .int v_t_cases, .ref a_t_brief, .ref a_t_printed, .int v_t_printedSize, .ref a_t_renamed, .ref a_t_worth, .int v_t_lastReason])), (a_t_caseFirst, .inl (cI, 32, .inl r_t_caseFirst)), (a_t_finds, .inl (cI, 32, .inl r_t_finds)), (a_t_label, .inl (cI, 32, .inl r_t_label)), (a_t_page, .inl (cI, 265, .inl r_t_page)), (a_t_reason, .inl (cI, 32, .inl r_t_reason))] sz)) 0 0 (va_A [(a_t, .inr (6, [.int v_t_thrown, .ref a_t_text, .int v_t_textSize, .int v_t_place, .ref a_t_readPage, .ref a_t_page, .ref a_t_trial, .ref a_t_work, .ref a_t_book, .int v_t_doings, .ref a_t_kept, .ref a_t_isKept, .int v_t_seen, .ref a_t_seenWhat, .ref a_t_seenV, .ref a_t_seenIs, .long v_t_seed, .ref a_t_label, .ref a_t_finds, .ref a_t_reason, .ref a_t_caseFirst, .int v_t_cases, .ref a_t_brief, .ref a_t_printed, .int v_t_printedSize, .ref a_t_renamed, .ref a_t_worth, .int v_t_lastReason])), (a_t_caseFirst, .inl (cI, 32, .inl r_t_caseFirst)), (a_t_finds, .inl (cI, 32, .inl r_t_finds)), (a_t_label, .inl (cI, 32, .inl r_t_label)), (a_t_page, .inl (cI, 265, .inl r_t_page)), (a_t_reason, .inl (cI, 32, .inl r_t_reason))] sz) := by
  refine pn_entry (cc := cX7_manyClash) (maxL := 3) (ret := (some .int)) (Qf := pn_Qi D rR [(a_t, .inr (6, [.int v_t_thrown, .ref a_t_text, .int v_t_textSize, .int v_t_place, .ref a_t_readPage, .ref a_t_page, .ref a_t_trial, .ref a_t_work, .ref a_t_book, .int v_t_doings, .ref a_t_kept, .ref a_t_isKept, .int v_t_seen, .ref a_t_seenWhat, .ref a_t_seenV, .ref a_t_seenIs, .long v_t_seed, .ref a_t_label, .ref a_t_finds, .ref a_t_reason, .ref a_t_caseFirst, .int o_t_cases, .ref a_t_brief, .ref a_t_printed, .int v_t_printedSize, .ref a_t_renamed, .ref a_t_worth, .int o_t_lastReason])), (a_t_caseFirst, .inl (cI, 32, .inl o_t_caseFirst)), (a_t_finds, .inl (cI, 32, .inl o_t_finds)), (a_t_label, .inl (cI, 32, .inl o_t_label)), (a_t_page, .inl (cI, 265, .inl r_t_page)), (a_t_reason, .inl (cI, 32, .inl o_t_reason))]) (by decide) rfl (Nat.le_of_ble_eq_true rfl) ?_
  intro p e s m args below meth c A ls H locs Qm hQ hx hb hr hlocks hml hown hts hK hP hD hA hS hl
  have hl : lv_has ls 3 [(0, .ref a_t)] := hl
  have hinX7 : ∀ w ∈ wsX70, w ∈ wsX7_manyClash := by decide +kernel
  have fl_16 := hts (.fieldLink RX7 16 "PointingNotesModel" "page" "[I") (by decide +kernel)
  have fl_152 := hts (.fieldLink RX7 152 "PointingNotesModel" "cases" "I") (by decide +kernel)
  rw [f_X7_manyClash] at hf
  have lp12 : ∀ (n : Nat) (x1 : Int32) (x2 : Int32) (v_t_cases : Int32) (v_t_lastReason : Int32) (r_t_caseFirst : Nat → Int32) (r_t_finds : Nat → Int32) (r_t_label : Nat → Int32) (r_t_reason : Nat → Int32) (X : Int32) (H : Heap) (locs : List Loc) (ls : Array Slot), lp_X7_manyClash_12 N r_t_page v_t_cases r_t_caseFirst r_t_finds n x1 x2 = some X → va_P D vwCl [(a_t, .inr (6, [.int v_t_thrown, .ref a_t_text, .int v_t_textSize, .int v_t_place, .ref a_t_readPage, .ref a_t_page, .ref a_t_trial, .ref a_t_work, .ref a_t_book, .int v_t_doings, .ref a_t_kept, .ref a_t_isKept, .int v_t_seen, .ref a_t_seenWhat, .ref a_t_seenV, .ref a_t_seenIs, .long v_t_seed, .ref a_t_label, .ref a_t_finds, .ref a_t_reason, .ref a_t_caseFirst, .int v_t_cases, .ref a_t_brief, .ref a_t_printed, .int v_t_printedSize, .ref a_t_renamed, .ref a_t_worth, .int v_t_lastReason])), (a_t_caseFirst, .inl (cI, 32, .inl r_t_caseFirst)), (a_t_finds, .inl (cI, 32, .inl r_t_finds)), (a_t_label, .inl (cI, 32, .inl r_t_label)), (a_t_page, .inl (cI, 265, .inl r_t_page)), (a_t_reason, .inl (cI, 32, .inl r_t_reason))] H → va_S A s.heap H locs → lv_has ls 3 [(0, .ref a_t), (1, .int x1), (2, .int x2)] → (∀ (y1 : Int32)  (H : Heap) (locs : List Loc) (ls : Array Slot), X = y1 → va_P D vwCl [(a_t, .inr (6, [.int v_t_thrown, .ref a_t_text, .int v_t_textSize, .int v_t_place, .ref a_t_readPage, .ref a_t_page, .ref a_t_trial, .ref a_t_work, .ref a_t_book, .int v_t_doings, .ref a_t_kept, .ref a_t_isKept, .int v_t_seen, .ref a_t_seenWhat, .ref a_t_seenV, .ref a_t_seenIs, .long v_t_seed, .ref a_t_label, .ref a_t_finds, .ref a_t_reason, .ref a_t_caseFirst, .int v_t_cases, .ref a_t_brief, .ref a_t_printed, .int v_t_printedSize, .ref a_t_renamed, .ref a_t_worth, .int v_t_lastReason])), (a_t_caseFirst, .inl (cI, 32, .inl r_t_caseFirst)), (a_t_finds, .inl (cI, 32, .inl r_t_finds)), (a_t_label, .inl (cI, 32, .inl r_t_label)), (a_t_page, .inl (cI, 265, .inl r_t_page)), (a_t_reason, .inl (cI, 32, .inl r_t_reason))] H → va_S A s.heap H locs → lv_has ls 3 [(1, .int y1)] → W p l e { frames := 7, cells := 0, slots := 0, locals := 168 } s m args below meth c H locs 0 0 Qm (F0 m 42 ls [])) → W p l e { frames := 7, cells := 0, slots := 0, locals := 168 } s m args below meth c H locs 0 0 Qm (F0 m 12 ls []) := by
    intro n
    induction n with
    | zero => intro x1 x2 v_t_cases v_t_lastReason r_t_caseFirst r_t_finds r_t_label r_t_reason X H locs ls hf; cases hf
    | succ n ih =>
      intro x1 x2 v_t_cases v_t_lastReason r_t_caseFirst r_t_finds r_t_label r_t_reason X H locs ls hf hP hS hl kx42
      rw [lp_X7_manyClash_12] at hf
      refine lv_iload_n hx hb dX7_manyClash_12 rfl (lv_at hl 2 rfl) ?_
      refine lv_aload_n hx hb dX7_manyClash_13 rfl (lv_at hl 0 rfl) ?_
      refine va_get (D := D) (ci := 6) (v := .int v_t_cases) (C := RX7) (T := TX7) (N := 28) hx hb hts hinX7 hown hK.1 hP 0 rfl rfl 21 (by decide) fl_152 (fun _ h9 => h9) rfl dX7_manyClash_14 ?_
      refine lv_icmp_ge (tgt := 42) hx hb dX7_manyClash_17 (by decide) (fun c1 => ?_) (fun c1 => ?_)
      · have hf := pn_ifp c1 hf
        exact kx42 x1 H locs ls (Option.some.inj hf).symm hP hS (lv_sub hl [1] rfl)
      · have hf := pn_ifn c1 hf
        refine lv_iload_n hx hb dX7_manyClash_20 rfl (lv_at hl 1 rfl) ?_
        refine lv_aload_n hx hb dX7_manyClash_21 rfl (lv_at hl 0 rfl) ?_
        refine lv_iload_n hx hb dX7_manyClash_22 rfl (lv_at hl 2 rfl) ?_
        obtain ⟨ru2, hu2, hf⟩ := pn_bd1_at hf
        refine pn_calli [0, 1, 2, 4] (va_runV (As := [.int x2]) (rest := [.int x1]) ⟨hx, hb, hml, hown, hts⟩ (c_X7_clashes l D cI cJ cZ a_t a_t_text a_t_readPage a_t_page a_t_trial a_t_work a_t_book a_t_kept a_t_isKept a_t_seenWhat a_t_seenV a_t_seenIs a_t_label a_t_finds a_t_reason a_t_caseFirst a_t_brief a_t_printed a_t_renamed a_t_worth H.size v_t_thrown v_t_textSize v_t_place v_t_doings v_t_seen v_t_seed v_t_cases v_t_printedSize v_t_lastReason N r_t_caseFirst r_t_finds r_t_page x2 ru2 hu2) (cwV 1 hts gX7_manyClash_X7_clashes rfl rfl rfl hdX7_clashes ⟨Nat.le_of_ble_eq_true rfl, Nat.le_of_ble_eq_true rfl⟩) (pn_preV [0, 1, 2, 4] hP (hD.addr rfl) hK rfl rfl (q0 := 0) (ci := 6) rfl rfl) rfl rfl hl.1 rfl (lv_room (Nat.le_of_ble_eq_true rfl)) dX7_manyClash_23 ⟨Nat.zero_le _, Nat.zero_le _⟩) hP (hD.addr rfl) hS hA rfl rfl rfl (fun H locs (hP : va_P D vwCl [(a_t, .inr (6, [.int v_t_thrown, .ref a_t_text, .int v_t_textSize, .int v_t_place, .ref a_t_readPage, .ref a_t_page, .ref a_t_trial, .ref a_t_work, .ref a_t_book, .int v_t_doings, .ref a_t_kept, .ref a_t_isKept, .int v_t_seen, .ref a_t_seenWhat, .ref a_t_seenV, .ref a_t_seenIs, .long v_t_seed, .ref a_t_label, .ref a_t_finds, .ref a_t_reason, .ref a_t_caseFirst, .int v_t_cases, .ref a_t_brief, .ref a_t_printed, .int v_t_printedSize, .ref a_t_renamed, .ref a_t_worth, .int v_t_lastReason])), (a_t_caseFirst, .inl (cI, 32, .inl r_t_caseFirst)), (a_t_finds, .inl (cI, 32, .inl r_t_finds)), (a_t_label, .inl (cI, 32, .inl r_t_label)), (a_t_page, .inl (cI, 265, .inl r_t_page)), (a_t_reason, .inl (cI, 32, .inl r_t_reason))] H) _ hS => ?_)
        refine lv_if_eq (tgt := 33) hx hb dX7_manyClash_26 (by decide) (fun c3 => ?_) (fun c3 => ?_)
        · have hf := pn_ifp c3 hf
          refine lv_iconst (v := (0)) hx hb dX7_manyClash_33 (by decide) ?_
          refine lv_iadd hx hb dX7_manyClash_34 ?_
          refine lv_topi (fun z4 ez4 => ?_)
          have hf := pn_nm_at ez4 hf
          refine lv_istore_n (lv' := [(1, .int z4), (0, .ref a_t), (2, .int x2)]) hx hb dX7_manyClash_35 rfl hl (by decide) rfl (fun ls hl => ?_)
          obtain ⟨z5, ez5⟩ : ∃ y : Int32, y = x2 + (1) := ⟨_, rfl⟩
          have hf := pn_nm_at ez5 hf
          refine lv_iinc (v := z5) (lv' := [(2, .int z5), (1, .int z4), (0, .ref a_t)]) hx hb dX7_manyClash_36 hl (k := 2) rfl (by rw [ez5]; rfl) (by decide) rfl (fun ls hl => ?_)
          refine lv_goto (tgt := 12) hx hb dX7_manyClash_39 (by decide) ?_
          exact ih z4 z5 v_t_cases v_t_lastReason r_t_caseFirst r_t_finds r_t_label r_t_reason X H locs ls hf hP hS (lv_sub hl [2, 1, 0] rfl) kx42
        · have hf := pn_ifn c3 hf
          refine lv_iconst (v := (1)) hx hb dX7_manyClash_29 (by decide) ?_
          refine lv_goto (tgt := 34) hx hb dX7_manyClash_30 (by decide) ?_
          refine lv_iadd hx hb dX7_manyClash_34 ?_
          refine lv_topi (fun z6 ez6 => ?_)
          have hf := pn_nm_at ez6 hf
          refine lv_istore_n (lv' := [(1, .int z6), (0, .ref a_t), (2, .int x2)]) hx hb dX7_manyClash_35 rfl hl (by decide) rfl (fun ls hl => ?_)
          obtain ⟨z7, ez7⟩ : ∃ y : Int32, y = x2 + (1) := ⟨_, rfl⟩
          have hf := pn_nm_at ez7 hf
          refine lv_iinc (v := z7) (lv' := [(2, .int z7), (1, .int z6), (0, .ref a_t)]) hx hb dX7_manyClash_36 hl (k := 2) rfl (by rw [ez7]; rfl) (by decide) rfl (fun ls hl => ?_)
          refine lv_goto (tgt := 12) hx hb dX7_manyClash_39 (by decide) ?_
          exact ih z6 z7 v_t_cases v_t_lastReason r_t_caseFirst r_t_finds r_t_label r_t_reason X H locs ls hf hP hS (lv_sub hl [2, 1, 0] rfl) kx42
  refine lv_aload_n hx hb dX7_manyClash_0 rfl (lv_at hl 0 rfl) ?_
  refine lv_aload_n hx hb dX7_manyClash_1 rfl (lv_at hl 0 rfl) ?_
  refine va_get (D := D) (ci := 6) (v := .ref a_t_page) (C := RX7) (T := TX7) (N := 28) hx hb hts hinX7 hown hK.1 hP 0 rfl rfl 5 (by decide) fl_16 (fun _ h9 => h9) rfl dX7_manyClash_2 ?_
  obtain ⟨v_t_cases_u8, v_t_lastReason_u8, r_t_caseFirst_u8, r_t_finds_u8, r_t_label_u8, r_t_reason_u8, hu8, hf⟩ := pn_bd6_at hf
  refine pn_callv [0, 1, 2, 3, 5, 4] (va_runV (As := [.ref a_t_page]) (rest := []) ⟨hx, hb, hml, hown, hts⟩ (c_X7_findAll l D cI cJ cZ a_t a_t_text a_t_readPage a_t_page a_t_trial a_t_work a_t_book a_t_kept a_t_isKept a_t_seenWhat a_t_seenV a_t_seenIs a_t_label a_t_finds a_t_reason a_t_caseFirst a_t_brief a_t_printed a_t_renamed a_t_worth a_t_page H.size v_t_thrown v_t_textSize v_t_place v_t_doings v_t_seen v_t_seed v_t_printedSize N v_t_cases v_t_lastReason r_t_caseFirst r_t_finds r_t_label r_t_reason r_t_page v_t_cases_u8 v_t_lastReason_u8 r_t_caseFirst_u8 r_t_finds_u8 r_t_label_u8 r_t_reason_u8 hu8) (cwV 1 hts gX7_manyClash_X7_findAll rfl rfl rfl hdX7_findAll ⟨Nat.le_of_ble_eq_true rfl, Nat.le_of_ble_eq_true rfl⟩) (pn_preV [0, 1, 2, 3, 5, 4] hP (hD.addr rfl) hK rfl rfl (q0 := 0) (ci := 6) rfl rfl) rfl rfl hl.1 rfl (lv_room (Nat.le_of_ble_eq_true rfl)) dX7_manyClash_5 ⟨Nat.zero_le _, Nat.zero_le _⟩) hP (hD.addr rfl) hS hA rfl rfl rfl (fun H locs (hP : va_P D vwCl [(a_t, .inr (6, [.int v_t_thrown, .ref a_t_text, .int v_t_textSize, .int v_t_place, .ref a_t_readPage, .ref a_t_page, .ref a_t_trial, .ref a_t_work, .ref a_t_book, .int v_t_doings, .ref a_t_kept, .ref a_t_isKept, .int v_t_seen, .ref a_t_seenWhat, .ref a_t_seenV, .ref a_t_seenIs, .long v_t_seed, .ref a_t_label, .ref a_t_finds, .ref a_t_reason, .ref a_t_caseFirst, .int v_t_cases_u8, .ref a_t_brief, .ref a_t_printed, .int v_t_printedSize, .ref a_t_renamed, .ref a_t_worth, .int v_t_lastReason_u8])), (a_t_caseFirst, .inl (cI, 32, .inl r_t_caseFirst_u8)), (a_t_finds, .inl (cI, 32, .inl r_t_finds_u8)), (a_t_label, .inl (cI, 32, .inl r_t_label_u8)), (a_t_page, .inl (cI, 265, .inl r_t_page)), (a_t_reason, .inl (cI, 32, .inl r_t_reason_u8))] H) _ hS => ?_)
  refine lv_iconst (v := (0)) hx hb dX7_manyClash_8 (by decide) ?_
  refine lv_istore_n (lv' := [(1, .int (0 : Int32)), (0, .ref a_t)]) hx hb dX7_manyClash_9 rfl hl (by decide) rfl (fun ls hl => ?_)
  refine lv_iconst (v := (0)) hx hb dX7_manyClash_10 (by decide) ?_
  refine lv_istore_n (lv' := [(2, .int (0 : Int32)), (1, .int (0 : Int32)), (0, .ref a_t)]) hx hb dX7_manyClash_11 rfl hl (by decide) rfl (fun ls hl => ?_)
  obtain ⟨X12, hX12, hf⟩ := pn_bd1_at hf
  refine lp12 N (0 : Int32) (0 : Int32) v_t_cases_u8 v_t_lastReason_u8 r_t_caseFirst_u8 r_t_finds_u8 r_t_label_u8 r_t_reason_u8 X12 H locs ls hX12 hP hS (lv_sub hl [2, 1, 0] rfl) ?_
  · intro x1_w9 H locs ls eX hP hS hl
    rw [eX] at hf
    have hf := pn_u1_at hf
    refine lv_iload_n hx hb dX7_manyClash_42 rfl (lv_at hl 0 rfl) ?_
    cases hf
    rw [hQ]
    exact pn_reti hx hb hr hlocks hP hS rfl dX7_manyClash_43
def f_X7_count (N : Nat) (v_t_thrown : Int32) (v_t_textSize : Int32) (v_t_doings : Int32) (v_t_seen : Int32) (v_t_cases : Int32) (v_t_lastReason : Int32) (r_t_caseFirst : Nat → Int32) (r_t_finds : Nat → Int32) (r_t_label : Nat → Int32) (r_t_page : Nat → Int32) (r_t_reason : Nat → Int32) (p1 : Int32) : Option (Int32 × Int32 × Int32 × Int32 × (Nat → Int32) × (Nat → Int32) × (Nat → Int32) × (Nat → Int32)) :=
  pn_bd6 (f_X7_findAll N v_t_cases v_t_lastReason r_t_caseFirst r_t_finds r_t_label r_t_reason r_t_page) fun v_t_cases_u1 v_t_lastReason_u1 r_t_caseFirst_u1 r_t_finds_u1 r_t_label_u1 r_t_reason_u1 =>
  if p1 = 0 then
  some (v_t_textSize, (0 : Int32), v_t_cases_u1, v_t_lastReason_u1, r_t_caseFirst_u1, r_t_finds_u1, r_t_label_u1, r_t_reason_u1)
  else if p1 = 1 then
  pn_rd 265 r_t_page (0 : Int32) fun w4 =>
  some (w4, (0 : Int32), v_t_cases_u1, v_t_lastReason_u1, r_t_caseFirst_u1, r_t_finds_u1, r_t_label_u1, r_t_reason_u1)
  else if p1 = 2 then
  pn_bd1 (f_X7_allNotes r_t_page) fun ru7 =>
  pn_bd1 (f_X7_manyRefs N r_t_page ru7) fun ru8 =>
  some (ru8, (0 : Int32), v_t_cases_u1, v_t_lastReason_u1, r_t_caseFirst_u1, r_t_finds_u1, r_t_label_u1, r_t_reason_u1)
  else if p1 = 3 then
  some (v_t_cases_u1, (0 : Int32), v_t_cases_u1, v_t_lastReason_u1, r_t_caseFirst_u1, r_t_finds_u1, r_t_label_u1, r_t_reason_u1)
  else if p1 = 4 then
  pn_bd7 (f_X7_dead N v_t_cases_u1 v_t_lastReason_u1 r_t_caseFirst_u1 r_t_finds_u1 r_t_label_u1 r_t_reason_u1 r_t_page) fun ru11 v_t_cases_u11 v_t_lastReason_u11 r_t_caseFirst_u11 r_t_finds_u11 r_t_label_u11 r_t_reason_u11 =>
  some (ru11, (0 : Int32), v_t_cases_u11, v_t_lastReason_u11, r_t_caseFirst_u11, r_t_finds_u11, r_t_label_u11, r_t_reason_u11)
  else if p1 = 5 then
  pn_bd7 (f_X7_manyClash N v_t_cases_u1 v_t_lastReason_u1 r_t_caseFirst_u1 r_t_finds_u1 r_t_label_u1 r_t_page r_t_reason_u1) fun ru13 v_t_cases_u13 v_t_lastReason_u13 r_t_caseFirst_u13 r_t_finds_u13 r_t_label_u13 r_t_reason_u13 =>
  some (ru13, (0 : Int32), v_t_cases_u13, v_t_lastReason_u13, r_t_caseFirst_u13, r_t_finds_u13, r_t_label_u13, r_t_reason_u13)
  else if p1 = 6 then
  some (v_t_doings, (0 : Int32), v_t_cases_u1, v_t_lastReason_u1, r_t_caseFirst_u1, r_t_finds_u1, r_t_label_u1, r_t_reason_u1)
  else if p1 = 7 then
  some (v_t_seen, (0 : Int32), v_t_cases_u1, v_t_lastReason_u1, r_t_caseFirst_u1, r_t_finds_u1, r_t_label_u1, r_t_reason_u1)
  else some ((-2 : Int32), (0 : Int32), v_t_cases_u1, v_t_lastReason_u1, r_t_caseFirst_u1, r_t_finds_u1, r_t_label_u1, r_t_reason_u1)
set_option maxHeartbeats 4000000 in
set_option maxRecDepth 100000 in
theorem c_X7_count (l : Launch) (D : va_G) (cI cJ cZ : ClassId) (a_t a_t_text a_t_readPage a_t_page a_t_trial a_t_work a_t_book a_t_kept a_t_isKept a_t_seenWhat a_t_seenV a_t_seenIs a_t_label a_t_finds a_t_reason a_t_caseFirst a_t_brief a_t_printed a_t_renamed a_t_worth : Nat) (sz : Nat) (v_t_place : Int32) (v_t_seed : Int64) (v_t_printedSize : Int32) (N : Nat) (v_t_thrown : Int32) (v_t_textSize : Int32) (v_t_doings : Int32) (v_t_seen : Int32) (v_t_cases : Int32) (v_t_lastReason : Int32) (r_t_caseFirst : Nat → Int32) (r_t_finds : Nat → Int32) (r_t_label : Nat → Int32) (r_t_page : Nat → Int32) (r_t_reason : Nat → Int32) (p1 : Int32) (rR : Int32) (o_t_thrown : Int32) (o_t_cases : Int32) (o_t_lastReason : Int32) (o_t_caseFirst : Nat → Int32) (o_t_finds : Nat → Int32) (o_t_label : Nat → Int32) (o_t_reason : Nat → Int32) (hf : f_X7_count N v_t_thrown v_t_textSize v_t_doings v_t_seen v_t_cases v_t_lastReason r_t_caseFirst r_t_finds r_t_label r_t_page r_t_reason p1 = some (rR, o_t_thrown, o_t_cases, o_t_lastReason, o_t_caseFirst, o_t_finds, o_t_label, o_t_reason)) : Met l yX7_count wsX7_count { frames := 8, cells := 0, slots := 0, locals := 190 } (pn_Pc D cI cJ cZ [.ref a_t, .int p1] [(a_t, .inr (6, [.int v_t_thrown, .ref a_t_text, .int v_t_textSize, .int v_t_place, .ref a_t_readPage, .ref a_t_page, .ref a_t_trial, .ref a_t_work, .ref a_t_book, .int v_t_doings, .ref a_t_kept, .ref a_t_isKept, .int v_t_seen, .ref a_t_seenWhat, .ref a_t_seenV, .ref a_t_seenIs, .long v_t_seed, .ref a_t_label, .ref a_t_finds, .ref a_t_reason, .ref a_t_caseFirst, .int v_t_cases, .ref a_t_brief, .ref a_t_printed, .int v_t_printedSize, .ref a_t_renamed, .ref a_t_worth, .int v_t_lastReason])), (a_t_caseFirst, .inl (cI, 32, .inl r_t_caseFirst)), (a_t_finds, .inl (cI, 32, .inl r_t_finds)), (a_t_label, .inl (cI, 32, .inl r_t_label)), (a_t_page, .inl (cI, 265, .inl r_t_page)), (a_t_reason, .inl (cI, 32, .inl r_t_reason))] sz) (pn_Qi D rR [(a_t, .inr (6, [.int o_t_thrown, .ref a_t_text, .int v_t_textSize, .int v_t_place, .ref a_t_readPage, .ref a_t_page, .ref a_t_trial, .ref a_t_work, .ref a_t_book, .int v_t_doings, .ref a_t_kept, .ref a_t_isKept, .int v_t_seen, .ref a_t_seenWhat, .ref a_t_seenV, .ref a_t_seenIs, .long v_t_seed, .ref a_t_label, .ref a_t_finds, .ref a_t_reason, .ref a_t_caseFirst, .int o_t_cases, .ref a_t_brief, .ref a_t_printed, .int v_t_printedSize, .ref a_t_renamed, .ref a_t_worth, .int o_t_lastReason])), (a_t_caseFirst, .inl (cI, 32, .inl o_t_caseFirst)), (a_t_finds, .inl (cI, 32, .inl o_t_finds)), (a_t_label, .inl (cI, 32, .inl o_t_label)), (a_t_page, .inl (cI, 265, .inl r_t_page)), (a_t_reason, .inl (cI, 32, .inl o_t_reason))] (va_A [(a_t, .inr (6, [.int v_t_thrown, .ref a_t_text, .int v_t_textSize, .int v_t_place, .ref a_t_readPage, .ref a_t_page, .ref a_t_trial, .ref a_t_work, .ref a_t_book, .int v_t_doings, .ref a_t_kept, .ref a_t_isKept, .int v_t_seen, .ref a_t_seenWhat, .ref a_t_seenV, .ref a_t_seenIs, .long v_t_seed, .ref a_t_label, .ref a_t_finds, .ref a_t_reason, .ref a_t_caseFirst, .int v_t_cases, .ref a_t_brief, .ref a_t_printed, .int v_t_printedSize, .ref a_t_renamed, .ref a_t_worth, .int v_t_lastReason])), (a_t_caseFirst, .inl (cI, 32, .inl r_t_caseFirst)), (a_t_finds, .inl (cI, 32, .inl r_t_finds)), (a_t_label, .inl (cI, 32, .inl r_t_label)), (a_t_page, .inl (cI, 265, .inl r_t_page)), (a_t_reason, .inl (cI, 32, .inl r_t_reason))] sz)) 0 0 (va_A [(a_t, .inr (6, [.int v_t_thrown, .ref a_t_text, .int v_t_textSize, .int v_t_place, .ref a_t_readPage, .ref a_t_page, .ref a_t_trial, .ref a_t_work, .ref a_t_book, .int v_t_doings, .ref a_t_kept, .ref a_t_isKept, .int v_t_seen, .ref a_t_seenWhat, .ref a_t_seenV, .ref a_t_seenIs, .long v_t_seed, .ref a_t_label, .ref a_t_finds, .ref a_t_reason, .ref a_t_caseFirst, .int v_t_cases, .ref a_t_brief, .ref a_t_printed, .int v_t_printedSize, .ref a_t_renamed, .ref a_t_worth, .int v_t_lastReason])), (a_t_caseFirst, .inl (cI, 32, .inl r_t_caseFirst)), (a_t_finds, .inl (cI, 32, .inl r_t_finds)), (a_t_label, .inl (cI, 32, .inl r_t_label)), (a_t_page, .inl (cI, 265, .inl r_t_page)), (a_t_reason, .inl (cI, 32, .inl r_t_reason))] sz) := by
  refine pn_entry (cc := cX7_count) (maxL := 2) (ret := (some .int)) (Qf := pn_Qi D rR [(a_t, .inr (6, [.int o_t_thrown, .ref a_t_text, .int v_t_textSize, .int v_t_place, .ref a_t_readPage, .ref a_t_page, .ref a_t_trial, .ref a_t_work, .ref a_t_book, .int v_t_doings, .ref a_t_kept, .ref a_t_isKept, .int v_t_seen, .ref a_t_seenWhat, .ref a_t_seenV, .ref a_t_seenIs, .long v_t_seed, .ref a_t_label, .ref a_t_finds, .ref a_t_reason, .ref a_t_caseFirst, .int o_t_cases, .ref a_t_brief, .ref a_t_printed, .int v_t_printedSize, .ref a_t_renamed, .ref a_t_worth, .int o_t_lastReason])), (a_t_caseFirst, .inl (cI, 32, .inl o_t_caseFirst)), (a_t_finds, .inl (cI, 32, .inl o_t_finds)), (a_t_label, .inl (cI, 32, .inl o_t_label)), (a_t_page, .inl (cI, 265, .inl r_t_page)), (a_t_reason, .inl (cI, 32, .inl o_t_reason))]) (by decide) rfl (Nat.le_of_ble_eq_true rfl) ?_
  intro p e s m args below meth c A ls H locs Qm hQ hx hb hr hlocks hml hown hts hK hP hD hA hS hl
  have hl : lv_has ls 2 [(0, .ref a_t), (1, .int p1)] := hl
  have hinX7 : ∀ w ∈ wsX70, w ∈ wsX7_count := by decide +kernel
  have fl_16 := hts (.fieldLink RX7 16 "PointingNotesModel" "page" "[I") (by decide +kernel)
  have fl_68 := hts (.fieldLink RX7 68 "PointingNotesModel" "thrown" "I") (by decide +kernel)
  have fl_86 := hts (.fieldLink RX7 86 "PointingNotesModel" "textSize" "I") (by decide +kernel)
  have fl_131 := hts (.fieldLink RX7 131 "PointingNotesModel" "doings" "I") (by decide +kernel)
  have fl_152 := hts (.fieldLink RX7 152 "PointingNotesModel" "cases" "I") (by decide +kernel)
  have fl_304 := hts (.fieldLink RX7 304 "PointingNotesModel" "seen" "I") (by decide +kernel)
  rw [f_X7_count] at hf
  refine lv_aload_n hx hb dX7_count_0 rfl (lv_at hl 0 rfl) ?_
  refine lv_iconst (v := (0)) hx hb dX7_count_1 (by decide) ?_
  refine va_put (D := D) (ci := 6) (v := .int (0 : Int32)) (ty := .int) (C := RX7) (T := TX7) (N := 28) hx hb hts hinX7 tyX7 tyX7_ok nmX7 hown hK.1 hP (hD.addr rfl) hS 0 rfl rfl 0 (by decide) fl_68 (fun _ h9 => h9) rfl (by decide +kernel) rfl rfl (Nat.le_of_ble_eq_true rfl) dX7_count_2 (fun H locs (hP : va_P D vwCl [(a_t, .inr (6, [.int ((0 : Int32)), .ref a_t_text, .int v_t_textSize, .int v_t_place, .ref a_t_readPage, .ref a_t_page, .ref a_t_trial, .ref a_t_work, .ref a_t_book, .int v_t_doings, .ref a_t_kept, .ref a_t_isKept, .int v_t_seen, .ref a_t_seenWhat, .ref a_t_seenV, .ref a_t_seenIs, .long v_t_seed, .ref a_t_label, .ref a_t_finds, .ref a_t_reason, .ref a_t_caseFirst, .int v_t_cases, .ref a_t_brief, .ref a_t_printed, .int v_t_printedSize, .ref a_t_renamed, .ref a_t_worth, .int v_t_lastReason])), (a_t_caseFirst, .inl (cI, 32, .inl r_t_caseFirst)), (a_t_finds, .inl (cI, 32, .inl r_t_finds)), (a_t_label, .inl (cI, 32, .inl r_t_label)), (a_t_page, .inl (cI, 265, .inl r_t_page)), (a_t_reason, .inl (cI, 32, .inl r_t_reason))] H) _ hS => ?_)
  refine lv_aload_n hx hb dX7_count_5 rfl (lv_at hl 0 rfl) ?_
  refine lv_aload_n hx hb dX7_count_6 rfl (lv_at hl 0 rfl) ?_
  refine va_get (D := D) (ci := 6) (v := .ref a_t_page) (C := RX7) (T := TX7) (N := 28) hx hb hts hinX7 hown hK.1 hP 0 rfl rfl 5 (by decide) fl_16 (fun _ h9 => h9) rfl dX7_count_7 ?_
  obtain ⟨v_t_cases_u1, v_t_lastReason_u1, r_t_caseFirst_u1, r_t_finds_u1, r_t_label_u1, r_t_reason_u1, hu1, hf⟩ := pn_bd6_at hf
  refine pn_callv [0, 1, 2, 3, 5, 4] (va_runV (As := [.ref a_t_page]) (rest := []) ⟨hx, hb, hml, hown, hts⟩ (c_X7_findAll l D cI cJ cZ a_t a_t_text a_t_readPage a_t_page a_t_trial a_t_work a_t_book a_t_kept a_t_isKept a_t_seenWhat a_t_seenV a_t_seenIs a_t_label a_t_finds a_t_reason a_t_caseFirst a_t_brief a_t_printed a_t_renamed a_t_worth a_t_page H.size (0 : Int32) v_t_textSize v_t_place v_t_doings v_t_seen v_t_seed v_t_printedSize N v_t_cases v_t_lastReason r_t_caseFirst r_t_finds r_t_label r_t_reason r_t_page v_t_cases_u1 v_t_lastReason_u1 r_t_caseFirst_u1 r_t_finds_u1 r_t_label_u1 r_t_reason_u1 hu1) (cwV 1 hts gX7_count_X7_findAll rfl rfl rfl hdX7_findAll ⟨Nat.le_of_ble_eq_true rfl, Nat.le_of_ble_eq_true rfl⟩) (pn_preV [0, 1, 2, 3, 5, 4] hP (hD.addr rfl) hK rfl rfl (q0 := 0) (ci := 6) rfl rfl) rfl rfl hl.1 rfl (lv_room (Nat.le_of_ble_eq_true rfl)) dX7_count_10 ⟨Nat.zero_le _, Nat.zero_le _⟩) hP (hD.addr rfl) hS hA rfl rfl rfl (fun H locs (hP : va_P D vwCl [(a_t, .inr (6, [.int ((0 : Int32)), .ref a_t_text, .int v_t_textSize, .int v_t_place, .ref a_t_readPage, .ref a_t_page, .ref a_t_trial, .ref a_t_work, .ref a_t_book, .int v_t_doings, .ref a_t_kept, .ref a_t_isKept, .int v_t_seen, .ref a_t_seenWhat, .ref a_t_seenV, .ref a_t_seenIs, .long v_t_seed, .ref a_t_label, .ref a_t_finds, .ref a_t_reason, .ref a_t_caseFirst, .int v_t_cases_u1, .ref a_t_brief, .ref a_t_printed, .int v_t_printedSize, .ref a_t_renamed, .ref a_t_worth, .int v_t_lastReason_u1])), (a_t_caseFirst, .inl (cI, 32, .inl r_t_caseFirst_u1)), (a_t_finds, .inl (cI, 32, .inl r_t_finds_u1)), (a_t_label, .inl (cI, 32, .inl r_t_label_u1)), (a_t_page, .inl (cI, 265, .inl r_t_page)), (a_t_reason, .inl (cI, 32, .inl r_t_reason_u1))] H) _ hS => ?_)
  refine lv_iload_n hx hb dX7_count_13 rfl (lv_at hl 1 rfl) ?_
  by_cases c2 : p1 = 0
  · have hf := pn_ifp c2 hf
    refine lv_tableIn (tgt := 60) hx hb dX7_count_14 (by rw [c2]; decide) (by rw [c2]; decide) (by rw [c2]; rfl) (by decide) ?_
    refine lv_aload_n hx hb dX7_count_60 rfl (lv_at hl 0 rfl) ?_
    refine va_get (D := D) (ci := 6) (v := .int v_t_textSize) (C := RX7) (T := TX7) (N := 28) hx hb hts hinX7 hown hK.1 hP 0 rfl rfl 2 (by decide) fl_86 (fun _ h9 => h9) rfl dX7_count_61 ?_
    cases hf
    rw [hQ]
    exact pn_reti hx hb hr hlocks hP hS rfl dX7_count_64
  · have hf := pn_ifn c2 hf
    by_cases c3 : p1 = 1
    · have hf := pn_ifp c3 hf
      refine lv_tableIn (tgt := 65) hx hb dX7_count_14 (by rw [c3]; decide) (by rw [c3]; decide) (by rw [c3]; rfl) (by decide) ?_
      refine lv_aload_n hx hb dX7_count_65 rfl (lv_at hl 0 rfl) ?_
      refine va_get (D := D) (ci := 6) (v := .ref a_t_page) (C := RX7) (T := TX7) (N := 28) hx hb hts hinX7 hown hK.1 hP 0 rfl rfl 5 (by decide) fl_16 (fun _ h9 => h9) rfl dX7_count_66 ?_
      refine lv_iconst (v := (0)) hx hb dX7_count_69 (by decide) ?_
      obtain ⟨hi5, w4, ew4, hf⟩ := pn_rd_at hf
      refine pn_ldI hx hb hK.1 hP 4 0 rfl rfl hi5 ew4 dX7_count_70 ?_
      cases hf
      rw [hQ]
      exact pn_reti hx hb hr hlocks hP hS rfl dX7_count_71
    · have hf := pn_ifn c3 hf
      by_cases c6 : p1 = 2
      · have hf := pn_ifp c6 hf
        refine lv_tableIn (tgt := 72) hx hb dX7_count_14 (by rw [c6]; decide) (by rw [c6]; decide) (by rw [c6]; rfl) (by decide) ?_
        refine lv_aload_n hx hb dX7_count_72 rfl (lv_at hl 0 rfl) ?_
        refine va_get (D := D) (ci := 6) (v := .ref a_t_page) (C := RX7) (T := TX7) (N := 28) hx hb hts hinX7 hown hK.1 hP 0 rfl rfl 5 (by decide) fl_16 (fun _ h9 => h9) rfl dX7_count_73 ?_
        refine lv_aload_n hx hb dX7_count_76 rfl (lv_at hl 0 rfl) ?_
        refine va_get (D := D) (ci := 6) (v := .ref a_t_page) (C := RX7) (T := TX7) (N := 28) hx hb hts hinX7 hown hK.1 hP 0 rfl rfl 5 (by decide) fl_16 (fun _ h9 => h9) rfl dX7_count_77 ?_
        obtain ⟨ru7, hu7, hf⟩ := pn_bd1_at hf
        refine pn_calli [4] (va_runS (As := [.ref a_t_page]) (rest := [.ref a_t_page]) ⟨hx, hb, hml, hown, hts⟩ (c_X7_allNotes l D cI cJ cZ a_t_page H.size r_t_page ru7 hu7) (va_cwS 1 hts gX7_count_X7_allNotes rfl rfl rfl hdX7_allNotes ⟨Nat.le_of_ble_eq_true rfl, Nat.le_of_ble_eq_true rfl⟩) (pn_preS [4] hP (hD.addr rfl) hK rfl rfl) rfl rfl hl.1 rfl (lv_room (Nat.le_of_ble_eq_true rfl)) dX7_count_80 ⟨Nat.zero_le _, Nat.zero_le _⟩) hP (hD.addr rfl) hS hA rfl rfl rfl (fun H locs (hP : va_P D vwCl [(a_t, .inr (6, [.int ((0 : Int32)), .ref a_t_text, .int v_t_textSize, .int v_t_place, .ref a_t_readPage, .ref a_t_page, .ref a_t_trial, .ref a_t_work, .ref a_t_book, .int v_t_doings, .ref a_t_kept, .ref a_t_isKept, .int v_t_seen, .ref a_t_seenWhat, .ref a_t_seenV, .ref a_t_seenIs, .long v_t_seed, .ref a_t_label, .ref a_t_finds, .ref a_t_reason, .ref a_t_caseFirst, .int v_t_cases_u1, .ref a_t_brief, .ref a_t_printed, .int v_t_printedSize, .ref a_t_renamed, .ref a_t_worth, .int v_t_lastReason_u1])), (a_t_caseFirst, .inl (cI, 32, .inl r_t_caseFirst_u1)), (a_t_finds, .inl (cI, 32, .inl r_t_finds_u1)), (a_t_label, .inl (cI, 32, .inl r_t_label_u1)), (a_t_page, .inl (cI, 265, .inl r_t_page)), (a_t_reason, .inl (cI, 32, .inl r_t_reason_u1))] H) _ hS => ?_)
        obtain ⟨ru8, hu8, hf⟩ := pn_bd1_at hf
        refine pn_calli [4] (va_runS (As := [.ref a_t_page, .int ru7]) (rest := []) ⟨hx, hb, hml, hown, hts⟩ (c_X7_manyRefs l D cI cJ cZ a_t_page H.size N r_t_page ru7 ru8 hu8) (va_cwS 2 hts gX7_count_X7_manyRefs rfl rfl rfl hdX7_manyRefs ⟨Nat.le_of_ble_eq_true rfl, Nat.le_of_ble_eq_true rfl⟩) (pn_preS [4] hP (hD.addr rfl) hK rfl rfl) rfl rfl hl.1 rfl (lv_room (Nat.le_of_ble_eq_true rfl)) dX7_count_83 ⟨Nat.zero_le _, Nat.zero_le _⟩) hP (hD.addr rfl) hS hA rfl rfl rfl (fun H locs (hP : va_P D vwCl [(a_t, .inr (6, [.int ((0 : Int32)), .ref a_t_text, .int v_t_textSize, .int v_t_place, .ref a_t_readPage, .ref a_t_page, .ref a_t_trial, .ref a_t_work, .ref a_t_book, .int v_t_doings, .ref a_t_kept, .ref a_t_isKept, .int v_t_seen, .ref a_t_seenWhat, .ref a_t_seenV, .ref a_t_seenIs, .long v_t_seed, .ref a_t_label, .ref a_t_finds, .ref a_t_reason, .ref a_t_caseFirst, .int v_t_cases_u1, .ref a_t_brief, .ref a_t_printed, .int v_t_printedSize, .ref a_t_renamed, .ref a_t_worth, .int v_t_lastReason_u1])), (a_t_caseFirst, .inl (cI, 32, .inl r_t_caseFirst_u1)), (a_t_finds, .inl (cI, 32, .inl r_t_finds_u1)), (a_t_label, .inl (cI, 32, .inl r_t_label_u1)), (a_t_page, .inl (cI, 265, .inl r_t_page)), (a_t_reason, .inl (cI, 32, .inl r_t_reason_u1))] H) _ hS => ?_)
        cases hf
        rw [hQ]
        exact pn_reti hx hb hr hlocks hP hS rfl dX7_count_86
      · have hf := pn_ifn c6 hf
        by_cases c9 : p1 = 3
        · have hf := pn_ifp c9 hf
          refine lv_tableIn (tgt := 87) hx hb dX7_count_14 (by rw [c9]; decide) (by rw [c9]; decide) (by rw [c9]; rfl) (by decide) ?_
          refine lv_aload_n hx hb dX7_count_87 rfl (lv_at hl 0 rfl) ?_
          refine va_get (D := D) (ci := 6) (v := .int v_t_cases_u1) (C := RX7) (T := TX7) (N := 28) hx hb hts hinX7 hown hK.1 hP 0 rfl rfl 21 (by decide) fl_152 (fun _ h9 => h9) rfl dX7_count_88 ?_
          cases hf
          rw [hQ]
          exact pn_reti hx hb hr hlocks hP hS rfl dX7_count_91
        · have hf := pn_ifn c9 hf
          by_cases c10 : p1 = 4
          · have hf := pn_ifp c10 hf
            refine lv_tableIn (tgt := 92) hx hb dX7_count_14 (by rw [c10]; decide) (by rw [c10]; decide) (by rw [c10]; rfl) (by decide) ?_
            refine lv_aload_n hx hb dX7_count_92 rfl (lv_at hl 0 rfl) ?_
            refine lv_aload_n hx hb dX7_count_93 rfl (lv_at hl 0 rfl) ?_
            refine va_get (D := D) (ci := 6) (v := .ref a_t_page) (C := RX7) (T := TX7) (N := 28) hx hb hts hinX7 hown hK.1 hP 0 rfl rfl 5 (by decide) fl_16 (fun _ h9 => h9) rfl dX7_count_94 ?_
            obtain ⟨ru11, v_t_cases_u11, v_t_lastReason_u11, r_t_caseFirst_u11, r_t_finds_u11, r_t_label_u11, r_t_reason_u11, hu11, hf⟩ := pn_bd7_at hf
            refine pn_calli [0, 1, 2, 3, 5, 4] (va_runV (As := [.ref a_t_page]) (rest := []) ⟨hx, hb, hml, hown, hts⟩ (c_X7_dead l D cI cJ cZ a_t a_t_text a_t_readPage a_t_page a_t_trial a_t_work a_t_book a_t_kept a_t_isKept a_t_seenWhat a_t_seenV a_t_seenIs a_t_label a_t_finds a_t_reason a_t_caseFirst a_t_brief a_t_printed a_t_renamed a_t_worth a_t_page H.size (0 : Int32) v_t_textSize v_t_place v_t_doings v_t_seen v_t_seed v_t_printedSize N v_t_cases_u1 v_t_lastReason_u1 r_t_caseFirst_u1 r_t_finds_u1 r_t_label_u1 r_t_reason_u1 r_t_page ru11 v_t_cases_u11 v_t_lastReason_u11 r_t_caseFirst_u11 r_t_finds_u11 r_t_label_u11 r_t_reason_u11 hu11) (cwV 1 hts gX7_count_X7_dead rfl rfl rfl hdX7_dead ⟨Nat.le_of_ble_eq_true rfl, Nat.le_of_ble_eq_true rfl⟩) (pn_preV [0, 1, 2, 3, 5, 4] hP (hD.addr rfl) hK rfl rfl (q0 := 0) (ci := 6) rfl rfl) rfl rfl hl.1 rfl (lv_room (Nat.le_of_ble_eq_true rfl)) dX7_count_97 ⟨Nat.zero_le _, Nat.zero_le _⟩) hP (hD.addr rfl) hS hA rfl rfl rfl (fun H locs (hP : va_P D vwCl [(a_t, .inr (6, [.int ((0 : Int32)), .ref a_t_text, .int v_t_textSize, .int v_t_place, .ref a_t_readPage, .ref a_t_page, .ref a_t_trial, .ref a_t_work, .ref a_t_book, .int v_t_doings, .ref a_t_kept, .ref a_t_isKept, .int v_t_seen, .ref a_t_seenWhat, .ref a_t_seenV, .ref a_t_seenIs, .long v_t_seed, .ref a_t_label, .ref a_t_finds, .ref a_t_reason, .ref a_t_caseFirst, .int v_t_cases_u11, .ref a_t_brief, .ref a_t_printed, .int v_t_printedSize, .ref a_t_renamed, .ref a_t_worth, .int v_t_lastReason_u11])), (a_t_caseFirst, .inl (cI, 32, .inl r_t_caseFirst_u11)), (a_t_finds, .inl (cI, 32, .inl r_t_finds_u11)), (a_t_label, .inl (cI, 32, .inl r_t_label_u11)), (a_t_page, .inl (cI, 265, .inl r_t_page)), (a_t_reason, .inl (cI, 32, .inl r_t_reason_u11))] H) _ hS => ?_)
            cases hf
            rw [hQ]
            exact pn_reti hx hb hr hlocks hP hS rfl dX7_count_100
          · have hf := pn_ifn c10 hf
            by_cases c12 : p1 = 5
            · have hf := pn_ifp c12 hf
              refine lv_tableIn (tgt := 101) hx hb dX7_count_14 (by rw [c12]; decide) (by rw [c12]; decide) (by rw [c12]; rfl) (by decide) ?_
              refine lv_aload_n hx hb dX7_count_101 rfl (lv_at hl 0 rfl) ?_
              obtain ⟨ru13, v_t_cases_u13, v_t_lastReason_u13, r_t_caseFirst_u13, r_t_finds_u13, r_t_label_u13, r_t_reason_u13, hu13, hf⟩ := pn_bd7_at hf
              refine pn_calli [0, 1, 2, 3, 4, 5] (va_runV (As := []) (rest := []) ⟨hx, hb, hml, hown, hts⟩ (c_X7_manyClash l D cI cJ cZ a_t a_t_text a_t_readPage a_t_page a_t_trial a_t_work a_t_book a_t_kept a_t_isKept a_t_seenWhat a_t_seenV a_t_seenIs a_t_label a_t_finds a_t_reason a_t_caseFirst a_t_brief a_t_printed a_t_renamed a_t_worth H.size (0 : Int32) v_t_textSize v_t_place v_t_doings v_t_seen v_t_seed v_t_printedSize N v_t_cases_u1 v_t_lastReason_u1 r_t_caseFirst_u1 r_t_finds_u1 r_t_label_u1 r_t_page r_t_reason_u1 ru13 v_t_cases_u13 v_t_lastReason_u13 r_t_caseFirst_u13 r_t_finds_u13 r_t_label_u13 r_t_reason_u13 hu13) (cwV 0 hts gX7_count_X7_manyClash rfl rfl rfl hdX7_manyClash ⟨Nat.le_of_ble_eq_true rfl, Nat.le_of_ble_eq_true rfl⟩) (pn_preV [0, 1, 2, 3, 4, 5] hP (hD.addr rfl) hK rfl rfl (q0 := 0) (ci := 6) rfl rfl) rfl rfl hl.1 rfl (lv_room (Nat.le_of_ble_eq_true rfl)) dX7_count_102 ⟨Nat.zero_le _, Nat.zero_le _⟩) hP (hD.addr rfl) hS hA rfl rfl rfl (fun H locs (hP : va_P D vwCl [(a_t, .inr (6, [.int ((0 : Int32)), .ref a_t_text, .int v_t_textSize, .int v_t_place, .ref a_t_readPage, .ref a_t_page, .ref a_t_trial, .ref a_t_work, .ref a_t_book, .int v_t_doings, .ref a_t_kept, .ref a_t_isKept, .int v_t_seen, .ref a_t_seenWhat, .ref a_t_seenV, .ref a_t_seenIs, .long v_t_seed, .ref a_t_label, .ref a_t_finds, .ref a_t_reason, .ref a_t_caseFirst, .int v_t_cases_u13, .ref a_t_brief, .ref a_t_printed, .int v_t_printedSize, .ref a_t_renamed, .ref a_t_worth, .int v_t_lastReason_u13])), (a_t_caseFirst, .inl (cI, 32, .inl r_t_caseFirst_u13)), (a_t_finds, .inl (cI, 32, .inl r_t_finds_u13)), (a_t_label, .inl (cI, 32, .inl r_t_label_u13)), (a_t_page, .inl (cI, 265, .inl r_t_page)), (a_t_reason, .inl (cI, 32, .inl r_t_reason_u13))] H) _ hS => ?_)
              cases hf
              rw [hQ]
              exact pn_reti hx hb hr hlocks hP hS rfl dX7_count_105
            · have hf := pn_ifn c12 hf
              by_cases c14 : p1 = 6
              · have hf := pn_ifp c14 hf
                refine lv_tableIn (tgt := 106) hx hb dX7_count_14 (by rw [c14]; decide) (by rw [c14]; decide) (by rw [c14]; rfl) (by decide) ?_
                refine lv_aload_n hx hb dX7_count_106 rfl (lv_at hl 0 rfl) ?_
                refine va_get (D := D) (ci := 6) (v := .int v_t_doings) (C := RX7) (T := TX7) (N := 28) hx hb hts hinX7 hown hK.1 hP 0 rfl rfl 9 (by decide) fl_131 (fun _ h9 => h9) rfl dX7_count_107 ?_
                cases hf
                rw [hQ]
                exact pn_reti hx hb hr hlocks hP hS rfl dX7_count_110
              · have hf := pn_ifn c14 hf
                by_cases c15 : p1 = 7
                · have hf := pn_ifp c15 hf
                  refine lv_tableIn (tgt := 111) hx hb dX7_count_14 (by rw [c15]; decide) (by rw [c15]; decide) (by rw [c15]; rfl) (by decide) ?_
                  refine lv_aload_n hx hb dX7_count_111 rfl (lv_at hl 0 rfl) ?_
                  refine va_get (D := D) (ci := 6) (v := .int v_t_seen) (C := RX7) (T := TX7) (N := 28) hx hb hts hinX7 hown hK.1 hP 0 rfl rfl 12 (by decide) fl_304 (fun _ h9 => h9) rfl dX7_count_112 ?_
                  cases hf
                  rw [hQ]
                  exact pn_reti hx hb hr hlocks hP hS rfl dX7_count_115
                · have hf := pn_ifn c15 hf
                  refine lv_tableOut (tgt := 116) hx hb dX7_count_14 (by have := lv_neT (a := 0) c2 (by decide); have := lv_neT (a := 1) c3 (by decide); have := lv_neT (a := 2) c6 (by decide); have := lv_neT (a := 3) c9 (by decide); have := lv_neT (a := 4) c10 (by decide); have := lv_neT (a := 5) c12 (by decide); have := lv_neT (a := 6) c14 (by decide); have := lv_neT (a := 7) c15 (by decide); omega) (by decide) ?_
                  refine lv_bipush (v := (-2)) hx hb dX7_count_116 (by decide) ?_
                  cases hf
                  rw [hQ]
                  exact pn_reti hx hb hr hlocks hP hS rfl dX7_count_118
