theorem hdX7_clashes : yX7_clashes.cls = RX7 ∧ yX7_clashes.cls ≠ "java/lang/invoke/MethodHandle" ∧ yX7_clashes.cls ≠ "java/lang/invoke/VarHandle" ∧ (parseMethodDescriptor yX7_clashes.desc).map (fun d => d.parameters.length) = some 1 := by decide +kernel
theorem hdX7_isReportOf : yX7_isReportOf.cls = RX7 ∧ yX7_isReportOf.cls ≠ "java/lang/invoke/MethodHandle" ∧ yX7_isReportOf.cls ≠ "java/lang/invoke/VarHandle" ∧ (parseMethodDescriptor yX7_isReportOf.desc).map (fun d => d.parameters.length) = some 2 := by decide +kernel
theorem hdX7_reportsOf : yX7_reportsOf.cls = RX7 ∧ yX7_reportsOf.cls ≠ "java/lang/invoke/MethodHandle" ∧ yX7_reportsOf.cls ≠ "java/lang/invoke/VarHandle" ∧ (parseMethodDescriptor yX7_reportsOf.desc).map (fun d => d.parameters.length) = some 1 := by decide +kernel
theorem hdX7_notesOf : yX7_notesOf.cls = RX7 ∧ yX7_notesOf.cls ≠ "java/lang/invoke/MethodHandle" ∧ yX7_notesOf.cls ≠ "java/lang/invoke/VarHandle" ∧ (parseMethodDescriptor yX7_notesOf.desc).map (fun d => d.parameters.length) = some 1 := by decide +kernel
theorem hdX7_refsOf : yX7_refsOf.cls = RX7 ∧ yX7_refsOf.cls ≠ "java/lang/invoke/MethodHandle" ∧ yX7_refsOf.cls ≠ "java/lang/invoke/VarHandle" ∧ (parseMethodDescriptor yX7_refsOf.desc).map (fun d => d.parameters.length) = some 1 := by decide +kernel
theorem hdX7_aCase : yX7_aCase.cls = RX7 ∧ yX7_aCase.cls ≠ "java/lang/invoke/MethodHandle" ∧ yX7_aCase.cls ≠ "java/lang/invoke/VarHandle" ∧ (parseMethodDescriptor yX7_aCase.desc).map (fun d => d.parameters.length) = some 2 := by decide +kernel
theorem hdX7_rankOf : yX7_rankOf.cls = RX7 ∧ yX7_rankOf.cls ≠ "java/lang/invoke/MethodHandle" ∧ yX7_rankOf.cls ≠ "java/lang/invoke/VarHandle" ∧ (parseMethodDescriptor yX7_rankOf.desc).map (fun d => d.parameters.length) = some 1 := by decide +kernel
theorem hdX7_table : yX7_table.cls = RX7 ∧ yX7_table.cls ≠ "java/lang/invoke/MethodHandle" ∧ yX7_table.cls ≠ "java/lang/invoke/VarHandle" ∧ (parseMethodDescriptor yX7_table.desc).map (fun d => d.parameters.length) = some 1 := by decide +kernel
theorem hdX7_hasAll : yX7_hasAll.cls ≠ "java/lang/invoke/MethodHandle" ∧ yX7_hasAll.cls ≠ "java/lang/invoke/VarHandle" ∧ (parseMethodDescriptor yX7_hasAll.desc).map (fun d => d.parameters.length) = some 3 := by decide +kernel
theorem hdX7_stays : yX7_stays.cls ≠ "java/lang/invoke/MethodHandle" ∧ yX7_stays.cls ≠ "java/lang/invoke/VarHandle" ∧ (parseMethodDescriptor yX7_stays.desc).map (fun d => d.parameters.length) = some 2 := by decide +kernel
theorem hdX7_layBrief : yX7_layBrief.cls = RX7 ∧ yX7_layBrief.cls ≠ "java/lang/invoke/MethodHandle" ∧ yX7_layBrief.cls ≠ "java/lang/invoke/VarHandle" ∧ (parseMethodDescriptor yX7_layBrief.desc).map (fun d => d.parameters.length) = some 3 := by decide +kernel
theorem hdX7_laySpelled : yX7_laySpelled.cls = RX7 ∧ yX7_laySpelled.cls ≠ "java/lang/invoke/MethodHandle" ∧ yX7_laySpelled.cls ≠ "java/lang/invoke/VarHandle" ∧ (parseMethodDescriptor yX7_laySpelled.desc).map (fun d => d.parameters.length) = some 2 := by decide +kernel
def j_X7_clashes_102 (rc : Int32 → Int32 → Option (Int32)) (x2 : Int32) (x3 : Int32) (x4 : Int32) (s0 : Int32) : Option (Int32) :=
  if ¬ x2 = 0 then
  pn_nm (x3 + (1 : Int32)) fun z2 =>
  rc (1 : Int32) z2
  else
  if x4 = 0 then
  pn_nm (x3 + (1 : Int32)) fun z4 =>
  rc (0 : Int32) z4
  else
  if ¬ s0 = 0 then
  pn_nm (x3 + (1 : Int32)) fun z6 =>
  rc (0 : Int32) z6
  else
  pn_nm (x3 + (1 : Int32)) fun z7 =>
  rc (1 : Int32) z7
def j_X7_clashes_43 (rc : Int32 → Int32 → Option (Int32)) (r_t_caseFirst : Nat → Int32) (r_t_page : Nat → Int32) (p1 : Int32) (x2 : Int32) (x3 : Int32) (s0 : Int32) : Option (Int32) :=
  pn_bd1 (f_X7_ref r_t_page x3 (1 : Int32)) fun ru8 =>
  pn_rd 32 r_t_caseFirst p1 fun w9 =>
  pn_bd1 (f_X7_ref r_t_page w9 (1 : Int32)) fun ru11 =>
  if ¬ ru8 = ru11 then
  j_X7_clashes_102 (rc) x2 x3 s0 (0 : Int32)
  else
  pn_bd1 (f_X7_ref r_t_page x3 (2 : Int32)) fun ru13 =>
  pn_rd 32 r_t_caseFirst p1 fun w14 =>
  pn_bd1 (f_X7_ref r_t_page w14 (2 : Int32)) fun ru16 =>
  if ¬ ru13 = ru16 then
  j_X7_clashes_102 (rc) x2 x3 s0 (0 : Int32)
  else
  j_X7_clashes_102 (rc) x2 x3 s0 (1 : Int32)
def lp_X7_clashes_4 (r_t_caseFirst : Nat → Int32) (r_t_finds : Nat → Int32) (r_t_page : Nat → Int32) (p1 : Int32) : Nat → Int32 → Int32 → Option (Int32)
  | 0, _, _ => none
  | n + 1, x2, x3 =>
    if (32 : Int32) ≤ x3 then
  some x2
  else
  pn_bd1 (f_X7_allNotes r_t_page) fun ru19 =>
  pn_bd1 (f_X7_isSpelled r_t_page ru19 x3) fun ru20 =>
  if ru20 = 0 then
  j_X7_clashes_43 (lp_X7_clashes_4 r_t_caseFirst r_t_finds r_t_page p1 n) r_t_caseFirst r_t_page p1 x2 x3 (0 : Int32)
  else
  pn_rd 32 r_t_finds x3 fun w22 =>
  if ¬ w22 = p1 then
  j_X7_clashes_43 (lp_X7_clashes_4 r_t_caseFirst r_t_finds r_t_page p1 n) r_t_caseFirst r_t_page p1 x2 x3 (0 : Int32)
  else
  j_X7_clashes_43 (lp_X7_clashes_4 r_t_caseFirst r_t_finds r_t_page p1 n) r_t_caseFirst r_t_page p1 x2 x3 (1 : Int32)
def f_X7_clashes (N : Nat) (r_t_caseFirst : Nat → Int32) (r_t_finds : Nat → Int32) (r_t_page : Nat → Int32) (p1 : Int32) : Option (Int32) :=
  pn_bd1 (lp_X7_clashes_4 r_t_caseFirst r_t_finds r_t_page p1 N (0 : Int32) (0 : Int32)) (fun X4 => (pn_u1 fun x2_w25 => pn_bz x2_w25 <|
  some x2_w25) X4)
set_option maxHeartbeats 4000000 in
set_option maxRecDepth 100000 in
theorem c_X7_clashes (l : Launch) (D : va_G) (cI cJ cZ : ClassId) (a_t a_t_text a_t_readPage a_t_page a_t_trial a_t_work a_t_book a_t_kept a_t_isKept a_t_seenWhat a_t_seenV a_t_seenIs a_t_label a_t_finds a_t_reason a_t_caseFirst a_t_brief a_t_printed a_t_renamed a_t_worth : Nat) (sz : Nat) (v_t_thrown : Int32) (v_t_textSize : Int32) (v_t_place : Int32) (v_t_doings : Int32) (v_t_seen : Int32) (v_t_seed : Int64) (v_t_cases : Int32) (v_t_printedSize : Int32) (v_t_lastReason : Int32) (N : Nat) (r_t_caseFirst : Nat → Int32) (r_t_finds : Nat → Int32) (r_t_page : Nat → Int32) (p1 : Int32) (rR : Int32) (hf : f_X7_clashes N r_t_caseFirst r_t_finds r_t_page p1 = some rR) : Met l yX7_clashes wsX7_clashes { frames := 4, cells := 0, slots := 0, locals := 91 } (pn_Pc D cI cJ cZ [.ref a_t, .int p1] [(a_t, .inr (6, [.int v_t_thrown, .ref a_t_text, .int v_t_textSize, .int v_t_place, .ref a_t_readPage, .ref a_t_page, .ref a_t_trial, .ref a_t_work, .ref a_t_book, .int v_t_doings, .ref a_t_kept, .ref a_t_isKept, .int v_t_seen, .ref a_t_seenWhat, .ref a_t_seenV, .ref a_t_seenIs, .long v_t_seed, .ref a_t_label, .ref a_t_finds, .ref a_t_reason, .ref a_t_caseFirst, .int v_t_cases, .ref a_t_brief, .ref a_t_printed, .int v_t_printedSize, .ref a_t_renamed, .ref a_t_worth, .int v_t_lastReason])), (a_t_caseFirst, .inl (cI, 32, .inl r_t_caseFirst)), (a_t_finds, .inl (cI, 32, .inl r_t_finds)), (a_t_page, .inl (cI, 265, .inl r_t_page))] sz) (pn_Qi D rR [(a_t, .inr (6, [.int v_t_thrown, .ref a_t_text, .int v_t_textSize, .int v_t_place, .ref a_t_readPage, .ref a_t_page, .ref a_t_trial, .ref a_t_work, .ref a_t_book, .int v_t_doings, .ref a_t_kept, .ref a_t_isKept, .int v_t_seen, .ref a_t_seenWhat, .ref a_t_seenV, .ref a_t_seenIs, .long v_t_seed, .ref a_t_label, .ref a_t_finds, .ref a_t_reason, .ref a_t_caseFirst, .int v_t_cases, .ref a_t_brief, .ref a_t_printed, .int v_t_printedSize, .ref a_t_renamed, .ref a_t_worth, .int v_t_lastReason])), (a_t_caseFirst, .inl (cI, 32, .inl r_t_caseFirst)), (a_t_finds, .inl (cI, 32, .inl r_t_finds)), (a_t_page, .inl (cI, 265, .inl r_t_page))] (va_A [(a_t, .inr (6, [.int v_t_thrown, .ref a_t_text, .int v_t_textSize, .int v_t_place, .ref a_t_readPage, .ref a_t_page, .ref a_t_trial, .ref a_t_work, .ref a_t_book, .int v_t_doings, .ref a_t_kept, .ref a_t_isKept, .int v_t_seen, .ref a_t_seenWhat, .ref a_t_seenV, .ref a_t_seenIs, .long v_t_seed, .ref a_t_label, .ref a_t_finds, .ref a_t_reason, .ref a_t_caseFirst, .int v_t_cases, .ref a_t_brief, .ref a_t_printed, .int v_t_printedSize, .ref a_t_renamed, .ref a_t_worth, .int v_t_lastReason])), (a_t_caseFirst, .inl (cI, 32, .inl r_t_caseFirst)), (a_t_finds, .inl (cI, 32, .inl r_t_finds)), (a_t_page, .inl (cI, 265, .inl r_t_page))] sz)) 0 0 (va_A [(a_t, .inr (6, [.int v_t_thrown, .ref a_t_text, .int v_t_textSize, .int v_t_place, .ref a_t_readPage, .ref a_t_page, .ref a_t_trial, .ref a_t_work, .ref a_t_book, .int v_t_doings, .ref a_t_kept, .ref a_t_isKept, .int v_t_seen, .ref a_t_seenWhat, .ref a_t_seenV, .ref a_t_seenIs, .long v_t_seed, .ref a_t_label, .ref a_t_finds, .ref a_t_reason, .ref a_t_caseFirst, .int v_t_cases, .ref a_t_brief, .ref a_t_printed, .int v_t_printedSize, .ref a_t_renamed, .ref a_t_worth, .int v_t_lastReason])), (a_t_caseFirst, .inl (cI, 32, .inl r_t_caseFirst)), (a_t_finds, .inl (cI, 32, .inl r_t_finds)), (a_t_page, .inl (cI, 265, .inl r_t_page))] sz) := by
  refine pn_entry (cc := cX7_clashes) (maxL := 6) (ret := (some .boolean)) (Qf := pn_Qi D rR [(a_t, .inr (6, [.int v_t_thrown, .ref a_t_text, .int v_t_textSize, .int v_t_place, .ref a_t_readPage, .ref a_t_page, .ref a_t_trial, .ref a_t_work, .ref a_t_book, .int v_t_doings, .ref a_t_kept, .ref a_t_isKept, .int v_t_seen, .ref a_t_seenWhat, .ref a_t_seenV, .ref a_t_seenIs, .long v_t_seed, .ref a_t_label, .ref a_t_finds, .ref a_t_reason, .ref a_t_caseFirst, .int v_t_cases, .ref a_t_brief, .ref a_t_printed, .int v_t_printedSize, .ref a_t_renamed, .ref a_t_worth, .int v_t_lastReason])), (a_t_caseFirst, .inl (cI, 32, .inl r_t_caseFirst)), (a_t_finds, .inl (cI, 32, .inl r_t_finds)), (a_t_page, .inl (cI, 265, .inl r_t_page))]) (by decide) rfl (Nat.le_of_ble_eq_true rfl) ?_
  intro p e s m args below meth c A ls H locs Qm hQ hx hb hr hlocks hml hown hts hK hP hD hA hS hl
  have hl : lv_has ls 6 [(0, .ref a_t), (1, .int p1)] := hl
  have hinX7 : ∀ w ∈ wsX70, w ∈ wsX7_clashes := by decide +kernel
  have fl_16 := hts (.fieldLink RX7 16 "PointingNotesModel" "page" "[I") (by decide +kernel)
  have fl_47 := hts (.fieldLink RX7 47 "PointingNotesModel" "finds" "[I") (by decide +kernel)
  have fl_53 := hts (.fieldLink RX7 53 "PointingNotesModel" "caseFirst" "[I") (by decide +kernel)
  rw [f_X7_clashes] at hf
  have lp4 : ∀ (n : Nat) (x2 : Int32) (x3 : Int32) (X : Int32) (H : Heap) (locs : List Loc) (ls : Array Slot), lp_X7_clashes_4 r_t_caseFirst r_t_finds r_t_page p1 n x2 x3 = some X → va_P D vwCl [(a_t, .inr (6, [.int v_t_thrown, .ref a_t_text, .int v_t_textSize, .int v_t_place, .ref a_t_readPage, .ref a_t_page, .ref a_t_trial, .ref a_t_work, .ref a_t_book, .int v_t_doings, .ref a_t_kept, .ref a_t_isKept, .int v_t_seen, .ref a_t_seenWhat, .ref a_t_seenV, .ref a_t_seenIs, .long v_t_seed, .ref a_t_label, .ref a_t_finds, .ref a_t_reason, .ref a_t_caseFirst, .int v_t_cases, .ref a_t_brief, .ref a_t_printed, .int v_t_printedSize, .ref a_t_renamed, .ref a_t_worth, .int v_t_lastReason])), (a_t_caseFirst, .inl (cI, 32, .inl r_t_caseFirst)), (a_t_finds, .inl (cI, 32, .inl r_t_finds)), (a_t_page, .inl (cI, 265, .inl r_t_page))] H → va_S A s.heap H locs → lv_has ls 6 [(0, .ref a_t), (1, .int p1), (2, .int x2), (3, .int x3)] → (∀ (y2 : Int32)  (H : Heap) (locs : List Loc) (ls : Array Slot), X = y2 → va_P D vwCl [(a_t, .inr (6, [.int v_t_thrown, .ref a_t_text, .int v_t_textSize, .int v_t_place, .ref a_t_readPage, .ref a_t_page, .ref a_t_trial, .ref a_t_work, .ref a_t_book, .int v_t_doings, .ref a_t_kept, .ref a_t_isKept, .int v_t_seen, .ref a_t_seenWhat, .ref a_t_seenV, .ref a_t_seenIs, .long v_t_seed, .ref a_t_label, .ref a_t_finds, .ref a_t_reason, .ref a_t_caseFirst, .int v_t_cases, .ref a_t_brief, .ref a_t_printed, .int v_t_printedSize, .ref a_t_renamed, .ref a_t_worth, .int v_t_lastReason])), (a_t_caseFirst, .inl (cI, 32, .inl r_t_caseFirst)), (a_t_finds, .inl (cI, 32, .inl r_t_finds)), (a_t_page, .inl (cI, 265, .inl r_t_page))] H → va_S A s.heap H locs → lv_has ls 6 [(2, .int y2)] → W p l e { frames := 4, cells := 0, slots := 0, locals := 91 } s m args below meth c H locs 0 0 Qm (F0 m 130 ls [])) → W p l e { frames := 4, cells := 0, slots := 0, locals := 91 } s m args below meth c H locs 0 0 Qm (F0 m 4 ls []) := by
    intro n
    induction n with
    | zero => intro x2 x3 X H locs ls hf; cases hf
    | succ n ih =>
      intro x2 x3 X H locs ls hf hP hS hl kx130
      rw [lp_X7_clashes_4] at hf
      have jn102 : ∀ (x2 : Int32) (x3 : Int32) (x4 : Int32) (s0 : Int32) (H : Heap) (locs : List Loc) (ls : Array Slot), j_X7_clashes_102 (lp_X7_clashes_4 r_t_caseFirst r_t_finds r_t_page p1 n) x2 x3 x4 s0 = some X → va_P D vwCl [(a_t, .inr (6, [.int v_t_thrown, .ref a_t_text, .int v_t_textSize, .int v_t_place, .ref a_t_readPage, .ref a_t_page, .ref a_t_trial, .ref a_t_work, .ref a_t_book, .int v_t_doings, .ref a_t_kept, .ref a_t_isKept, .int v_t_seen, .ref a_t_seenWhat, .ref a_t_seenV, .ref a_t_seenIs, .long v_t_seed, .ref a_t_label, .ref a_t_finds, .ref a_t_reason, .ref a_t_caseFirst, .int v_t_cases, .ref a_t_brief, .ref a_t_printed, .int v_t_printedSize, .ref a_t_renamed, .ref a_t_worth, .int v_t_lastReason])), (a_t_caseFirst, .inl (cI, 32, .inl r_t_caseFirst)), (a_t_finds, .inl (cI, 32, .inl r_t_finds)), (a_t_page, .inl (cI, 265, .inl r_t_page))] H → va_S A s.heap H locs → lv_has ls 6 [(0, .ref a_t), (1, .int p1), (2, .int x2), (3, .int x3), (4, .int x4)] → W p l e { frames := 4, cells := 0, slots := 0, locals := 91 } s m args below meth c H locs 0 0 Qm (F0 m 102 ls [.int s0]) := by
        intro x2 x3 x4 s0 H locs ls hf hP hS hl
        rw [j_X7_clashes_102] at hf
        refine lv_istore (lv' := [(5, .int s0), (0, .ref a_t), (1, .int p1), (2, .int x2), (3, .int x3), (4, .int x4)]) hx hb dX7_clashes_102 hl (by decide) rfl (fun ls hl => ?_)
        refine lv_iload_n hx hb dX7_clashes_104 rfl (lv_at hl 3 rfl) ?_
        refine lv_if_ne (tgt := 118) hx hb dX7_clashes_105 (by decide) (fun c1 => ?_) (fun c1 => ?_)
        · have hf := pn_ifp c1 hf
          refine lv_iconst (v := (1)) hx hb dX7_clashes_118 (by decide) ?_
          refine lv_goto (tgt := 123) hx hb dX7_clashes_119 (by decide) ?_
          refine lv_istore_n (lv' := [(2, .int (1 : Int32)), (5, .int s0), (0, .ref a_t), (1, .int p1), (3, .int x3), (4, .int x4)]) hx hb dX7_clashes_123 rfl hl (by decide) rfl (fun ls hl => ?_)
          obtain ⟨z2, ez2⟩ : ∃ y : Int32, y = x3 + (1) := ⟨_, rfl⟩
          have hf := pn_nm_at ez2 hf
          refine lv_iinc (v := z2) (lv' := [(3, .int z2), (2, .int (1 : Int32)), (5, .int s0), (0, .ref a_t), (1, .int p1), (4, .int x4)]) hx hb dX7_clashes_124 hl (k := 4) rfl (by rw [ez2]; rfl) (by decide) rfl (fun ls hl => ?_)
          refine lv_goto (tgt := 4) hx hb dX7_clashes_127 (by decide) ?_
          exact ih (1 : Int32) z2 X H locs ls hf hP hS (lv_sub hl [3, 4, 1, 0] rfl) kx130
        · have hf := pn_ifq c1 hf
          refine lv_iload hx hb dX7_clashes_108 (lv_at hl 5 rfl) ?_
          refine lv_if_eq (tgt := 122) hx hb dX7_clashes_110 (by decide) (fun c3 => ?_) (fun c3 => ?_)
          · have hf := pn_ifp c3 hf
            refine lv_iconst (v := (0)) hx hb dX7_clashes_122 (by decide) ?_
            refine lv_istore_n (lv' := [(2, .int (0 : Int32)), (5, .int s0), (0, .ref a_t), (1, .int p1), (3, .int x3), (4, .int x4)]) hx hb dX7_clashes_123 rfl hl (by decide) rfl (fun ls hl => ?_)
            obtain ⟨z4, ez4⟩ : ∃ y : Int32, y = x3 + (1) := ⟨_, rfl⟩
            have hf := pn_nm_at ez4 hf
            refine lv_iinc (v := z4) (lv' := [(3, .int z4), (2, .int (0 : Int32)), (5, .int s0), (0, .ref a_t), (1, .int p1), (4, .int x4)]) hx hb dX7_clashes_124 hl (k := 4) rfl (by rw [ez4]; rfl) (by decide) rfl (fun ls hl => ?_)
            refine lv_goto (tgt := 4) hx hb dX7_clashes_127 (by decide) ?_
            exact ih (0 : Int32) z4 X H locs ls hf hP hS (lv_sub hl [3, 4, 1, 0] rfl) kx130
          · have hf := pn_ifn c3 hf
            refine lv_iload hx hb dX7_clashes_113 (lv_at hl 0 rfl) ?_
            refine lv_if_ne (tgt := 122) hx hb dX7_clashes_115 (by decide) (fun c5 => ?_) (fun c5 => ?_)
            · have hf := pn_ifp c5 hf
              refine lv_iconst (v := (0)) hx hb dX7_clashes_122 (by decide) ?_
              refine lv_istore_n (lv' := [(2, .int (0 : Int32)), (5, .int s0), (0, .ref a_t), (1, .int p1), (3, .int x3), (4, .int x4)]) hx hb dX7_clashes_123 rfl hl (by decide) rfl (fun ls hl => ?_)
              obtain ⟨z6, ez6⟩ : ∃ y : Int32, y = x3 + (1) := ⟨_, rfl⟩
              have hf := pn_nm_at ez6 hf
              refine lv_iinc (v := z6) (lv' := [(3, .int z6), (2, .int (0 : Int32)), (5, .int s0), (0, .ref a_t), (1, .int p1), (4, .int x4)]) hx hb dX7_clashes_124 hl (k := 4) rfl (by rw [ez6]; rfl) (by decide) rfl (fun ls hl => ?_)
              refine lv_goto (tgt := 4) hx hb dX7_clashes_127 (by decide) ?_
              exact ih (0 : Int32) z6 X H locs ls hf hP hS (lv_sub hl [3, 4, 1, 0] rfl) kx130
            · have hf := pn_ifq c5 hf
              refine lv_iconst (v := (1)) hx hb dX7_clashes_118 (by decide) ?_
              refine lv_goto (tgt := 123) hx hb dX7_clashes_119 (by decide) ?_
              refine lv_istore_n (lv' := [(2, .int (1 : Int32)), (5, .int s0), (0, .ref a_t), (1, .int p1), (3, .int x3), (4, .int x4)]) hx hb dX7_clashes_123 rfl hl (by decide) rfl (fun ls hl => ?_)
              obtain ⟨z7, ez7⟩ : ∃ y : Int32, y = x3 + (1) := ⟨_, rfl⟩
              have hf := pn_nm_at ez7 hf
              refine lv_iinc (v := z7) (lv' := [(3, .int z7), (2, .int (1 : Int32)), (5, .int s0), (0, .ref a_t), (1, .int p1), (4, .int x4)]) hx hb dX7_clashes_124 hl (k := 4) rfl (by rw [ez7]; rfl) (by decide) rfl (fun ls hl => ?_)
              refine lv_goto (tgt := 4) hx hb dX7_clashes_127 (by decide) ?_
              exact ih (1 : Int32) z7 X H locs ls hf hP hS (lv_sub hl [3, 4, 1, 0] rfl) kx130
      have jn43 : ∀ (x2 : Int32) (x3 : Int32) (s0 : Int32) (H : Heap) (locs : List Loc) (ls : Array Slot), j_X7_clashes_43 (lp_X7_clashes_4 r_t_caseFirst r_t_finds r_t_page p1 n) r_t_caseFirst r_t_page p1 x2 x3 s0 = some X → va_P D vwCl [(a_t, .inr (6, [.int v_t_thrown, .ref a_t_text, .int v_t_textSize, .int v_t_place, .ref a_t_readPage, .ref a_t_page, .ref a_t_trial, .ref a_t_work, .ref a_t_book, .int v_t_doings, .ref a_t_kept, .ref a_t_isKept, .int v_t_seen, .ref a_t_seenWhat, .ref a_t_seenV, .ref a_t_seenIs, .long v_t_seed, .ref a_t_label, .ref a_t_finds, .ref a_t_reason, .ref a_t_caseFirst, .int v_t_cases, .ref a_t_brief, .ref a_t_printed, .int v_t_printedSize, .ref a_t_renamed, .ref a_t_worth, .int v_t_lastReason])), (a_t_caseFirst, .inl (cI, 32, .inl r_t_caseFirst)), (a_t_finds, .inl (cI, 32, .inl r_t_finds)), (a_t_page, .inl (cI, 265, .inl r_t_page))] H → va_S A s.heap H locs → lv_has ls 6 [(0, .ref a_t), (1, .int p1), (2, .int x2), (3, .int x3)] → W p l e { frames := 4, cells := 0, slots := 0, locals := 91 } s m args below meth c H locs 0 0 Qm (F0 m 43 ls [.int s0]) := by
        intro x2 x3 s0 H locs ls hf hP hS hl
        rw [j_X7_clashes_43] at hf
        refine lv_istore (lv' := [(4, .int s0), (0, .ref a_t), (1, .int p1), (2, .int x2), (3, .int x3)]) hx hb dX7_clashes_43 hl (by decide) rfl (fun ls hl => ?_)
        refine lv_aload_n hx hb dX7_clashes_45 rfl (lv_at hl 1 rfl) ?_
        refine va_get (D := D) (ci := 6) (v := .ref a_t_page) (C := RX7) (T := TX7) (N := 28) hx hb hts hinX7 hown hK.1 hP 0 rfl rfl 5 (by decide) fl_16 (fun _ h9 => h9) rfl dX7_clashes_46 ?_
        refine lv_iload_n hx hb dX7_clashes_49 rfl (lv_at hl 4 rfl) ?_
        refine lv_iconst (v := (1)) hx hb dX7_clashes_50 (by decide) ?_
        obtain ⟨ru8, hu8, hf⟩ := pn_bd1_at hf
        refine pn_calli [3] (va_runS (As := [.ref a_t_page, .int x3, .int (1 : Int32)]) (rest := []) ⟨hx, hb, hml, hown, hts⟩ (c_X7_ref l D cI cJ cZ a_t_page H.size r_t_page x3 (1 : Int32) ru8 hu8) (va_cwS 3 hts gX7_clashes_X7_ref rfl rfl rfl hdX7_ref ⟨Nat.le_of_ble_eq_true rfl, Nat.le_of_ble_eq_true rfl⟩) (pn_preS [3] hP (hD.addr rfl) hK rfl rfl) rfl rfl hl.1 rfl (lv_room (Nat.le_of_ble_eq_true rfl)) dX7_clashes_51 ⟨Nat.zero_le _, Nat.zero_le _⟩) hP (hD.addr rfl) hS hA rfl rfl rfl (fun H locs (hP : va_P D vwCl [(a_t, .inr (6, [.int v_t_thrown, .ref a_t_text, .int v_t_textSize, .int v_t_place, .ref a_t_readPage, .ref a_t_page, .ref a_t_trial, .ref a_t_work, .ref a_t_book, .int v_t_doings, .ref a_t_kept, .ref a_t_isKept, .int v_t_seen, .ref a_t_seenWhat, .ref a_t_seenV, .ref a_t_seenIs, .long v_t_seed, .ref a_t_label, .ref a_t_finds, .ref a_t_reason, .ref a_t_caseFirst, .int v_t_cases, .ref a_t_brief, .ref a_t_printed, .int v_t_printedSize, .ref a_t_renamed, .ref a_t_worth, .int v_t_lastReason])), (a_t_caseFirst, .inl (cI, 32, .inl r_t_caseFirst)), (a_t_finds, .inl (cI, 32, .inl r_t_finds)), (a_t_page, .inl (cI, 265, .inl r_t_page))] H) _ hS => ?_)
        refine lv_aload_n hx hb dX7_clashes_54 rfl (lv_at hl 1 rfl) ?_
        refine va_get (D := D) (ci := 6) (v := .ref a_t_page) (C := RX7) (T := TX7) (N := 28) hx hb hts hinX7 hown hK.1 hP 0 rfl rfl 5 (by decide) fl_16 (fun _ h9 => h9) rfl dX7_clashes_55 ?_
        refine lv_aload_n hx hb dX7_clashes_58 rfl (lv_at hl 1 rfl) ?_
        refine va_get (D := D) (ci := 6) (v := .ref a_t_caseFirst) (C := RX7) (T := TX7) (N := 28) hx hb hts hinX7 hown hK.1 hP 0 rfl rfl 20 (by decide) fl_53 (fun _ h9 => h9) rfl dX7_clashes_59 ?_
        refine lv_iload_n hx hb dX7_clashes_62 rfl (lv_at hl 2 rfl) ?_
        obtain ⟨hi10, w9, ew9, hf⟩ := pn_rd_at hf
        refine pn_ldI hx hb hK.1 hP 1 0 rfl rfl hi10 ew9 dX7_clashes_63 ?_
        refine lv_iconst (v := (1)) hx hb dX7_clashes_64 (by decide) ?_
        obtain ⟨ru11, hu11, hf⟩ := pn_bd1_at hf
        refine pn_calli [3] (va_runS (As := [.ref a_t_page, .int w9, .int (1 : Int32)]) (rest := [.int ru8]) ⟨hx, hb, hml, hown, hts⟩ (c_X7_ref l D cI cJ cZ a_t_page H.size r_t_page w9 (1 : Int32) ru11 hu11) (va_cwS 3 hts gX7_clashes_X7_ref rfl rfl rfl hdX7_ref ⟨Nat.le_of_ble_eq_true rfl, Nat.le_of_ble_eq_true rfl⟩) (pn_preS [3] hP (hD.addr rfl) hK rfl rfl) rfl rfl hl.1 rfl (lv_room (Nat.le_of_ble_eq_true rfl)) dX7_clashes_65 ⟨Nat.zero_le _, Nat.zero_le _⟩) hP (hD.addr rfl) hS hA rfl rfl rfl (fun H locs (hP : va_P D vwCl [(a_t, .inr (6, [.int v_t_thrown, .ref a_t_text, .int v_t_textSize, .int v_t_place, .ref a_t_readPage, .ref a_t_page, .ref a_t_trial, .ref a_t_work, .ref a_t_book, .int v_t_doings, .ref a_t_kept, .ref a_t_isKept, .int v_t_seen, .ref a_t_seenWhat, .ref a_t_seenV, .ref a_t_seenIs, .long v_t_seed, .ref a_t_label, .ref a_t_finds, .ref a_t_reason, .ref a_t_caseFirst, .int v_t_cases, .ref a_t_brief, .ref a_t_printed, .int v_t_printedSize, .ref a_t_renamed, .ref a_t_worth, .int v_t_lastReason])), (a_t_caseFirst, .inl (cI, 32, .inl r_t_caseFirst)), (a_t_finds, .inl (cI, 32, .inl r_t_finds)), (a_t_page, .inl (cI, 265, .inl r_t_page))] H) _ hS => ?_)
        refine lv_icmp_ne (tgt := 101) hx hb dX7_clashes_68 (by decide) (fun c12 => ?_) (fun c12 => ?_)
        · have hf := pn_ifp c12 hf
          refine lv_iconst (v := (0)) hx hb dX7_clashes_101 (by decide) ?_
          exact jn102 x2 x3 s0 (0 : Int32) H locs ls hf hP hS (lv_sub hl [1, 2, 3, 4, 0] rfl)
        · have hf := pn_ifq c12 hf
          refine lv_aload_n hx hb dX7_clashes_71 rfl (lv_at hl 1 rfl) ?_
          refine va_get (D := D) (ci := 6) (v := .ref a_t_page) (C := RX7) (T := TX7) (N := 28) hx hb hts hinX7 hown hK.1 hP 0 rfl rfl 5 (by decide) fl_16 (fun _ h9 => h9) rfl dX7_clashes_72 ?_
          refine lv_iload_n hx hb dX7_clashes_75 rfl (lv_at hl 4 rfl) ?_
          refine lv_iconst (v := (2)) hx hb dX7_clashes_76 (by decide) ?_
          obtain ⟨ru13, hu13, hf⟩ := pn_bd1_at hf
          refine pn_calli [3] (va_runS (As := [.ref a_t_page, .int x3, .int (2 : Int32)]) (rest := []) ⟨hx, hb, hml, hown, hts⟩ (c_X7_ref l D cI cJ cZ a_t_page H.size r_t_page x3 (2 : Int32) ru13 hu13) (va_cwS 3 hts gX7_clashes_X7_ref rfl rfl rfl hdX7_ref ⟨Nat.le_of_ble_eq_true rfl, Nat.le_of_ble_eq_true rfl⟩) (pn_preS [3] hP (hD.addr rfl) hK rfl rfl) rfl rfl hl.1 rfl (lv_room (Nat.le_of_ble_eq_true rfl)) dX7_clashes_77 ⟨Nat.zero_le _, Nat.zero_le _⟩) hP (hD.addr rfl) hS hA rfl rfl rfl (fun H locs (hP : va_P D vwCl [(a_t, .inr (6, [.int v_t_thrown, .ref a_t_text, .int v_t_textSize, .int v_t_place, .ref a_t_readPage, .ref a_t_page, .ref a_t_trial, .ref a_t_work, .ref a_t_book, .int v_t_doings, .ref a_t_kept, .ref a_t_isKept, .int v_t_seen, .ref a_t_seenWhat, .ref a_t_seenV, .ref a_t_seenIs, .long v_t_seed, .ref a_t_label, .ref a_t_finds, .ref a_t_reason, .ref a_t_caseFirst, .int v_t_cases, .ref a_t_brief, .ref a_t_printed, .int v_t_printedSize, .ref a_t_renamed, .ref a_t_worth, .int v_t_lastReason])), (a_t_caseFirst, .inl (cI, 32, .inl r_t_caseFirst)), (a_t_finds, .inl (cI, 32, .inl r_t_finds)), (a_t_page, .inl (cI, 265, .inl r_t_page))] H) _ hS => ?_)
          refine lv_aload_n hx hb dX7_clashes_80 rfl (lv_at hl 1 rfl) ?_
          refine va_get (D := D) (ci := 6) (v := .ref a_t_page) (C := RX7) (T := TX7) (N := 28) hx hb hts hinX7 hown hK.1 hP 0 rfl rfl 5 (by decide) fl_16 (fun _ h9 => h9) rfl dX7_clashes_81 ?_
          refine lv_aload_n hx hb dX7_clashes_84 rfl (lv_at hl 1 rfl) ?_
          refine va_get (D := D) (ci := 6) (v := .ref a_t_caseFirst) (C := RX7) (T := TX7) (N := 28) hx hb hts hinX7 hown hK.1 hP 0 rfl rfl 20 (by decide) fl_53 (fun _ h9 => h9) rfl dX7_clashes_85 ?_
          refine lv_iload_n hx hb dX7_clashes_88 rfl (lv_at hl 2 rfl) ?_
          obtain ⟨hi15, w14, ew14, hf⟩ := pn_rd_at hf
          refine pn_ldI hx hb hK.1 hP 1 0 rfl rfl hi15 ew14 dX7_clashes_89 ?_
          refine lv_iconst (v := (2)) hx hb dX7_clashes_90 (by decide) ?_
          obtain ⟨ru16, hu16, hf⟩ := pn_bd1_at hf
          refine pn_calli [3] (va_runS (As := [.ref a_t_page, .int w14, .int (2 : Int32)]) (rest := [.int ru13]) ⟨hx, hb, hml, hown, hts⟩ (c_X7_ref l D cI cJ cZ a_t_page H.size r_t_page w14 (2 : Int32) ru16 hu16) (va_cwS 3 hts gX7_clashes_X7_ref rfl rfl rfl hdX7_ref ⟨Nat.le_of_ble_eq_true rfl, Nat.le_of_ble_eq_true rfl⟩) (pn_preS [3] hP (hD.addr rfl) hK rfl rfl) rfl rfl hl.1 rfl (lv_room (Nat.le_of_ble_eq_true rfl)) dX7_clashes_91 ⟨Nat.zero_le _, Nat.zero_le _⟩) hP (hD.addr rfl) hS hA rfl rfl rfl (fun H locs (hP : va_P D vwCl [(a_t, .inr (6, [.int v_t_thrown, .ref a_t_text, .int v_t_textSize, .int v_t_place, .ref a_t_readPage, .ref a_t_page, .ref a_t_trial, .ref a_t_work, .ref a_t_book, .int v_t_doings, .ref a_t_kept, .ref a_t_isKept, .int v_t_seen, .ref a_t_seenWhat, .ref a_t_seenV, .ref a_t_seenIs, .long v_t_seed, .ref a_t_label, .ref a_t_finds, .ref a_t_reason, .ref a_t_caseFirst, .int v_t_cases, .ref a_t_brief, .ref a_t_printed, .int v_t_printedSize, .ref a_t_renamed, .ref a_t_worth, .int v_t_lastReason])), (a_t_caseFirst, .inl (cI, 32, .inl r_t_caseFirst)), (a_t_finds, .inl (cI, 32, .inl r_t_finds)), (a_t_page, .inl (cI, 265, .inl r_t_page))] H) _ hS => ?_)
          refine lv_icmp_ne (tgt := 101) hx hb dX7_clashes_94 (by decide) (fun c17 => ?_) (fun c17 => ?_)
          · have hf := pn_ifp c17 hf
            refine lv_iconst (v := (0)) hx hb dX7_clashes_101 (by decide) ?_
            exact jn102 x2 x3 s0 (0 : Int32) H locs ls hf hP hS (lv_sub hl [1, 2, 3, 4, 0] rfl)
          · have hf := pn_ifq c17 hf
            refine lv_iconst (v := (1)) hx hb dX7_clashes_97 (by decide) ?_
            refine lv_goto (tgt := 102) hx hb dX7_clashes_98 (by decide) ?_
            exact jn102 x2 x3 s0 (1 : Int32) H locs ls hf hP hS (lv_sub hl [1, 2, 3, 4, 0] rfl)
      refine lv_iload_n hx hb dX7_clashes_4 rfl (lv_at hl 3 rfl) ?_
      refine lv_bipush (v := (32)) hx hb dX7_clashes_5 (by decide) ?_
      refine lv_icmp_ge (tgt := 130) hx hb dX7_clashes_7 (by decide) (fun c18 => ?_) (fun c18 => ?_)
      · have hf := pn_ifp c18 hf
        exact kx130 x2 H locs ls (Option.some.inj hf).symm hP hS (lv_sub hl [2] rfl)
      · have hf := pn_ifn c18 hf
        refine lv_aload_n hx hb dX7_clashes_10 rfl (lv_at hl 0 rfl) ?_
        refine va_get (D := D) (ci := 6) (v := .ref a_t_page) (C := RX7) (T := TX7) (N := 28) hx hb hts hinX7 hown hK.1 hP 0 rfl rfl 5 (by decide) fl_16 (fun _ h9 => h9) rfl dX7_clashes_11 ?_
        refine lv_aload_n hx hb dX7_clashes_14 rfl (lv_at hl 0 rfl) ?_
        refine va_get (D := D) (ci := 6) (v := .ref a_t_page) (C := RX7) (T := TX7) (N := 28) hx hb hts hinX7 hown hK.1 hP 0 rfl rfl 5 (by decide) fl_16 (fun _ h9 => h9) rfl dX7_clashes_15 ?_
        obtain ⟨ru19, hu19, hf⟩ := pn_bd1_at hf
        refine pn_calli [3] (va_runS (As := [.ref a_t_page]) (rest := [.ref a_t_page]) ⟨hx, hb, hml, hown, hts⟩ (c_X7_allNotes l D cI cJ cZ a_t_page H.size r_t_page ru19 hu19) (va_cwS 1 hts gX7_clashes_X7_allNotes rfl rfl rfl hdX7_allNotes ⟨Nat.le_of_ble_eq_true rfl, Nat.le_of_ble_eq_true rfl⟩) (pn_preS [3] hP (hD.addr rfl) hK rfl rfl) rfl rfl hl.1 rfl (lv_room (Nat.le_of_ble_eq_true rfl)) dX7_clashes_18 ⟨Nat.zero_le _, Nat.zero_le _⟩) hP (hD.addr rfl) hS hA rfl rfl rfl (fun H locs (hP : va_P D vwCl [(a_t, .inr (6, [.int v_t_thrown, .ref a_t_text, .int v_t_textSize, .int v_t_place, .ref a_t_readPage, .ref a_t_page, .ref a_t_trial, .ref a_t_work, .ref a_t_book, .int v_t_doings, .ref a_t_kept, .ref a_t_isKept, .int v_t_seen, .ref a_t_seenWhat, .ref a_t_seenV, .ref a_t_seenIs, .long v_t_seed, .ref a_t_label, .ref a_t_finds, .ref a_t_reason, .ref a_t_caseFirst, .int v_t_cases, .ref a_t_brief, .ref a_t_printed, .int v_t_printedSize, .ref a_t_renamed, .ref a_t_worth, .int v_t_lastReason])), (a_t_caseFirst, .inl (cI, 32, .inl r_t_caseFirst)), (a_t_finds, .inl (cI, 32, .inl r_t_finds)), (a_t_page, .inl (cI, 265, .inl r_t_page))] H) _ hS => ?_)
        refine lv_iload_n hx hb dX7_clashes_21 rfl (lv_at hl 3 rfl) ?_
        obtain ⟨ru20, hu20, hf⟩ := pn_bd1_at hf
        refine pn_calli [3] (va_runS (As := [.ref a_t_page, .int ru19, .int x3]) (rest := []) ⟨hx, hb, hml, hown, hts⟩ (c_X7_isSpelled l D cI cJ cZ a_t_page H.size r_t_page ru19 x3 ru20 hu20) (va_cwS 3 hts gX7_clashes_X7_isSpelled rfl rfl rfl hdX7_isSpelled ⟨Nat.le_of_ble_eq_true rfl, Nat.le_of_ble_eq_true rfl⟩) (pn_preS [3] hP (hD.addr rfl) hK rfl rfl) rfl rfl hl.1 rfl (lv_room (Nat.le_of_ble_eq_true rfl)) dX7_clashes_22 ⟨Nat.zero_le _, Nat.zero_le _⟩) hP (hD.addr rfl) hS hA rfl rfl rfl (fun H locs (hP : va_P D vwCl [(a_t, .inr (6, [.int v_t_thrown, .ref a_t_text, .int v_t_textSize, .int v_t_place, .ref a_t_readPage, .ref a_t_page, .ref a_t_trial, .ref a_t_work, .ref a_t_book, .int v_t_doings, .ref a_t_kept, .ref a_t_isKept, .int v_t_seen, .ref a_t_seenWhat, .ref a_t_seenV, .ref a_t_seenIs, .long v_t_seed, .ref a_t_label, .ref a_t_finds, .ref a_t_reason, .ref a_t_caseFirst, .int v_t_cases, .ref a_t_brief, .ref a_t_printed, .int v_t_printedSize, .ref a_t_renamed, .ref a_t_worth, .int v_t_lastReason])), (a_t_caseFirst, .inl (cI, 32, .inl r_t_caseFirst)), (a_t_finds, .inl (cI, 32, .inl r_t_finds)), (a_t_page, .inl (cI, 265, .inl r_t_page))] H) _ hS => ?_)
        refine lv_if_eq (tgt := 42) hx hb dX7_clashes_25 (by decide) (fun c21 => ?_) (fun c21 => ?_)
        · have hf := pn_ifp c21 hf
          refine lv_iconst (v := (0)) hx hb dX7_clashes_42 (by decide) ?_
          exact jn43 x2 x3 (0 : Int32) H locs ls hf hP hS (lv_sub hl [0, 1, 2, 3] rfl)
        · have hf := pn_ifn c21 hf
          refine lv_aload_n hx hb dX7_clashes_28 rfl (lv_at hl 0 rfl) ?_
          refine va_get (D := D) (ci := 6) (v := .ref a_t_finds) (C := RX7) (T := TX7) (N := 28) hx hb hts hinX7 hown hK.1 hP 0 rfl rfl 18 (by decide) fl_47 (fun _ h9 => h9) rfl dX7_clashes_29 ?_
          refine lv_iload_n hx hb dX7_clashes_32 rfl (lv_at hl 3 rfl) ?_
          obtain ⟨hi23, w22, ew22, hf⟩ := pn_rd_at hf
          refine pn_ldI hx hb hK.1 hP 2 0 rfl rfl hi23 ew22 dX7_clashes_33 ?_
          refine lv_iload_n hx hb dX7_clashes_34 rfl (lv_at hl 1 rfl) ?_
          refine lv_icmp_ne (tgt := 42) hx hb dX7_clashes_35 (by decide) (fun c24 => ?_) (fun c24 => ?_)
          · have hf := pn_ifp c24 hf
            refine lv_iconst (v := (0)) hx hb dX7_clashes_42 (by decide) ?_
            exact jn43 x2 x3 (0 : Int32) H locs ls hf hP hS (lv_sub hl [0, 1, 2, 3] rfl)
          · have hf := pn_ifq c24 hf
            refine lv_iconst (v := (1)) hx hb dX7_clashes_38 (by decide) ?_
            refine lv_goto (tgt := 43) hx hb dX7_clashes_39 (by decide) ?_
            exact jn43 x2 x3 (1 : Int32) H locs ls hf hP hS (lv_sub hl [0, 1, 2, 3] rfl)
  refine lv_iconst (v := (0)) hx hb dX7_clashes_0 (by decide) ?_
  refine lv_istore_n (lv' := [(2, .int (0 : Int32)), (0, .ref a_t), (1, .int p1)]) hx hb dX7_clashes_1 rfl hl (by decide) rfl (fun ls hl => ?_)
  refine lv_iconst (v := (0)) hx hb dX7_clashes_2 (by decide) ?_
  refine lv_istore_n (lv' := [(3, .int (0 : Int32)), (2, .int (0 : Int32)), (0, .ref a_t), (1, .int p1)]) hx hb dX7_clashes_3 rfl hl (by decide) rfl (fun ls hl => ?_)
  obtain ⟨X4, hX4, hf⟩ := pn_bd1_at hf
  refine lp4 N (0 : Int32) (0 : Int32) X4 H locs ls hX4 hP hS (lv_sub hl [2, 3, 1, 0] rfl) ?_
  · intro x2_w25 H locs ls eX hP hS hl
    rw [eX] at hf
    have hf := pn_u1_at hf
    refine lv_iload_n hx hb dX7_clashes_130 rfl (lv_at hl 0 rfl) ?_
    obtain ⟨hn26, hf⟩ := pn_bz_at hf
    cases hf
    rw [hQ]
    exact pn_retz hx hb hr hlocks hP hS rfl hn26 dX7_clashes_131
def lp_X7_isReportOf_5 (r_t_finds : Nat → Int32) (r_t_page : Nat → Int32) (p1 : Int32) (p2 : Int32) : Nat → Int32 → Int32 → Option (Int32)
  | 0, _, _ => none
  | n + 1, x3, x4 =>
    if (32 : Int32) ≤ x4 then
  some x3
  else
  if ¬ x3 = 0 then
  pn_nm (x4 + (1 : Int32)) fun z3 =>
  lp_X7_isReportOf_5 r_t_finds r_t_page p1 p2 n (1 : Int32) z3
  else
  pn_bd1 (f_X7_allNotes r_t_page) fun ru4 =>
  pn_bd1 (f_X7_isSpelled r_t_page ru4 x4) fun ru5 =>
  if ru5 = 0 then
  pn_nm (x4 + (1 : Int32)) fun z7 =>
  lp_X7_isReportOf_5 r_t_finds r_t_page p1 p2 n (0 : Int32) z7
  else
  pn_rd 32 r_t_finds x4 fun w8 =>
  if ¬ w8 = p1 then
  pn_nm (x4 + (1 : Int32)) fun z11 =>
  lp_X7_isReportOf_5 r_t_finds r_t_page p1 p2 n (0 : Int32) z11
  else
  pn_bd1 (f_X7_hasReport r_t_page x4 p2) fun ru12 =>
  if ru12 = 0 then
  pn_nm (x4 + (1 : Int32)) fun z14 =>
  lp_X7_isReportOf_5 r_t_finds r_t_page p1 p2 n (0 : Int32) z14
  else
  pn_nm (x4 + (1 : Int32)) fun z15 =>
  lp_X7_isReportOf_5 r_t_finds r_t_page p1 p2 n (1 : Int32) z15
def f_X7_isReportOf (N : Nat) (r_t_finds : Nat → Int32) (r_t_page : Nat → Int32) (p1 : Int32) (p2 : Int32) : Option (Int32) :=
  pn_bd1 (lp_X7_isReportOf_5 r_t_finds r_t_page p1 p2 N (0 : Int32) (0 : Int32)) (fun X5 => (pn_u1 fun x3_w16 => pn_bz x3_w16 <|
  some x3_w16) X5)
set_option maxHeartbeats 4000000 in
set_option maxRecDepth 100000 in
theorem c_X7_isReportOf (l : Launch) (D : va_G) (cI cJ cZ : ClassId) (a_t a_t_text a_t_readPage a_t_page a_t_trial a_t_work a_t_book a_t_kept a_t_isKept a_t_seenWhat a_t_seenV a_t_seenIs a_t_label a_t_finds a_t_reason a_t_caseFirst a_t_brief a_t_printed a_t_renamed a_t_worth : Nat) (sz : Nat) (v_t_thrown : Int32) (v_t_textSize : Int32) (v_t_place : Int32) (v_t_doings : Int32) (v_t_seen : Int32) (v_t_seed : Int64) (v_t_cases : Int32) (v_t_printedSize : Int32) (v_t_lastReason : Int32) (N : Nat) (r_t_finds : Nat → Int32) (r_t_page : Nat → Int32) (p1 : Int32) (p2 : Int32) (rR : Int32) (hf : f_X7_isReportOf N r_t_finds r_t_page p1 p2 = some rR) : Met l yX7_isReportOf wsX7_isReportOf { frames := 4, cells := 0, slots := 0, locals := 91 } (pn_Pc D cI cJ cZ [.ref a_t, .int p1, .int p2] [(a_t, .inr (6, [.int v_t_thrown, .ref a_t_text, .int v_t_textSize, .int v_t_place, .ref a_t_readPage, .ref a_t_page, .ref a_t_trial, .ref a_t_work, .ref a_t_book, .int v_t_doings, .ref a_t_kept, .ref a_t_isKept, .int v_t_seen, .ref a_t_seenWhat, .ref a_t_seenV, .ref a_t_seenIs, .long v_t_seed, .ref a_t_label, .ref a_t_finds, .ref a_t_reason, .ref a_t_caseFirst, .int v_t_cases, .ref a_t_brief, .ref a_t_printed, .int v_t_printedSize, .ref a_t_renamed, .ref a_t_worth, .int v_t_lastReason])), (a_t_finds, .inl (cI, 32, .inl r_t_finds)), (a_t_page, .inl (cI, 265, .inl r_t_page))] sz) (pn_Qi D rR [(a_t, .inr (6, [.int v_t_thrown, .ref a_t_text, .int v_t_textSize, .int v_t_place, .ref a_t_readPage, .ref a_t_page, .ref a_t_trial, .ref a_t_work, .ref a_t_book, .int v_t_doings, .ref a_t_kept, .ref a_t_isKept, .int v_t_seen, .ref a_t_seenWhat, .ref a_t_seenV, .ref a_t_seenIs, .long v_t_seed, .ref a_t_label, .ref a_t_finds, .ref a_t_reason, .ref a_t_caseFirst, .int v_t_cases, .ref a_t_brief, .ref a_t_printed, .int v_t_printedSize, .ref a_t_renamed, .ref a_t_worth, .int v_t_lastReason])), (a_t_finds, .inl (cI, 32, .inl r_t_finds)), (a_t_page, .inl (cI, 265, .inl r_t_page))] (va_A [(a_t, .inr (6, [.int v_t_thrown, .ref a_t_text, .int v_t_textSize, .int v_t_place, .ref a_t_readPage, .ref a_t_page, .ref a_t_trial, .ref a_t_work, .ref a_t_book, .int v_t_doings, .ref a_t_kept, .ref a_t_isKept, .int v_t_seen, .ref a_t_seenWhat, .ref a_t_seenV, .ref a_t_seenIs, .long v_t_seed, .ref a_t_label, .ref a_t_finds, .ref a_t_reason, .ref a_t_caseFirst, .int v_t_cases, .ref a_t_brief, .ref a_t_printed, .int v_t_printedSize, .ref a_t_renamed, .ref a_t_worth, .int v_t_lastReason])), (a_t_finds, .inl (cI, 32, .inl r_t_finds)), (a_t_page, .inl (cI, 265, .inl r_t_page))] sz)) 0 0 (va_A [(a_t, .inr (6, [.int v_t_thrown, .ref a_t_text, .int v_t_textSize, .int v_t_place, .ref a_t_readPage, .ref a_t_page, .ref a_t_trial, .ref a_t_work, .ref a_t_book, .int v_t_doings, .ref a_t_kept, .ref a_t_isKept, .int v_t_seen, .ref a_t_seenWhat, .ref a_t_seenV, .ref a_t_seenIs, .long v_t_seed, .ref a_t_label, .ref a_t_finds, .ref a_t_reason, .ref a_t_caseFirst, .int v_t_cases, .ref a_t_brief, .ref a_t_printed, .int v_t_printedSize, .ref a_t_renamed, .ref a_t_worth, .int v_t_lastReason])), (a_t_finds, .inl (cI, 32, .inl r_t_finds)), (a_t_page, .inl (cI, 265, .inl r_t_page))] sz) := by
  refine pn_entry (cc := cX7_isReportOf) (maxL := 5) (ret := (some .boolean)) (Qf := pn_Qi D rR [(a_t, .inr (6, [.int v_t_thrown, .ref a_t_text, .int v_t_textSize, .int v_t_place, .ref a_t_readPage, .ref a_t_page, .ref a_t_trial, .ref a_t_work, .ref a_t_book, .int v_t_doings, .ref a_t_kept, .ref a_t_isKept, .int v_t_seen, .ref a_t_seenWhat, .ref a_t_seenV, .ref a_t_seenIs, .long v_t_seed, .ref a_t_label, .ref a_t_finds, .ref a_t_reason, .ref a_t_caseFirst, .int v_t_cases, .ref a_t_brief, .ref a_t_printed, .int v_t_printedSize, .ref a_t_renamed, .ref a_t_worth, .int v_t_lastReason])), (a_t_finds, .inl (cI, 32, .inl r_t_finds)), (a_t_page, .inl (cI, 265, .inl r_t_page))]) (by decide) rfl (Nat.le_of_ble_eq_true rfl) ?_
  intro p e s m args below meth c A ls H locs Qm hQ hx hb hr hlocks hml hown hts hK hP hD hA hS hl
  have hl : lv_has ls 5 [(0, .ref a_t), (1, .int p1), (2, .int p2)] := hl
  have hinX7 : ∀ w ∈ wsX70, w ∈ wsX7_isReportOf := by decide +kernel
  have fl_16 := hts (.fieldLink RX7 16 "PointingNotesModel" "page" "[I") (by decide +kernel)
  have fl_47 := hts (.fieldLink RX7 47 "PointingNotesModel" "finds" "[I") (by decide +kernel)
  rw [f_X7_isReportOf] at hf
  have lp5 : ∀ (n : Nat) (x3 : Int32) (x4 : Int32) (X : Int32) (H : Heap) (locs : List Loc) (ls : Array Slot), lp_X7_isReportOf_5 r_t_finds r_t_page p1 p2 n x3 x4 = some X → va_P D vwCl [(a_t, .inr (6, [.int v_t_thrown, .ref a_t_text, .int v_t_textSize, .int v_t_place, .ref a_t_readPage, .ref a_t_page, .ref a_t_trial, .ref a_t_work, .ref a_t_book, .int v_t_doings, .ref a_t_kept, .ref a_t_isKept, .int v_t_seen, .ref a_t_seenWhat, .ref a_t_seenV, .ref a_t_seenIs, .long v_t_seed, .ref a_t_label, .ref a_t_finds, .ref a_t_reason, .ref a_t_caseFirst, .int v_t_cases, .ref a_t_brief, .ref a_t_printed, .int v_t_printedSize, .ref a_t_renamed, .ref a_t_worth, .int v_t_lastReason])), (a_t_finds, .inl (cI, 32, .inl r_t_finds)), (a_t_page, .inl (cI, 265, .inl r_t_page))] H → va_S A s.heap H locs → lv_has ls 5 [(0, .ref a_t), (1, .int p1), (2, .int p2), (3, .int x3), (4, .int x4)] → (∀ (y3 : Int32)  (H : Heap) (locs : List Loc) (ls : Array Slot), X = y3 → va_P D vwCl [(a_t, .inr (6, [.int v_t_thrown, .ref a_t_text, .int v_t_textSize, .int v_t_place, .ref a_t_readPage, .ref a_t_page, .ref a_t_trial, .ref a_t_work, .ref a_t_book, .int v_t_doings, .ref a_t_kept, .ref a_t_isKept, .int v_t_seen, .ref a_t_seenWhat, .ref a_t_seenV, .ref a_t_seenIs, .long v_t_seed, .ref a_t_label, .ref a_t_finds, .ref a_t_reason, .ref a_t_caseFirst, .int v_t_cases, .ref a_t_brief, .ref a_t_printed, .int v_t_printedSize, .ref a_t_renamed, .ref a_t_worth, .int v_t_lastReason])), (a_t_finds, .inl (cI, 32, .inl r_t_finds)), (a_t_page, .inl (cI, 265, .inl r_t_page))] H → va_S A s.heap H locs → lv_has ls 5 [(3, .int y3)] → W p l e { frames := 4, cells := 0, slots := 0, locals := 91 } s m args below meth c H locs 0 0 Qm (F0 m 71 ls [])) → W p l e { frames := 4, cells := 0, slots := 0, locals := 91 } s m args below meth c H locs 0 0 Qm (F0 m 5 ls []) := by
    intro n
    induction n with
    | zero => intro x3 x4 X H locs ls hf; cases hf
    | succ n ih =>
      intro x3 x4 X H locs ls hf hP hS hl kx71
      rw [lp_X7_isReportOf_5] at hf
      refine lv_iload hx hb dX7_isReportOf_5 (lv_at hl 4 rfl) ?_
      refine lv_bipush (v := (32)) hx hb dX7_isReportOf_7 (by decide) ?_
      refine lv_icmp_ge (tgt := 71) hx hb dX7_isReportOf_9 (by decide) (fun c1 => ?_) (fun c1 => ?_)
      · have hf := pn_ifp c1 hf
        exact kx71 x3 H locs ls (Option.some.inj hf).symm hP hS (lv_sub hl [3] rfl)
      · have hf := pn_ifn c1 hf
        refine lv_iload_n hx hb dX7_isReportOf_12 rfl (lv_at hl 3 rfl) ?_
        refine lv_if_ne (tgt := 59) hx hb dX7_isReportOf_13 (by decide) (fun c2 => ?_) (fun c2 => ?_)
        · have hf := pn_ifp c2 hf
          refine lv_iconst (v := (1)) hx hb dX7_isReportOf_59 (by decide) ?_
          refine lv_goto (tgt := 64) hx hb dX7_isReportOf_60 (by decide) ?_
          refine lv_istore_n (lv' := [(3, .int (1 : Int32)), (0, .ref a_t), (1, .int p1), (2, .int p2), (4, .int x4)]) hx hb dX7_isReportOf_64 rfl hl (by decide) rfl (fun ls hl => ?_)
          obtain ⟨z3, ez3⟩ : ∃ y : Int32, y = x4 + (1) := ⟨_, rfl⟩
          have hf := pn_nm_at ez3 hf
          refine lv_iinc (v := z3) (lv' := [(4, .int z3), (3, .int (1 : Int32)), (0, .ref a_t), (1, .int p1), (2, .int p2)]) hx hb dX7_isReportOf_65 hl (k := 4) rfl (by rw [ez3]; rfl) (by decide) rfl (fun ls hl => ?_)
          refine lv_goto (tgt := 5) hx hb dX7_isReportOf_68 (by decide) ?_
          exact ih (1 : Int32) z3 X H locs ls hf hP hS (lv_sub hl [2, 3, 4, 1, 0] rfl) kx71
        · have hf := pn_ifq c2 hf
          refine lv_aload_n hx hb dX7_isReportOf_16 rfl (lv_at hl 0 rfl) ?_
          refine va_get (D := D) (ci := 6) (v := .ref a_t_page) (C := RX7) (T := TX7) (N := 28) hx hb hts hinX7 hown hK.1 hP 0 rfl rfl 5 (by decide) fl_16 (fun _ h9 => h9) rfl dX7_isReportOf_17 ?_
          refine lv_aload_n hx hb dX7_isReportOf_20 rfl (lv_at hl 0 rfl) ?_
          refine va_get (D := D) (ci := 6) (v := .ref a_t_page) (C := RX7) (T := TX7) (N := 28) hx hb hts hinX7 hown hK.1 hP 0 rfl rfl 5 (by decide) fl_16 (fun _ h9 => h9) rfl dX7_isReportOf_21 ?_
          obtain ⟨ru4, hu4, hf⟩ := pn_bd1_at hf
          refine pn_calli [2] (va_runS (As := [.ref a_t_page]) (rest := [.ref a_t_page]) ⟨hx, hb, hml, hown, hts⟩ (c_X7_allNotes l D cI cJ cZ a_t_page H.size r_t_page ru4 hu4) (va_cwS 1 hts gX7_isReportOf_X7_allNotes rfl rfl rfl hdX7_allNotes ⟨Nat.le_of_ble_eq_true rfl, Nat.le_of_ble_eq_true rfl⟩) (pn_preS [2] hP (hD.addr rfl) hK rfl rfl) rfl rfl hl.1 rfl (lv_room (Nat.le_of_ble_eq_true rfl)) dX7_isReportOf_24 ⟨Nat.zero_le _, Nat.zero_le _⟩) hP (hD.addr rfl) hS hA rfl rfl rfl (fun H locs (hP : va_P D vwCl [(a_t, .inr (6, [.int v_t_thrown, .ref a_t_text, .int v_t_textSize, .int v_t_place, .ref a_t_readPage, .ref a_t_page, .ref a_t_trial, .ref a_t_work, .ref a_t_book, .int v_t_doings, .ref a_t_kept, .ref a_t_isKept, .int v_t_seen, .ref a_t_seenWhat, .ref a_t_seenV, .ref a_t_seenIs, .long v_t_seed, .ref a_t_label, .ref a_t_finds, .ref a_t_reason, .ref a_t_caseFirst, .int v_t_cases, .ref a_t_brief, .ref a_t_printed, .int v_t_printedSize, .ref a_t_renamed, .ref a_t_worth, .int v_t_lastReason])), (a_t_finds, .inl (cI, 32, .inl r_t_finds)), (a_t_page, .inl (cI, 265, .inl r_t_page))] H) _ hS => ?_)
          refine lv_iload hx hb dX7_isReportOf_27 (lv_at hl 4 rfl) ?_
          obtain ⟨ru5, hu5, hf⟩ := pn_bd1_at hf
          refine pn_calli [2] (va_runS (As := [.ref a_t_page, .int ru4, .int x4]) (rest := []) ⟨hx, hb, hml, hown, hts⟩ (c_X7_isSpelled l D cI cJ cZ a_t_page H.size r_t_page ru4 x4 ru5 hu5) (va_cwS 3 hts gX7_isReportOf_X7_isSpelled rfl rfl rfl hdX7_isSpelled ⟨Nat.le_of_ble_eq_true rfl, Nat.le_of_ble_eq_true rfl⟩) (pn_preS [2] hP (hD.addr rfl) hK rfl rfl) rfl rfl hl.1 rfl (lv_room (Nat.le_of_ble_eq_true rfl)) dX7_isReportOf_29 ⟨Nat.zero_le _, Nat.zero_le _⟩) hP (hD.addr rfl) hS hA rfl rfl rfl (fun H locs (hP : va_P D vwCl [(a_t, .inr (6, [.int v_t_thrown, .ref a_t_text, .int v_t_textSize, .int v_t_place, .ref a_t_readPage, .ref a_t_page, .ref a_t_trial, .ref a_t_work, .ref a_t_book, .int v_t_doings, .ref a_t_kept, .ref a_t_isKept, .int v_t_seen, .ref a_t_seenWhat, .ref a_t_seenV, .ref a_t_seenIs, .long v_t_seed, .ref a_t_label, .ref a_t_finds, .ref a_t_reason, .ref a_t_caseFirst, .int v_t_cases, .ref a_t_brief, .ref a_t_printed, .int v_t_printedSize, .ref a_t_renamed, .ref a_t_worth, .int v_t_lastReason])), (a_t_finds, .inl (cI, 32, .inl r_t_finds)), (a_t_page, .inl (cI, 265, .inl r_t_page))] H) _ hS => ?_)
          refine lv_if_eq (tgt := 63) hx hb dX7_isReportOf_32 (by decide) (fun c6 => ?_) (fun c6 => ?_)
          · have hf := pn_ifp c6 hf
            refine lv_iconst (v := (0)) hx hb dX7_isReportOf_63 (by decide) ?_
            refine lv_istore_n (lv' := [(3, .int (0 : Int32)), (0, .ref a_t), (1, .int p1), (2, .int p2), (4, .int x4)]) hx hb dX7_isReportOf_64 rfl hl (by decide) rfl (fun ls hl => ?_)
            obtain ⟨z7, ez7⟩ : ∃ y : Int32, y = x4 + (1) := ⟨_, rfl⟩
            have hf := pn_nm_at ez7 hf
            refine lv_iinc (v := z7) (lv' := [(4, .int z7), (3, .int (0 : Int32)), (0, .ref a_t), (1, .int p1), (2, .int p2)]) hx hb dX7_isReportOf_65 hl (k := 4) rfl (by rw [ez7]; rfl) (by decide) rfl (fun ls hl => ?_)
            refine lv_goto (tgt := 5) hx hb dX7_isReportOf_68 (by decide) ?_
            exact ih (0 : Int32) z7 X H locs ls hf hP hS (lv_sub hl [2, 3, 4, 1, 0] rfl) kx71
          · have hf := pn_ifn c6 hf
            refine lv_aload_n hx hb dX7_isReportOf_35 rfl (lv_at hl 0 rfl) ?_
            refine va_get (D := D) (ci := 6) (v := .ref a_t_finds) (C := RX7) (T := TX7) (N := 28) hx hb hts hinX7 hown hK.1 hP 0 rfl rfl 18 (by decide) fl_47 (fun _ h9 => h9) rfl dX7_isReportOf_36 ?_
            refine lv_iload hx hb dX7_isReportOf_39 (lv_at hl 4 rfl) ?_
            obtain ⟨hi9, w8, ew8, hf⟩ := pn_rd_at hf
            refine pn_ldI hx hb hK.1 hP 1 0 rfl rfl hi9 ew8 dX7_isReportOf_41 ?_
            refine lv_iload_n hx hb dX7_isReportOf_42 rfl (lv_at hl 1 rfl) ?_
            refine lv_icmp_ne (tgt := 63) hx hb dX7_isReportOf_43 (by decide) (fun c10 => ?_) (fun c10 => ?_)
            · have hf := pn_ifp c10 hf
              refine lv_iconst (v := (0)) hx hb dX7_isReportOf_63 (by decide) ?_
              refine lv_istore_n (lv' := [(3, .int (0 : Int32)), (0, .ref a_t), (1, .int p1), (2, .int p2), (4, .int x4)]) hx hb dX7_isReportOf_64 rfl hl (by decide) rfl (fun ls hl => ?_)
              obtain ⟨z11, ez11⟩ : ∃ y : Int32, y = x4 + (1) := ⟨_, rfl⟩
              have hf := pn_nm_at ez11 hf
              refine lv_iinc (v := z11) (lv' := [(4, .int z11), (3, .int (0 : Int32)), (0, .ref a_t), (1, .int p1), (2, .int p2)]) hx hb dX7_isReportOf_65 hl (k := 4) rfl (by rw [ez11]; rfl) (by decide) rfl (fun ls hl => ?_)
              refine lv_goto (tgt := 5) hx hb dX7_isReportOf_68 (by decide) ?_
              exact ih (0 : Int32) z11 X H locs ls hf hP hS (lv_sub hl [2, 3, 4, 1, 0] rfl) kx71
            · have hf := pn_ifq c10 hf
              refine lv_aload_n hx hb dX7_isReportOf_46 rfl (lv_at hl 0 rfl) ?_
              refine va_get (D := D) (ci := 6) (v := .ref a_t_page) (C := RX7) (T := TX7) (N := 28) hx hb hts hinX7 hown hK.1 hP 0 rfl rfl 5 (by decide) fl_16 (fun _ h9 => h9) rfl dX7_isReportOf_47 ?_
              refine lv_iload hx hb dX7_isReportOf_50 (lv_at hl 4 rfl) ?_
              refine lv_iload_n hx hb dX7_isReportOf_52 rfl (lv_at hl 2 rfl) ?_
              obtain ⟨ru12, hu12, hf⟩ := pn_bd1_at hf
              refine pn_calli [2] (va_runS (As := [.ref a_t_page, .int x4, .int p2]) (rest := []) ⟨hx, hb, hml, hown, hts⟩ (c_X7_hasReport l D cI cJ cZ a_t_page H.size r_t_page x4 p2 ru12 hu12) (va_cwS 3 hts gX7_isReportOf_X7_hasReport rfl rfl rfl hdX7_hasReport ⟨Nat.le_of_ble_eq_true rfl, Nat.le_of_ble_eq_true rfl⟩) (pn_preS [2] hP (hD.addr rfl) hK rfl rfl) rfl rfl hl.1 rfl (lv_room (Nat.le_of_ble_eq_true rfl)) dX7_isReportOf_53 ⟨Nat.zero_le _, Nat.zero_le _⟩) hP (hD.addr rfl) hS hA rfl rfl rfl (fun H locs (hP : va_P D vwCl [(a_t, .inr (6, [.int v_t_thrown, .ref a_t_text, .int v_t_textSize, .int v_t_place, .ref a_t_readPage, .ref a_t_page, .ref a_t_trial, .ref a_t_work, .ref a_t_book, .int v_t_doings, .ref a_t_kept, .ref a_t_isKept, .int v_t_seen, .ref a_t_seenWhat, .ref a_t_seenV, .ref a_t_seenIs, .long v_t_seed, .ref a_t_label, .ref a_t_finds, .ref a_t_reason, .ref a_t_caseFirst, .int v_t_cases, .ref a_t_brief, .ref a_t_printed, .int v_t_printedSize, .ref a_t_renamed, .ref a_t_worth, .int v_t_lastReason])), (a_t_finds, .inl (cI, 32, .inl r_t_finds)), (a_t_page, .inl (cI, 265, .inl r_t_page))] H) _ hS => ?_)
              refine lv_if_eq (tgt := 63) hx hb dX7_isReportOf_56 (by decide) (fun c13 => ?_) (fun c13 => ?_)
              · have hf := pn_ifp c13 hf
                refine lv_iconst (v := (0)) hx hb dX7_isReportOf_63 (by decide) ?_
                refine lv_istore_n (lv' := [(3, .int (0 : Int32)), (0, .ref a_t), (1, .int p1), (2, .int p2), (4, .int x4)]) hx hb dX7_isReportOf_64 rfl hl (by decide) rfl (fun ls hl => ?_)
                obtain ⟨z14, ez14⟩ : ∃ y : Int32, y = x4 + (1) := ⟨_, rfl⟩
                have hf := pn_nm_at ez14 hf
                refine lv_iinc (v := z14) (lv' := [(4, .int z14), (3, .int (0 : Int32)), (0, .ref a_t), (1, .int p1), (2, .int p2)]) hx hb dX7_isReportOf_65 hl (k := 4) rfl (by rw [ez14]; rfl) (by decide) rfl (fun ls hl => ?_)
                refine lv_goto (tgt := 5) hx hb dX7_isReportOf_68 (by decide) ?_
                exact ih (0 : Int32) z14 X H locs ls hf hP hS (lv_sub hl [2, 3, 4, 1, 0] rfl) kx71
              · have hf := pn_ifn c13 hf
                refine lv_iconst (v := (1)) hx hb dX7_isReportOf_59 (by decide) ?_
                refine lv_goto (tgt := 64) hx hb dX7_isReportOf_60 (by decide) ?_
                refine lv_istore_n (lv' := [(3, .int (1 : Int32)), (0, .ref a_t), (1, .int p1), (2, .int p2), (4, .int x4)]) hx hb dX7_isReportOf_64 rfl hl (by decide) rfl (fun ls hl => ?_)
                obtain ⟨z15, ez15⟩ : ∃ y : Int32, y = x4 + (1) := ⟨_, rfl⟩
                have hf := pn_nm_at ez15 hf
                refine lv_iinc (v := z15) (lv' := [(4, .int z15), (3, .int (1 : Int32)), (0, .ref a_t), (1, .int p1), (2, .int p2)]) hx hb dX7_isReportOf_65 hl (k := 4) rfl (by rw [ez15]; rfl) (by decide) rfl (fun ls hl => ?_)
                refine lv_goto (tgt := 5) hx hb dX7_isReportOf_68 (by decide) ?_
                exact ih (1 : Int32) z15 X H locs ls hf hP hS (lv_sub hl [2, 3, 4, 1, 0] rfl) kx71
  refine lv_iconst (v := (0)) hx hb dX7_isReportOf_0 (by decide) ?_
  refine lv_istore_n (lv' := [(3, .int (0 : Int32)), (0, .ref a_t), (1, .int p1), (2, .int p2)]) hx hb dX7_isReportOf_1 rfl hl (by decide) rfl (fun ls hl => ?_)
  refine lv_iconst (v := (0)) hx hb dX7_isReportOf_2 (by decide) ?_
  refine lv_istore (lv' := [(4, .int (0 : Int32)), (3, .int (0 : Int32)), (0, .ref a_t), (1, .int p1), (2, .int p2)]) hx hb dX7_isReportOf_3 hl (by decide) rfl (fun ls hl => ?_)
  obtain ⟨X5, hX5, hf⟩ := pn_bd1_at hf
  refine lp5 N (0 : Int32) (0 : Int32) X5 H locs ls hX5 hP hS (lv_sub hl [2, 3, 4, 1, 0] rfl) ?_
  · intro x3_w16 H locs ls eX hP hS hl
    rw [eX] at hf
    have hf := pn_u1_at hf
    refine lv_iload_n hx hb dX7_isReportOf_71 rfl (lv_at hl 0 rfl) ?_
    obtain ⟨hn17, hf⟩ := pn_bz_at hf
    cases hf
    rw [hQ]
    exact pn_retz hx hb hr hlocks hP hS rfl hn17 dX7_isReportOf_72
def lp_X7_reportsOf_6 (N : Nat) (r_t_finds : Nat → Int32) (r_t_page : Nat → Int32) (p1 : Int32) : Nat → Int32 → Int32 → Option (Int32)
  | 0, _, _ => none
  | n + 1, x2, x3 =>
    if (9200 : Int32) ≤ x3 then
  some x2
  else
  if (200 : Int32) ≤ (x3 - x3 / (1000 : Int32) * (1000 : Int32)) then
  pn_nm (x2 + (0 : Int32)) fun z3 =>
  pn_nm (x3 + (1 : Int32)) fun z4 =>
  lp_X7_reportsOf_6 N r_t_finds r_t_page p1 n z3 z4
  else
  pn_bd1 (f_X7_isReportOf N r_t_finds r_t_page p1 x3) fun ru5 =>
  if ru5 = 0 then
  pn_nm (x2 + (0 : Int32)) fun z7 =>
  pn_nm (x3 + (1 : Int32)) fun z8 =>
  lp_X7_reportsOf_6 N r_t_finds r_t_page p1 n z7 z8
  else
  pn_nm (x2 + (1 : Int32)) fun z9 =>
  pn_nm (x3 + (1 : Int32)) fun z10 =>
  lp_X7_reportsOf_6 N r_t_finds r_t_page p1 n z9 z10
def f_X7_reportsOf (N : Nat) (r_t_finds : Nat → Int32) (r_t_page : Nat → Int32) (p1 : Int32) : Option (Int32) :=
  pn_bd1 (lp_X7_reportsOf_6 N r_t_finds r_t_page p1 N (0 : Int32) (1001 : Int32)) (fun X6 => (pn_u1 fun x2_w11 => some x2_w11) X6)
set_option maxHeartbeats 4000000 in
set_option maxRecDepth 100000 in
theorem c_X7_reportsOf (l : Launch) (D : va_G) (cI cJ cZ : ClassId) (a_t a_t_text a_t_readPage a_t_page a_t_trial a_t_work a_t_book a_t_kept a_t_isKept a_t_seenWhat a_t_seenV a_t_seenIs a_t_label a_t_finds a_t_reason a_t_caseFirst a_t_brief a_t_printed a_t_renamed a_t_worth : Nat) (sz : Nat) (v_t_thrown : Int32) (v_t_textSize : Int32) (v_t_place : Int32) (v_t_doings : Int32) (v_t_seen : Int32) (v_t_seed : Int64) (v_t_cases : Int32) (v_t_printedSize : Int32) (v_t_lastReason : Int32) (N : Nat) (r_t_finds : Nat → Int32) (r_t_page : Nat → Int32) (p1 : Int32) (rR : Int32) (hf : f_X7_reportsOf N r_t_finds r_t_page p1 = some rR) : Met l yX7_reportsOf wsX7_reportsOf { frames := 5, cells := 0, slots := 0, locals := 115 } (pn_Pc D cI cJ cZ [.ref a_t, .int p1] [(a_t, .inr (6, [.int v_t_thrown, .ref a_t_text, .int v_t_textSize, .int v_t_place, .ref a_t_readPage, .ref a_t_page, .ref a_t_trial, .ref a_t_work, .ref a_t_book, .int v_t_doings, .ref a_t_kept, .ref a_t_isKept, .int v_t_seen, .ref a_t_seenWhat, .ref a_t_seenV, .ref a_t_seenIs, .long v_t_seed, .ref a_t_label, .ref a_t_finds, .ref a_t_reason, .ref a_t_caseFirst, .int v_t_cases, .ref a_t_brief, .ref a_t_printed, .int v_t_printedSize, .ref a_t_renamed, .ref a_t_worth, .int v_t_lastReason])), (a_t_finds, .inl (cI, 32, .inl r_t_finds)), (a_t_page, .inl (cI, 265, .inl r_t_page))] sz) (pn_Qi D rR [(a_t, .inr (6, [.int v_t_thrown, .ref a_t_text, .int v_t_textSize, .int v_t_place, .ref a_t_readPage, .ref a_t_page, .ref a_t_trial, .ref a_t_work, .ref a_t_book, .int v_t_doings, .ref a_t_kept, .ref a_t_isKept, .int v_t_seen, .ref a_t_seenWhat, .ref a_t_seenV, .ref a_t_seenIs, .long v_t_seed, .ref a_t_label, .ref a_t_finds, .ref a_t_reason, .ref a_t_caseFirst, .int v_t_cases, .ref a_t_brief, .ref a_t_printed, .int v_t_printedSize, .ref a_t_renamed, .ref a_t_worth, .int v_t_lastReason])), (a_t_finds, .inl (cI, 32, .inl r_t_finds)), (a_t_page, .inl (cI, 265, .inl r_t_page))] (va_A [(a_t, .inr (6, [.int v_t_thrown, .ref a_t_text, .int v_t_textSize, .int v_t_place, .ref a_t_readPage, .ref a_t_page, .ref a_t_trial, .ref a_t_work, .ref a_t_book, .int v_t_doings, .ref a_t_kept, .ref a_t_isKept, .int v_t_seen, .ref a_t_seenWhat, .ref a_t_seenV, .ref a_t_seenIs, .long v_t_seed, .ref a_t_label, .ref a_t_finds, .ref a_t_reason, .ref a_t_caseFirst, .int v_t_cases, .ref a_t_brief, .ref a_t_printed, .int v_t_printedSize, .ref a_t_renamed, .ref a_t_worth, .int v_t_lastReason])), (a_t_finds, .inl (cI, 32, .inl r_t_finds)), (a_t_page, .inl (cI, 265, .inl r_t_page))] sz)) 0 0 (va_A [(a_t, .inr (6, [.int v_t_thrown, .ref a_t_text, .int v_t_textSize, .int v_t_place, .ref a_t_readPage, .ref a_t_page, .ref a_t_trial, .ref a_t_work, .ref a_t_book, .int v_t_doings, .ref a_t_kept, .ref a_t_isKept, .int v_t_seen, .ref a_t_seenWhat, .ref a_t_seenV, .ref a_t_seenIs, .long v_t_seed, .ref a_t_label, .ref a_t_finds, .ref a_t_reason, .ref a_t_caseFirst, .int v_t_cases, .ref a_t_brief, .ref a_t_printed, .int v_t_printedSize, .ref a_t_renamed, .ref a_t_worth, .int v_t_lastReason])), (a_t_finds, .inl (cI, 32, .inl r_t_finds)), (a_t_page, .inl (cI, 265, .inl r_t_page))] sz) := by
  refine pn_entry (cc := cX7_reportsOf) (maxL := 4) (ret := (some .int)) (Qf := pn_Qi D rR [(a_t, .inr (6, [.int v_t_thrown, .ref a_t_text, .int v_t_textSize, .int v_t_place, .ref a_t_readPage, .ref a_t_page, .ref a_t_trial, .ref a_t_work, .ref a_t_book, .int v_t_doings, .ref a_t_kept, .ref a_t_isKept, .int v_t_seen, .ref a_t_seenWhat, .ref a_t_seenV, .ref a_t_seenIs, .long v_t_seed, .ref a_t_label, .ref a_t_finds, .ref a_t_reason, .ref a_t_caseFirst, .int v_t_cases, .ref a_t_brief, .ref a_t_printed, .int v_t_printedSize, .ref a_t_renamed, .ref a_t_worth, .int v_t_lastReason])), (a_t_finds, .inl (cI, 32, .inl r_t_finds)), (a_t_page, .inl (cI, 265, .inl r_t_page))]) (by decide) rfl (Nat.le_of_ble_eq_true rfl) ?_
  intro p e s m args below meth c A ls H locs Qm hQ hx hb hr hlocks hml hown hts hK hP hD hA hS hl
  have hl : lv_has ls 4 [(0, .ref a_t), (1, .int p1)] := hl
  rw [f_X7_reportsOf] at hf
  have lp6 : ∀ (n : Nat) (x2 : Int32) (x3 : Int32) (X : Int32) (H : Heap) (locs : List Loc) (ls : Array Slot), lp_X7_reportsOf_6 N r_t_finds r_t_page p1 n x2 x3 = some X → va_P D vwCl [(a_t, .inr (6, [.int v_t_thrown, .ref a_t_text, .int v_t_textSize, .int v_t_place, .ref a_t_readPage, .ref a_t_page, .ref a_t_trial, .ref a_t_work, .ref a_t_book, .int v_t_doings, .ref a_t_kept, .ref a_t_isKept, .int v_t_seen, .ref a_t_seenWhat, .ref a_t_seenV, .ref a_t_seenIs, .long v_t_seed, .ref a_t_label, .ref a_t_finds, .ref a_t_reason, .ref a_t_caseFirst, .int v_t_cases, .ref a_t_brief, .ref a_t_printed, .int v_t_printedSize, .ref a_t_renamed, .ref a_t_worth, .int v_t_lastReason])), (a_t_finds, .inl (cI, 32, .inl r_t_finds)), (a_t_page, .inl (cI, 265, .inl r_t_page))] H → va_S A s.heap H locs → lv_has ls 4 [(0, .ref a_t), (1, .int p1), (2, .int x2), (3, .int x3)] → (∀ (y2 : Int32)  (H : Heap) (locs : List Loc) (ls : Array Slot), X = y2 → va_P D vwCl [(a_t, .inr (6, [.int v_t_thrown, .ref a_t_text, .int v_t_textSize, .int v_t_place, .ref a_t_readPage, .ref a_t_page, .ref a_t_trial, .ref a_t_work, .ref a_t_book, .int v_t_doings, .ref a_t_kept, .ref a_t_isKept, .int v_t_seen, .ref a_t_seenWhat, .ref a_t_seenV, .ref a_t_seenIs, .long v_t_seed, .ref a_t_label, .ref a_t_finds, .ref a_t_reason, .ref a_t_caseFirst, .int v_t_cases, .ref a_t_brief, .ref a_t_printed, .int v_t_printedSize, .ref a_t_renamed, .ref a_t_worth, .int v_t_lastReason])), (a_t_finds, .inl (cI, 32, .inl r_t_finds)), (a_t_page, .inl (cI, 265, .inl r_t_page))] H → va_S A s.heap H locs → lv_has ls 4 [(2, .int y2)] → W p l e { frames := 5, cells := 0, slots := 0, locals := 115 } s m args below meth c H locs 0 0 Qm (F0 m 47 ls [])) → W p l e { frames := 5, cells := 0, slots := 0, locals := 115 } s m args below meth c H locs 0 0 Qm (F0 m 6 ls []) := by
    intro n
    induction n with
    | zero => intro x2 x3 X H locs ls hf; cases hf
    | succ n ih =>
      intro x2 x3 X H locs ls hf hP hS hl kx47
      rw [lp_X7_reportsOf_6] at hf
      refine lv_iload_n hx hb dX7_reportsOf_6 rfl (lv_at hl 3 rfl) ?_
      refine lv_sipush (v := (9200)) hx hb dX7_reportsOf_7 (by decide) ?_
      refine lv_icmp_ge (tgt := 47) hx hb dX7_reportsOf_10 (by decide) (fun c1 => ?_) (fun c1 => ?_)
      · have hf := pn_ifp c1 hf
        exact kx47 x2 H locs ls (Option.some.inj hf).symm hP hS (lv_sub hl [2] rfl)
      · have hf := pn_ifn c1 hf
        refine lv_iload_n hx hb dX7_reportsOf_13 rfl (lv_at hl 2 rfl) ?_
        refine lv_iload_n hx hb dX7_reportsOf_14 rfl (lv_at hl 3 rfl) ?_
        refine lv_sipush (v := (1000)) hx hb dX7_reportsOf_15 (by decide) ?_
        refine lv_irem hx hb dX7_reportsOf_18 (by decide) ?_
        refine lv_sipush (v := (200)) hx hb dX7_reportsOf_19 (by decide) ?_
        refine lv_icmp_ge (tgt := 38) hx hb dX7_reportsOf_22 (by decide) (fun c2 => ?_) (fun c2 => ?_)
        · have hf := pn_ifp c2 hf
          refine lv_iconst (v := (0)) hx hb dX7_reportsOf_38 (by decide) ?_
          refine lv_iadd hx hb dX7_reportsOf_39 ?_
          refine lv_topi (fun z3 ez3 => ?_)
          have hf := pn_nm_at ez3 hf
          refine lv_istore_n (lv' := [(2, .int z3), (0, .ref a_t), (1, .int p1), (3, .int x3)]) hx hb dX7_reportsOf_40 rfl hl (by decide) rfl (fun ls hl => ?_)
          obtain ⟨z4, ez4⟩ : ∃ y : Int32, y = x3 + (1) := ⟨_, rfl⟩
          have hf := pn_nm_at ez4 hf
          refine lv_iinc (v := z4) (lv' := [(3, .int z4), (2, .int z3), (0, .ref a_t), (1, .int p1)]) hx hb dX7_reportsOf_41 hl (k := 3) rfl (by rw [ez4]; rfl) (by decide) rfl (fun ls hl => ?_)
          refine lv_goto (tgt := 6) hx hb dX7_reportsOf_44 (by decide) ?_
          exact ih z3 z4 X H locs ls hf hP hS (lv_sub hl [2, 3, 1, 0] rfl) kx47
        · have hf := pn_ifn c2 hf
          refine lv_aload_n hx hb dX7_reportsOf_25 rfl (lv_at hl 0 rfl) ?_
          refine lv_iload_n hx hb dX7_reportsOf_26 rfl (lv_at hl 1 rfl) ?_
          refine lv_iload_n hx hb dX7_reportsOf_27 rfl (lv_at hl 3 rfl) ?_
          obtain ⟨ru5, hu5, hf⟩ := pn_bd1_at hf
          refine pn_calli [0, 1, 2] (va_runV (As := [.int p1, .int x3]) (rest := [.int x2]) ⟨hx, hb, hml, hown, hts⟩ (c_X7_isReportOf l D cI cJ cZ a_t a_t_text a_t_readPage a_t_page a_t_trial a_t_work a_t_book a_t_kept a_t_isKept a_t_seenWhat a_t_seenV a_t_seenIs a_t_label a_t_finds a_t_reason a_t_caseFirst a_t_brief a_t_printed a_t_renamed a_t_worth H.size v_t_thrown v_t_textSize v_t_place v_t_doings v_t_seen v_t_seed v_t_cases v_t_printedSize v_t_lastReason N r_t_finds r_t_page p1 x3 ru5 hu5) (cwV 2 hts gX7_reportsOf_X7_isReportOf rfl rfl rfl hdX7_isReportOf ⟨Nat.le_of_ble_eq_true rfl, Nat.le_of_ble_eq_true rfl⟩) (pn_preV [0, 1, 2] hP (hD.addr rfl) hK rfl rfl (q0 := 0) (ci := 6) rfl rfl) rfl rfl hl.1 rfl (lv_room (Nat.le_of_ble_eq_true rfl)) dX7_reportsOf_28 ⟨Nat.zero_le _, Nat.zero_le _⟩) hP (hD.addr rfl) hS hA rfl rfl rfl (fun H locs (hP : va_P D vwCl [(a_t, .inr (6, [.int v_t_thrown, .ref a_t_text, .int v_t_textSize, .int v_t_place, .ref a_t_readPage, .ref a_t_page, .ref a_t_trial, .ref a_t_work, .ref a_t_book, .int v_t_doings, .ref a_t_kept, .ref a_t_isKept, .int v_t_seen, .ref a_t_seenWhat, .ref a_t_seenV, .ref a_t_seenIs, .long v_t_seed, .ref a_t_label, .ref a_t_finds, .ref a_t_reason, .ref a_t_caseFirst, .int v_t_cases, .ref a_t_brief, .ref a_t_printed, .int v_t_printedSize, .ref a_t_renamed, .ref a_t_worth, .int v_t_lastReason])), (a_t_finds, .inl (cI, 32, .inl r_t_finds)), (a_t_page, .inl (cI, 265, .inl r_t_page))] H) _ hS => ?_)
          refine lv_if_eq (tgt := 38) hx hb dX7_reportsOf_31 (by decide) (fun c6 => ?_) (fun c6 => ?_)
          · have hf := pn_ifp c6 hf
            refine lv_iconst (v := (0)) hx hb dX7_reportsOf_38 (by decide) ?_
            refine lv_iadd hx hb dX7_reportsOf_39 ?_
            refine lv_topi (fun z7 ez7 => ?_)
            have hf := pn_nm_at ez7 hf
            refine lv_istore_n (lv' := [(2, .int z7), (0, .ref a_t), (1, .int p1), (3, .int x3)]) hx hb dX7_reportsOf_40 rfl hl (by decide) rfl (fun ls hl => ?_)
            obtain ⟨z8, ez8⟩ : ∃ y : Int32, y = x3 + (1) := ⟨_, rfl⟩
            have hf := pn_nm_at ez8 hf
            refine lv_iinc (v := z8) (lv' := [(3, .int z8), (2, .int z7), (0, .ref a_t), (1, .int p1)]) hx hb dX7_reportsOf_41 hl (k := 3) rfl (by rw [ez8]; rfl) (by decide) rfl (fun ls hl => ?_)
            refine lv_goto (tgt := 6) hx hb dX7_reportsOf_44 (by decide) ?_
            exact ih z7 z8 X H locs ls hf hP hS (lv_sub hl [2, 3, 1, 0] rfl) kx47
          · have hf := pn_ifn c6 hf
            refine lv_iconst (v := (1)) hx hb dX7_reportsOf_34 (by decide) ?_
            refine lv_goto (tgt := 39) hx hb dX7_reportsOf_35 (by decide) ?_
            refine lv_iadd hx hb dX7_reportsOf_39 ?_
            refine lv_topi (fun z9 ez9 => ?_)
            have hf := pn_nm_at ez9 hf
            refine lv_istore_n (lv' := [(2, .int z9), (0, .ref a_t), (1, .int p1), (3, .int x3)]) hx hb dX7_reportsOf_40 rfl hl (by decide) rfl (fun ls hl => ?_)
            obtain ⟨z10, ez10⟩ : ∃ y : Int32, y = x3 + (1) := ⟨_, rfl⟩
            have hf := pn_nm_at ez10 hf
            refine lv_iinc (v := z10) (lv' := [(3, .int z10), (2, .int z9), (0, .ref a_t), (1, .int p1)]) hx hb dX7_reportsOf_41 hl (k := 3) rfl (by rw [ez10]; rfl) (by decide) rfl (fun ls hl => ?_)
            refine lv_goto (tgt := 6) hx hb dX7_reportsOf_44 (by decide) ?_
            exact ih z9 z10 X H locs ls hf hP hS (lv_sub hl [2, 3, 1, 0] rfl) kx47
  refine lv_iconst (v := (0)) hx hb dX7_reportsOf_0 (by decide) ?_
  refine lv_istore_n (lv' := [(2, .int (0 : Int32)), (0, .ref a_t), (1, .int p1)]) hx hb dX7_reportsOf_1 rfl hl (by decide) rfl (fun ls hl => ?_)
  refine lv_sipush (v := (1001)) hx hb dX7_reportsOf_2 (by decide) ?_
  refine lv_istore_n (lv' := [(3, .int (1001 : Int32)), (2, .int (0 : Int32)), (0, .ref a_t), (1, .int p1)]) hx hb dX7_reportsOf_5 rfl hl (by decide) rfl (fun ls hl => ?_)
  obtain ⟨X6, hX6, hf⟩ := pn_bd1_at hf
  refine lp6 N (0 : Int32) (1001 : Int32) X6 H locs ls hX6 hP hS (lv_sub hl [2, 3, 1, 0] rfl) ?_
  · intro x2_w11 H locs ls eX hP hS hl
    rw [eX] at hf
    have hf := pn_u1_at hf
    refine lv_iload_n hx hb dX7_reportsOf_47 rfl (lv_at hl 0 rfl) ?_
    cases hf
    rw [hQ]
    exact pn_reti hx hb hr hlocks hP hS rfl dX7_reportsOf_48
def lp_X7_notesOf_4 (r_t_finds : Nat → Int32) (p1 : Int32) : Nat → Int32 → Int32 → Option (Int32)
  | 0, _, _ => none
  | n + 1, x2, x3 =>
    if (32 : Int32) ≤ x3 then
  some x2
  else
  pn_rd 32 r_t_finds x3 fun w2 =>
  if ¬ w2 = p1 then
  pn_nm (x2 ||| (0 : Int32)) fun z5 =>
  pn_nm (x3 + (1 : Int32)) fun z6 =>
  lp_X7_notesOf_4 r_t_finds p1 n z5 z6
  else
  pn_nm (x2 ||| ((1 : Int32) <<< ((x3 / (4 : Int32)) &&& 31))) fun z7 =>
  pn_nm (x3 + (1 : Int32)) fun z8 =>
  lp_X7_notesOf_4 r_t_finds p1 n z7 z8
def f_X7_notesOf (N : Nat) (r_t_finds : Nat → Int32) (p1 : Int32) : Option (Int32) :=
  pn_bd1 (lp_X7_notesOf_4 r_t_finds p1 N (0 : Int32) (0 : Int32)) (fun X4 => (pn_u1 fun x2_w9 => some x2_w9) X4)
set_option maxHeartbeats 4000000 in
set_option maxRecDepth 100000 in
theorem c_X7_notesOf (l : Launch) (D : va_G) (cI cJ cZ : ClassId) (a_t a_t_text a_t_readPage a_t_page a_t_trial a_t_work a_t_book a_t_kept a_t_isKept a_t_seenWhat a_t_seenV a_t_seenIs a_t_label a_t_finds a_t_reason a_t_caseFirst a_t_brief a_t_printed a_t_renamed a_t_worth : Nat) (sz : Nat) (v_t_thrown : Int32) (v_t_textSize : Int32) (v_t_place : Int32) (v_t_doings : Int32) (v_t_seen : Int32) (v_t_seed : Int64) (v_t_cases : Int32) (v_t_printedSize : Int32) (v_t_lastReason : Int32) (N : Nat) (r_t_finds : Nat → Int32) (p1 : Int32) (rR : Int32) (hf : f_X7_notesOf N r_t_finds p1 = some rR) : Met l yX7_notesOf wsX7_notesOf { frames := 0, cells := 0, slots := 0, locals := 0 } (pn_Pc D cI cJ cZ [.ref a_t, .int p1] [(a_t, .inr (6, [.int v_t_thrown, .ref a_t_text, .int v_t_textSize, .int v_t_place, .ref a_t_readPage, .ref a_t_page, .ref a_t_trial, .ref a_t_work, .ref a_t_book, .int v_t_doings, .ref a_t_kept, .ref a_t_isKept, .int v_t_seen, .ref a_t_seenWhat, .ref a_t_seenV, .ref a_t_seenIs, .long v_t_seed, .ref a_t_label, .ref a_t_finds, .ref a_t_reason, .ref a_t_caseFirst, .int v_t_cases, .ref a_t_brief, .ref a_t_printed, .int v_t_printedSize, .ref a_t_renamed, .ref a_t_worth, .int v_t_lastReason])), (a_t_finds, .inl (cI, 32, .inl r_t_finds))] sz) (pn_Qi D rR [(a_t, .inr (6, [.int v_t_thrown, .ref a_t_text, .int v_t_textSize, .int v_t_place, .ref a_t_readPage, .ref a_t_page, .ref a_t_trial, .ref a_t_work, .ref a_t_book, .int v_t_doings, .ref a_t_kept, .ref a_t_isKept, .int v_t_seen, .ref a_t_seenWhat, .ref a_t_seenV, .ref a_t_seenIs, .long v_t_seed, .ref a_t_label, .ref a_t_finds, .ref a_t_reason, .ref a_t_caseFirst, .int v_t_cases, .ref a_t_brief, .ref a_t_printed, .int v_t_printedSize, .ref a_t_renamed, .ref a_t_worth, .int v_t_lastReason])), (a_t_finds, .inl (cI, 32, .inl r_t_finds))] (va_A [(a_t, .inr (6, [.int v_t_thrown, .ref a_t_text, .int v_t_textSize, .int v_t_place, .ref a_t_readPage, .ref a_t_page, .ref a_t_trial, .ref a_t_work, .ref a_t_book, .int v_t_doings, .ref a_t_kept, .ref a_t_isKept, .int v_t_seen, .ref a_t_seenWhat, .ref a_t_seenV, .ref a_t_seenIs, .long v_t_seed, .ref a_t_label, .ref a_t_finds, .ref a_t_reason, .ref a_t_caseFirst, .int v_t_cases, .ref a_t_brief, .ref a_t_printed, .int v_t_printedSize, .ref a_t_renamed, .ref a_t_worth, .int v_t_lastReason])), (a_t_finds, .inl (cI, 32, .inl r_t_finds))] sz)) 0 0 (va_A [(a_t, .inr (6, [.int v_t_thrown, .ref a_t_text, .int v_t_textSize, .int v_t_place, .ref a_t_readPage, .ref a_t_page, .ref a_t_trial, .ref a_t_work, .ref a_t_book, .int v_t_doings, .ref a_t_kept, .ref a_t_isKept, .int v_t_seen, .ref a_t_seenWhat, .ref a_t_seenV, .ref a_t_seenIs, .long v_t_seed, .ref a_t_label, .ref a_t_finds, .ref a_t_reason, .ref a_t_caseFirst, .int v_t_cases, .ref a_t_brief, .ref a_t_printed, .int v_t_printedSize, .ref a_t_renamed, .ref a_t_worth, .int v_t_lastReason])), (a_t_finds, .inl (cI, 32, .inl r_t_finds))] sz) := by
  refine pn_entry (cc := cX7_notesOf) (maxL := 4) (ret := (some .int)) (Qf := pn_Qi D rR [(a_t, .inr (6, [.int v_t_thrown, .ref a_t_text, .int v_t_textSize, .int v_t_place, .ref a_t_readPage, .ref a_t_page, .ref a_t_trial, .ref a_t_work, .ref a_t_book, .int v_t_doings, .ref a_t_kept, .ref a_t_isKept, .int v_t_seen, .ref a_t_seenWhat, .ref a_t_seenV, .ref a_t_seenIs, .long v_t_seed, .ref a_t_label, .ref a_t_finds, .ref a_t_reason, .ref a_t_caseFirst, .int v_t_cases, .ref a_t_brief, .ref a_t_printed, .int v_t_printedSize, .ref a_t_renamed, .ref a_t_worth, .int v_t_lastReason])), (a_t_finds, .inl (cI, 32, .inl r_t_finds))]) (by decide) rfl (Nat.le_of_ble_eq_true rfl) ?_
  intro p e s m args below meth c A ls H locs Qm hQ hx hb hr hlocks hml hown hts hK hP hD hA hS hl
  have hl : lv_has ls 4 [(0, .ref a_t), (1, .int p1)] := hl
  have hinX7 : ∀ w ∈ wsX70, w ∈ wsX7_notesOf := by decide +kernel
  have fl_47 := hts (.fieldLink RX7 47 "PointingNotesModel" "finds" "[I") (by decide +kernel)
  rw [f_X7_notesOf] at hf
  have lp4 : ∀ (n : Nat) (x2 : Int32) (x3 : Int32) (X : Int32) (H : Heap) (locs : List Loc) (ls : Array Slot), lp_X7_notesOf_4 r_t_finds p1 n x2 x3 = some X → va_P D vwCl [(a_t, .inr (6, [.int v_t_thrown, .ref a_t_text, .int v_t_textSize, .int v_t_place, .ref a_t_readPage, .ref a_t_page, .ref a_t_trial, .ref a_t_work, .ref a_t_book, .int v_t_doings, .ref a_t_kept, .ref a_t_isKept, .int v_t_seen, .ref a_t_seenWhat, .ref a_t_seenV, .ref a_t_seenIs, .long v_t_seed, .ref a_t_label, .ref a_t_finds, .ref a_t_reason, .ref a_t_caseFirst, .int v_t_cases, .ref a_t_brief, .ref a_t_printed, .int v_t_printedSize, .ref a_t_renamed, .ref a_t_worth, .int v_t_lastReason])), (a_t_finds, .inl (cI, 32, .inl r_t_finds))] H → va_S A s.heap H locs → lv_has ls 4 [(0, .ref a_t), (1, .int p1), (2, .int x2), (3, .int x3)] → (∀ (y2 : Int32)  (H : Heap) (locs : List Loc) (ls : Array Slot), X = y2 → va_P D vwCl [(a_t, .inr (6, [.int v_t_thrown, .ref a_t_text, .int v_t_textSize, .int v_t_place, .ref a_t_readPage, .ref a_t_page, .ref a_t_trial, .ref a_t_work, .ref a_t_book, .int v_t_doings, .ref a_t_kept, .ref a_t_isKept, .int v_t_seen, .ref a_t_seenWhat, .ref a_t_seenV, .ref a_t_seenIs, .long v_t_seed, .ref a_t_label, .ref a_t_finds, .ref a_t_reason, .ref a_t_caseFirst, .int v_t_cases, .ref a_t_brief, .ref a_t_printed, .int v_t_printedSize, .ref a_t_renamed, .ref a_t_worth, .int v_t_lastReason])), (a_t_finds, .inl (cI, 32, .inl r_t_finds))] H → va_S A s.heap H locs → lv_has ls 4 [(2, .int y2)] → W p l e { frames := 0, cells := 0, slots := 0, locals := 0 } s m args below meth c H locs 0 0 Qm (F0 m 38 ls [])) → W p l e { frames := 0, cells := 0, slots := 0, locals := 0 } s m args below meth c H locs 0 0 Qm (F0 m 4 ls []) := by
    intro n
    induction n with
    | zero => intro x2 x3 X H locs ls hf; cases hf
    | succ n ih =>
      intro x2 x3 X H locs ls hf hP hS hl kx38
      rw [lp_X7_notesOf_4] at hf
      refine lv_iload_n hx hb dX7_notesOf_4 rfl (lv_at hl 3 rfl) ?_
      refine lv_bipush (v := (32)) hx hb dX7_notesOf_5 (by decide) ?_
      refine lv_icmp_ge (tgt := 38) hx hb dX7_notesOf_7 (by decide) (fun c1 => ?_) (fun c1 => ?_)
      · have hf := pn_ifp c1 hf
        exact kx38 x2 H locs ls (Option.some.inj hf).symm hP hS (lv_sub hl [2] rfl)
      · have hf := pn_ifn c1 hf
        refine lv_iload_n hx hb dX7_notesOf_10 rfl (lv_at hl 2 rfl) ?_
        refine lv_aload_n hx hb dX7_notesOf_11 rfl (lv_at hl 0 rfl) ?_
        refine va_get (D := D) (ci := 6) (v := .ref a_t_finds) (C := RX7) (T := TX7) (N := 28) hx hb hts hinX7 hown hK.1 hP 0 rfl rfl 18 (by decide) fl_47 (fun _ h9 => h9) rfl dX7_notesOf_12 ?_
        refine lv_iload_n hx hb dX7_notesOf_15 rfl (lv_at hl 3 rfl) ?_
        obtain ⟨hi3, w2, ew2, hf⟩ := pn_rd_at hf
        refine pn_ldI hx hb hK.1 hP 1 0 rfl rfl hi3 ew2 dX7_notesOf_16 ?_
        refine lv_iload_n hx hb dX7_notesOf_17 rfl (lv_at hl 1 rfl) ?_
        refine lv_icmp_ne (tgt := 29) hx hb dX7_notesOf_18 (by decide) (fun c4 => ?_) (fun c4 => ?_)
        · have hf := pn_ifp c4 hf
          refine lv_iconst (v := (0)) hx hb dX7_notesOf_29 (by decide) ?_
          refine lv_ior hx hb dX7_notesOf_30 ?_
          refine lv_topi (fun z5 ez5 => ?_)
          have hf := pn_nm_at ez5 hf
          refine lv_istore_n (lv' := [(2, .int z5), (0, .ref a_t), (1, .int p1), (3, .int x3)]) hx hb dX7_notesOf_31 rfl hl (by decide) rfl (fun ls hl => ?_)
          obtain ⟨z6, ez6⟩ : ∃ y : Int32, y = x3 + (1) := ⟨_, rfl⟩
          have hf := pn_nm_at ez6 hf
          refine lv_iinc (v := z6) (lv' := [(3, .int z6), (2, .int z5), (0, .ref a_t), (1, .int p1)]) hx hb dX7_notesOf_32 hl (k := 3) rfl (by rw [ez6]; rfl) (by decide) rfl (fun ls hl => ?_)
          refine lv_goto (tgt := 4) hx hb dX7_notesOf_35 (by decide) ?_
          exact ih z5 z6 X H locs ls hf hP hS (lv_sub hl [2, 3, 1, 0] rfl) kx38
        · have hf := pn_ifq c4 hf
          refine lv_iconst (v := (1)) hx hb dX7_notesOf_21 (by decide) ?_
          refine lv_iload_n hx hb dX7_notesOf_22 rfl (lv_at hl 3 rfl) ?_
          refine lv_iconst (v := (4)) hx hb dX7_notesOf_23 (by decide) ?_
          refine lv_idiv hx hb dX7_notesOf_24 (by decide) ?_
          refine lv_ishl hx hb dX7_notesOf_25 ?_
          refine lv_goto (tgt := 30) hx hb dX7_notesOf_26 (by decide) ?_
          refine lv_ior hx hb dX7_notesOf_30 ?_
          refine lv_topi (fun z7 ez7 => ?_)
          have hf := pn_nm_at ez7 hf
          refine lv_istore_n (lv' := [(2, .int z7), (0, .ref a_t), (1, .int p1), (3, .int x3)]) hx hb dX7_notesOf_31 rfl hl (by decide) rfl (fun ls hl => ?_)
          obtain ⟨z8, ez8⟩ : ∃ y : Int32, y = x3 + (1) := ⟨_, rfl⟩
          have hf := pn_nm_at ez8 hf
          refine lv_iinc (v := z8) (lv' := [(3, .int z8), (2, .int z7), (0, .ref a_t), (1, .int p1)]) hx hb dX7_notesOf_32 hl (k := 3) rfl (by rw [ez8]; rfl) (by decide) rfl (fun ls hl => ?_)
          refine lv_goto (tgt := 4) hx hb dX7_notesOf_35 (by decide) ?_
          exact ih z7 z8 X H locs ls hf hP hS (lv_sub hl [2, 3, 1, 0] rfl) kx38
  refine lv_iconst (v := (0)) hx hb dX7_notesOf_0 (by decide) ?_
  refine lv_istore_n (lv' := [(2, .int (0 : Int32)), (0, .ref a_t), (1, .int p1)]) hx hb dX7_notesOf_1 rfl hl (by decide) rfl (fun ls hl => ?_)
  refine lv_iconst (v := (0)) hx hb dX7_notesOf_2 (by decide) ?_
  refine lv_istore_n (lv' := [(3, .int (0 : Int32)), (2, .int (0 : Int32)), (0, .ref a_t), (1, .int p1)]) hx hb dX7_notesOf_3 rfl hl (by decide) rfl (fun ls hl => ?_)
  obtain ⟨X4, hX4, hf⟩ := pn_bd1_at hf
  refine lp4 N (0 : Int32) (0 : Int32) X4 H locs ls hX4 hP hS (lv_sub hl [2, 3, 1, 0] rfl) ?_
  · intro x2_w9 H locs ls eX hP hS hl
    rw [eX] at hf
    have hf := pn_u1_at hf
    refine lv_iload_n hx hb dX7_notesOf_38 rfl (lv_at hl 0 rfl) ?_
    cases hf
    rw [hQ]
    exact pn_reti hx hb hr hlocks hP hS rfl dX7_notesOf_39
def lp_X7_refsOf_4 (r_t_finds : Nat → Int32) (p1 : Int32) : Nat → Int32 → Int32 → Option (Int32)
  | 0, _, _ => none
  | n + 1, x2, x3 =>
    if (32 : Int32) ≤ x3 then
  some x2
  else
  pn_rd 32 r_t_finds x3 fun w2 =>
  if ¬ w2 = p1 then
  pn_nm (x2 + (0 : Int32)) fun z5 =>
  pn_nm (x3 + (1 : Int32)) fun z6 =>
  lp_X7_refsOf_4 r_t_finds p1 n z5 z6
  else
  pn_nm (x2 + (1 : Int32)) fun z7 =>
  pn_nm (x3 + (1 : Int32)) fun z8 =>
  lp_X7_refsOf_4 r_t_finds p1 n z7 z8
def f_X7_refsOf (N : Nat) (r_t_finds : Nat → Int32) (p1 : Int32) : Option (Int32) :=
  pn_bd1 (lp_X7_refsOf_4 r_t_finds p1 N (0 : Int32) (0 : Int32)) (fun X4 => (pn_u1 fun x2_w9 => some x2_w9) X4)
set_option maxHeartbeats 4000000 in
set_option maxRecDepth 100000 in
theorem c_X7_refsOf (l : Launch) (D : va_G) (cI cJ cZ : ClassId) (a_t a_t_text a_t_readPage a_t_page a_t_trial a_t_work a_t_book a_t_kept a_t_isKept a_t_seenWhat a_t_seenV a_t_seenIs a_t_label a_t_finds a_t_reason a_t_caseFirst a_t_brief a_t_printed a_t_renamed a_t_worth : Nat) (sz : Nat) (v_t_thrown : Int32) (v_t_textSize : Int32) (v_t_place : Int32) (v_t_doings : Int32) (v_t_seen : Int32) (v_t_seed : Int64) (v_t_cases : Int32) (v_t_printedSize : Int32) (v_t_lastReason : Int32) (N : Nat) (r_t_finds : Nat → Int32) (p1 : Int32) (rR : Int32) (hf : f_X7_refsOf N r_t_finds p1 = some rR) : Met l yX7_refsOf wsX7_refsOf { frames := 0, cells := 0, slots := 0, locals := 0 } (pn_Pc D cI cJ cZ [.ref a_t, .int p1] [(a_t, .inr (6, [.int v_t_thrown, .ref a_t_text, .int v_t_textSize, .int v_t_place, .ref a_t_readPage, .ref a_t_page, .ref a_t_trial, .ref a_t_work, .ref a_t_book, .int v_t_doings, .ref a_t_kept, .ref a_t_isKept, .int v_t_seen, .ref a_t_seenWhat, .ref a_t_seenV, .ref a_t_seenIs, .long v_t_seed, .ref a_t_label, .ref a_t_finds, .ref a_t_reason, .ref a_t_caseFirst, .int v_t_cases, .ref a_t_brief, .ref a_t_printed, .int v_t_printedSize, .ref a_t_renamed, .ref a_t_worth, .int v_t_lastReason])), (a_t_finds, .inl (cI, 32, .inl r_t_finds))] sz) (pn_Qi D rR [(a_t, .inr (6, [.int v_t_thrown, .ref a_t_text, .int v_t_textSize, .int v_t_place, .ref a_t_readPage, .ref a_t_page, .ref a_t_trial, .ref a_t_work, .ref a_t_book, .int v_t_doings, .ref a_t_kept, .ref a_t_isKept, .int v_t_seen, .ref a_t_seenWhat, .ref a_t_seenV, .ref a_t_seenIs, .long v_t_seed, .ref a_t_label, .ref a_t_finds, .ref a_t_reason, .ref a_t_caseFirst, .int v_t_cases, .ref a_t_brief, .ref a_t_printed, .int v_t_printedSize, .ref a_t_renamed, .ref a_t_worth, .int v_t_lastReason])), (a_t_finds, .inl (cI, 32, .inl r_t_finds))] (va_A [(a_t, .inr (6, [.int v_t_thrown, .ref a_t_text, .int v_t_textSize, .int v_t_place, .ref a_t_readPage, .ref a_t_page, .ref a_t_trial, .ref a_t_work, .ref a_t_book, .int v_t_doings, .ref a_t_kept, .ref a_t_isKept, .int v_t_seen, .ref a_t_seenWhat, .ref a_t_seenV, .ref a_t_seenIs, .long v_t_seed, .ref a_t_label, .ref a_t_finds, .ref a_t_reason, .ref a_t_caseFirst, .int v_t_cases, .ref a_t_brief, .ref a_t_printed, .int v_t_printedSize, .ref a_t_renamed, .ref a_t_worth, .int v_t_lastReason])), (a_t_finds, .inl (cI, 32, .inl r_t_finds))] sz)) 0 0 (va_A [(a_t, .inr (6, [.int v_t_thrown, .ref a_t_text, .int v_t_textSize, .int v_t_place, .ref a_t_readPage, .ref a_t_page, .ref a_t_trial, .ref a_t_work, .ref a_t_book, .int v_t_doings, .ref a_t_kept, .ref a_t_isKept, .int v_t_seen, .ref a_t_seenWhat, .ref a_t_seenV, .ref a_t_seenIs, .long v_t_seed, .ref a_t_label, .ref a_t_finds, .ref a_t_reason, .ref a_t_caseFirst, .int v_t_cases, .ref a_t_brief, .ref a_t_printed, .int v_t_printedSize, .ref a_t_renamed, .ref a_t_worth, .int v_t_lastReason])), (a_t_finds, .inl (cI, 32, .inl r_t_finds))] sz) := by
  refine pn_entry (cc := cX7_refsOf) (maxL := 4) (ret := (some .int)) (Qf := pn_Qi D rR [(a_t, .inr (6, [.int v_t_thrown, .ref a_t_text, .int v_t_textSize, .int v_t_place, .ref a_t_readPage, .ref a_t_page, .ref a_t_trial, .ref a_t_work, .ref a_t_book, .int v_t_doings, .ref a_t_kept, .ref a_t_isKept, .int v_t_seen, .ref a_t_seenWhat, .ref a_t_seenV, .ref a_t_seenIs, .long v_t_seed, .ref a_t_label, .ref a_t_finds, .ref a_t_reason, .ref a_t_caseFirst, .int v_t_cases, .ref a_t_brief, .ref a_t_printed, .int v_t_printedSize, .ref a_t_renamed, .ref a_t_worth, .int v_t_lastReason])), (a_t_finds, .inl (cI, 32, .inl r_t_finds))]) (by decide) rfl (Nat.le_of_ble_eq_true rfl) ?_
  intro p e s m args below meth c A ls H locs Qm hQ hx hb hr hlocks hml hown hts hK hP hD hA hS hl
  have hl : lv_has ls 4 [(0, .ref a_t), (1, .int p1)] := hl
  have hinX7 : ∀ w ∈ wsX70, w ∈ wsX7_refsOf := by decide +kernel
  have fl_47 := hts (.fieldLink RX7 47 "PointingNotesModel" "finds" "[I") (by decide +kernel)
  rw [f_X7_refsOf] at hf
  have lp4 : ∀ (n : Nat) (x2 : Int32) (x3 : Int32) (X : Int32) (H : Heap) (locs : List Loc) (ls : Array Slot), lp_X7_refsOf_4 r_t_finds p1 n x2 x3 = some X → va_P D vwCl [(a_t, .inr (6, [.int v_t_thrown, .ref a_t_text, .int v_t_textSize, .int v_t_place, .ref a_t_readPage, .ref a_t_page, .ref a_t_trial, .ref a_t_work, .ref a_t_book, .int v_t_doings, .ref a_t_kept, .ref a_t_isKept, .int v_t_seen, .ref a_t_seenWhat, .ref a_t_seenV, .ref a_t_seenIs, .long v_t_seed, .ref a_t_label, .ref a_t_finds, .ref a_t_reason, .ref a_t_caseFirst, .int v_t_cases, .ref a_t_brief, .ref a_t_printed, .int v_t_printedSize, .ref a_t_renamed, .ref a_t_worth, .int v_t_lastReason])), (a_t_finds, .inl (cI, 32, .inl r_t_finds))] H → va_S A s.heap H locs → lv_has ls 4 [(0, .ref a_t), (1, .int p1), (2, .int x2), (3, .int x3)] → (∀ (y2 : Int32)  (H : Heap) (locs : List Loc) (ls : Array Slot), X = y2 → va_P D vwCl [(a_t, .inr (6, [.int v_t_thrown, .ref a_t_text, .int v_t_textSize, .int v_t_place, .ref a_t_readPage, .ref a_t_page, .ref a_t_trial, .ref a_t_work, .ref a_t_book, .int v_t_doings, .ref a_t_kept, .ref a_t_isKept, .int v_t_seen, .ref a_t_seenWhat, .ref a_t_seenV, .ref a_t_seenIs, .long v_t_seed, .ref a_t_label, .ref a_t_finds, .ref a_t_reason, .ref a_t_caseFirst, .int v_t_cases, .ref a_t_brief, .ref a_t_printed, .int v_t_printedSize, .ref a_t_renamed, .ref a_t_worth, .int v_t_lastReason])), (a_t_finds, .inl (cI, 32, .inl r_t_finds))] H → va_S A s.heap H locs → lv_has ls 4 [(2, .int y2)] → W p l e { frames := 0, cells := 0, slots := 0, locals := 0 } s m args below meth c H locs 0 0 Qm (F0 m 34 ls [])) → W p l e { frames := 0, cells := 0, slots := 0, locals := 0 } s m args below meth c H locs 0 0 Qm (F0 m 4 ls []) := by
    intro n
    induction n with
    | zero => intro x2 x3 X H locs ls hf; cases hf
    | succ n ih =>
      intro x2 x3 X H locs ls hf hP hS hl kx34
      rw [lp_X7_refsOf_4] at hf
      refine lv_iload_n hx hb dX7_refsOf_4 rfl (lv_at hl 3 rfl) ?_
      refine lv_bipush (v := (32)) hx hb dX7_refsOf_5 (by decide) ?_
      refine lv_icmp_ge (tgt := 34) hx hb dX7_refsOf_7 (by decide) (fun c1 => ?_) (fun c1 => ?_)
      · have hf := pn_ifp c1 hf
        exact kx34 x2 H locs ls (Option.some.inj hf).symm hP hS (lv_sub hl [2] rfl)
      · have hf := pn_ifn c1 hf
        refine lv_iload_n hx hb dX7_refsOf_10 rfl (lv_at hl 2 rfl) ?_
        refine lv_aload_n hx hb dX7_refsOf_11 rfl (lv_at hl 0 rfl) ?_
        refine va_get (D := D) (ci := 6) (v := .ref a_t_finds) (C := RX7) (T := TX7) (N := 28) hx hb hts hinX7 hown hK.1 hP 0 rfl rfl 18 (by decide) fl_47 (fun _ h9 => h9) rfl dX7_refsOf_12 ?_
        refine lv_iload_n hx hb dX7_refsOf_15 rfl (lv_at hl 3 rfl) ?_
        obtain ⟨hi3, w2, ew2, hf⟩ := pn_rd_at hf
        refine pn_ldI hx hb hK.1 hP 1 0 rfl rfl hi3 ew2 dX7_refsOf_16 ?_
        refine lv_iload_n hx hb dX7_refsOf_17 rfl (lv_at hl 1 rfl) ?_
        refine lv_icmp_ne (tgt := 25) hx hb dX7_refsOf_18 (by decide) (fun c4 => ?_) (fun c4 => ?_)
        · have hf := pn_ifp c4 hf
          refine lv_iconst (v := (0)) hx hb dX7_refsOf_25 (by decide) ?_
          refine lv_iadd hx hb dX7_refsOf_26 ?_
          refine lv_topi (fun z5 ez5 => ?_)
          have hf := pn_nm_at ez5 hf
          refine lv_istore_n (lv' := [(2, .int z5), (0, .ref a_t), (1, .int p1), (3, .int x3)]) hx hb dX7_refsOf_27 rfl hl (by decide) rfl (fun ls hl => ?_)
          obtain ⟨z6, ez6⟩ : ∃ y : Int32, y = x3 + (1) := ⟨_, rfl⟩
          have hf := pn_nm_at ez6 hf
          refine lv_iinc (v := z6) (lv' := [(3, .int z6), (2, .int z5), (0, .ref a_t), (1, .int p1)]) hx hb dX7_refsOf_28 hl (k := 3) rfl (by rw [ez6]; rfl) (by decide) rfl (fun ls hl => ?_)
          refine lv_goto (tgt := 4) hx hb dX7_refsOf_31 (by decide) ?_
          exact ih z5 z6 X H locs ls hf hP hS (lv_sub hl [2, 3, 1, 0] rfl) kx34
        · have hf := pn_ifq c4 hf
          refine lv_iconst (v := (1)) hx hb dX7_refsOf_21 (by decide) ?_
          refine lv_goto (tgt := 26) hx hb dX7_refsOf_22 (by decide) ?_
          refine lv_iadd hx hb dX7_refsOf_26 ?_
          refine lv_topi (fun z7 ez7 => ?_)
          have hf := pn_nm_at ez7 hf
          refine lv_istore_n (lv' := [(2, .int z7), (0, .ref a_t), (1, .int p1), (3, .int x3)]) hx hb dX7_refsOf_27 rfl hl (by decide) rfl (fun ls hl => ?_)
          obtain ⟨z8, ez8⟩ : ∃ y : Int32, y = x3 + (1) := ⟨_, rfl⟩
          have hf := pn_nm_at ez8 hf
          refine lv_iinc (v := z8) (lv' := [(3, .int z8), (2, .int z7), (0, .ref a_t), (1, .int p1)]) hx hb dX7_refsOf_28 hl (k := 3) rfl (by rw [ez8]; rfl) (by decide) rfl (fun ls hl => ?_)
          refine lv_goto (tgt := 4) hx hb dX7_refsOf_31 (by decide) ?_
          exact ih z7 z8 X H locs ls hf hP hS (lv_sub hl [2, 3, 1, 0] rfl) kx34
  refine lv_iconst (v := (0)) hx hb dX7_refsOf_0 (by decide) ?_
  refine lv_istore_n (lv' := [(2, .int (0 : Int32)), (0, .ref a_t), (1, .int p1)]) hx hb dX7_refsOf_1 rfl hl (by decide) rfl (fun ls hl => ?_)
  refine lv_iconst (v := (0)) hx hb dX7_refsOf_2 (by decide) ?_
  refine lv_istore_n (lv' := [(3, .int (0 : Int32)), (2, .int (0 : Int32)), (0, .ref a_t), (1, .int p1)]) hx hb dX7_refsOf_3 rfl hl (by decide) rfl (fun ls hl => ?_)
  obtain ⟨X4, hX4, hf⟩ := pn_bd1_at hf
  refine lp4 N (0 : Int32) (0 : Int32) X4 H locs ls hX4 hP hS (lv_sub hl [2, 3, 1, 0] rfl) ?_
  · intro x2_w9 H locs ls eX hP hS hl
    rw [eX] at hf
    have hf := pn_u1_at hf
    refine lv_iload_n hx hb dX7_refsOf_34 rfl (lv_at hl 0 rfl) ?_
    cases hf
    rw [hQ]
    exact pn_reti hx hb hr hlocks hP hS rfl dX7_refsOf_35
def f_X7_aCase (N : Nat) (v_t_thrown : Int32) (v_t_cases : Int32) (v_t_lastReason : Int32) (r_t_caseFirst : Nat → Int32) (r_t_finds : Nat → Int32) (r_t_label : Nat → Int32) (r_t_page : Nat → Int32) (r_t_reason : Nat → Int32) (p1 : Int32) (p2 : Int32) : Option (Int32 × Int32 × Int32 × Int32 × (Nat → Int32) × (Nat → Int32) × (Nat → Int32) × (Nat → Int32)) :=
  pn_bd6 (f_X7_findAll N v_t_cases v_t_lastReason r_t_caseFirst r_t_finds r_t_label r_t_reason r_t_page) fun v_t_cases_u1 v_t_lastReason_u1 r_t_caseFirst_u1 r_t_finds_u1 r_t_label_u1 r_t_reason_u1 =>
  pn_bd1 (f_X7_in p1.toInt64 (0 : Int64) ((v_t_cases_u1 - (1 : Int32)).toInt64)) fun ru2 =>
  if ¬ ru2 = 0 then
  if p2 = 0 then
  pn_bd1 (f_X7_initial r_t_caseFirst_u1 r_t_page p1) fun ru5 =>
  some (ru5, (0 : Int32), v_t_cases_u1, v_t_lastReason_u1, r_t_caseFirst_u1, r_t_finds_u1, r_t_label_u1, r_t_reason_u1)
  else if p2 = 1 then
  pn_rd 32 r_t_caseFirst_u1 p1 fun w7 =>
  pn_bd1 (f_X7_ref r_t_page w7 (2 : Int32)) fun ru9 =>
  some (ru9, (0 : Int32), v_t_cases_u1, v_t_lastReason_u1, r_t_caseFirst_u1, r_t_finds_u1, r_t_label_u1, r_t_reason_u1)
  else if p2 = 2 then
  pn_rd 32 r_t_caseFirst_u1 p1 fun w11 =>
  pn_bd1 (f_X7_ref r_t_page w11 (3 : Int32)) fun ru13 =>
  some (ru13, (0 : Int32), v_t_cases_u1, v_t_lastReason_u1, r_t_caseFirst_u1, r_t_finds_u1, r_t_label_u1, r_t_reason_u1)
  else if p2 = 3 then
  pn_bd1 (f_X7_reportsOf N r_t_finds_u1 r_t_page p1) fun ru15 =>
  some (ru15, (0 : Int32), v_t_cases_u1, v_t_lastReason_u1, r_t_caseFirst_u1, r_t_finds_u1, r_t_label_u1, r_t_reason_u1)
  else if p2 = 4 then
  pn_bd1 (f_X7_clashes N r_t_caseFirst_u1 r_t_finds_u1 r_t_page p1) fun ru17 =>
  if ru17 = 0 then
  some ((0 : Int32), (0 : Int32), v_t_cases_u1, v_t_lastReason_u1, r_t_caseFirst_u1, r_t_finds_u1, r_t_label_u1, r_t_reason_u1)
  else
  some ((1 : Int32), (0 : Int32), v_t_cases_u1, v_t_lastReason_u1, r_t_caseFirst_u1, r_t_finds_u1, r_t_label_u1, r_t_reason_u1)
  else if p2 = 5 then
  pn_bd1 (f_X7_notesOf N r_t_finds_u1 p1) fun ru20 =>
  some (ru20, (0 : Int32), v_t_cases_u1, v_t_lastReason_u1, r_t_caseFirst_u1, r_t_finds_u1, r_t_label_u1, r_t_reason_u1)
  else if p2 = 6 then
  pn_bd1 (f_X7_refsOf N r_t_finds_u1 p1) fun ru22 =>
  some (ru22, (0 : Int32), v_t_cases_u1, v_t_lastReason_u1, r_t_caseFirst_u1, r_t_finds_u1, r_t_label_u1, r_t_reason_u1)
  else some ((-2 : Int32), (0 : Int32), v_t_cases_u1, v_t_lastReason_u1, r_t_caseFirst_u1, r_t_finds_u1, r_t_label_u1, r_t_reason_u1)
  else
  some ((-1 : Int32), (0 : Int32), v_t_cases_u1, v_t_lastReason_u1, r_t_caseFirst_u1, r_t_finds_u1, r_t_label_u1, r_t_reason_u1)
set_option maxHeartbeats 4000000 in
set_option maxRecDepth 100000 in
theorem c_X7_aCase (l : Launch) (D : va_G) (cI cJ cZ : ClassId) (a_t a_t_text a_t_readPage a_t_page a_t_trial a_t_work a_t_book a_t_kept a_t_isKept a_t_seenWhat a_t_seenV a_t_seenIs a_t_label a_t_finds a_t_reason a_t_caseFirst a_t_brief a_t_printed a_t_renamed a_t_worth : Nat) (sz : Nat) (v_t_textSize : Int32) (v_t_place : Int32) (v_t_doings : Int32) (v_t_seen : Int32) (v_t_seed : Int64) (v_t_printedSize : Int32) (N : Nat) (v_t_thrown : Int32) (v_t_cases : Int32) (v_t_lastReason : Int32) (r_t_caseFirst : Nat → Int32) (r_t_finds : Nat → Int32) (r_t_label : Nat → Int32) (r_t_page : Nat → Int32) (r_t_reason : Nat → Int32) (p1 : Int32) (p2 : Int32) (rR : Int32) (o_t_thrown : Int32) (o_t_cases : Int32) (o_t_lastReason : Int32) (o_t_caseFirst : Nat → Int32) (o_t_finds : Nat → Int32) (o_t_label : Nat → Int32) (o_t_reason : Nat → Int32) (hf : f_X7_aCase N v_t_thrown v_t_cases v_t_lastReason r_t_caseFirst r_t_finds r_t_label r_t_page r_t_reason p1 p2 = some (rR, o_t_thrown, o_t_cases, o_t_lastReason, o_t_caseFirst, o_t_finds, o_t_label, o_t_reason)) : Met l yX7_aCase wsX7_aCase { frames := 7, cells := 0, slots := 0, locals := 168 } (pn_Pc D cI cJ cZ [.ref a_t, .int p1, .int p2] [(a_t, .inr (6, [.int v_t_thrown, .ref a_t_text, .int v_t_textSize, .int v_t_place, .ref a_t_readPage, .ref a_t_page, .ref a_t_trial, .ref a_t_work, .ref a_t_book, .int v_t_doings, .ref a_t_kept, .ref a_t_isKept, .int v_t_seen, .ref a_t_seenWhat, .ref a_t_seenV, .ref a_t_seenIs, .long v_t_seed, .ref a_t_label, .ref a_t_finds, .ref a_t_reason, .ref a_t_caseFirst, .int v_t_cases, .ref a_t_brief, .ref a_t_printed, .int v_t_printedSize, .ref a_t_renamed, .ref a_t_worth, .int v_t_lastReason])), (a_t_caseFirst, .inl (cI, 32, .inl r_t_caseFirst)), (a_t_finds, .inl (cI, 32, .inl r_t_finds)), (a_t_label, .inl (cI, 32, .inl r_t_label)), (a_t_page, .inl (cI, 265, .inl r_t_page)), (a_t_reason, .inl (cI, 32, .inl r_t_reason))] sz) (pn_Qi D rR [(a_t, .inr (6, [.int o_t_thrown, .ref a_t_text, .int v_t_textSize, .int v_t_place, .ref a_t_readPage, .ref a_t_page, .ref a_t_trial, .ref a_t_work, .ref a_t_book, .int v_t_doings, .ref a_t_kept, .ref a_t_isKept, .int v_t_seen, .ref a_t_seenWhat, .ref a_t_seenV, .ref a_t_seenIs, .long v_t_seed, .ref a_t_label, .ref a_t_finds, .ref a_t_reason, .ref a_t_caseFirst, .int o_t_cases, .ref a_t_brief, .ref a_t_printed, .int v_t_printedSize, .ref a_t_renamed, .ref a_t_worth, .int o_t_lastReason])), (a_t_caseFirst, .inl (cI, 32, .inl o_t_caseFirst)), (a_t_finds, .inl (cI, 32, .inl o_t_finds)), (a_t_label, .inl (cI, 32, .inl o_t_label)), (a_t_page, .inl (cI, 265, .inl r_t_page)), (a_t_reason, .inl (cI, 32, .inl o_t_reason))] (va_A [(a_t, .inr (6, [.int v_t_thrown, .ref a_t_text, .int v_t_textSize, .int v_t_place, .ref a_t_readPage, .ref a_t_page, .ref a_t_trial, .ref a_t_work, .ref a_t_book, .int v_t_doings, .ref a_t_kept, .ref a_t_isKept, .int v_t_seen, .ref a_t_seenWhat, .ref a_t_seenV, .ref a_t_seenIs, .long v_t_seed, .ref a_t_label, .ref a_t_finds, .ref a_t_reason, .ref a_t_caseFirst, .int v_t_cases, .ref a_t_brief, .ref a_t_printed, .int v_t_printedSize, .ref a_t_renamed, .ref a_t_worth, .int v_t_lastReason])), (a_t_caseFirst, .inl (cI, 32, .inl r_t_caseFirst)), (a_t_finds, .inl (cI, 32, .inl r_t_finds)), (a_t_label, .inl (cI, 32, .inl r_t_label)), (a_t_page, .inl (cI, 265, .inl r_t_page)), (a_t_reason, .inl (cI, 32, .inl r_t_reason))] sz)) 0 0 (va_A [(a_t, .inr (6, [.int v_t_thrown, .ref a_t_text, .int v_t_textSize, .int v_t_place, .ref a_t_readPage, .ref a_t_page, .ref a_t_trial, .ref a_t_work, .ref a_t_book, .int v_t_doings, .ref a_t_kept, .ref a_t_isKept, .int v_t_seen, .ref a_t_seenWhat, .ref a_t_seenV, .ref a_t_seenIs, .long v_t_seed, .ref a_t_label, .ref a_t_finds, .ref a_t_reason, .ref a_t_caseFirst, .int v_t_cases, .ref a_t_brief, .ref a_t_printed, .int v_t_printedSize, .ref a_t_renamed, .ref a_t_worth, .int v_t_lastReason])), (a_t_caseFirst, .inl (cI, 32, .inl r_t_caseFirst)), (a_t_finds, .inl (cI, 32, .inl r_t_finds)), (a_t_label, .inl (cI, 32, .inl r_t_label)), (a_t_page, .inl (cI, 265, .inl r_t_page)), (a_t_reason, .inl (cI, 32, .inl r_t_reason))] sz) := by
  refine pn_entry (cc := cX7_aCase) (maxL := 3) (ret := (some .int)) (Qf := pn_Qi D rR [(a_t, .inr (6, [.int o_t_thrown, .ref a_t_text, .int v_t_textSize, .int v_t_place, .ref a_t_readPage, .ref a_t_page, .ref a_t_trial, .ref a_t_work, .ref a_t_book, .int v_t_doings, .ref a_t_kept, .ref a_t_isKept, .int v_t_seen, .ref a_t_seenWhat, .ref a_t_seenV, .ref a_t_seenIs, .long v_t_seed, .ref a_t_label, .ref a_t_finds, .ref a_t_reason, .ref a_t_caseFirst, .int o_t_cases, .ref a_t_brief, .ref a_t_printed, .int v_t_printedSize, .ref a_t_renamed, .ref a_t_worth, .int o_t_lastReason])), (a_t_caseFirst, .inl (cI, 32, .inl o_t_caseFirst)), (a_t_finds, .inl (cI, 32, .inl o_t_finds)), (a_t_label, .inl (cI, 32, .inl o_t_label)), (a_t_page, .inl (cI, 265, .inl r_t_page)), (a_t_reason, .inl (cI, 32, .inl o_t_reason))]) (by decide) rfl (Nat.le_of_ble_eq_true rfl) ?_
  intro p e s m args below meth c A ls H locs Qm hQ hx hb hr hlocks hml hown hts hK hP hD hA hS hl
  have hl : lv_has ls 3 [(0, .ref a_t), (1, .int p1), (2, .int p2)] := hl
  have hinX7 : ∀ w ∈ wsX70, w ∈ wsX7_aCase := by decide +kernel
  have fl_16 := hts (.fieldLink RX7 16 "PointingNotesModel" "page" "[I") (by decide +kernel)
  have fl_53 := hts (.fieldLink RX7 53 "PointingNotesModel" "caseFirst" "[I") (by decide +kernel)
  have fl_68 := hts (.fieldLink RX7 68 "PointingNotesModel" "thrown" "I") (by decide +kernel)
  have fl_152 := hts (.fieldLink RX7 152 "PointingNotesModel" "cases" "I") (by decide +kernel)
  rw [f_X7_aCase] at hf
  refine lv_aload_n hx hb dX7_aCase_0 rfl (lv_at hl 0 rfl) ?_
  refine lv_iconst (v := (0)) hx hb dX7_aCase_1 (by decide) ?_
  refine va_put (D := D) (ci := 6) (v := .int (0 : Int32)) (ty := .int) (C := RX7) (T := TX7) (N := 28) hx hb hts hinX7 tyX7 tyX7_ok nmX7 hown hK.1 hP (hD.addr rfl) hS 0 rfl rfl 0 (by decide) fl_68 (fun _ h9 => h9) rfl (by decide +kernel) rfl rfl (Nat.le_of_ble_eq_true rfl) dX7_aCase_2 (fun H locs (hP : va_P D vwCl [(a_t, .inr (6, [.int ((0 : Int32)), .ref a_t_text, .int v_t_textSize, .int v_t_place, .ref a_t_readPage, .ref a_t_page, .ref a_t_trial, .ref a_t_work, .ref a_t_book, .int v_t_doings, .ref a_t_kept, .ref a_t_isKept, .int v_t_seen, .ref a_t_seenWhat, .ref a_t_seenV, .ref a_t_seenIs, .long v_t_seed, .ref a_t_label, .ref a_t_finds, .ref a_t_reason, .ref a_t_caseFirst, .int v_t_cases, .ref a_t_brief, .ref a_t_printed, .int v_t_printedSize, .ref a_t_renamed, .ref a_t_worth, .int v_t_lastReason])), (a_t_caseFirst, .inl (cI, 32, .inl r_t_caseFirst)), (a_t_finds, .inl (cI, 32, .inl r_t_finds)), (a_t_label, .inl (cI, 32, .inl r_t_label)), (a_t_page, .inl (cI, 265, .inl r_t_page)), (a_t_reason, .inl (cI, 32, .inl r_t_reason))] H) _ hS => ?_)
  refine lv_aload_n hx hb dX7_aCase_5 rfl (lv_at hl 0 rfl) ?_
  refine lv_aload_n hx hb dX7_aCase_6 rfl (lv_at hl 0 rfl) ?_
  refine va_get (D := D) (ci := 6) (v := .ref a_t_page) (C := RX7) (T := TX7) (N := 28) hx hb hts hinX7 hown hK.1 hP 0 rfl rfl 5 (by decide) fl_16 (fun _ h9 => h9) rfl dX7_aCase_7 ?_
  obtain ⟨v_t_cases_u1, v_t_lastReason_u1, r_t_caseFirst_u1, r_t_finds_u1, r_t_label_u1, r_t_reason_u1, hu1, hf⟩ := pn_bd6_at hf
  refine pn_callv [0, 1, 2, 3, 5, 4] (va_runV (As := [.ref a_t_page]) (rest := []) ⟨hx, hb, hml, hown, hts⟩ (c_X7_findAll l D cI cJ cZ a_t a_t_text a_t_readPage a_t_page a_t_trial a_t_work a_t_book a_t_kept a_t_isKept a_t_seenWhat a_t_seenV a_t_seenIs a_t_label a_t_finds a_t_reason a_t_caseFirst a_t_brief a_t_printed a_t_renamed a_t_worth a_t_page H.size (0 : Int32) v_t_textSize v_t_place v_t_doings v_t_seen v_t_seed v_t_printedSize N v_t_cases v_t_lastReason r_t_caseFirst r_t_finds r_t_label r_t_reason r_t_page v_t_cases_u1 v_t_lastReason_u1 r_t_caseFirst_u1 r_t_finds_u1 r_t_label_u1 r_t_reason_u1 hu1) (cwV 1 hts gX7_aCase_X7_findAll rfl rfl rfl hdX7_findAll ⟨Nat.le_of_ble_eq_true rfl, Nat.le_of_ble_eq_true rfl⟩) (pn_preV [0, 1, 2, 3, 5, 4] hP (hD.addr rfl) hK rfl rfl (q0 := 0) (ci := 6) rfl rfl) rfl rfl hl.1 rfl (lv_room (Nat.le_of_ble_eq_true rfl)) dX7_aCase_10 ⟨Nat.zero_le _, Nat.zero_le _⟩) hP (hD.addr rfl) hS hA rfl rfl rfl (fun H locs (hP : va_P D vwCl [(a_t, .inr (6, [.int ((0 : Int32)), .ref a_t_text, .int v_t_textSize, .int v_t_place, .ref a_t_readPage, .ref a_t_page, .ref a_t_trial, .ref a_t_work, .ref a_t_book, .int v_t_doings, .ref a_t_kept, .ref a_t_isKept, .int v_t_seen, .ref a_t_seenWhat, .ref a_t_seenV, .ref a_t_seenIs, .long v_t_seed, .ref a_t_label, .ref a_t_finds, .ref a_t_reason, .ref a_t_caseFirst, .int v_t_cases_u1, .ref a_t_brief, .ref a_t_printed, .int v_t_printedSize, .ref a_t_renamed, .ref a_t_worth, .int v_t_lastReason_u1])), (a_t_caseFirst, .inl (cI, 32, .inl r_t_caseFirst_u1)), (a_t_finds, .inl (cI, 32, .inl r_t_finds_u1)), (a_t_label, .inl (cI, 32, .inl r_t_label_u1)), (a_t_page, .inl (cI, 265, .inl r_t_page)), (a_t_reason, .inl (cI, 32, .inl r_t_reason_u1))] H) _ hS => ?_)
  refine lv_iload_n hx hb dX7_aCase_13 rfl (lv_at hl 1 rfl) ?_
  refine lv_i2l hx hb dX7_aCase_14 rfl ?_
  refine lv_lconst (v := 0) hx hb dX7_aCase_15 (by decide) ?_
  refine lv_aload_n hx hb dX7_aCase_16 rfl (lv_at hl 0 rfl) ?_
  refine va_get (D := D) (ci := 6) (v := .int v_t_cases_u1) (C := RX7) (T := TX7) (N := 28) hx hb hts hinX7 hown hK.1 hP 0 rfl rfl 21 (by decide) fl_152 (fun _ h9 => h9) rfl dX7_aCase_17 ?_
  refine lv_iconst (v := (1)) hx hb dX7_aCase_20 (by decide) ?_
  refine lv_isub hx hb dX7_aCase_21 ?_
  refine lv_i2l hx hb dX7_aCase_22 rfl ?_
  obtain ⟨ru2, hu2, hf⟩ := pn_bd1_at hf
  refine pn_calli [] (va_runS (As := [.long p1.toInt64, .long (0 : Int64), .long ((v_t_cases_u1 - (1 : Int32)).toInt64)]) (rest := []) ⟨hx, hb, hml, hown, hts⟩ (c_X7_in l D cI cJ cZ H.size p1.toInt64 (0 : Int64) ((v_t_cases_u1 - (1 : Int32)).toInt64) ru2 hu2) (va_cwS 3 hts gX7_aCase_X7_in rfl rfl rfl hdX7_in ⟨Nat.le_of_ble_eq_true rfl, Nat.le_of_ble_eq_true rfl⟩) (pn_preS [] hP (hD.addr rfl) hK rfl rfl) rfl rfl hl.1 rfl (lv_room (Nat.le_of_ble_eq_true rfl)) dX7_aCase_23 ⟨Nat.zero_le _, Nat.zero_le _⟩) hP (hD.addr rfl) hS hA rfl rfl rfl (fun H locs (hP : va_P D vwCl [(a_t, .inr (6, [.int ((0 : Int32)), .ref a_t_text, .int v_t_textSize, .int v_t_place, .ref a_t_readPage, .ref a_t_page, .ref a_t_trial, .ref a_t_work, .ref a_t_book, .int v_t_doings, .ref a_t_kept, .ref a_t_isKept, .int v_t_seen, .ref a_t_seenWhat, .ref a_t_seenV, .ref a_t_seenIs, .long v_t_seed, .ref a_t_label, .ref a_t_finds, .ref a_t_reason, .ref a_t_caseFirst, .int v_t_cases_u1, .ref a_t_brief, .ref a_t_printed, .int v_t_printedSize, .ref a_t_renamed, .ref a_t_worth, .int v_t_lastReason_u1])), (a_t_caseFirst, .inl (cI, 32, .inl r_t_caseFirst_u1)), (a_t_finds, .inl (cI, 32, .inl r_t_finds_u1)), (a_t_label, .inl (cI, 32, .inl r_t_label_u1)), (a_t_page, .inl (cI, 265, .inl r_t_page)), (a_t_reason, .inl (cI, 32, .inl r_t_reason_u1))] H) _ hS => ?_)
  refine lv_if_ne (tgt := 31) hx hb dX7_aCase_26 (by decide) (fun c3 => ?_) (fun c3 => ?_)
  · have hf := pn_ifp c3 hf
    refine lv_iload_n hx hb dX7_aCase_31 rfl (lv_at hl 2 rfl) ?_
    by_cases c4 : p2 = 0
    · have hf := pn_ifp c4 hf
      refine lv_tableIn (tgt := 76) hx hb dX7_aCase_32 (by rw [c4]; decide) (by rw [c4]; decide) (by rw [c4]; rfl) (by decide) ?_
      refine lv_aload_n hx hb dX7_aCase_76 rfl (lv_at hl 0 rfl) ?_
      refine lv_aload_n hx hb dX7_aCase_77 rfl (lv_at hl 0 rfl) ?_
      refine va_get (D := D) (ci := 6) (v := .ref a_t_page) (C := RX7) (T := TX7) (N := 28) hx hb hts hinX7 hown hK.1 hP 0 rfl rfl 5 (by decide) fl_16 (fun _ h9 => h9) rfl dX7_aCase_78 ?_
      refine lv_iload_n hx hb dX7_aCase_81 rfl (lv_at hl 1 rfl) ?_
      obtain ⟨ru5, hu5, hf⟩ := pn_bd1_at hf
      refine pn_calli [0, 1, 4] (va_runV (As := [.ref a_t_page, .int p1]) (rest := []) ⟨hx, hb, hml, hown, hts⟩ (c_X7_initial l D cI cJ cZ a_t a_t_text a_t_readPage a_t_page a_t_trial a_t_work a_t_book a_t_kept a_t_isKept a_t_seenWhat a_t_seenV a_t_seenIs a_t_label a_t_finds a_t_reason a_t_caseFirst a_t_brief a_t_printed a_t_renamed a_t_worth a_t_page H.size (0 : Int32) v_t_textSize v_t_place v_t_doings v_t_seen v_t_seed v_t_cases_u1 v_t_printedSize v_t_lastReason_u1 r_t_caseFirst_u1 r_t_page p1 ru5 hu5) (cwV 2 hts gX7_aCase_X7_initial rfl rfl rfl hdX7_initial ⟨Nat.le_of_ble_eq_true rfl, Nat.le_of_ble_eq_true rfl⟩) (pn_preV [0, 1, 4] hP (hD.addr rfl) hK rfl rfl (q0 := 0) (ci := 6) rfl rfl) rfl rfl hl.1 rfl (lv_room (Nat.le_of_ble_eq_true rfl)) dX7_aCase_82 ⟨Nat.zero_le _, Nat.zero_le _⟩) hP (hD.addr rfl) hS hA rfl rfl rfl (fun H locs (hP : va_P D vwCl [(a_t, .inr (6, [.int ((0 : Int32)), .ref a_t_text, .int v_t_textSize, .int v_t_place, .ref a_t_readPage, .ref a_t_page, .ref a_t_trial, .ref a_t_work, .ref a_t_book, .int v_t_doings, .ref a_t_kept, .ref a_t_isKept, .int v_t_seen, .ref a_t_seenWhat, .ref a_t_seenV, .ref a_t_seenIs, .long v_t_seed, .ref a_t_label, .ref a_t_finds, .ref a_t_reason, .ref a_t_caseFirst, .int v_t_cases_u1, .ref a_t_brief, .ref a_t_printed, .int v_t_printedSize, .ref a_t_renamed, .ref a_t_worth, .int v_t_lastReason_u1])), (a_t_caseFirst, .inl (cI, 32, .inl r_t_caseFirst_u1)), (a_t_finds, .inl (cI, 32, .inl r_t_finds_u1)), (a_t_label, .inl (cI, 32, .inl r_t_label_u1)), (a_t_page, .inl (cI, 265, .inl r_t_page)), (a_t_reason, .inl (cI, 32, .inl r_t_reason_u1))] H) _ hS => ?_)
      cases hf
      rw [hQ]
      exact pn_reti hx hb hr hlocks hP hS rfl dX7_aCase_85
    · have hf := pn_ifn c4 hf
      by_cases c6 : p2 = 1
      · have hf := pn_ifp c6 hf
        refine lv_tableIn (tgt := 86) hx hb dX7_aCase_32 (by rw [c6]; decide) (by rw [c6]; decide) (by rw [c6]; rfl) (by decide) ?_
        refine lv_aload_n hx hb dX7_aCase_86 rfl (lv_at hl 0 rfl) ?_
        refine va_get (D := D) (ci := 6) (v := .ref a_t_page) (C := RX7) (T := TX7) (N := 28) hx hb hts hinX7 hown hK.1 hP 0 rfl rfl 5 (by decide) fl_16 (fun _ h9 => h9) rfl dX7_aCase_87 ?_
        refine lv_aload_n hx hb dX7_aCase_90 rfl (lv_at hl 0 rfl) ?_
        refine va_get (D := D) (ci := 6) (v := .ref a_t_caseFirst) (C := RX7) (T := TX7) (N := 28) hx hb hts hinX7 hown hK.1 hP 0 rfl rfl 20 (by decide) fl_53 (fun _ h9 => h9) rfl dX7_aCase_91 ?_
        refine lv_iload_n hx hb dX7_aCase_94 rfl (lv_at hl 1 rfl) ?_
        obtain ⟨hi8, w7, ew7, hf⟩ := pn_rd_at hf
        refine pn_ldI hx hb hK.1 hP 1 0 rfl rfl hi8 ew7 dX7_aCase_95 ?_
        refine lv_iconst (v := (2)) hx hb dX7_aCase_96 (by decide) ?_
        obtain ⟨ru9, hu9, hf⟩ := pn_bd1_at hf
        refine pn_calli [4] (va_runS (As := [.ref a_t_page, .int w7, .int (2 : Int32)]) (rest := []) ⟨hx, hb, hml, hown, hts⟩ (c_X7_ref l D cI cJ cZ a_t_page H.size r_t_page w7 (2 : Int32) ru9 hu9) (va_cwS 3 hts gX7_aCase_X7_ref rfl rfl rfl hdX7_ref ⟨Nat.le_of_ble_eq_true rfl, Nat.le_of_ble_eq_true rfl⟩) (pn_preS [4] hP (hD.addr rfl) hK rfl rfl) rfl rfl hl.1 rfl (lv_room (Nat.le_of_ble_eq_true rfl)) dX7_aCase_97 ⟨Nat.zero_le _, Nat.zero_le _⟩) hP (hD.addr rfl) hS hA rfl rfl rfl (fun H locs (hP : va_P D vwCl [(a_t, .inr (6, [.int ((0 : Int32)), .ref a_t_text, .int v_t_textSize, .int v_t_place, .ref a_t_readPage, .ref a_t_page, .ref a_t_trial, .ref a_t_work, .ref a_t_book, .int v_t_doings, .ref a_t_kept, .ref a_t_isKept, .int v_t_seen, .ref a_t_seenWhat, .ref a_t_seenV, .ref a_t_seenIs, .long v_t_seed, .ref a_t_label, .ref a_t_finds, .ref a_t_reason, .ref a_t_caseFirst, .int v_t_cases_u1, .ref a_t_brief, .ref a_t_printed, .int v_t_printedSize, .ref a_t_renamed, .ref a_t_worth, .int v_t_lastReason_u1])), (a_t_caseFirst, .inl (cI, 32, .inl r_t_caseFirst_u1)), (a_t_finds, .inl (cI, 32, .inl r_t_finds_u1)), (a_t_label, .inl (cI, 32, .inl r_t_label_u1)), (a_t_page, .inl (cI, 265, .inl r_t_page)), (a_t_reason, .inl (cI, 32, .inl r_t_reason_u1))] H) _ hS => ?_)
        cases hf
        rw [hQ]
        exact pn_reti hx hb hr hlocks hP hS rfl dX7_aCase_100
      · have hf := pn_ifn c6 hf
        by_cases c10 : p2 = 2
        · have hf := pn_ifp c10 hf
          refine lv_tableIn (tgt := 101) hx hb dX7_aCase_32 (by rw [c10]; decide) (by rw [c10]; decide) (by rw [c10]; rfl) (by decide) ?_
          refine lv_aload_n hx hb dX7_aCase_101 rfl (lv_at hl 0 rfl) ?_
          refine va_get (D := D) (ci := 6) (v := .ref a_t_page) (C := RX7) (T := TX7) (N := 28) hx hb hts hinX7 hown hK.1 hP 0 rfl rfl 5 (by decide) fl_16 (fun _ h9 => h9) rfl dX7_aCase_102 ?_
          refine lv_aload_n hx hb dX7_aCase_105 rfl (lv_at hl 0 rfl) ?_
          refine va_get (D := D) (ci := 6) (v := .ref a_t_caseFirst) (C := RX7) (T := TX7) (N := 28) hx hb hts hinX7 hown hK.1 hP 0 rfl rfl 20 (by decide) fl_53 (fun _ h9 => h9) rfl dX7_aCase_106 ?_
          refine lv_iload_n hx hb dX7_aCase_109 rfl (lv_at hl 1 rfl) ?_
          obtain ⟨hi12, w11, ew11, hf⟩ := pn_rd_at hf
          refine pn_ldI hx hb hK.1 hP 1 0 rfl rfl hi12 ew11 dX7_aCase_110 ?_
          refine lv_iconst (v := (3)) hx hb dX7_aCase_111 (by decide) ?_
          obtain ⟨ru13, hu13, hf⟩ := pn_bd1_at hf
          refine pn_calli [4] (va_runS (As := [.ref a_t_page, .int w11, .int (3 : Int32)]) (rest := []) ⟨hx, hb, hml, hown, hts⟩ (c_X7_ref l D cI cJ cZ a_t_page H.size r_t_page w11 (3 : Int32) ru13 hu13) (va_cwS 3 hts gX7_aCase_X7_ref rfl rfl rfl hdX7_ref ⟨Nat.le_of_ble_eq_true rfl, Nat.le_of_ble_eq_true rfl⟩) (pn_preS [4] hP (hD.addr rfl) hK rfl rfl) rfl rfl hl.1 rfl (lv_room (Nat.le_of_ble_eq_true rfl)) dX7_aCase_112 ⟨Nat.zero_le _, Nat.zero_le _⟩) hP (hD.addr rfl) hS hA rfl rfl rfl (fun H locs (hP : va_P D vwCl [(a_t, .inr (6, [.int ((0 : Int32)), .ref a_t_text, .int v_t_textSize, .int v_t_place, .ref a_t_readPage, .ref a_t_page, .ref a_t_trial, .ref a_t_work, .ref a_t_book, .int v_t_doings, .ref a_t_kept, .ref a_t_isKept, .int v_t_seen, .ref a_t_seenWhat, .ref a_t_seenV, .ref a_t_seenIs, .long v_t_seed, .ref a_t_label, .ref a_t_finds, .ref a_t_reason, .ref a_t_caseFirst, .int v_t_cases_u1, .ref a_t_brief, .ref a_t_printed, .int v_t_printedSize, .ref a_t_renamed, .ref a_t_worth, .int v_t_lastReason_u1])), (a_t_caseFirst, .inl (cI, 32, .inl r_t_caseFirst_u1)), (a_t_finds, .inl (cI, 32, .inl r_t_finds_u1)), (a_t_label, .inl (cI, 32, .inl r_t_label_u1)), (a_t_page, .inl (cI, 265, .inl r_t_page)), (a_t_reason, .inl (cI, 32, .inl r_t_reason_u1))] H) _ hS => ?_)
          cases hf
          rw [hQ]
          exact pn_reti hx hb hr hlocks hP hS rfl dX7_aCase_115
        · have hf := pn_ifn c10 hf
          by_cases c14 : p2 = 3
          · have hf := pn_ifp c14 hf
            refine lv_tableIn (tgt := 116) hx hb dX7_aCase_32 (by rw [c14]; decide) (by rw [c14]; decide) (by rw [c14]; rfl) (by decide) ?_
            refine lv_aload_n hx hb dX7_aCase_116 rfl (lv_at hl 0 rfl) ?_
            refine lv_iload_n hx hb dX7_aCase_117 rfl (lv_at hl 1 rfl) ?_
            obtain ⟨ru15, hu15, hf⟩ := pn_bd1_at hf
            refine pn_calli [0, 2, 4] (va_runV (As := [.int p1]) (rest := []) ⟨hx, hb, hml, hown, hts⟩ (c_X7_reportsOf l D cI cJ cZ a_t a_t_text a_t_readPage a_t_page a_t_trial a_t_work a_t_book a_t_kept a_t_isKept a_t_seenWhat a_t_seenV a_t_seenIs a_t_label a_t_finds a_t_reason a_t_caseFirst a_t_brief a_t_printed a_t_renamed a_t_worth H.size (0 : Int32) v_t_textSize v_t_place v_t_doings v_t_seen v_t_seed v_t_cases_u1 v_t_printedSize v_t_lastReason_u1 N r_t_finds_u1 r_t_page p1 ru15 hu15) (cwV 1 hts gX7_aCase_X7_reportsOf rfl rfl rfl hdX7_reportsOf ⟨Nat.le_of_ble_eq_true rfl, Nat.le_of_ble_eq_true rfl⟩) (pn_preV [0, 2, 4] hP (hD.addr rfl) hK rfl rfl (q0 := 0) (ci := 6) rfl rfl) rfl rfl hl.1 rfl (lv_room (Nat.le_of_ble_eq_true rfl)) dX7_aCase_118 ⟨Nat.zero_le _, Nat.zero_le _⟩) hP (hD.addr rfl) hS hA rfl rfl rfl (fun H locs (hP : va_P D vwCl [(a_t, .inr (6, [.int ((0 : Int32)), .ref a_t_text, .int v_t_textSize, .int v_t_place, .ref a_t_readPage, .ref a_t_page, .ref a_t_trial, .ref a_t_work, .ref a_t_book, .int v_t_doings, .ref a_t_kept, .ref a_t_isKept, .int v_t_seen, .ref a_t_seenWhat, .ref a_t_seenV, .ref a_t_seenIs, .long v_t_seed, .ref a_t_label, .ref a_t_finds, .ref a_t_reason, .ref a_t_caseFirst, .int v_t_cases_u1, .ref a_t_brief, .ref a_t_printed, .int v_t_printedSize, .ref a_t_renamed, .ref a_t_worth, .int v_t_lastReason_u1])), (a_t_caseFirst, .inl (cI, 32, .inl r_t_caseFirst_u1)), (a_t_finds, .inl (cI, 32, .inl r_t_finds_u1)), (a_t_label, .inl (cI, 32, .inl r_t_label_u1)), (a_t_page, .inl (cI, 265, .inl r_t_page)), (a_t_reason, .inl (cI, 32, .inl r_t_reason_u1))] H) _ hS => ?_)
            cases hf
            rw [hQ]
            exact pn_reti hx hb hr hlocks hP hS rfl dX7_aCase_121
          · have hf := pn_ifn c14 hf
            by_cases c16 : p2 = 4
            · have hf := pn_ifp c16 hf
              refine lv_tableIn (tgt := 122) hx hb dX7_aCase_32 (by rw [c16]; decide) (by rw [c16]; decide) (by rw [c16]; rfl) (by decide) ?_
              refine lv_aload_n hx hb dX7_aCase_122 rfl (lv_at hl 0 rfl) ?_
              refine lv_iload_n hx hb dX7_aCase_123 rfl (lv_at hl 1 rfl) ?_
              obtain ⟨ru17, hu17, hf⟩ := pn_bd1_at hf
              refine pn_calli [0, 1, 2, 4] (va_runV (As := [.int p1]) (rest := []) ⟨hx, hb, hml, hown, hts⟩ (c_X7_clashes l D cI cJ cZ a_t a_t_text a_t_readPage a_t_page a_t_trial a_t_work a_t_book a_t_kept a_t_isKept a_t_seenWhat a_t_seenV a_t_seenIs a_t_label a_t_finds a_t_reason a_t_caseFirst a_t_brief a_t_printed a_t_renamed a_t_worth H.size (0 : Int32) v_t_textSize v_t_place v_t_doings v_t_seen v_t_seed v_t_cases_u1 v_t_printedSize v_t_lastReason_u1 N r_t_caseFirst_u1 r_t_finds_u1 r_t_page p1 ru17 hu17) (cwV 1 hts gX7_aCase_X7_clashes rfl rfl rfl hdX7_clashes ⟨Nat.le_of_ble_eq_true rfl, Nat.le_of_ble_eq_true rfl⟩) (pn_preV [0, 1, 2, 4] hP (hD.addr rfl) hK rfl rfl (q0 := 0) (ci := 6) rfl rfl) rfl rfl hl.1 rfl (lv_room (Nat.le_of_ble_eq_true rfl)) dX7_aCase_124 ⟨Nat.zero_le _, Nat.zero_le _⟩) hP (hD.addr rfl) hS hA rfl rfl rfl (fun H locs (hP : va_P D vwCl [(a_t, .inr (6, [.int ((0 : Int32)), .ref a_t_text, .int v_t_textSize, .int v_t_place, .ref a_t_readPage, .ref a_t_page, .ref a_t_trial, .ref a_t_work, .ref a_t_book, .int v_t_doings, .ref a_t_kept, .ref a_t_isKept, .int v_t_seen, .ref a_t_seenWhat, .ref a_t_seenV, .ref a_t_seenIs, .long v_t_seed, .ref a_t_label, .ref a_t_finds, .ref a_t_reason, .ref a_t_caseFirst, .int v_t_cases_u1, .ref a_t_brief, .ref a_t_printed, .int v_t_printedSize, .ref a_t_renamed, .ref a_t_worth, .int v_t_lastReason_u1])), (a_t_caseFirst, .inl (cI, 32, .inl r_t_caseFirst_u1)), (a_t_finds, .inl (cI, 32, .inl r_t_finds_u1)), (a_t_label, .inl (cI, 32, .inl r_t_label_u1)), (a_t_page, .inl (cI, 265, .inl r_t_page)), (a_t_reason, .inl (cI, 32, .inl r_t_reason_u1))] H) _ hS => ?_)
              refine lv_if_eq (tgt := 134) hx hb dX7_aCase_127 (by decide) (fun c18 => ?_) (fun c18 => ?_)
              · have hf := pn_ifp c18 hf
                refine lv_iconst (v := (0)) hx hb dX7_aCase_134 (by decide) ?_
                cases hf
                rw [hQ]
                exact pn_reti hx hb hr hlocks hP hS rfl dX7_aCase_135
              · have hf := pn_ifn c18 hf
                refine lv_iconst (v := (1)) hx hb dX7_aCase_130 (by decide) ?_
                refine lv_goto (tgt := 135) hx hb dX7_aCase_131 (by decide) ?_
                cases hf
                rw [hQ]
                exact pn_reti hx hb hr hlocks hP hS rfl dX7_aCase_135
            · have hf := pn_ifn c16 hf
              by_cases c19 : p2 = 5
              · have hf := pn_ifp c19 hf
                refine lv_tableIn (tgt := 136) hx hb dX7_aCase_32 (by rw [c19]; decide) (by rw [c19]; decide) (by rw [c19]; rfl) (by decide) ?_
                refine lv_aload_n hx hb dX7_aCase_136 rfl (lv_at hl 0 rfl) ?_
                refine lv_iload_n hx hb dX7_aCase_137 rfl (lv_at hl 1 rfl) ?_
                obtain ⟨ru20, hu20, hf⟩ := pn_bd1_at hf
                refine pn_calli [0, 2] (va_runV (As := [.int p1]) (rest := []) ⟨hx, hb, hml, hown, hts⟩ (c_X7_notesOf l D cI cJ cZ a_t a_t_text a_t_readPage a_t_page a_t_trial a_t_work a_t_book a_t_kept a_t_isKept a_t_seenWhat a_t_seenV a_t_seenIs a_t_label a_t_finds a_t_reason a_t_caseFirst a_t_brief a_t_printed a_t_renamed a_t_worth H.size (0 : Int32) v_t_textSize v_t_place v_t_doings v_t_seen v_t_seed v_t_cases_u1 v_t_printedSize v_t_lastReason_u1 N r_t_finds_u1 p1 ru20 hu20) (cwV 1 hts gX7_aCase_X7_notesOf rfl rfl rfl hdX7_notesOf ⟨Nat.le_of_ble_eq_true rfl, Nat.le_of_ble_eq_true rfl⟩) (pn_preV [0, 2] hP (hD.addr rfl) hK rfl rfl (q0 := 0) (ci := 6) rfl rfl) rfl rfl hl.1 rfl (lv_room (Nat.le_of_ble_eq_true rfl)) dX7_aCase_138 ⟨Nat.zero_le _, Nat.zero_le _⟩) hP (hD.addr rfl) hS hA rfl rfl rfl (fun H locs (hP : va_P D vwCl [(a_t, .inr (6, [.int ((0 : Int32)), .ref a_t_text, .int v_t_textSize, .int v_t_place, .ref a_t_readPage, .ref a_t_page, .ref a_t_trial, .ref a_t_work, .ref a_t_book, .int v_t_doings, .ref a_t_kept, .ref a_t_isKept, .int v_t_seen, .ref a_t_seenWhat, .ref a_t_seenV, .ref a_t_seenIs, .long v_t_seed, .ref a_t_label, .ref a_t_finds, .ref a_t_reason, .ref a_t_caseFirst, .int v_t_cases_u1, .ref a_t_brief, .ref a_t_printed, .int v_t_printedSize, .ref a_t_renamed, .ref a_t_worth, .int v_t_lastReason_u1])), (a_t_caseFirst, .inl (cI, 32, .inl r_t_caseFirst_u1)), (a_t_finds, .inl (cI, 32, .inl r_t_finds_u1)), (a_t_label, .inl (cI, 32, .inl r_t_label_u1)), (a_t_page, .inl (cI, 265, .inl r_t_page)), (a_t_reason, .inl (cI, 32, .inl r_t_reason_u1))] H) _ hS => ?_)
                cases hf
                rw [hQ]
                exact pn_reti hx hb hr hlocks hP hS rfl dX7_aCase_141
              · have hf := pn_ifn c19 hf
                by_cases c21 : p2 = 6
                · have hf := pn_ifp c21 hf
                  refine lv_tableIn (tgt := 142) hx hb dX7_aCase_32 (by rw [c21]; decide) (by rw [c21]; decide) (by rw [c21]; rfl) (by decide) ?_
                  refine lv_aload_n hx hb dX7_aCase_142 rfl (lv_at hl 0 rfl) ?_
                  refine lv_iload_n hx hb dX7_aCase_143 rfl (lv_at hl 1 rfl) ?_
                  obtain ⟨ru22, hu22, hf⟩ := pn_bd1_at hf
                  refine pn_calli [0, 2] (va_runV (As := [.int p1]) (rest := []) ⟨hx, hb, hml, hown, hts⟩ (c_X7_refsOf l D cI cJ cZ a_t a_t_text a_t_readPage a_t_page a_t_trial a_t_work a_t_book a_t_kept a_t_isKept a_t_seenWhat a_t_seenV a_t_seenIs a_t_label a_t_finds a_t_reason a_t_caseFirst a_t_brief a_t_printed a_t_renamed a_t_worth H.size (0 : Int32) v_t_textSize v_t_place v_t_doings v_t_seen v_t_seed v_t_cases_u1 v_t_printedSize v_t_lastReason_u1 N r_t_finds_u1 p1 ru22 hu22) (cwV 1 hts gX7_aCase_X7_refsOf rfl rfl rfl hdX7_refsOf ⟨Nat.le_of_ble_eq_true rfl, Nat.le_of_ble_eq_true rfl⟩) (pn_preV [0, 2] hP (hD.addr rfl) hK rfl rfl (q0 := 0) (ci := 6) rfl rfl) rfl rfl hl.1 rfl (lv_room (Nat.le_of_ble_eq_true rfl)) dX7_aCase_144 ⟨Nat.zero_le _, Nat.zero_le _⟩) hP (hD.addr rfl) hS hA rfl rfl rfl (fun H locs (hP : va_P D vwCl [(a_t, .inr (6, [.int ((0 : Int32)), .ref a_t_text, .int v_t_textSize, .int v_t_place, .ref a_t_readPage, .ref a_t_page, .ref a_t_trial, .ref a_t_work, .ref a_t_book, .int v_t_doings, .ref a_t_kept, .ref a_t_isKept, .int v_t_seen, .ref a_t_seenWhat, .ref a_t_seenV, .ref a_t_seenIs, .long v_t_seed, .ref a_t_label, .ref a_t_finds, .ref a_t_reason, .ref a_t_caseFirst, .int v_t_cases_u1, .ref a_t_brief, .ref a_t_printed, .int v_t_printedSize, .ref a_t_renamed, .ref a_t_worth, .int v_t_lastReason_u1])), (a_t_caseFirst, .inl (cI, 32, .inl r_t_caseFirst_u1)), (a_t_finds, .inl (cI, 32, .inl r_t_finds_u1)), (a_t_label, .inl (cI, 32, .inl r_t_label_u1)), (a_t_page, .inl (cI, 265, .inl r_t_page)), (a_t_reason, .inl (cI, 32, .inl r_t_reason_u1))] H) _ hS => ?_)
                  cases hf
                  rw [hQ]
                  exact pn_reti hx hb hr hlocks hP hS rfl dX7_aCase_147
                · have hf := pn_ifn c21 hf
                  refine lv_tableOut (tgt := 148) hx hb dX7_aCase_32 (by have := lv_neT (a := 0) c4 (by decide); have := lv_neT (a := 1) c6 (by decide); have := lv_neT (a := 2) c10 (by decide); have := lv_neT (a := 3) c14 (by decide); have := lv_neT (a := 4) c16 (by decide); have := lv_neT (a := 5) c19 (by decide); have := lv_neT (a := 6) c21 (by decide); omega) (by decide) ?_
                  refine lv_bipush (v := (-2)) hx hb dX7_aCase_148 (by decide) ?_
                  cases hf
                  rw [hQ]
                  exact pn_reti hx hb hr hlocks hP hS rfl dX7_aCase_150
  · have hf := pn_ifq c3 hf
    refine lv_iconst (v := (-1)) hx hb dX7_aCase_29 (by decide) ?_
    cases hf
    rw [hQ]
    exact pn_reti hx hb hr hlocks hP hS rfl dX7_aCase_30
def f_X7_rankOf (r_t_caseFirst : Nat → Int32) (r_t_page : Nat → Int32) (p1 : Int32) : Option (Int32) :=
  pn_rd 32 r_t_caseFirst p1 fun w1 =>
  pn_bd1 (f_X7_ref r_t_page w1 (3 : Int32)) fun ru3 =>
  pn_bd1 (f_X7_ref r_t_page w1 (1 : Int32)) fun ru4 =>
  pn_bd1 (f_X7_ref r_t_page w1 (2 : Int32)) fun ru5 =>
  some (((((10000 : Int32) * (((6 : Int32) * ru4) + ru5)) + ((1000 : Int32) * ((ru3 / (100 : Int32)) - (ru3 / (100 : Int32)) / (10 : Int32) * (10 : Int32)))) + ((ru3 / (1000 : Int32)) * (100 : Int32))) + (ru3 - ru3 / (100 : Int32) * (100 : Int32)))
set_option maxHeartbeats 4000000 in
set_option maxRecDepth 100000 in
theorem c_X7_rankOf (l : Launch) (D : va_G) (cI cJ cZ : ClassId) (a_t a_t_text a_t_readPage a_t_page a_t_trial a_t_work a_t_book a_t_kept a_t_isKept a_t_seenWhat a_t_seenV a_t_seenIs a_t_label a_t_finds a_t_reason a_t_caseFirst a_t_brief a_t_printed a_t_renamed a_t_worth : Nat) (sz : Nat) (v_t_thrown : Int32) (v_t_textSize : Int32) (v_t_place : Int32) (v_t_doings : Int32) (v_t_seen : Int32) (v_t_seed : Int64) (v_t_cases : Int32) (v_t_printedSize : Int32) (v_t_lastReason : Int32) (r_t_caseFirst : Nat → Int32) (r_t_page : Nat → Int32) (p1 : Int32) (rR : Int32) (hf : f_X7_rankOf r_t_caseFirst r_t_page p1 = some rR) : Met l yX7_rankOf wsX7_rankOf { frames := 1, cells := 0, slots := 0, locals := 22 } (pn_Pc D cI cJ cZ [.ref a_t, .int p1] [(a_t, .inr (6, [.int v_t_thrown, .ref a_t_text, .int v_t_textSize, .int v_t_place, .ref a_t_readPage, .ref a_t_page, .ref a_t_trial, .ref a_t_work, .ref a_t_book, .int v_t_doings, .ref a_t_kept, .ref a_t_isKept, .int v_t_seen, .ref a_t_seenWhat, .ref a_t_seenV, .ref a_t_seenIs, .long v_t_seed, .ref a_t_label, .ref a_t_finds, .ref a_t_reason, .ref a_t_caseFirst, .int v_t_cases, .ref a_t_brief, .ref a_t_printed, .int v_t_printedSize, .ref a_t_renamed, .ref a_t_worth, .int v_t_lastReason])), (a_t_caseFirst, .inl (cI, 32, .inl r_t_caseFirst)), (a_t_page, .inl (cI, 265, .inl r_t_page))] sz) (pn_Qi D rR [(a_t, .inr (6, [.int v_t_thrown, .ref a_t_text, .int v_t_textSize, .int v_t_place, .ref a_t_readPage, .ref a_t_page, .ref a_t_trial, .ref a_t_work, .ref a_t_book, .int v_t_doings, .ref a_t_kept, .ref a_t_isKept, .int v_t_seen, .ref a_t_seenWhat, .ref a_t_seenV, .ref a_t_seenIs, .long v_t_seed, .ref a_t_label, .ref a_t_finds, .ref a_t_reason, .ref a_t_caseFirst, .int v_t_cases, .ref a_t_brief, .ref a_t_printed, .int v_t_printedSize, .ref a_t_renamed, .ref a_t_worth, .int v_t_lastReason])), (a_t_caseFirst, .inl (cI, 32, .inl r_t_caseFirst)), (a_t_page, .inl (cI, 265, .inl r_t_page))] (va_A [(a_t, .inr (6, [.int v_t_thrown, .ref a_t_text, .int v_t_textSize, .int v_t_place, .ref a_t_readPage, .ref a_t_page, .ref a_t_trial, .ref a_t_work, .ref a_t_book, .int v_t_doings, .ref a_t_kept, .ref a_t_isKept, .int v_t_seen, .ref a_t_seenWhat, .ref a_t_seenV, .ref a_t_seenIs, .long v_t_seed, .ref a_t_label, .ref a_t_finds, .ref a_t_reason, .ref a_t_caseFirst, .int v_t_cases, .ref a_t_brief, .ref a_t_printed, .int v_t_printedSize, .ref a_t_renamed, .ref a_t_worth, .int v_t_lastReason])), (a_t_caseFirst, .inl (cI, 32, .inl r_t_caseFirst)), (a_t_page, .inl (cI, 265, .inl r_t_page))] sz)) 0 0 (va_A [(a_t, .inr (6, [.int v_t_thrown, .ref a_t_text, .int v_t_textSize, .int v_t_place, .ref a_t_readPage, .ref a_t_page, .ref a_t_trial, .ref a_t_work, .ref a_t_book, .int v_t_doings, .ref a_t_kept, .ref a_t_isKept, .int v_t_seen, .ref a_t_seenWhat, .ref a_t_seenV, .ref a_t_seenIs, .long v_t_seed, .ref a_t_label, .ref a_t_finds, .ref a_t_reason, .ref a_t_caseFirst, .int v_t_cases, .ref a_t_brief, .ref a_t_printed, .int v_t_printedSize, .ref a_t_renamed, .ref a_t_worth, .int v_t_lastReason])), (a_t_caseFirst, .inl (cI, 32, .inl r_t_caseFirst)), (a_t_page, .inl (cI, 265, .inl r_t_page))] sz) := by
  refine pn_entry (cc := cX7_rankOf) (maxL := 4) (ret := (some .int)) (Qf := pn_Qi D rR [(a_t, .inr (6, [.int v_t_thrown, .ref a_t_text, .int v_t_textSize, .int v_t_place, .ref a_t_readPage, .ref a_t_page, .ref a_t_trial, .ref a_t_work, .ref a_t_book, .int v_t_doings, .ref a_t_kept, .ref a_t_isKept, .int v_t_seen, .ref a_t_seenWhat, .ref a_t_seenV, .ref a_t_seenIs, .long v_t_seed, .ref a_t_label, .ref a_t_finds, .ref a_t_reason, .ref a_t_caseFirst, .int v_t_cases, .ref a_t_brief, .ref a_t_printed, .int v_t_printedSize, .ref a_t_renamed, .ref a_t_worth, .int v_t_lastReason])), (a_t_caseFirst, .inl (cI, 32, .inl r_t_caseFirst)), (a_t_page, .inl (cI, 265, .inl r_t_page))]) (by decide) rfl (Nat.le_of_ble_eq_true rfl) ?_
  intro p e s m args below meth c A ls H locs Qm hQ hx hb hr hlocks hml hown hts hK hP hD hA hS hl
  have hl : lv_has ls 4 [(0, .ref a_t), (1, .int p1)] := hl
  have hinX7 : ∀ w ∈ wsX70, w ∈ wsX7_rankOf := by decide +kernel
  have fl_16 := hts (.fieldLink RX7 16 "PointingNotesModel" "page" "[I") (by decide +kernel)
  have fl_53 := hts (.fieldLink RX7 53 "PointingNotesModel" "caseFirst" "[I") (by decide +kernel)
  rw [f_X7_rankOf] at hf
  refine lv_aload_n hx hb dX7_rankOf_0 rfl (lv_at hl 0 rfl) ?_
  refine va_get (D := D) (ci := 6) (v := .ref a_t_caseFirst) (C := RX7) (T := TX7) (N := 28) hx hb hts hinX7 hown hK.1 hP 0 rfl rfl 20 (by decide) fl_53 (fun _ h9 => h9) rfl dX7_rankOf_1 ?_
  refine lv_iload_n hx hb dX7_rankOf_4 rfl (lv_at hl 1 rfl) ?_
  obtain ⟨hi2, w1, ew1, hf⟩ := pn_rd_at hf
  refine pn_ldI hx hb hK.1 hP 1 0 rfl rfl hi2 ew1 dX7_rankOf_5 ?_
  refine lv_istore_n (lv' := [(2, .int w1), (0, .ref a_t), (1, .int p1)]) hx hb dX7_rankOf_6 rfl hl (by decide) rfl (fun ls hl => ?_)
  refine lv_aload_n hx hb dX7_rankOf_7 rfl (lv_at hl 1 rfl) ?_
  refine va_get (D := D) (ci := 6) (v := .ref a_t_page) (C := RX7) (T := TX7) (N := 28) hx hb hts hinX7 hown hK.1 hP 0 rfl rfl 5 (by decide) fl_16 (fun _ h9 => h9) rfl dX7_rankOf_8 ?_
  refine lv_iload_n hx hb dX7_rankOf_11 rfl (lv_at hl 0 rfl) ?_
  refine lv_iconst (v := (3)) hx hb dX7_rankOf_12 (by decide) ?_
  obtain ⟨ru3, hu3, hf⟩ := pn_bd1_at hf
  refine pn_calli [2] (va_runS (As := [.ref a_t_page, .int w1, .int (3 : Int32)]) (rest := []) ⟨hx, hb, hml, hown, hts⟩ (c_X7_ref l D cI cJ cZ a_t_page H.size r_t_page w1 (3 : Int32) ru3 hu3) (va_cwS 3 hts gX7_rankOf_X7_ref rfl rfl rfl hdX7_ref ⟨Nat.le_of_ble_eq_true rfl, Nat.le_of_ble_eq_true rfl⟩) (pn_preS [2] hP (hD.addr rfl) hK rfl rfl) rfl rfl hl.1 rfl (lv_room (Nat.le_of_ble_eq_true rfl)) dX7_rankOf_13 ⟨Nat.zero_le _, Nat.zero_le _⟩) hP (hD.addr rfl) hS hA rfl rfl rfl (fun H locs (hP : va_P D vwCl [(a_t, .inr (6, [.int v_t_thrown, .ref a_t_text, .int v_t_textSize, .int v_t_place, .ref a_t_readPage, .ref a_t_page, .ref a_t_trial, .ref a_t_work, .ref a_t_book, .int v_t_doings, .ref a_t_kept, .ref a_t_isKept, .int v_t_seen, .ref a_t_seenWhat, .ref a_t_seenV, .ref a_t_seenIs, .long v_t_seed, .ref a_t_label, .ref a_t_finds, .ref a_t_reason, .ref a_t_caseFirst, .int v_t_cases, .ref a_t_brief, .ref a_t_printed, .int v_t_printedSize, .ref a_t_renamed, .ref a_t_worth, .int v_t_lastReason])), (a_t_caseFirst, .inl (cI, 32, .inl r_t_caseFirst)), (a_t_page, .inl (cI, 265, .inl r_t_page))] H) _ hS => ?_)
  refine lv_istore_n (lv' := [(3, .int ru3), (2, .int w1), (0, .ref a_t), (1, .int p1)]) hx hb dX7_rankOf_16 rfl hl (by decide) rfl (fun ls hl => ?_)
  refine lv_sipush (v := (10000)) hx hb dX7_rankOf_17 (by decide) ?_
  refine lv_bipush (v := (6)) hx hb dX7_rankOf_20 (by decide) ?_
  refine lv_aload_n hx hb dX7_rankOf_22 rfl (lv_at hl 2 rfl) ?_
  refine va_get (D := D) (ci := 6) (v := .ref a_t_page) (C := RX7) (T := TX7) (N := 28) hx hb hts hinX7 hown hK.1 hP 0 rfl rfl 5 (by decide) fl_16 (fun _ h9 => h9) rfl dX7_rankOf_23 ?_
  refine lv_iload_n hx hb dX7_rankOf_26 rfl (lv_at hl 1 rfl) ?_
  refine lv_iconst (v := (1)) hx hb dX7_rankOf_27 (by decide) ?_
  obtain ⟨ru4, hu4, hf⟩ := pn_bd1_at hf
  refine pn_calli [2] (va_runS (As := [.ref a_t_page, .int w1, .int (1 : Int32)]) (rest := [.int (6 : Int32), .int (10000 : Int32)]) ⟨hx, hb, hml, hown, hts⟩ (c_X7_ref l D cI cJ cZ a_t_page H.size r_t_page w1 (1 : Int32) ru4 hu4) (va_cwS 3 hts gX7_rankOf_X7_ref rfl rfl rfl hdX7_ref ⟨Nat.le_of_ble_eq_true rfl, Nat.le_of_ble_eq_true rfl⟩) (pn_preS [2] hP (hD.addr rfl) hK rfl rfl) rfl rfl hl.1 rfl (lv_room (Nat.le_of_ble_eq_true rfl)) dX7_rankOf_28 ⟨Nat.zero_le _, Nat.zero_le _⟩) hP (hD.addr rfl) hS hA rfl rfl rfl (fun H locs (hP : va_P D vwCl [(a_t, .inr (6, [.int v_t_thrown, .ref a_t_text, .int v_t_textSize, .int v_t_place, .ref a_t_readPage, .ref a_t_page, .ref a_t_trial, .ref a_t_work, .ref a_t_book, .int v_t_doings, .ref a_t_kept, .ref a_t_isKept, .int v_t_seen, .ref a_t_seenWhat, .ref a_t_seenV, .ref a_t_seenIs, .long v_t_seed, .ref a_t_label, .ref a_t_finds, .ref a_t_reason, .ref a_t_caseFirst, .int v_t_cases, .ref a_t_brief, .ref a_t_printed, .int v_t_printedSize, .ref a_t_renamed, .ref a_t_worth, .int v_t_lastReason])), (a_t_caseFirst, .inl (cI, 32, .inl r_t_caseFirst)), (a_t_page, .inl (cI, 265, .inl r_t_page))] H) _ hS => ?_)
  refine lv_imul hx hb dX7_rankOf_31 ?_
  refine lv_aload_n hx hb dX7_rankOf_32 rfl (lv_at hl 2 rfl) ?_
  refine va_get (D := D) (ci := 6) (v := .ref a_t_page) (C := RX7) (T := TX7) (N := 28) hx hb hts hinX7 hown hK.1 hP 0 rfl rfl 5 (by decide) fl_16 (fun _ h9 => h9) rfl dX7_rankOf_33 ?_
  refine lv_iload_n hx hb dX7_rankOf_36 rfl (lv_at hl 1 rfl) ?_
  refine lv_iconst (v := (2)) hx hb dX7_rankOf_37 (by decide) ?_
  obtain ⟨ru5, hu5, hf⟩ := pn_bd1_at hf
  refine pn_calli [2] (va_runS (As := [.ref a_t_page, .int w1, .int (2 : Int32)]) (rest := [.int ((6 : Int32) * ru4), .int (10000 : Int32)]) ⟨hx, hb, hml, hown, hts⟩ (c_X7_ref l D cI cJ cZ a_t_page H.size r_t_page w1 (2 : Int32) ru5 hu5) (va_cwS 3 hts gX7_rankOf_X7_ref rfl rfl rfl hdX7_ref ⟨Nat.le_of_ble_eq_true rfl, Nat.le_of_ble_eq_true rfl⟩) (pn_preS [2] hP (hD.addr rfl) hK rfl rfl) rfl rfl hl.1 rfl (lv_room (Nat.le_of_ble_eq_true rfl)) dX7_rankOf_38 ⟨Nat.zero_le _, Nat.zero_le _⟩) hP (hD.addr rfl) hS hA rfl rfl rfl (fun H locs (hP : va_P D vwCl [(a_t, .inr (6, [.int v_t_thrown, .ref a_t_text, .int v_t_textSize, .int v_t_place, .ref a_t_readPage, .ref a_t_page, .ref a_t_trial, .ref a_t_work, .ref a_t_book, .int v_t_doings, .ref a_t_kept, .ref a_t_isKept, .int v_t_seen, .ref a_t_seenWhat, .ref a_t_seenV, .ref a_t_seenIs, .long v_t_seed, .ref a_t_label, .ref a_t_finds, .ref a_t_reason, .ref a_t_caseFirst, .int v_t_cases, .ref a_t_brief, .ref a_t_printed, .int v_t_printedSize, .ref a_t_renamed, .ref a_t_worth, .int v_t_lastReason])), (a_t_caseFirst, .inl (cI, 32, .inl r_t_caseFirst)), (a_t_page, .inl (cI, 265, .inl r_t_page))] H) _ hS => ?_)
  refine lv_iadd hx hb dX7_rankOf_41 ?_
  refine lv_imul hx hb dX7_rankOf_42 ?_
  refine lv_sipush (v := (1000)) hx hb dX7_rankOf_43 (by decide) ?_
  refine lv_iload_n hx hb dX7_rankOf_46 rfl (lv_at hl 0 rfl) ?_
  refine lv_bipush (v := (100)) hx hb dX7_rankOf_47 (by decide) ?_
  refine lv_idiv hx hb dX7_rankOf_49 (by decide) ?_
  refine lv_bipush (v := (10)) hx hb dX7_rankOf_50 (by decide) ?_
  refine lv_irem hx hb dX7_rankOf_52 (by decide) ?_
  refine lv_imul hx hb dX7_rankOf_53 ?_
  refine lv_iadd hx hb dX7_rankOf_54 ?_
  refine lv_iload_n hx hb dX7_rankOf_55 rfl (lv_at hl 0 rfl) ?_
  refine lv_sipush (v := (1000)) hx hb dX7_rankOf_56 (by decide) ?_
  refine lv_idiv hx hb dX7_rankOf_59 (by decide) ?_
  refine lv_bipush (v := (100)) hx hb dX7_rankOf_60 (by decide) ?_
  refine lv_imul hx hb dX7_rankOf_62 ?_
  refine lv_iadd hx hb dX7_rankOf_63 ?_
  refine lv_iload_n hx hb dX7_rankOf_64 rfl (lv_at hl 0 rfl) ?_
  refine lv_bipush (v := (100)) hx hb dX7_rankOf_65 (by decide) ?_
  refine lv_irem hx hb dX7_rankOf_67 (by decide) ?_
  refine lv_iadd hx hb dX7_rankOf_68 ?_
  cases hf
  rw [hQ]
  exact pn_reti hx hb hr hlocks hP hS rfl dX7_rankOf_69
def lp_X7_table_32 (r_t_page : Nat → Int32) (x3 : Int32) (v_t_cases : Int32) (r_t_caseFirst : Nat → Int32) : Nat → Int32 → Int32 → Option (Int32)
  | 0, _, _ => none
  | n + 1, x4, x5 =>
    if v_t_cases ≤ x5 then
  some x4
  else
  pn_bd1 (f_X7_rankOf r_t_caseFirst r_t_page x5) fun ru2 =>
  pn_bd1 (f_X7_rankOf r_t_caseFirst r_t_page x3) fun ru3 =>
  if ru3 ≤ ru2 then
  pn_nm (x4 + (0 : Int32)) fun z5 =>
  pn_nm (x5 + (1 : Int32)) fun z6 =>
  lp_X7_table_32 r_t_page x3 v_t_cases r_t_caseFirst n z5 z6
  else
  pn_nm (x4 + (1 : Int32)) fun z7 =>
  pn_nm (x5 + (1 : Int32)) fun z8 =>
  lp_X7_table_32 r_t_page x3 v_t_cases r_t_caseFirst n z7 z8
def lp_X7_table_18 (N : Nat) (r_t_page : Nat → Int32) (p1 : Int32) (v_t_cases : Int32) (r_t_caseFirst : Nat → Int32) : Nat → Int32 → Int32 → Option (Int32)
  | 0, _, _ => none
  | n + 1, x2, x3 =>
    if v_t_cases ≤ x3 then
  some x2
  else
  pn_bd1 (lp_X7_table_32 r_t_page x3 v_t_cases r_t_caseFirst N (0 : Int32) (0 : Int32)) (fun X32 => (pn_u1 fun x4_w10 => if ¬ x4_w10 = p1 then
  pn_nm (x3 + (1 : Int32)) fun z12 =>
  lp_X7_table_18 N r_t_page p1 v_t_cases r_t_caseFirst n x2 z12
  else
  pn_nm (x3 + (1 : Int32)) fun z13 =>
  lp_X7_table_18 N r_t_page p1 v_t_cases r_t_caseFirst n x3 z13) X32)
def f_X7_table (N : Nat) (v_t_thrown : Int32) (v_t_cases : Int32) (v_t_lastReason : Int32) (r_t_caseFirst : Nat → Int32) (r_t_finds : Nat → Int32) (r_t_label : Nat → Int32) (r_t_page : Nat → Int32) (r_t_reason : Nat → Int32) (p1 : Int32) : Option (Int32 × Int32 × Int32 × Int32 × (Nat → Int32) × (Nat → Int32) × (Nat → Int32) × (Nat → Int32)) :=
  pn_bd6 (f_X7_findAll N v_t_cases v_t_lastReason r_t_caseFirst r_t_finds r_t_label r_t_reason r_t_page) fun v_t_cases_u14 v_t_lastReason_u14 r_t_caseFirst_u14 r_t_finds_u14 r_t_label_u14 r_t_reason_u14 =>
  pn_bd1 (lp_X7_table_18 N r_t_page p1 v_t_cases_u14 r_t_caseFirst_u14 N (-9 : Int32) (0 : Int32)) (fun X18 => (pn_u1 fun x2_w15 => if ¬ x2_w15 = (-9 : Int32) then
  some (x2_w15, (0 : Int32), v_t_cases_u14, v_t_lastReason_u14, r_t_caseFirst_u14, r_t_finds_u14, r_t_label_u14, r_t_reason_u14)
  else
  some ((-1 : Int32), (0 : Int32), v_t_cases_u14, v_t_lastReason_u14, r_t_caseFirst_u14, r_t_finds_u14, r_t_label_u14, r_t_reason_u14)) X18)
set_option maxHeartbeats 4000000 in
set_option maxRecDepth 100000 in
theorem c_X7_table (l : Launch) (D : va_G) (cI cJ cZ : ClassId) (a_t a_t_text a_t_readPage a_t_page a_t_trial a_t_work a_t_book a_t_kept a_t_isKept a_t_seenWhat a_t_seenV a_t_seenIs a_t_label a_t_finds a_t_reason a_t_caseFirst a_t_brief a_t_printed a_t_renamed a_t_worth : Nat) (sz : Nat) (v_t_textSize : Int32) (v_t_place : Int32) (v_t_doings : Int32) (v_t_seen : Int32) (v_t_seed : Int64) (v_t_printedSize : Int32) (N : Nat) (v_t_thrown : Int32) (v_t_cases : Int32) (v_t_lastReason : Int32) (r_t_caseFirst : Nat → Int32) (r_t_finds : Nat → Int32) (r_t_label : Nat → Int32) (r_t_page : Nat → Int32) (r_t_reason : Nat → Int32) (p1 : Int32) (rR : Int32) (o_t_thrown : Int32) (o_t_cases : Int32) (o_t_lastReason : Int32) (o_t_caseFirst : Nat → Int32) (o_t_finds : Nat → Int32) (o_t_label : Nat → Int32) (o_t_reason : Nat → Int32) (hf : f_X7_table N v_t_thrown v_t_cases v_t_lastReason r_t_caseFirst r_t_finds r_t_label r_t_page r_t_reason p1 = some (rR, o_t_thrown, o_t_cases, o_t_lastReason, o_t_caseFirst, o_t_finds, o_t_label, o_t_reason)) : Met l yX7_table wsX7_table { frames := 7, cells := 0, slots := 0, locals := 168 } (pn_Pc D cI cJ cZ [.ref a_t, .int p1] [(a_t, .inr (6, [.int v_t_thrown, .ref a_t_text, .int v_t_textSize, .int v_t_place, .ref a_t_readPage, .ref a_t_page, .ref a_t_trial, .ref a_t_work, .ref a_t_book, .int v_t_doings, .ref a_t_kept, .ref a_t_isKept, .int v_t_seen, .ref a_t_seenWhat, .ref a_t_seenV, .ref a_t_seenIs, .long v_t_seed, .ref a_t_label, .ref a_t_finds, .ref a_t_reason, .ref a_t_caseFirst, .int v_t_cases, .ref a_t_brief, .ref a_t_printed, .int v_t_printedSize, .ref a_t_renamed, .ref a_t_worth, .int v_t_lastReason])), (a_t_caseFirst, .inl (cI, 32, .inl r_t_caseFirst)), (a_t_finds, .inl (cI, 32, .inl r_t_finds)), (a_t_label, .inl (cI, 32, .inl r_t_label)), (a_t_page, .inl (cI, 265, .inl r_t_page)), (a_t_reason, .inl (cI, 32, .inl r_t_reason))] sz) (pn_Qi D rR [(a_t, .inr (6, [.int o_t_thrown, .ref a_t_text, .int v_t_textSize, .int v_t_place, .ref a_t_readPage, .ref a_t_page, .ref a_t_trial, .ref a_t_work, .ref a_t_book, .int v_t_doings, .ref a_t_kept, .ref a_t_isKept, .int v_t_seen, .ref a_t_seenWhat, .ref a_t_seenV, .ref a_t_seenIs, .long v_t_seed, .ref a_t_label, .ref a_t_finds, .ref a_t_reason, .ref a_t_caseFirst, .int o_t_cases, .ref a_t_brief, .ref a_t_printed, .int v_t_printedSize, .ref a_t_renamed, .ref a_t_worth, .int o_t_lastReason])), (a_t_caseFirst, .inl (cI, 32, .inl o_t_caseFirst)), (a_t_finds, .inl (cI, 32, .inl o_t_finds)), (a_t_label, .inl (cI, 32, .inl o_t_label)), (a_t_page, .inl (cI, 265, .inl r_t_page)), (a_t_reason, .inl (cI, 32, .inl o_t_reason))] (va_A [(a_t, .inr (6, [.int v_t_thrown, .ref a_t_text, .int v_t_textSize, .int v_t_place, .ref a_t_readPage, .ref a_t_page, .ref a_t_trial, .ref a_t_work, .ref a_t_book, .int v_t_doings, .ref a_t_kept, .ref a_t_isKept, .int v_t_seen, .ref a_t_seenWhat, .ref a_t_seenV, .ref a_t_seenIs, .long v_t_seed, .ref a_t_label, .ref a_t_finds, .ref a_t_reason, .ref a_t_caseFirst, .int v_t_cases, .ref a_t_brief, .ref a_t_printed, .int v_t_printedSize, .ref a_t_renamed, .ref a_t_worth, .int v_t_lastReason])), (a_t_caseFirst, .inl (cI, 32, .inl r_t_caseFirst)), (a_t_finds, .inl (cI, 32, .inl r_t_finds)), (a_t_label, .inl (cI, 32, .inl r_t_label)), (a_t_page, .inl (cI, 265, .inl r_t_page)), (a_t_reason, .inl (cI, 32, .inl r_t_reason))] sz)) 0 0 (va_A [(a_t, .inr (6, [.int v_t_thrown, .ref a_t_text, .int v_t_textSize, .int v_t_place, .ref a_t_readPage, .ref a_t_page, .ref a_t_trial, .ref a_t_work, .ref a_t_book, .int v_t_doings, .ref a_t_kept, .ref a_t_isKept, .int v_t_seen, .ref a_t_seenWhat, .ref a_t_seenV, .ref a_t_seenIs, .long v_t_seed, .ref a_t_label, .ref a_t_finds, .ref a_t_reason, .ref a_t_caseFirst, .int v_t_cases, .ref a_t_brief, .ref a_t_printed, .int v_t_printedSize, .ref a_t_renamed, .ref a_t_worth, .int v_t_lastReason])), (a_t_caseFirst, .inl (cI, 32, .inl r_t_caseFirst)), (a_t_finds, .inl (cI, 32, .inl r_t_finds)), (a_t_label, .inl (cI, 32, .inl r_t_label)), (a_t_page, .inl (cI, 265, .inl r_t_page)), (a_t_reason, .inl (cI, 32, .inl r_t_reason))] sz) := by
  refine pn_entry (cc := cX7_table) (maxL := 6) (ret := (some .int)) (Qf := pn_Qi D rR [(a_t, .inr (6, [.int o_t_thrown, .ref a_t_text, .int v_t_textSize, .int v_t_place, .ref a_t_readPage, .ref a_t_page, .ref a_t_trial, .ref a_t_work, .ref a_t_book, .int v_t_doings, .ref a_t_kept, .ref a_t_isKept, .int v_t_seen, .ref a_t_seenWhat, .ref a_t_seenV, .ref a_t_seenIs, .long v_t_seed, .ref a_t_label, .ref a_t_finds, .ref a_t_reason, .ref a_t_caseFirst, .int o_t_cases, .ref a_t_brief, .ref a_t_printed, .int v_t_printedSize, .ref a_t_renamed, .ref a_t_worth, .int o_t_lastReason])), (a_t_caseFirst, .inl (cI, 32, .inl o_t_caseFirst)), (a_t_finds, .inl (cI, 32, .inl o_t_finds)), (a_t_label, .inl (cI, 32, .inl o_t_label)), (a_t_page, .inl (cI, 265, .inl r_t_page)), (a_t_reason, .inl (cI, 32, .inl o_t_reason))]) (by decide) rfl (Nat.le_of_ble_eq_true rfl) ?_
  intro p e s m args below meth c A ls H locs Qm hQ hx hb hr hlocks hml hown hts hK hP hD hA hS hl
  have hl : lv_has ls 6 [(0, .ref a_t), (1, .int p1)] := hl
  have hinX7 : ∀ w ∈ wsX70, w ∈ wsX7_table := by decide +kernel
  have fl_16 := hts (.fieldLink RX7 16 "PointingNotesModel" "page" "[I") (by decide +kernel)
  have fl_68 := hts (.fieldLink RX7 68 "PointingNotesModel" "thrown" "I") (by decide +kernel)
  have fl_152 := hts (.fieldLink RX7 152 "PointingNotesModel" "cases" "I") (by decide +kernel)
  rw [f_X7_table] at hf
  have lp32 : ∀ (n : Nat) (x2 : Int32) (x3 : Int32) (x4 : Int32) (x5 : Int32) (v_t_thrown : Int32) (v_t_cases : Int32) (v_t_lastReason : Int32) (r_t_caseFirst : Nat → Int32) (r_t_finds : Nat → Int32) (r_t_label : Nat → Int32) (r_t_reason : Nat → Int32) (X : Int32) (H : Heap) (locs : List Loc) (ls : Array Slot), lp_X7_table_32 r_t_page x3 v_t_cases r_t_caseFirst n x4 x5 = some X → va_P D vwCl [(a_t, .inr (6, [.int v_t_thrown, .ref a_t_text, .int v_t_textSize, .int v_t_place, .ref a_t_readPage, .ref a_t_page, .ref a_t_trial, .ref a_t_work, .ref a_t_book, .int v_t_doings, .ref a_t_kept, .ref a_t_isKept, .int v_t_seen, .ref a_t_seenWhat, .ref a_t_seenV, .ref a_t_seenIs, .long v_t_seed, .ref a_t_label, .ref a_t_finds, .ref a_t_reason, .ref a_t_caseFirst, .int v_t_cases, .ref a_t_brief, .ref a_t_printed, .int v_t_printedSize, .ref a_t_renamed, .ref a_t_worth, .int v_t_lastReason])), (a_t_caseFirst, .inl (cI, 32, .inl r_t_caseFirst)), (a_t_finds, .inl (cI, 32, .inl r_t_finds)), (a_t_label, .inl (cI, 32, .inl r_t_label)), (a_t_page, .inl (cI, 265, .inl r_t_page)), (a_t_reason, .inl (cI, 32, .inl r_t_reason))] H → va_S A s.heap H locs → lv_has ls 6 [(0, .ref a_t), (1, .int p1), (2, .int x2), (3, .int x3), (4, .int x4), (5, .int x5)] → (∀ (y4 : Int32)  (H : Heap) (locs : List Loc) (ls : Array Slot), X = y4 → va_P D vwCl [(a_t, .inr (6, [.int v_t_thrown, .ref a_t_text, .int v_t_textSize, .int v_t_place, .ref a_t_readPage, .ref a_t_page, .ref a_t_trial, .ref a_t_work, .ref a_t_book, .int v_t_doings, .ref a_t_kept, .ref a_t_isKept, .int v_t_seen, .ref a_t_seenWhat, .ref a_t_seenV, .ref a_t_seenIs, .long v_t_seed, .ref a_t_label, .ref a_t_finds, .ref a_t_reason, .ref a_t_caseFirst, .int v_t_cases, .ref a_t_brief, .ref a_t_printed, .int v_t_printedSize, .ref a_t_renamed, .ref a_t_worth, .int v_t_lastReason])), (a_t_caseFirst, .inl (cI, 32, .inl r_t_caseFirst)), (a_t_finds, .inl (cI, 32, .inl r_t_finds)), (a_t_label, .inl (cI, 32, .inl r_t_label)), (a_t_page, .inl (cI, 265, .inl r_t_page)), (a_t_reason, .inl (cI, 32, .inl r_t_reason))] H → va_S A s.heap H locs → lv_has ls 6 [(0, .ref a_t), (1, .int p1), (2, .int x2), (3, .int x3), (4, .int y4)] → W p l e { frames := 7, cells := 0, slots := 0, locals := 168 } s m args below meth c H locs 0 0 Qm (F0 m 71 ls [])) → W p l e { frames := 7, cells := 0, slots := 0, locals := 168 } s m args below meth c H locs 0 0 Qm (F0 m 32 ls []) := by
    intro n
    induction n with
    | zero => intro x2 x3 x4 x5 v_t_thrown v_t_cases v_t_lastReason r_t_caseFirst r_t_finds r_t_label r_t_reason X H locs ls hf; cases hf
    | succ n ih =>
      intro x2 x3 x4 x5 v_t_thrown v_t_cases v_t_lastReason r_t_caseFirst r_t_finds r_t_label r_t_reason X H locs ls hf hP hS hl kx71
      rw [lp_X7_table_32] at hf
      refine lv_iload hx hb dX7_table_32 (lv_at hl 5 rfl) ?_
      refine lv_aload_n hx hb dX7_table_34 rfl (lv_at hl 0 rfl) ?_
      refine va_get (D := D) (ci := 6) (v := .int v_t_cases) (C := RX7) (T := TX7) (N := 28) hx hb hts hinX7 hown hK.1 hP 0 rfl rfl 21 (by decide) fl_152 (fun _ h9 => h9) rfl dX7_table_35 ?_
      refine lv_icmp_ge (tgt := 71) hx hb dX7_table_38 (by decide) (fun c1 => ?_) (fun c1 => ?_)
      · have hf := pn_ifp c1 hf
        exact kx71 x4 H locs ls (Option.some.inj hf).symm hP hS (lv_sub hl [0, 1, 2, 3, 4] rfl)
      · have hf := pn_ifn c1 hf
        refine lv_iload hx hb dX7_table_41 (lv_at hl 4 rfl) ?_
        refine lv_aload_n hx hb dX7_table_43 rfl (lv_at hl 0 rfl) ?_
        refine lv_iload hx hb dX7_table_44 (lv_at hl 5 rfl) ?_
        obtain ⟨ru2, hu2, hf⟩ := pn_bd1_at hf
        refine pn_calli [0, 1, 4] (va_runV (As := [.int x5]) (rest := [.int x4]) ⟨hx, hb, hml, hown, hts⟩ (c_X7_rankOf l D cI cJ cZ a_t a_t_text a_t_readPage a_t_page a_t_trial a_t_work a_t_book a_t_kept a_t_isKept a_t_seenWhat a_t_seenV a_t_seenIs a_t_label a_t_finds a_t_reason a_t_caseFirst a_t_brief a_t_printed a_t_renamed a_t_worth H.size v_t_thrown v_t_textSize v_t_place v_t_doings v_t_seen v_t_seed v_t_cases v_t_printedSize v_t_lastReason r_t_caseFirst r_t_page x5 ru2 hu2) (cwV 1 hts gX7_table_X7_rankOf rfl rfl rfl hdX7_rankOf ⟨Nat.le_of_ble_eq_true rfl, Nat.le_of_ble_eq_true rfl⟩) (pn_preV [0, 1, 4] hP (hD.addr rfl) hK rfl rfl (q0 := 0) (ci := 6) rfl rfl) rfl rfl hl.1 rfl (lv_room (Nat.le_of_ble_eq_true rfl)) dX7_table_46 ⟨Nat.zero_le _, Nat.zero_le _⟩) hP (hD.addr rfl) hS hA rfl rfl rfl (fun H locs (hP : va_P D vwCl [(a_t, .inr (6, [.int v_t_thrown, .ref a_t_text, .int v_t_textSize, .int v_t_place, .ref a_t_readPage, .ref a_t_page, .ref a_t_trial, .ref a_t_work, .ref a_t_book, .int v_t_doings, .ref a_t_kept, .ref a_t_isKept, .int v_t_seen, .ref a_t_seenWhat, .ref a_t_seenV, .ref a_t_seenIs, .long v_t_seed, .ref a_t_label, .ref a_t_finds, .ref a_t_reason, .ref a_t_caseFirst, .int v_t_cases, .ref a_t_brief, .ref a_t_printed, .int v_t_printedSize, .ref a_t_renamed, .ref a_t_worth, .int v_t_lastReason])), (a_t_caseFirst, .inl (cI, 32, .inl r_t_caseFirst)), (a_t_finds, .inl (cI, 32, .inl r_t_finds)), (a_t_label, .inl (cI, 32, .inl r_t_label)), (a_t_page, .inl (cI, 265, .inl r_t_page)), (a_t_reason, .inl (cI, 32, .inl r_t_reason))] H) _ hS => ?_)
        refine lv_aload_n hx hb dX7_table_49 rfl (lv_at hl 0 rfl) ?_
        refine lv_iload_n hx hb dX7_table_50 rfl (lv_at hl 3 rfl) ?_
        obtain ⟨ru3, hu3, hf⟩ := pn_bd1_at hf
        refine pn_calli [0, 1, 4] (va_runV (As := [.int x3]) (rest := [.int ru2, .int x4]) ⟨hx, hb, hml, hown, hts⟩ (c_X7_rankOf l D cI cJ cZ a_t a_t_text a_t_readPage a_t_page a_t_trial a_t_work a_t_book a_t_kept a_t_isKept a_t_seenWhat a_t_seenV a_t_seenIs a_t_label a_t_finds a_t_reason a_t_caseFirst a_t_brief a_t_printed a_t_renamed a_t_worth H.size v_t_thrown v_t_textSize v_t_place v_t_doings v_t_seen v_t_seed v_t_cases v_t_printedSize v_t_lastReason r_t_caseFirst r_t_page x3 ru3 hu3) (cwV 1 hts gX7_table_X7_rankOf rfl rfl rfl hdX7_rankOf ⟨Nat.le_of_ble_eq_true rfl, Nat.le_of_ble_eq_true rfl⟩) (pn_preV [0, 1, 4] hP (hD.addr rfl) hK rfl rfl (q0 := 0) (ci := 6) rfl rfl) rfl rfl hl.1 rfl (lv_room (Nat.le_of_ble_eq_true rfl)) dX7_table_51 ⟨Nat.zero_le _, Nat.zero_le _⟩) hP (hD.addr rfl) hS hA rfl rfl rfl (fun H locs (hP : va_P D vwCl [(a_t, .inr (6, [.int v_t_thrown, .ref a_t_text, .int v_t_textSize, .int v_t_place, .ref a_t_readPage, .ref a_t_page, .ref a_t_trial, .ref a_t_work, .ref a_t_book, .int v_t_doings, .ref a_t_kept, .ref a_t_isKept, .int v_t_seen, .ref a_t_seenWhat, .ref a_t_seenV, .ref a_t_seenIs, .long v_t_seed, .ref a_t_label, .ref a_t_finds, .ref a_t_reason, .ref a_t_caseFirst, .int v_t_cases, .ref a_t_brief, .ref a_t_printed, .int v_t_printedSize, .ref a_t_renamed, .ref a_t_worth, .int v_t_lastReason])), (a_t_caseFirst, .inl (cI, 32, .inl r_t_caseFirst)), (a_t_finds, .inl (cI, 32, .inl r_t_finds)), (a_t_label, .inl (cI, 32, .inl r_t_label)), (a_t_page, .inl (cI, 265, .inl r_t_page)), (a_t_reason, .inl (cI, 32, .inl r_t_reason))] H) _ hS => ?_)
        refine lv_icmp_ge (tgt := 61) hx hb dX7_table_54 (by decide) (fun c4 => ?_) (fun c4 => ?_)
        · have hf := pn_ifp c4 hf
          refine lv_iconst (v := (0)) hx hb dX7_table_61 (by decide) ?_
          refine lv_iadd hx hb dX7_table_62 ?_
          refine lv_topi (fun z5 ez5 => ?_)
          have hf := pn_nm_at ez5 hf
          refine lv_istore (lv' := [(4, .int z5), (0, .ref a_t), (1, .int p1), (2, .int x2), (3, .int x3), (5, .int x5)]) hx hb dX7_table_63 hl (by decide) rfl (fun ls hl => ?_)
          obtain ⟨z6, ez6⟩ : ∃ y : Int32, y = x5 + (1) := ⟨_, rfl⟩
          have hf := pn_nm_at ez6 hf
          refine lv_iinc (v := z6) (lv' := [(5, .int z6), (4, .int z5), (0, .ref a_t), (1, .int p1), (2, .int x2), (3, .int x3)]) hx hb dX7_table_65 hl (k := 5) rfl (by rw [ez6]; rfl) (by decide) rfl (fun ls hl => ?_)
          refine lv_goto (tgt := 32) hx hb dX7_table_68 (by decide) ?_
          exact ih x2 x3 z5 z6 v_t_thrown v_t_cases v_t_lastReason r_t_caseFirst r_t_finds r_t_label r_t_reason X H locs ls hf hP hS (lv_sub hl [2, 3, 4, 5, 1, 0] rfl) kx71
        · have hf := pn_ifn c4 hf
          refine lv_iconst (v := (1)) hx hb dX7_table_57 (by decide) ?_
          refine lv_goto (tgt := 62) hx hb dX7_table_58 (by decide) ?_
          refine lv_iadd hx hb dX7_table_62 ?_
          refine lv_topi (fun z7 ez7 => ?_)
          have hf := pn_nm_at ez7 hf
          refine lv_istore (lv' := [(4, .int z7), (0, .ref a_t), (1, .int p1), (2, .int x2), (3, .int x3), (5, .int x5)]) hx hb dX7_table_63 hl (by decide) rfl (fun ls hl => ?_)
          obtain ⟨z8, ez8⟩ : ∃ y : Int32, y = x5 + (1) := ⟨_, rfl⟩
          have hf := pn_nm_at ez8 hf
          refine lv_iinc (v := z8) (lv' := [(5, .int z8), (4, .int z7), (0, .ref a_t), (1, .int p1), (2, .int x2), (3, .int x3)]) hx hb dX7_table_65 hl (k := 5) rfl (by rw [ez8]; rfl) (by decide) rfl (fun ls hl => ?_)
          refine lv_goto (tgt := 32) hx hb dX7_table_68 (by decide) ?_
          exact ih x2 x3 z7 z8 v_t_thrown v_t_cases v_t_lastReason r_t_caseFirst r_t_finds r_t_label r_t_reason X H locs ls hf hP hS (lv_sub hl [2, 3, 4, 5, 1, 0] rfl) kx71
  have lp18 : ∀ (n : Nat) (x2 : Int32) (x3 : Int32) (v_t_thrown : Int32) (v_t_cases : Int32) (v_t_lastReason : Int32) (r_t_caseFirst : Nat → Int32) (r_t_finds : Nat → Int32) (r_t_label : Nat → Int32) (r_t_reason : Nat → Int32) (X : Int32) (H : Heap) (locs : List Loc) (ls : Array Slot), lp_X7_table_18 N r_t_page p1 v_t_cases r_t_caseFirst n x2 x3 = some X → va_P D vwCl [(a_t, .inr (6, [.int v_t_thrown, .ref a_t_text, .int v_t_textSize, .int v_t_place, .ref a_t_readPage, .ref a_t_page, .ref a_t_trial, .ref a_t_work, .ref a_t_book, .int v_t_doings, .ref a_t_kept, .ref a_t_isKept, .int v_t_seen, .ref a_t_seenWhat, .ref a_t_seenV, .ref a_t_seenIs, .long v_t_seed, .ref a_t_label, .ref a_t_finds, .ref a_t_reason, .ref a_t_caseFirst, .int v_t_cases, .ref a_t_brief, .ref a_t_printed, .int v_t_printedSize, .ref a_t_renamed, .ref a_t_worth, .int v_t_lastReason])), (a_t_caseFirst, .inl (cI, 32, .inl r_t_caseFirst)), (a_t_finds, .inl (cI, 32, .inl r_t_finds)), (a_t_label, .inl (cI, 32, .inl r_t_label)), (a_t_page, .inl (cI, 265, .inl r_t_page)), (a_t_reason, .inl (cI, 32, .inl r_t_reason))] H → va_S A s.heap H locs → lv_has ls 6 [(0, .ref a_t), (1, .int p1), (2, .int x2), (3, .int x3)] → (∀ (y2 : Int32)  (H : Heap) (locs : List Loc) (ls : Array Slot), X = y2 → va_P D vwCl [(a_t, .inr (6, [.int v_t_thrown, .ref a_t_text, .int v_t_textSize, .int v_t_place, .ref a_t_readPage, .ref a_t_page, .ref a_t_trial, .ref a_t_work, .ref a_t_book, .int v_t_doings, .ref a_t_kept, .ref a_t_isKept, .int v_t_seen, .ref a_t_seenWhat, .ref a_t_seenV, .ref a_t_seenIs, .long v_t_seed, .ref a_t_label, .ref a_t_finds, .ref a_t_reason, .ref a_t_caseFirst, .int v_t_cases, .ref a_t_brief, .ref a_t_printed, .int v_t_printedSize, .ref a_t_renamed, .ref a_t_worth, .int v_t_lastReason])), (a_t_caseFirst, .inl (cI, 32, .inl r_t_caseFirst)), (a_t_finds, .inl (cI, 32, .inl r_t_finds)), (a_t_label, .inl (cI, 32, .inl r_t_label)), (a_t_page, .inl (cI, 265, .inl r_t_page)), (a_t_reason, .inl (cI, 32, .inl r_t_reason))] H → va_S A s.heap H locs → lv_has ls 6 [(2, .int y2)] → W p l e { frames := 7, cells := 0, slots := 0, locals := 168 } s m args below meth c H locs 0 0 Qm (F0 m 89 ls [])) → W p l e { frames := 7, cells := 0, slots := 0, locals := 168 } s m args below meth c H locs 0 0 Qm (F0 m 18 ls []) := by
    intro n
    induction n with
    | zero => intro x2 x3 v_t_thrown v_t_cases v_t_lastReason r_t_caseFirst r_t_finds r_t_label r_t_reason X H locs ls hf; cases hf
    | succ n ih =>
      intro x2 x3 v_t_thrown v_t_cases v_t_lastReason r_t_caseFirst r_t_finds r_t_label r_t_reason X H locs ls hf hP hS hl kx89
      rw [lp_X7_table_18] at hf
      refine lv_iload_n hx hb dX7_table_18 rfl (lv_at hl 3 rfl) ?_
      refine lv_aload_n hx hb dX7_table_19 rfl (lv_at hl 0 rfl) ?_
      refine va_get (D := D) (ci := 6) (v := .int v_t_cases) (C := RX7) (T := TX7) (N := 28) hx hb hts hinX7 hown hK.1 hP 0 rfl rfl 21 (by decide) fl_152 (fun _ h9 => h9) rfl dX7_table_20 ?_
      refine lv_icmp_ge (tgt := 89) hx hb dX7_table_23 (by decide) (fun c9 => ?_) (fun c9 => ?_)
      · have hf := pn_ifp c9 hf
        exact kx89 x2 H locs ls (Option.some.inj hf).symm hP hS (lv_sub hl [2] rfl)
      · have hf := pn_ifn c9 hf
        refine lv_iconst (v := (0)) hx hb dX7_table_26 (by decide) ?_
        refine lv_istore (lv' := [(4, .int (0 : Int32)), (0, .ref a_t), (1, .int p1), (2, .int x2), (3, .int x3)]) hx hb dX7_table_27 hl (by decide) rfl (fun ls hl => ?_)
        refine lv_iconst (v := (0)) hx hb dX7_table_29 (by decide) ?_
        refine lv_istore (lv' := [(5, .int (0 : Int32)), (4, .int (0 : Int32)), (0, .ref a_t), (1, .int p1), (2, .int x2), (3, .int x3)]) hx hb dX7_table_30 hl (by decide) rfl (fun ls hl => ?_)
        obtain ⟨X32, hX32, hf⟩ := pn_bd1_at hf
        refine lp32 N x2 x3 (0 : Int32) (0 : Int32) v_t_thrown v_t_cases v_t_lastReason r_t_caseFirst r_t_finds r_t_label r_t_reason X32 H locs ls hX32 hP hS (lv_sub hl [2, 3, 4, 5, 1, 0] rfl) ?_
        · intro x4_w10 H locs ls eX hP hS hl
          rw [eX] at hf
          have hf := pn_u1_at hf
          refine lv_iload hx hb dX7_table_71 (lv_at hl 4 rfl) ?_
          refine lv_iload_n hx hb dX7_table_73 rfl (lv_at hl 1 rfl) ?_
          refine lv_icmp_ne (tgt := 81) hx hb dX7_table_74 (by decide) (fun c11 => ?_) (fun c11 => ?_)
          · have hf := pn_ifp c11 hf
            refine lv_iload_n hx hb dX7_table_81 rfl (lv_at hl 2 rfl) ?_
            refine lv_istore_n (lv' := [(2, .int x2), (0, .ref a_t), (1, .int p1), (3, .int x3), (4, .int x4_w10)]) hx hb dX7_table_82 rfl hl (by decide) rfl (fun ls hl => ?_)
            obtain ⟨z12, ez12⟩ : ∃ y : Int32, y = x3 + (1) := ⟨_, rfl⟩
            have hf := pn_nm_at ez12 hf
            refine lv_iinc (v := z12) (lv' := [(3, .int z12), (2, .int x2), (0, .ref a_t), (1, .int p1), (4, .int x4_w10)]) hx hb dX7_table_83 hl (k := 3) rfl (by rw [ez12]; rfl) (by decide) rfl (fun ls hl => ?_)
            refine lv_goto (tgt := 18) hx hb dX7_table_86 (by decide) ?_
            exact ih x2 z12 v_t_thrown v_t_cases v_t_lastReason r_t_caseFirst r_t_finds r_t_label r_t_reason X H locs ls hf hP hS (lv_sub hl [2, 3, 1, 0] rfl) kx89
          · have hf := pn_ifq c11 hf
            refine lv_iload_n hx hb dX7_table_77 rfl (lv_at hl 3 rfl) ?_
            refine lv_goto (tgt := 82) hx hb dX7_table_78 (by decide) ?_
            refine lv_istore_n (lv' := [(2, .int x3), (0, .ref a_t), (1, .int p1), (3, .int x3), (4, .int x4_w10)]) hx hb dX7_table_82 rfl hl (by decide) rfl (fun ls hl => ?_)
            obtain ⟨z13, ez13⟩ : ∃ y : Int32, y = x3 + (1) := ⟨_, rfl⟩
            have hf := pn_nm_at ez13 hf
            refine lv_iinc (v := z13) (lv' := [(3, .int z13), (2, .int x3), (0, .ref a_t), (1, .int p1), (4, .int x4_w10)]) hx hb dX7_table_83 hl (k := 3) rfl (by rw [ez13]; rfl) (by decide) rfl (fun ls hl => ?_)
            refine lv_goto (tgt := 18) hx hb dX7_table_86 (by decide) ?_
            exact ih x3 z13 v_t_thrown v_t_cases v_t_lastReason r_t_caseFirst r_t_finds r_t_label r_t_reason X H locs ls hf hP hS (lv_sub hl [2, 3, 1, 0] rfl) kx89
  refine lv_aload_n hx hb dX7_table_0 rfl (lv_at hl 0 rfl) ?_
  refine lv_iconst (v := (0)) hx hb dX7_table_1 (by decide) ?_
  refine va_put (D := D) (ci := 6) (v := .int (0 : Int32)) (ty := .int) (C := RX7) (T := TX7) (N := 28) hx hb hts hinX7 tyX7 tyX7_ok nmX7 hown hK.1 hP (hD.addr rfl) hS 0 rfl rfl 0 (by decide) fl_68 (fun _ h9 => h9) rfl (by decide +kernel) rfl rfl (Nat.le_of_ble_eq_true rfl) dX7_table_2 (fun H locs (hP : va_P D vwCl [(a_t, .inr (6, [.int ((0 : Int32)), .ref a_t_text, .int v_t_textSize, .int v_t_place, .ref a_t_readPage, .ref a_t_page, .ref a_t_trial, .ref a_t_work, .ref a_t_book, .int v_t_doings, .ref a_t_kept, .ref a_t_isKept, .int v_t_seen, .ref a_t_seenWhat, .ref a_t_seenV, .ref a_t_seenIs, .long v_t_seed, .ref a_t_label, .ref a_t_finds, .ref a_t_reason, .ref a_t_caseFirst, .int v_t_cases, .ref a_t_brief, .ref a_t_printed, .int v_t_printedSize, .ref a_t_renamed, .ref a_t_worth, .int v_t_lastReason])), (a_t_caseFirst, .inl (cI, 32, .inl r_t_caseFirst)), (a_t_finds, .inl (cI, 32, .inl r_t_finds)), (a_t_label, .inl (cI, 32, .inl r_t_label)), (a_t_page, .inl (cI, 265, .inl r_t_page)), (a_t_reason, .inl (cI, 32, .inl r_t_reason))] H) _ hS => ?_)
  refine lv_aload_n hx hb dX7_table_5 rfl (lv_at hl 0 rfl) ?_
  refine lv_aload_n hx hb dX7_table_6 rfl (lv_at hl 0 rfl) ?_
  refine va_get (D := D) (ci := 6) (v := .ref a_t_page) (C := RX7) (T := TX7) (N := 28) hx hb hts hinX7 hown hK.1 hP 0 rfl rfl 5 (by decide) fl_16 (fun _ h9 => h9) rfl dX7_table_7 ?_
  obtain ⟨v_t_cases_u14, v_t_lastReason_u14, r_t_caseFirst_u14, r_t_finds_u14, r_t_label_u14, r_t_reason_u14, hu14, hf⟩ := pn_bd6_at hf
  refine pn_callv [0, 1, 2, 3, 5, 4] (va_runV (As := [.ref a_t_page]) (rest := []) ⟨hx, hb, hml, hown, hts⟩ (c_X7_findAll l D cI cJ cZ a_t a_t_text a_t_readPage a_t_page a_t_trial a_t_work a_t_book a_t_kept a_t_isKept a_t_seenWhat a_t_seenV a_t_seenIs a_t_label a_t_finds a_t_reason a_t_caseFirst a_t_brief a_t_printed a_t_renamed a_t_worth a_t_page H.size (0 : Int32) v_t_textSize v_t_place v_t_doings v_t_seen v_t_seed v_t_printedSize N v_t_cases v_t_lastReason r_t_caseFirst r_t_finds r_t_label r_t_reason r_t_page v_t_cases_u14 v_t_lastReason_u14 r_t_caseFirst_u14 r_t_finds_u14 r_t_label_u14 r_t_reason_u14 hu14) (cwV 1 hts gX7_table_X7_findAll rfl rfl rfl hdX7_findAll ⟨Nat.le_of_ble_eq_true rfl, Nat.le_of_ble_eq_true rfl⟩) (pn_preV [0, 1, 2, 3, 5, 4] hP (hD.addr rfl) hK rfl rfl (q0 := 0) (ci := 6) rfl rfl) rfl rfl hl.1 rfl (lv_room (Nat.le_of_ble_eq_true rfl)) dX7_table_10 ⟨Nat.zero_le _, Nat.zero_le _⟩) hP (hD.addr rfl) hS hA rfl rfl rfl (fun H locs (hP : va_P D vwCl [(a_t, .inr (6, [.int ((0 : Int32)), .ref a_t_text, .int v_t_textSize, .int v_t_place, .ref a_t_readPage, .ref a_t_page, .ref a_t_trial, .ref a_t_work, .ref a_t_book, .int v_t_doings, .ref a_t_kept, .ref a_t_isKept, .int v_t_seen, .ref a_t_seenWhat, .ref a_t_seenV, .ref a_t_seenIs, .long v_t_seed, .ref a_t_label, .ref a_t_finds, .ref a_t_reason, .ref a_t_caseFirst, .int v_t_cases_u14, .ref a_t_brief, .ref a_t_printed, .int v_t_printedSize, .ref a_t_renamed, .ref a_t_worth, .int v_t_lastReason_u14])), (a_t_caseFirst, .inl (cI, 32, .inl r_t_caseFirst_u14)), (a_t_finds, .inl (cI, 32, .inl r_t_finds_u14)), (a_t_label, .inl (cI, 32, .inl r_t_label_u14)), (a_t_page, .inl (cI, 265, .inl r_t_page)), (a_t_reason, .inl (cI, 32, .inl r_t_reason_u14))] H) _ hS => ?_)
  refine lv_bipush (v := (-9)) hx hb dX7_table_13 (by decide) ?_
  refine lv_istore_n (lv' := [(2, .int (-9 : Int32)), (0, .ref a_t), (1, .int p1)]) hx hb dX7_table_15 rfl hl (by decide) rfl (fun ls hl => ?_)
  refine lv_iconst (v := (0)) hx hb dX7_table_16 (by decide) ?_
  refine lv_istore_n (lv' := [(3, .int (0 : Int32)), (2, .int (-9 : Int32)), (0, .ref a_t), (1, .int p1)]) hx hb dX7_table_17 rfl hl (by decide) rfl (fun ls hl => ?_)
  obtain ⟨X18, hX18, hf⟩ := pn_bd1_at hf
  refine lp18 N (-9 : Int32) (0 : Int32) (0 : Int32) v_t_cases_u14 v_t_lastReason_u14 r_t_caseFirst_u14 r_t_finds_u14 r_t_label_u14 r_t_reason_u14 X18 H locs ls hX18 hP hS (lv_sub hl [2, 3, 1, 0] rfl) ?_
  · intro x2_w15 H locs ls eX hP hS hl
    rw [eX] at hf
    have hf := pn_u1_at hf
    refine lv_iload_n hx hb dX7_table_89 rfl (lv_at hl 0 rfl) ?_
    refine lv_bipush (v := (-9)) hx hb dX7_table_90 (by decide) ?_
    refine lv_icmp_ne (tgt := 99) hx hb dX7_table_92 (by decide) (fun c16 => ?_) (fun c16 => ?_)
    · have hf := pn_ifp c16 hf
      refine lv_iload_n hx hb dX7_table_99 rfl (lv_at hl 0 rfl) ?_
      cases hf
      rw [hQ]
      exact pn_reti hx hb hr hlocks hP hS rfl dX7_table_100
    · have hf := pn_ifq c16 hf
      refine lv_iconst (v := (-1)) hx hb dX7_table_95 (by decide) ?_
      refine lv_goto (tgt := 100) hx hb dX7_table_96 (by decide) ?_
      cases hf
      rw [hQ]
      exact pn_reti hx hb hr hlocks hP hS rfl dX7_table_100
def f_X7_hasAll (r_q0 : Nat → Int32) (p1 : Int32) (p2 : Int32) : Option (Int32) :=
  pn_bd1 (f_X7_ref r_q0 p1 (3 : Int32)) fun ru1 =>
  pn_bd1 (f_X7_hasReport r_q0 p2 ru1) fun ru2 =>
  if ru2 = 0 then
  some (0 : Int32)
  else
  pn_bd1 (f_X7_ref r_q0 p1 (4 : Int32)) fun ru4 =>
  if ru4 = 0 then
  some (1 : Int32)
  else
  pn_bd1 (f_X7_ref r_q0 p1 (4 : Int32)) fun ru6 =>
  pn_bd1 (f_X7_hasReport r_q0 p2 ru6) fun ru7 =>
  if ru7 = 0 then
  some (0 : Int32)
  else
  some (1 : Int32)
set_option maxHeartbeats 4000000 in
set_option maxRecDepth 100000 in
theorem c_X7_hasAll (l : Launch) (D : va_G) (cI cJ cZ : ClassId) (a_q0 : Nat) (sz : Nat) (r_q0 : Nat → Int32) (p1 : Int32) (p2 : Int32) (rR : Int32) (hf : f_X7_hasAll r_q0 p1 p2 = some rR) : Met l yX7_hasAll wsX7_hasAll { frames := 2, cells := 0, slots := 0, locals := 44 } (pn_Pc D cI cJ cZ [.ref a_q0, .int p1, .int p2] [(a_q0, .inl (cI, 265, .inl r_q0))] sz) (pn_Qi D rR [(a_q0, .inl (cI, 265, .inl r_q0))] (va_A [(a_q0, .inl (cI, 265, .inl r_q0))] sz)) 0 0 (va_A [(a_q0, .inl (cI, 265, .inl r_q0))] sz) := by
  refine pn_entry (cc := cX7_hasAll) (maxL := 3) (ret := (some .boolean)) (Qf := pn_Qi D rR [(a_q0, .inl (cI, 265, .inl r_q0))]) (by decide) rfl (Nat.le_of_ble_eq_true rfl) ?_
  intro p e s m args below meth c A ls H locs Qm hQ hx hb hr hlocks hml hown hts hK hP hD hA hS hl
  have hl : lv_has ls 3 [(0, .ref a_q0), (1, .int p1), (2, .int p2)] := hl
  rw [f_X7_hasAll] at hf
  refine lv_aload_n hx hb dX7_hasAll_0 rfl (lv_at hl 0 rfl) ?_
  refine lv_iload_n hx hb dX7_hasAll_1 rfl (lv_at hl 2 rfl) ?_
  refine lv_aload_n hx hb dX7_hasAll_2 rfl (lv_at hl 0 rfl) ?_
  refine lv_iload_n hx hb dX7_hasAll_3 rfl (lv_at hl 1 rfl) ?_
  refine lv_iconst (v := (3)) hx hb dX7_hasAll_4 (by decide) ?_
  obtain ⟨ru1, hu1, hf⟩ := pn_bd1_at hf
  refine pn_calli [0] (va_runS (As := [.ref a_q0, .int p1, .int (3 : Int32)]) (rest := [.int p2, .ref a_q0]) ⟨hx, hb, hml, hown, hts⟩ (c_X7_ref l D cI cJ cZ a_q0 H.size r_q0 p1 (3 : Int32) ru1 hu1) (va_cwS 3 hts gX7_hasAll_X7_ref rfl rfl rfl hdX7_ref ⟨Nat.le_of_ble_eq_true rfl, Nat.le_of_ble_eq_true rfl⟩) (pn_preS [0] hP (hD.addr rfl) hK rfl rfl) rfl rfl hl.1 rfl (lv_room (Nat.le_of_ble_eq_true rfl)) dX7_hasAll_5 ⟨Nat.zero_le _, Nat.zero_le _⟩) hP (hD.addr rfl) hS hA rfl rfl rfl (fun H locs (hP : va_P D vwCl [(a_q0, .inl (cI, 265, .inl r_q0))] H) _ hS => ?_)
  obtain ⟨ru2, hu2, hf⟩ := pn_bd1_at hf
  refine pn_calli [0] (va_runS (As := [.ref a_q0, .int p2, .int ru1]) (rest := []) ⟨hx, hb, hml, hown, hts⟩ (c_X7_hasReport l D cI cJ cZ a_q0 H.size r_q0 p2 ru1 ru2 hu2) (va_cwS 3 hts gX7_hasAll_X7_hasReport rfl rfl rfl hdX7_hasReport ⟨Nat.le_of_ble_eq_true rfl, Nat.le_of_ble_eq_true rfl⟩) (pn_preS [0] hP (hD.addr rfl) hK rfl rfl) rfl rfl hl.1 rfl (lv_room (Nat.le_of_ble_eq_true rfl)) dX7_hasAll_8 ⟨Nat.zero_le _, Nat.zero_le _⟩) hP (hD.addr rfl) hS hA rfl rfl rfl (fun H locs (hP : va_P D vwCl [(a_q0, .inl (cI, 265, .inl r_q0))] H) _ hS => ?_)
  refine lv_if_eq (tgt := 41) hx hb dX7_hasAll_11 (by decide) (fun c3 => ?_) (fun c3 => ?_)
  · have hf := pn_ifp c3 hf
    refine lv_iconst (v := (0)) hx hb dX7_hasAll_41 (by decide) ?_
    cases hf
    rw [hQ]
    exact pn_retz hx hb hr hlocks hP hS rfl rfl dX7_hasAll_42
  · have hf := pn_ifn c3 hf
    refine lv_aload_n hx hb dX7_hasAll_14 rfl (lv_at hl 0 rfl) ?_
    refine lv_iload_n hx hb dX7_hasAll_15 rfl (lv_at hl 1 rfl) ?_
    refine lv_iconst (v := (4)) hx hb dX7_hasAll_16 (by decide) ?_
    obtain ⟨ru4, hu4, hf⟩ := pn_bd1_at hf
    refine pn_calli [0] (va_runS (As := [.ref a_q0, .int p1, .int (4 : Int32)]) (rest := []) ⟨hx, hb, hml, hown, hts⟩ (c_X7_ref l D cI cJ cZ a_q0 H.size r_q0 p1 (4 : Int32) ru4 hu4) (va_cwS 3 hts gX7_hasAll_X7_ref rfl rfl rfl hdX7_ref ⟨Nat.le_of_ble_eq_true rfl, Nat.le_of_ble_eq_true rfl⟩) (pn_preS [0] hP (hD.addr rfl) hK rfl rfl) rfl rfl hl.1 rfl (lv_room (Nat.le_of_ble_eq_true rfl)) dX7_hasAll_17 ⟨Nat.zero_le _, Nat.zero_le _⟩) hP (hD.addr rfl) hS hA rfl rfl rfl (fun H locs (hP : va_P D vwCl [(a_q0, .inl (cI, 265, .inl r_q0))] H) _ hS => ?_)
    refine lv_if_eq (tgt := 37) hx hb dX7_hasAll_20 (by decide) (fun c5 => ?_) (fun c5 => ?_)
    · have hf := pn_ifp c5 hf
      refine lv_iconst (v := (1)) hx hb dX7_hasAll_37 (by decide) ?_
      refine lv_goto (tgt := 42) hx hb dX7_hasAll_38 (by decide) ?_
      cases hf
      rw [hQ]
      exact pn_retz hx hb hr hlocks hP hS rfl rfl dX7_hasAll_42
    · have hf := pn_ifn c5 hf
      refine lv_aload_n hx hb dX7_hasAll_23 rfl (lv_at hl 0 rfl) ?_
      refine lv_iload_n hx hb dX7_hasAll_24 rfl (lv_at hl 2 rfl) ?_
      refine lv_aload_n hx hb dX7_hasAll_25 rfl (lv_at hl 0 rfl) ?_
      refine lv_iload_n hx hb dX7_hasAll_26 rfl (lv_at hl 1 rfl) ?_
      refine lv_iconst (v := (4)) hx hb dX7_hasAll_27 (by decide) ?_
      obtain ⟨ru6, hu6, hf⟩ := pn_bd1_at hf
      refine pn_calli [0] (va_runS (As := [.ref a_q0, .int p1, .int (4 : Int32)]) (rest := [.int p2, .ref a_q0]) ⟨hx, hb, hml, hown, hts⟩ (c_X7_ref l D cI cJ cZ a_q0 H.size r_q0 p1 (4 : Int32) ru6 hu6) (va_cwS 3 hts gX7_hasAll_X7_ref rfl rfl rfl hdX7_ref ⟨Nat.le_of_ble_eq_true rfl, Nat.le_of_ble_eq_true rfl⟩) (pn_preS [0] hP (hD.addr rfl) hK rfl rfl) rfl rfl hl.1 rfl (lv_room (Nat.le_of_ble_eq_true rfl)) dX7_hasAll_28 ⟨Nat.zero_le _, Nat.zero_le _⟩) hP (hD.addr rfl) hS hA rfl rfl rfl (fun H locs (hP : va_P D vwCl [(a_q0, .inl (cI, 265, .inl r_q0))] H) _ hS => ?_)
      obtain ⟨ru7, hu7, hf⟩ := pn_bd1_at hf
      refine pn_calli [0] (va_runS (As := [.ref a_q0, .int p2, .int ru6]) (rest := []) ⟨hx, hb, hml, hown, hts⟩ (c_X7_hasReport l D cI cJ cZ a_q0 H.size r_q0 p2 ru6 ru7 hu7) (va_cwS 3 hts gX7_hasAll_X7_hasReport rfl rfl rfl hdX7_hasReport ⟨Nat.le_of_ble_eq_true rfl, Nat.le_of_ble_eq_true rfl⟩) (pn_preS [0] hP (hD.addr rfl) hK rfl rfl) rfl rfl hl.1 rfl (lv_room (Nat.le_of_ble_eq_true rfl)) dX7_hasAll_31 ⟨Nat.zero_le _, Nat.zero_le _⟩) hP (hD.addr rfl) hS hA rfl rfl rfl (fun H locs (hP : va_P D vwCl [(a_q0, .inl (cI, 265, .inl r_q0))] H) _ hS => ?_)
      refine lv_if_eq (tgt := 41) hx hb dX7_hasAll_34 (by decide) (fun c8 => ?_) (fun c8 => ?_)
      · have hf := pn_ifp c8 hf
        refine lv_iconst (v := (0)) hx hb dX7_hasAll_41 (by decide) ?_
        cases hf
        rw [hQ]
        exact pn_retz hx hb hr hlocks hP hS rfl rfl dX7_hasAll_42
      · have hf := pn_ifn c8 hf
        refine lv_iconst (v := (1)) hx hb dX7_hasAll_37 (by decide) ?_
        refine lv_goto (tgt := 42) hx hb dX7_hasAll_38 (by decide) ?_
        cases hf
        rw [hQ]
        exact pn_retz hx hb hr hlocks hP hS rfl rfl dX7_hasAll_42
def lp_X7_stays_17 (r_q0 : Nat → Int32) (p1 : Int32) : Nat → Int32 → Int32 → Option (Int32)
  | 0, _, _ => none
  | n + 1, x2, x3 =>
    if p1 ≤ x3 then
  some x2
  else
  if x2 = 0 then
  pn_nm (x3 + (1 : Int32)) fun z3 =>
  lp_X7_stays_17 r_q0 p1 n (0 : Int32) z3
  else
  pn_bd1 (f_X7_allNotes r_q0) fun ru4 =>
  pn_bd1 (f_X7_isSpelled r_q0 ru4 x3) fun ru5 =>
  if ru5 = 0 then
  pn_nm (x3 + (1 : Int32)) fun z7 =>
  lp_X7_stays_17 r_q0 p1 n (1 : Int32) z7
  else
  pn_bd1 (f_X7_hasAll r_q0 p1 x3) fun ru8 =>
  if ¬ ru8 = 0 then
  pn_nm (x3 + (1 : Int32)) fun z10 =>
  lp_X7_stays_17 r_q0 p1 n (0 : Int32) z10
  else
  pn_nm (x3 + (1 : Int32)) fun z11 =>
  lp_X7_stays_17 r_q0 p1 n (1 : Int32) z11
def f_X7_stays (N : Nat) (r_q0 : Nat → Int32) (p1 : Int32) : Option (Int32) :=
  pn_bd1 (f_X7_ref r_q0 p1 (0 : Int32)) fun ru12 =>
  if ¬ ru12 = 0 then
  pn_bd1 (lp_X7_stays_17 r_q0 p1 N (0 : Int32) (0 : Int32)) (fun X17 => (pn_u1 fun x2_w14 => pn_bz x2_w14 <|
  some x2_w14) X17)
  else
  pn_bd1 (lp_X7_stays_17 r_q0 p1 N (1 : Int32) (0 : Int32)) (fun X17 => (pn_u1 fun x2_w16 => pn_bz x2_w16 <|
  some x2_w16) X17)
set_option maxHeartbeats 4000000 in
set_option maxRecDepth 100000 in
theorem c_X7_stays (l : Launch) (D : va_G) (cI cJ cZ : ClassId) (a_q0 : Nat) (sz : Nat) (N : Nat) (r_q0 : Nat → Int32) (p1 : Int32) (rR : Int32) (hf : f_X7_stays N r_q0 p1 = some rR) : Met l yX7_stays wsX7_stays { frames := 4, cells := 0, slots := 0, locals := 91 } (pn_Pc D cI cJ cZ [.ref a_q0, .int p1] [(a_q0, .inl (cI, 265, .inl r_q0))] sz) (pn_Qi D rR [(a_q0, .inl (cI, 265, .inl r_q0))] (va_A [(a_q0, .inl (cI, 265, .inl r_q0))] sz)) 0 0 (va_A [(a_q0, .inl (cI, 265, .inl r_q0))] sz) := by
  refine pn_entry (cc := cX7_stays) (maxL := 4) (ret := (some .boolean)) (Qf := pn_Qi D rR [(a_q0, .inl (cI, 265, .inl r_q0))]) (by decide) rfl (Nat.le_of_ble_eq_true rfl) ?_
  intro p e s m args below meth c A ls H locs Qm hQ hx hb hr hlocks hml hown hts hK hP hD hA hS hl
  have hl : lv_has ls 4 [(0, .ref a_q0), (1, .int p1)] := hl
  rw [f_X7_stays] at hf
  have lp17 : ∀ (n : Nat) (x2 : Int32) (x3 : Int32) (X : Int32) (H : Heap) (locs : List Loc) (ls : Array Slot), lp_X7_stays_17 r_q0 p1 n x2 x3 = some X → va_P D vwCl [(a_q0, .inl (cI, 265, .inl r_q0))] H → va_S A s.heap H locs → lv_has ls 4 [(0, .ref a_q0), (1, .int p1), (2, .int x2), (3, .int x3)] → (∀ (y2 : Int32)  (H : Heap) (locs : List Loc) (ls : Array Slot), X = y2 → va_P D vwCl [(a_q0, .inl (cI, 265, .inl r_q0))] H → va_S A s.heap H locs → lv_has ls 4 [(2, .int y2)] → W p l e { frames := 4, cells := 0, slots := 0, locals := 91 } s m args below meth c H locs 0 0 Qm (F0 m 59 ls [])) → W p l e { frames := 4, cells := 0, slots := 0, locals := 91 } s m args below meth c H locs 0 0 Qm (F0 m 17 ls []) := by
    intro n
    induction n with
    | zero => intro x2 x3 X H locs ls hf; cases hf
    | succ n ih =>
      intro x2 x3 X H locs ls hf hP hS hl kx59
      rw [lp_X7_stays_17] at hf
      refine lv_iload_n hx hb dX7_stays_17 rfl (lv_at hl 3 rfl) ?_
      refine lv_iload_n hx hb dX7_stays_18 rfl (lv_at hl 1 rfl) ?_
      refine lv_icmp_ge (tgt := 59) hx hb dX7_stays_19 (by decide) (fun c1 => ?_) (fun c1 => ?_)
      · have hf := pn_ifp c1 hf
        exact kx59 x2 H locs ls (Option.some.inj hf).symm hP hS (lv_sub hl [2] rfl)
      · have hf := pn_ifn c1 hf
        refine lv_iload_n hx hb dX7_stays_22 rfl (lv_at hl 2 rfl) ?_
        refine lv_if_eq (tgt := 51) hx hb dX7_stays_23 (by decide) (fun c2 => ?_) (fun c2 => ?_)
        · have hf := pn_ifp c2 hf
          refine lv_iconst (v := (0)) hx hb dX7_stays_51 (by decide) ?_
          refine lv_istore_n (lv' := [(2, .int (0 : Int32)), (0, .ref a_q0), (1, .int p1), (3, .int x3)]) hx hb dX7_stays_52 rfl hl (by decide) rfl (fun ls hl => ?_)
          obtain ⟨z3, ez3⟩ : ∃ y : Int32, y = x3 + (1) := ⟨_, rfl⟩
          have hf := pn_nm_at ez3 hf
          refine lv_iinc (v := z3) (lv' := [(3, .int z3), (2, .int (0 : Int32)), (0, .ref a_q0), (1, .int p1)]) hx hb dX7_stays_53 hl (k := 3) rfl (by rw [ez3]; rfl) (by decide) rfl (fun ls hl => ?_)
          refine lv_goto (tgt := 17) hx hb dX7_stays_56 (by decide) ?_
          exact ih (0 : Int32) z3 X H locs ls hf hP hS (lv_sub hl [2, 3, 1, 0] rfl) kx59
        · have hf := pn_ifn c2 hf
          refine lv_aload_n hx hb dX7_stays_26 rfl (lv_at hl 0 rfl) ?_
          refine lv_aload_n hx hb dX7_stays_27 rfl (lv_at hl 0 rfl) ?_
          obtain ⟨ru4, hu4, hf⟩ := pn_bd1_at hf
          refine pn_calli [0] (va_runS (As := [.ref a_q0]) (rest := [.ref a_q0]) ⟨hx, hb, hml, hown, hts⟩ (c_X7_allNotes l D cI cJ cZ a_q0 H.size r_q0 ru4 hu4) (va_cwS 1 hts gX7_stays_X7_allNotes rfl rfl rfl hdX7_allNotes ⟨Nat.le_of_ble_eq_true rfl, Nat.le_of_ble_eq_true rfl⟩) (pn_preS [0] hP (hD.addr rfl) hK rfl rfl) rfl rfl hl.1 rfl (lv_room (Nat.le_of_ble_eq_true rfl)) dX7_stays_28 ⟨Nat.zero_le _, Nat.zero_le _⟩) hP (hD.addr rfl) hS hA rfl rfl rfl (fun H locs (hP : va_P D vwCl [(a_q0, .inl (cI, 265, .inl r_q0))] H) _ hS => ?_)
          refine lv_iload_n hx hb dX7_stays_31 rfl (lv_at hl 3 rfl) ?_
          obtain ⟨ru5, hu5, hf⟩ := pn_bd1_at hf
          refine pn_calli [0] (va_runS (As := [.ref a_q0, .int ru4, .int x3]) (rest := []) ⟨hx, hb, hml, hown, hts⟩ (c_X7_isSpelled l D cI cJ cZ a_q0 H.size r_q0 ru4 x3 ru5 hu5) (va_cwS 3 hts gX7_stays_X7_isSpelled rfl rfl rfl hdX7_isSpelled ⟨Nat.le_of_ble_eq_true rfl, Nat.le_of_ble_eq_true rfl⟩) (pn_preS [0] hP (hD.addr rfl) hK rfl rfl) rfl rfl hl.1 rfl (lv_room (Nat.le_of_ble_eq_true rfl)) dX7_stays_32 ⟨Nat.zero_le _, Nat.zero_le _⟩) hP (hD.addr rfl) hS hA rfl rfl rfl (fun H locs (hP : va_P D vwCl [(a_q0, .inl (cI, 265, .inl r_q0))] H) _ hS => ?_)
          refine lv_if_eq (tgt := 47) hx hb dX7_stays_35 (by decide) (fun c6 => ?_) (fun c6 => ?_)
          · have hf := pn_ifp c6 hf
            refine lv_iconst (v := (1)) hx hb dX7_stays_47 (by decide) ?_
            refine lv_goto (tgt := 52) hx hb dX7_stays_48 (by decide) ?_
            refine lv_istore_n (lv' := [(2, .int (1 : Int32)), (0, .ref a_q0), (1, .int p1), (3, .int x3)]) hx hb dX7_stays_52 rfl hl (by decide) rfl (fun ls hl => ?_)
            obtain ⟨z7, ez7⟩ : ∃ y : Int32, y = x3 + (1) := ⟨_, rfl⟩
            have hf := pn_nm_at ez7 hf
            refine lv_iinc (v := z7) (lv' := [(3, .int z7), (2, .int (1 : Int32)), (0, .ref a_q0), (1, .int p1)]) hx hb dX7_stays_53 hl (k := 3) rfl (by rw [ez7]; rfl) (by decide) rfl (fun ls hl => ?_)
            refine lv_goto (tgt := 17) hx hb dX7_stays_56 (by decide) ?_
            exact ih (1 : Int32) z7 X H locs ls hf hP hS (lv_sub hl [2, 3, 1, 0] rfl) kx59
          · have hf := pn_ifn c6 hf
            refine lv_aload_n hx hb dX7_stays_38 rfl (lv_at hl 0 rfl) ?_
            refine lv_iload_n hx hb dX7_stays_39 rfl (lv_at hl 1 rfl) ?_
            refine lv_iload_n hx hb dX7_stays_40 rfl (lv_at hl 3 rfl) ?_
            obtain ⟨ru8, hu8, hf⟩ := pn_bd1_at hf
            refine pn_calli [0] (va_runS (As := [.ref a_q0, .int p1, .int x3]) (rest := []) ⟨hx, hb, hml, hown, hts⟩ (c_X7_hasAll l D cI cJ cZ a_q0 H.size r_q0 p1 x3 ru8 hu8) (va_cwS 3 hts gX7_stays_X7_hasAll rfl rfl rfl hdX7_hasAll ⟨Nat.le_of_ble_eq_true rfl, Nat.le_of_ble_eq_true rfl⟩) (pn_preS [0] hP (hD.addr rfl) hK rfl rfl) rfl rfl hl.1 rfl (lv_room (Nat.le_of_ble_eq_true rfl)) dX7_stays_41 ⟨Nat.zero_le _, Nat.zero_le _⟩) hP (hD.addr rfl) hS hA rfl rfl rfl (fun H locs (hP : va_P D vwCl [(a_q0, .inl (cI, 265, .inl r_q0))] H) _ hS => ?_)
            refine lv_if_ne (tgt := 51) hx hb dX7_stays_44 (by decide) (fun c9 => ?_) (fun c9 => ?_)
            · have hf := pn_ifp c9 hf
              refine lv_iconst (v := (0)) hx hb dX7_stays_51 (by decide) ?_
              refine lv_istore_n (lv' := [(2, .int (0 : Int32)), (0, .ref a_q0), (1, .int p1), (3, .int x3)]) hx hb dX7_stays_52 rfl hl (by decide) rfl (fun ls hl => ?_)
              obtain ⟨z10, ez10⟩ : ∃ y : Int32, y = x3 + (1) := ⟨_, rfl⟩
              have hf := pn_nm_at ez10 hf
              refine lv_iinc (v := z10) (lv' := [(3, .int z10), (2, .int (0 : Int32)), (0, .ref a_q0), (1, .int p1)]) hx hb dX7_stays_53 hl (k := 3) rfl (by rw [ez10]; rfl) (by decide) rfl (fun ls hl => ?_)
              refine lv_goto (tgt := 17) hx hb dX7_stays_56 (by decide) ?_
              exact ih (0 : Int32) z10 X H locs ls hf hP hS (lv_sub hl [2, 3, 1, 0] rfl) kx59
            · have hf := pn_ifq c9 hf
              refine lv_iconst (v := (1)) hx hb dX7_stays_47 (by decide) ?_
              refine lv_goto (tgt := 52) hx hb dX7_stays_48 (by decide) ?_
              refine lv_istore_n (lv' := [(2, .int (1 : Int32)), (0, .ref a_q0), (1, .int p1), (3, .int x3)]) hx hb dX7_stays_52 rfl hl (by decide) rfl (fun ls hl => ?_)
              obtain ⟨z11, ez11⟩ : ∃ y : Int32, y = x3 + (1) := ⟨_, rfl⟩
              have hf := pn_nm_at ez11 hf
              refine lv_iinc (v := z11) (lv' := [(3, .int z11), (2, .int (1 : Int32)), (0, .ref a_q0), (1, .int p1)]) hx hb dX7_stays_53 hl (k := 3) rfl (by rw [ez11]; rfl) (by decide) rfl (fun ls hl => ?_)
              refine lv_goto (tgt := 17) hx hb dX7_stays_56 (by decide) ?_
              exact ih (1 : Int32) z11 X H locs ls hf hP hS (lv_sub hl [2, 3, 1, 0] rfl) kx59
  refine lv_aload_n hx hb dX7_stays_0 rfl (lv_at hl 0 rfl) ?_
  refine lv_iload_n hx hb dX7_stays_1 rfl (lv_at hl 1 rfl) ?_
  refine lv_iconst (v := (0)) hx hb dX7_stays_2 (by decide) ?_
  obtain ⟨ru12, hu12, hf⟩ := pn_bd1_at hf
  refine pn_calli [0] (va_runS (As := [.ref a_q0, .int p1, .int (0 : Int32)]) (rest := []) ⟨hx, hb, hml, hown, hts⟩ (c_X7_ref l D cI cJ cZ a_q0 H.size r_q0 p1 (0 : Int32) ru12 hu12) (va_cwS 3 hts gX7_stays_X7_ref rfl rfl rfl hdX7_ref ⟨Nat.le_of_ble_eq_true rfl, Nat.le_of_ble_eq_true rfl⟩) (pn_preS [0] hP (hD.addr rfl) hK rfl rfl) rfl rfl hl.1 rfl (lv_room (Nat.le_of_ble_eq_true rfl)) dX7_stays_3 ⟨Nat.zero_le _, Nat.zero_le _⟩) hP (hD.addr rfl) hS hA rfl rfl rfl (fun H locs (hP : va_P D vwCl [(a_q0, .inl (cI, 265, .inl r_q0))] H) _ hS => ?_)
  refine lv_if_ne (tgt := 13) hx hb dX7_stays_6 (by decide) (fun c13 => ?_) (fun c13 => ?_)
  · have hf := pn_ifp c13 hf
    refine lv_iconst (v := (0)) hx hb dX7_stays_13 (by decide) ?_
    refine lv_istore_n (lv' := [(2, .int (0 : Int32)), (0, .ref a_q0), (1, .int p1)]) hx hb dX7_stays_14 rfl hl (by decide) rfl (fun ls hl => ?_)
    refine lv_iconst (v := (0)) hx hb dX7_stays_15 (by decide) ?_
    refine lv_istore_n (lv' := [(3, .int (0 : Int32)), (2, .int (0 : Int32)), (0, .ref a_q0), (1, .int p1)]) hx hb dX7_stays_16 rfl hl (by decide) rfl (fun ls hl => ?_)
    obtain ⟨X17, hX17, hf⟩ := pn_bd1_at hf
    refine lp17 N (0 : Int32) (0 : Int32) X17 H locs ls hX17 hP hS (lv_sub hl [2, 3, 1, 0] rfl) ?_
    · intro x2_w14 H locs ls eX hP hS hl
      rw [eX] at hf
      have hf := pn_u1_at hf
      refine lv_iload_n hx hb dX7_stays_59 rfl (lv_at hl 0 rfl) ?_
      obtain ⟨hn15, hf⟩ := pn_bz_at hf
      cases hf
      rw [hQ]
      exact pn_retz hx hb hr hlocks hP hS rfl hn15 dX7_stays_60
  · have hf := pn_ifq c13 hf
    refine lv_iconst (v := (1)) hx hb dX7_stays_9 (by decide) ?_
    refine lv_goto (tgt := 14) hx hb dX7_stays_10 (by decide) ?_
    refine lv_istore_n (lv' := [(2, .int (1 : Int32)), (0, .ref a_q0), (1, .int p1)]) hx hb dX7_stays_14 rfl hl (by decide) rfl (fun ls hl => ?_)
    refine lv_iconst (v := (0)) hx hb dX7_stays_15 (by decide) ?_
    refine lv_istore_n (lv' := [(3, .int (0 : Int32)), (2, .int (1 : Int32)), (0, .ref a_q0), (1, .int p1)]) hx hb dX7_stays_16 rfl hl (by decide) rfl (fun ls hl => ?_)
    obtain ⟨X17, hX17, hf⟩ := pn_bd1_at hf
    refine lp17 N (1 : Int32) (0 : Int32) X17 H locs ls hX17 hP hS (lv_sub hl [2, 3, 1, 0] rfl) ?_
    · intro x2_w16 H locs ls eX hP hS hl
      rw [eX] at hf
      have hf := pn_u1_at hf
      refine lv_iload_n hx hb dX7_stays_59 rfl (lv_at hl 0 rfl) ?_
      obtain ⟨hn17, hf⟩ := pn_bz_at hf
      cases hf
      rw [hQ]
      exact pn_retz hx hb hr hlocks hP hS rfl hn17 dX7_stays_60
def f_X7_layBrief (r_t_brief : Nat → Int32) (p1 : Int32) (p2 : Int32) (p3 : Int32) : Option ((Nat → Int32)) :=
  pn_wrI 8 r_t_brief (0 : Int32) p1 fun g1 =>
  pn_wrI 8 g1 (1 : Int32) (0 : Int32) fun g3 =>
  pn_wrI 8 g3 (2 : Int32) (0 : Int32) fun g5 =>
  pn_wrI 8 g5 (3 : Int32) (0 : Int32) fun g7 =>
  pn_wrI 8 g7 (4 : Int32) (0 : Int32) fun g9 =>
  pn_wrI 8 g9 (5 : Int32) p2 fun g11 =>
  pn_wrI 8 g11 (6 : Int32) p3 fun g13 =>
  some g13
set_option maxHeartbeats 4000000 in
set_option maxRecDepth 100000 in
theorem c_X7_layBrief (l : Launch) (D : va_G) (cI cJ cZ : ClassId) (a_t a_t_text a_t_readPage a_t_page a_t_trial a_t_work a_t_book a_t_kept a_t_isKept a_t_seenWhat a_t_seenV a_t_seenIs a_t_label a_t_finds a_t_reason a_t_caseFirst a_t_brief a_t_printed a_t_renamed a_t_worth : Nat) (sz : Nat) (v_t_thrown : Int32) (v_t_textSize : Int32) (v_t_place : Int32) (v_t_doings : Int32) (v_t_seen : Int32) (v_t_seed : Int64) (v_t_cases : Int32) (v_t_printedSize : Int32) (v_t_lastReason : Int32) (r_t_brief : Nat → Int32) (p1 : Int32) (p2 : Int32) (p3 : Int32) (o_t_brief : Nat → Int32) (hf : f_X7_layBrief r_t_brief p1 p2 p3 = some o_t_brief) : Met l yX7_layBrief wsX7_layBrief { frames := 0, cells := 0, slots := 0, locals := 0 } (pn_Pc D cI cJ cZ [.ref a_t, .int p1, .int p2, .int p3] [(a_t, .inr (6, [.int v_t_thrown, .ref a_t_text, .int v_t_textSize, .int v_t_place, .ref a_t_readPage, .ref a_t_page, .ref a_t_trial, .ref a_t_work, .ref a_t_book, .int v_t_doings, .ref a_t_kept, .ref a_t_isKept, .int v_t_seen, .ref a_t_seenWhat, .ref a_t_seenV, .ref a_t_seenIs, .long v_t_seed, .ref a_t_label, .ref a_t_finds, .ref a_t_reason, .ref a_t_caseFirst, .int v_t_cases, .ref a_t_brief, .ref a_t_printed, .int v_t_printedSize, .ref a_t_renamed, .ref a_t_worth, .int v_t_lastReason])), (a_t_brief, .inl (cI, 8, .inl r_t_brief))] sz) (pn_Qv D [(a_t, .inr (6, [.int v_t_thrown, .ref a_t_text, .int v_t_textSize, .int v_t_place, .ref a_t_readPage, .ref a_t_page, .ref a_t_trial, .ref a_t_work, .ref a_t_book, .int v_t_doings, .ref a_t_kept, .ref a_t_isKept, .int v_t_seen, .ref a_t_seenWhat, .ref a_t_seenV, .ref a_t_seenIs, .long v_t_seed, .ref a_t_label, .ref a_t_finds, .ref a_t_reason, .ref a_t_caseFirst, .int v_t_cases, .ref a_t_brief, .ref a_t_printed, .int v_t_printedSize, .ref a_t_renamed, .ref a_t_worth, .int v_t_lastReason])), (a_t_brief, .inl (cI, 8, .inl o_t_brief))] (va_A [(a_t, .inr (6, [.int v_t_thrown, .ref a_t_text, .int v_t_textSize, .int v_t_place, .ref a_t_readPage, .ref a_t_page, .ref a_t_trial, .ref a_t_work, .ref a_t_book, .int v_t_doings, .ref a_t_kept, .ref a_t_isKept, .int v_t_seen, .ref a_t_seenWhat, .ref a_t_seenV, .ref a_t_seenIs, .long v_t_seed, .ref a_t_label, .ref a_t_finds, .ref a_t_reason, .ref a_t_caseFirst, .int v_t_cases, .ref a_t_brief, .ref a_t_printed, .int v_t_printedSize, .ref a_t_renamed, .ref a_t_worth, .int v_t_lastReason])), (a_t_brief, .inl (cI, 8, .inl r_t_brief))] sz)) 0 0 (va_A [(a_t, .inr (6, [.int v_t_thrown, .ref a_t_text, .int v_t_textSize, .int v_t_place, .ref a_t_readPage, .ref a_t_page, .ref a_t_trial, .ref a_t_work, .ref a_t_book, .int v_t_doings, .ref a_t_kept, .ref a_t_isKept, .int v_t_seen, .ref a_t_seenWhat, .ref a_t_seenV, .ref a_t_seenIs, .long v_t_seed, .ref a_t_label, .ref a_t_finds, .ref a_t_reason, .ref a_t_caseFirst, .int v_t_cases, .ref a_t_brief, .ref a_t_printed, .int v_t_printedSize, .ref a_t_renamed, .ref a_t_worth, .int v_t_lastReason])), (a_t_brief, .inl (cI, 8, .inl r_t_brief))] sz) := by
  refine pn_entry (cc := cX7_layBrief) (maxL := 4) (ret := none) (Qf := pn_Qv D [(a_t, .inr (6, [.int v_t_thrown, .ref a_t_text, .int v_t_textSize, .int v_t_place, .ref a_t_readPage, .ref a_t_page, .ref a_t_trial, .ref a_t_work, .ref a_t_book, .int v_t_doings, .ref a_t_kept, .ref a_t_isKept, .int v_t_seen, .ref a_t_seenWhat, .ref a_t_seenV, .ref a_t_seenIs, .long v_t_seed, .ref a_t_label, .ref a_t_finds, .ref a_t_reason, .ref a_t_caseFirst, .int v_t_cases, .ref a_t_brief, .ref a_t_printed, .int v_t_printedSize, .ref a_t_renamed, .ref a_t_worth, .int v_t_lastReason])), (a_t_brief, .inl (cI, 8, .inl o_t_brief))]) (by decide) rfl (Nat.le_of_ble_eq_true rfl) ?_
  intro p e s m args below meth c A ls H locs Qm hQ hx hb hr hlocks hml hown hts hK hP hD hA hS hl
  have hl : lv_has ls 4 [(0, .ref a_t), (1, .int p1), (2, .int p2), (3, .int p3)] := hl
  have hinX7 : ∀ w ∈ wsX70, w ∈ wsX7_layBrief := by decide +kernel
  have fl_56 := hts (.fieldLink RX7 56 "PointingNotesModel" "brief" "[I") (by decide +kernel)
  rw [f_X7_layBrief] at hf
  refine lv_aload_n hx hb dX7_layBrief_0 rfl (lv_at hl 0 rfl) ?_
  refine va_get (D := D) (ci := 6) (v := .ref a_t_brief) (C := RX7) (T := TX7) (N := 28) hx hb hts hinX7 hown hK.1 hP 0 rfl rfl 22 (by decide) fl_56 (fun _ h9 => h9) rfl dX7_layBrief_1 ?_
  refine lv_iconst (v := (0)) hx hb dX7_layBrief_4 (by decide) ?_
  refine lv_iload_n hx hb dX7_layBrief_5 rfl (lv_at hl 1 rfl) ?_
  obtain ⟨hi2, g1, eg1, hf⟩ := pn_wrI_at hf
  refine pn_stI hx hb hK.1 hP (hD.addr rfl) hS 1 0 rfl rfl hi2 eg1 dX7_layBrief_6 (fun H locs (hP : va_P D vwCl [(a_t, .inr (6, [.int v_t_thrown, .ref a_t_text, .int v_t_textSize, .int v_t_place, .ref a_t_readPage, .ref a_t_page, .ref a_t_trial, .ref a_t_work, .ref a_t_book, .int v_t_doings, .ref a_t_kept, .ref a_t_isKept, .int v_t_seen, .ref a_t_seenWhat, .ref a_t_seenV, .ref a_t_seenIs, .long v_t_seed, .ref a_t_label, .ref a_t_finds, .ref a_t_reason, .ref a_t_caseFirst, .int v_t_cases, .ref a_t_brief, .ref a_t_printed, .int v_t_printedSize, .ref a_t_renamed, .ref a_t_worth, .int v_t_lastReason])), (a_t_brief, .inl (cI, 8, .inl g1))] H) _ hS => ?_)
  refine lv_aload_n hx hb dX7_layBrief_7 rfl (lv_at hl 0 rfl) ?_
  refine va_get (D := D) (ci := 6) (v := .ref a_t_brief) (C := RX7) (T := TX7) (N := 28) hx hb hts hinX7 hown hK.1 hP 0 rfl rfl 22 (by decide) fl_56 (fun _ h9 => h9) rfl dX7_layBrief_8 ?_
  refine lv_iconst (v := (1)) hx hb dX7_layBrief_11 (by decide) ?_
  refine lv_iconst (v := (0)) hx hb dX7_layBrief_12 (by decide) ?_
  obtain ⟨hi4, g3, eg3, hf⟩ := pn_wrI_at hf
  refine pn_stI hx hb hK.1 hP (hD.addr rfl) hS 1 0 rfl rfl hi4 eg3 dX7_layBrief_13 (fun H locs (hP : va_P D vwCl [(a_t, .inr (6, [.int v_t_thrown, .ref a_t_text, .int v_t_textSize, .int v_t_place, .ref a_t_readPage, .ref a_t_page, .ref a_t_trial, .ref a_t_work, .ref a_t_book, .int v_t_doings, .ref a_t_kept, .ref a_t_isKept, .int v_t_seen, .ref a_t_seenWhat, .ref a_t_seenV, .ref a_t_seenIs, .long v_t_seed, .ref a_t_label, .ref a_t_finds, .ref a_t_reason, .ref a_t_caseFirst, .int v_t_cases, .ref a_t_brief, .ref a_t_printed, .int v_t_printedSize, .ref a_t_renamed, .ref a_t_worth, .int v_t_lastReason])), (a_t_brief, .inl (cI, 8, .inl g3))] H) _ hS => ?_)
  refine lv_aload_n hx hb dX7_layBrief_14 rfl (lv_at hl 0 rfl) ?_
  refine va_get (D := D) (ci := 6) (v := .ref a_t_brief) (C := RX7) (T := TX7) (N := 28) hx hb hts hinX7 hown hK.1 hP 0 rfl rfl 22 (by decide) fl_56 (fun _ h9 => h9) rfl dX7_layBrief_15 ?_
  refine lv_iconst (v := (2)) hx hb dX7_layBrief_18 (by decide) ?_
  refine lv_iconst (v := (0)) hx hb dX7_layBrief_19 (by decide) ?_
  obtain ⟨hi6, g5, eg5, hf⟩ := pn_wrI_at hf
  refine pn_stI hx hb hK.1 hP (hD.addr rfl) hS 1 0 rfl rfl hi6 eg5 dX7_layBrief_20 (fun H locs (hP : va_P D vwCl [(a_t, .inr (6, [.int v_t_thrown, .ref a_t_text, .int v_t_textSize, .int v_t_place, .ref a_t_readPage, .ref a_t_page, .ref a_t_trial, .ref a_t_work, .ref a_t_book, .int v_t_doings, .ref a_t_kept, .ref a_t_isKept, .int v_t_seen, .ref a_t_seenWhat, .ref a_t_seenV, .ref a_t_seenIs, .long v_t_seed, .ref a_t_label, .ref a_t_finds, .ref a_t_reason, .ref a_t_caseFirst, .int v_t_cases, .ref a_t_brief, .ref a_t_printed, .int v_t_printedSize, .ref a_t_renamed, .ref a_t_worth, .int v_t_lastReason])), (a_t_brief, .inl (cI, 8, .inl g5))] H) _ hS => ?_)
  refine lv_aload_n hx hb dX7_layBrief_21 rfl (lv_at hl 0 rfl) ?_
  refine va_get (D := D) (ci := 6) (v := .ref a_t_brief) (C := RX7) (T := TX7) (N := 28) hx hb hts hinX7 hown hK.1 hP 0 rfl rfl 22 (by decide) fl_56 (fun _ h9 => h9) rfl dX7_layBrief_22 ?_
  refine lv_iconst (v := (3)) hx hb dX7_layBrief_25 (by decide) ?_
  refine lv_iconst (v := (0)) hx hb dX7_layBrief_26 (by decide) ?_
  obtain ⟨hi8, g7, eg7, hf⟩ := pn_wrI_at hf
  refine pn_stI hx hb hK.1 hP (hD.addr rfl) hS 1 0 rfl rfl hi8 eg7 dX7_layBrief_27 (fun H locs (hP : va_P D vwCl [(a_t, .inr (6, [.int v_t_thrown, .ref a_t_text, .int v_t_textSize, .int v_t_place, .ref a_t_readPage, .ref a_t_page, .ref a_t_trial, .ref a_t_work, .ref a_t_book, .int v_t_doings, .ref a_t_kept, .ref a_t_isKept, .int v_t_seen, .ref a_t_seenWhat, .ref a_t_seenV, .ref a_t_seenIs, .long v_t_seed, .ref a_t_label, .ref a_t_finds, .ref a_t_reason, .ref a_t_caseFirst, .int v_t_cases, .ref a_t_brief, .ref a_t_printed, .int v_t_printedSize, .ref a_t_renamed, .ref a_t_worth, .int v_t_lastReason])), (a_t_brief, .inl (cI, 8, .inl g7))] H) _ hS => ?_)
  refine lv_aload_n hx hb dX7_layBrief_28 rfl (lv_at hl 0 rfl) ?_
  refine va_get (D := D) (ci := 6) (v := .ref a_t_brief) (C := RX7) (T := TX7) (N := 28) hx hb hts hinX7 hown hK.1 hP 0 rfl rfl 22 (by decide) fl_56 (fun _ h9 => h9) rfl dX7_layBrief_29 ?_
  refine lv_iconst (v := (4)) hx hb dX7_layBrief_32 (by decide) ?_
  refine lv_iconst (v := (0)) hx hb dX7_layBrief_33 (by decide) ?_
  obtain ⟨hi10, g9, eg9, hf⟩ := pn_wrI_at hf
  refine pn_stI hx hb hK.1 hP (hD.addr rfl) hS 1 0 rfl rfl hi10 eg9 dX7_layBrief_34 (fun H locs (hP : va_P D vwCl [(a_t, .inr (6, [.int v_t_thrown, .ref a_t_text, .int v_t_textSize, .int v_t_place, .ref a_t_readPage, .ref a_t_page, .ref a_t_trial, .ref a_t_work, .ref a_t_book, .int v_t_doings, .ref a_t_kept, .ref a_t_isKept, .int v_t_seen, .ref a_t_seenWhat, .ref a_t_seenV, .ref a_t_seenIs, .long v_t_seed, .ref a_t_label, .ref a_t_finds, .ref a_t_reason, .ref a_t_caseFirst, .int v_t_cases, .ref a_t_brief, .ref a_t_printed, .int v_t_printedSize, .ref a_t_renamed, .ref a_t_worth, .int v_t_lastReason])), (a_t_brief, .inl (cI, 8, .inl g9))] H) _ hS => ?_)
  refine lv_aload_n hx hb dX7_layBrief_35 rfl (lv_at hl 0 rfl) ?_
  refine va_get (D := D) (ci := 6) (v := .ref a_t_brief) (C := RX7) (T := TX7) (N := 28) hx hb hts hinX7 hown hK.1 hP 0 rfl rfl 22 (by decide) fl_56 (fun _ h9 => h9) rfl dX7_layBrief_36 ?_
  refine lv_iconst (v := (5)) hx hb dX7_layBrief_39 (by decide) ?_
  refine lv_iload_n hx hb dX7_layBrief_40 rfl (lv_at hl 2 rfl) ?_
  obtain ⟨hi12, g11, eg11, hf⟩ := pn_wrI_at hf
  refine pn_stI hx hb hK.1 hP (hD.addr rfl) hS 1 0 rfl rfl hi12 eg11 dX7_layBrief_41 (fun H locs (hP : va_P D vwCl [(a_t, .inr (6, [.int v_t_thrown, .ref a_t_text, .int v_t_textSize, .int v_t_place, .ref a_t_readPage, .ref a_t_page, .ref a_t_trial, .ref a_t_work, .ref a_t_book, .int v_t_doings, .ref a_t_kept, .ref a_t_isKept, .int v_t_seen, .ref a_t_seenWhat, .ref a_t_seenV, .ref a_t_seenIs, .long v_t_seed, .ref a_t_label, .ref a_t_finds, .ref a_t_reason, .ref a_t_caseFirst, .int v_t_cases, .ref a_t_brief, .ref a_t_printed, .int v_t_printedSize, .ref a_t_renamed, .ref a_t_worth, .int v_t_lastReason])), (a_t_brief, .inl (cI, 8, .inl g11))] H) _ hS => ?_)
  refine lv_aload_n hx hb dX7_layBrief_42 rfl (lv_at hl 0 rfl) ?_
  refine va_get (D := D) (ci := 6) (v := .ref a_t_brief) (C := RX7) (T := TX7) (N := 28) hx hb hts hinX7 hown hK.1 hP 0 rfl rfl 22 (by decide) fl_56 (fun _ h9 => h9) rfl dX7_layBrief_43 ?_
  refine lv_bipush (v := (6)) hx hb dX7_layBrief_46 (by decide) ?_
  refine lv_iload_n hx hb dX7_layBrief_48 rfl (lv_at hl 3 rfl) ?_
  obtain ⟨hi14, g13, eg13, hf⟩ := pn_wrI_at hf
  refine pn_stI hx hb hK.1 hP (hD.addr rfl) hS 1 0 rfl rfl hi14 eg13 dX7_layBrief_49 (fun H locs (hP : va_P D vwCl [(a_t, .inr (6, [.int v_t_thrown, .ref a_t_text, .int v_t_textSize, .int v_t_place, .ref a_t_readPage, .ref a_t_page, .ref a_t_trial, .ref a_t_work, .ref a_t_book, .int v_t_doings, .ref a_t_kept, .ref a_t_isKept, .int v_t_seen, .ref a_t_seenWhat, .ref a_t_seenV, .ref a_t_seenIs, .long v_t_seed, .ref a_t_label, .ref a_t_finds, .ref a_t_reason, .ref a_t_caseFirst, .int v_t_cases, .ref a_t_brief, .ref a_t_printed, .int v_t_printedSize, .ref a_t_renamed, .ref a_t_worth, .int v_t_lastReason])), (a_t_brief, .inl (cI, 8, .inl g13))] H) _ hS => ?_)
  cases hf
  rw [hQ]
  exact pn_retv hx hb hr hlocks hP hS dX7_layBrief_50
def lp_X7_laySpelled_2 (r_t_caseFirst : Nat → Int32) (r_q1 : Nat → Int32) (p2 : Int32) : Nat → Int32 → (Nat → Int32) → Option ((Nat → Int32))
  | 0, _, _ => none
  | n + 1, x3, r_t_brief =>
    if (7 : Int32) ≤ x3 then
  some r_t_brief
  else
  pn_rd 32 r_t_caseFirst p2 fun w2 =>
  pn_bd1 (f_X7_ref r_q1 w2 x3) fun ru4 =>
  pn_wrI 8 r_t_brief x3 ru4 fun g5 =>
  pn_nm (x3 + (1 : Int32)) fun z7 =>
  lp_X7_laySpelled_2 r_t_caseFirst r_q1 p2 n z7 g5
def f_X7_laySpelled (N : Nat) (r_t_brief : Nat → Int32) (r_t_caseFirst : Nat → Int32) (r_q1 : Nat → Int32) (p2 : Int32) : Option ((Nat → Int32)) :=
  pn_bd1 (lp_X7_laySpelled_2 r_t_caseFirst r_q1 p2 N (0 : Int32) r_t_brief) (fun X2 => (pn_u1 fun r_t_brief_w8 => some r_t_brief_w8) X2)
set_option maxHeartbeats 4000000 in
set_option maxRecDepth 100000 in
theorem c_X7_laySpelled (l : Launch) (D : va_G) (cI cJ cZ : ClassId) (a_t a_t_text a_t_readPage a_t_page a_t_trial a_t_work a_t_book a_t_kept a_t_isKept a_t_seenWhat a_t_seenV a_t_seenIs a_t_label a_t_finds a_t_reason a_t_caseFirst a_t_brief a_t_printed a_t_renamed a_t_worth a_q1 : Nat) (sz : Nat) (v_t_thrown : Int32) (v_t_textSize : Int32) (v_t_place : Int32) (v_t_doings : Int32) (v_t_seen : Int32) (v_t_seed : Int64) (v_t_cases : Int32) (v_t_printedSize : Int32) (v_t_lastReason : Int32) (N : Nat) (r_t_brief : Nat → Int32) (r_t_caseFirst : Nat → Int32) (r_q1 : Nat → Int32) (p2 : Int32) (o_t_brief : Nat → Int32) (hf : f_X7_laySpelled N r_t_brief r_t_caseFirst r_q1 p2 = some o_t_brief) : Met l yX7_laySpelled wsX7_laySpelled { frames := 1, cells := 0, slots := 0, locals := 22 } (pn_Pc D cI cJ cZ [.ref a_t, .ref a_q1, .int p2] [(a_t, .inr (6, [.int v_t_thrown, .ref a_t_text, .int v_t_textSize, .int v_t_place, .ref a_t_readPage, .ref a_t_page, .ref a_t_trial, .ref a_t_work, .ref a_t_book, .int v_t_doings, .ref a_t_kept, .ref a_t_isKept, .int v_t_seen, .ref a_t_seenWhat, .ref a_t_seenV, .ref a_t_seenIs, .long v_t_seed, .ref a_t_label, .ref a_t_finds, .ref a_t_reason, .ref a_t_caseFirst, .int v_t_cases, .ref a_t_brief, .ref a_t_printed, .int v_t_printedSize, .ref a_t_renamed, .ref a_t_worth, .int v_t_lastReason])), (a_t_brief, .inl (cI, 8, .inl r_t_brief)), (a_t_caseFirst, .inl (cI, 32, .inl r_t_caseFirst)), (a_q1, .inl (cI, 265, .inl r_q1))] sz) (pn_Qv D [(a_t, .inr (6, [.int v_t_thrown, .ref a_t_text, .int v_t_textSize, .int v_t_place, .ref a_t_readPage, .ref a_t_page, .ref a_t_trial, .ref a_t_work, .ref a_t_book, .int v_t_doings, .ref a_t_kept, .ref a_t_isKept, .int v_t_seen, .ref a_t_seenWhat, .ref a_t_seenV, .ref a_t_seenIs, .long v_t_seed, .ref a_t_label, .ref a_t_finds, .ref a_t_reason, .ref a_t_caseFirst, .int v_t_cases, .ref a_t_brief, .ref a_t_printed, .int v_t_printedSize, .ref a_t_renamed, .ref a_t_worth, .int v_t_lastReason])), (a_t_brief, .inl (cI, 8, .inl o_t_brief)), (a_t_caseFirst, .inl (cI, 32, .inl r_t_caseFirst)), (a_q1, .inl (cI, 265, .inl r_q1))] (va_A [(a_t, .inr (6, [.int v_t_thrown, .ref a_t_text, .int v_t_textSize, .int v_t_place, .ref a_t_readPage, .ref a_t_page, .ref a_t_trial, .ref a_t_work, .ref a_t_book, .int v_t_doings, .ref a_t_kept, .ref a_t_isKept, .int v_t_seen, .ref a_t_seenWhat, .ref a_t_seenV, .ref a_t_seenIs, .long v_t_seed, .ref a_t_label, .ref a_t_finds, .ref a_t_reason, .ref a_t_caseFirst, .int v_t_cases, .ref a_t_brief, .ref a_t_printed, .int v_t_printedSize, .ref a_t_renamed, .ref a_t_worth, .int v_t_lastReason])), (a_t_brief, .inl (cI, 8, .inl r_t_brief)), (a_t_caseFirst, .inl (cI, 32, .inl r_t_caseFirst)), (a_q1, .inl (cI, 265, .inl r_q1))] sz)) 0 0 (va_A [(a_t, .inr (6, [.int v_t_thrown, .ref a_t_text, .int v_t_textSize, .int v_t_place, .ref a_t_readPage, .ref a_t_page, .ref a_t_trial, .ref a_t_work, .ref a_t_book, .int v_t_doings, .ref a_t_kept, .ref a_t_isKept, .int v_t_seen, .ref a_t_seenWhat, .ref a_t_seenV, .ref a_t_seenIs, .long v_t_seed, .ref a_t_label, .ref a_t_finds, .ref a_t_reason, .ref a_t_caseFirst, .int v_t_cases, .ref a_t_brief, .ref a_t_printed, .int v_t_printedSize, .ref a_t_renamed, .ref a_t_worth, .int v_t_lastReason])), (a_t_brief, .inl (cI, 8, .inl r_t_brief)), (a_t_caseFirst, .inl (cI, 32, .inl r_t_caseFirst)), (a_q1, .inl (cI, 265, .inl r_q1))] sz) := by
  refine pn_entry (cc := cX7_laySpelled) (maxL := 4) (ret := none) (Qf := pn_Qv D [(a_t, .inr (6, [.int v_t_thrown, .ref a_t_text, .int v_t_textSize, .int v_t_place, .ref a_t_readPage, .ref a_t_page, .ref a_t_trial, .ref a_t_work, .ref a_t_book, .int v_t_doings, .ref a_t_kept, .ref a_t_isKept, .int v_t_seen, .ref a_t_seenWhat, .ref a_t_seenV, .ref a_t_seenIs, .long v_t_seed, .ref a_t_label, .ref a_t_finds, .ref a_t_reason, .ref a_t_caseFirst, .int v_t_cases, .ref a_t_brief, .ref a_t_printed, .int v_t_printedSize, .ref a_t_renamed, .ref a_t_worth, .int v_t_lastReason])), (a_t_brief, .inl (cI, 8, .inl o_t_brief)), (a_t_caseFirst, .inl (cI, 32, .inl r_t_caseFirst)), (a_q1, .inl (cI, 265, .inl r_q1))]) (by decide) rfl (Nat.le_of_ble_eq_true rfl) ?_
  intro p e s m args below meth c A ls H locs Qm hQ hx hb hr hlocks hml hown hts hK hP hD hA hS hl
  have hl : lv_has ls 4 [(0, .ref a_t), (1, .ref a_q1), (2, .int p2)] := hl
  have hinX7 : ∀ w ∈ wsX70, w ∈ wsX7_laySpelled := by decide +kernel
  have fl_53 := hts (.fieldLink RX7 53 "PointingNotesModel" "caseFirst" "[I") (by decide +kernel)
  have fl_56 := hts (.fieldLink RX7 56 "PointingNotesModel" "brief" "[I") (by decide +kernel)
  rw [f_X7_laySpelled] at hf
  have lp2 : ∀ (n : Nat) (x3 : Int32) (r_t_brief : Nat → Int32) (X : (Nat → Int32)) (H : Heap) (locs : List Loc) (ls : Array Slot), lp_X7_laySpelled_2 r_t_caseFirst r_q1 p2 n x3 r_t_brief = some X → va_P D vwCl [(a_t, .inr (6, [.int v_t_thrown, .ref a_t_text, .int v_t_textSize, .int v_t_place, .ref a_t_readPage, .ref a_t_page, .ref a_t_trial, .ref a_t_work, .ref a_t_book, .int v_t_doings, .ref a_t_kept, .ref a_t_isKept, .int v_t_seen, .ref a_t_seenWhat, .ref a_t_seenV, .ref a_t_seenIs, .long v_t_seed, .ref a_t_label, .ref a_t_finds, .ref a_t_reason, .ref a_t_caseFirst, .int v_t_cases, .ref a_t_brief, .ref a_t_printed, .int v_t_printedSize, .ref a_t_renamed, .ref a_t_worth, .int v_t_lastReason])), (a_t_brief, .inl (cI, 8, .inl r_t_brief)), (a_t_caseFirst, .inl (cI, 32, .inl r_t_caseFirst)), (a_q1, .inl (cI, 265, .inl r_q1))] H → va_S A s.heap H locs → lv_has ls 4 [(0, .ref a_t), (1, .ref a_q1), (2, .int p2), (3, .int x3)] → (∀  (r_t_brief' : Nat → Int32) (H : Heap) (locs : List Loc) (ls : Array Slot), X = r_t_brief' → va_P D vwCl [(a_t, .inr (6, [.int v_t_thrown, .ref a_t_text, .int v_t_textSize, .int v_t_place, .ref a_t_readPage, .ref a_t_page, .ref a_t_trial, .ref a_t_work, .ref a_t_book, .int v_t_doings, .ref a_t_kept, .ref a_t_isKept, .int v_t_seen, .ref a_t_seenWhat, .ref a_t_seenV, .ref a_t_seenIs, .long v_t_seed, .ref a_t_label, .ref a_t_finds, .ref a_t_reason, .ref a_t_caseFirst, .int v_t_cases, .ref a_t_brief, .ref a_t_printed, .int v_t_printedSize, .ref a_t_renamed, .ref a_t_worth, .int v_t_lastReason])), (a_t_brief, .inl (cI, 8, .inl (r_t_brief'))), (a_t_caseFirst, .inl (cI, 32, .inl r_t_caseFirst)), (a_q1, .inl (cI, 265, .inl r_q1))] H → va_S A s.heap H locs → lv_has ls 4 [] → W p l e { frames := 1, cells := 0, slots := 0, locals := 22 } s m args below meth c H locs 0 0 Qm (F0 m 31 ls [])) → W p l e { frames := 1, cells := 0, slots := 0, locals := 22 } s m args below meth c H locs 0 0 Qm (F0 m 2 ls []) := by
    intro n
    induction n with
    | zero => intro x3 r_t_brief X H locs ls hf; cases hf
    | succ n ih =>
      intro x3 r_t_brief X H locs ls hf hP hS hl kx31
      rw [lp_X7_laySpelled_2] at hf
      refine lv_iload_n hx hb dX7_laySpelled_2 rfl (lv_at hl 3 rfl) ?_
      refine lv_bipush (v := (7)) hx hb dX7_laySpelled_3 (by decide) ?_
      refine lv_icmp_ge (tgt := 31) hx hb dX7_laySpelled_5 (by decide) (fun c1 => ?_) (fun c1 => ?_)
      · have hf := pn_ifp c1 hf
        exact kx31 r_t_brief H locs ls (Option.some.inj hf).symm hP hS (lv_sub hl [] rfl)
      · have hf := pn_ifn c1 hf
        refine lv_aload_n hx hb dX7_laySpelled_8 rfl (lv_at hl 0 rfl) ?_
        refine va_get (D := D) (ci := 6) (v := .ref a_t_brief) (C := RX7) (T := TX7) (N := 28) hx hb hts hinX7 hown hK.1 hP 0 rfl rfl 22 (by decide) fl_56 (fun _ h9 => h9) rfl dX7_laySpelled_9 ?_
        refine lv_iload_n hx hb dX7_laySpelled_12 rfl (lv_at hl 3 rfl) ?_
        refine lv_aload_n hx hb dX7_laySpelled_13 rfl (lv_at hl 1 rfl) ?_
        refine lv_aload_n hx hb dX7_laySpelled_14 rfl (lv_at hl 0 rfl) ?_
        refine va_get (D := D) (ci := 6) (v := .ref a_t_caseFirst) (C := RX7) (T := TX7) (N := 28) hx hb hts hinX7 hown hK.1 hP 0 rfl rfl 20 (by decide) fl_53 (fun _ h9 => h9) rfl dX7_laySpelled_15 ?_
        refine lv_iload_n hx hb dX7_laySpelled_18 rfl (lv_at hl 2 rfl) ?_
        obtain ⟨hi3, w2, ew2, hf⟩ := pn_rd_at hf
        refine pn_ldI hx hb hK.1 hP 2 0 rfl rfl hi3 ew2 dX7_laySpelled_19 ?_
        refine lv_iload_n hx hb dX7_laySpelled_20 rfl (lv_at hl 3 rfl) ?_
        obtain ⟨ru4, hu4, hf⟩ := pn_bd1_at hf
        refine pn_calli [3] (va_runS (As := [.ref a_q1, .int w2, .int x3]) (rest := [.int x3, .ref a_t_brief]) ⟨hx, hb, hml, hown, hts⟩ (c_X7_ref l D cI cJ cZ a_q1 H.size r_q1 w2 x3 ru4 hu4) (va_cwS 3 hts gX7_laySpelled_X7_ref rfl rfl rfl hdX7_ref ⟨Nat.le_of_ble_eq_true rfl, Nat.le_of_ble_eq_true rfl⟩) (pn_preS [3] hP (hD.addr rfl) hK rfl rfl) rfl rfl hl.1 rfl (lv_room (Nat.le_of_ble_eq_true rfl)) dX7_laySpelled_21 ⟨Nat.zero_le _, Nat.zero_le _⟩) hP (hD.addr rfl) hS hA rfl rfl rfl (fun H locs (hP : va_P D vwCl [(a_t, .inr (6, [.int v_t_thrown, .ref a_t_text, .int v_t_textSize, .int v_t_place, .ref a_t_readPage, .ref a_t_page, .ref a_t_trial, .ref a_t_work, .ref a_t_book, .int v_t_doings, .ref a_t_kept, .ref a_t_isKept, .int v_t_seen, .ref a_t_seenWhat, .ref a_t_seenV, .ref a_t_seenIs, .long v_t_seed, .ref a_t_label, .ref a_t_finds, .ref a_t_reason, .ref a_t_caseFirst, .int v_t_cases, .ref a_t_brief, .ref a_t_printed, .int v_t_printedSize, .ref a_t_renamed, .ref a_t_worth, .int v_t_lastReason])), (a_t_brief, .inl (cI, 8, .inl r_t_brief)), (a_t_caseFirst, .inl (cI, 32, .inl r_t_caseFirst)), (a_q1, .inl (cI, 265, .inl r_q1))] H) _ hS => ?_)
        obtain ⟨hi6, g5, eg5, hf⟩ := pn_wrI_at hf
        refine pn_stI hx hb hK.1 hP (hD.addr rfl) hS 1 0 rfl rfl hi6 eg5 dX7_laySpelled_24 (fun H locs (hP : va_P D vwCl [(a_t, .inr (6, [.int v_t_thrown, .ref a_t_text, .int v_t_textSize, .int v_t_place, .ref a_t_readPage, .ref a_t_page, .ref a_t_trial, .ref a_t_work, .ref a_t_book, .int v_t_doings, .ref a_t_kept, .ref a_t_isKept, .int v_t_seen, .ref a_t_seenWhat, .ref a_t_seenV, .ref a_t_seenIs, .long v_t_seed, .ref a_t_label, .ref a_t_finds, .ref a_t_reason, .ref a_t_caseFirst, .int v_t_cases, .ref a_t_brief, .ref a_t_printed, .int v_t_printedSize, .ref a_t_renamed, .ref a_t_worth, .int v_t_lastReason])), (a_t_brief, .inl (cI, 8, .inl g5)), (a_t_caseFirst, .inl (cI, 32, .inl r_t_caseFirst)), (a_q1, .inl (cI, 265, .inl r_q1))] H) _ hS => ?_)
        obtain ⟨z7, ez7⟩ : ∃ y : Int32, y = x3 + (1) := ⟨_, rfl⟩
        have hf := pn_nm_at ez7 hf
        refine lv_iinc (v := z7) (lv' := [(3, .int z7), (0, .ref a_t), (1, .ref a_q1), (2, .int p2)]) hx hb dX7_laySpelled_25 hl (k := 3) rfl (by rw [ez7]; rfl) (by decide) rfl (fun ls hl => ?_)
        refine lv_goto (tgt := 2) hx hb dX7_laySpelled_28 (by decide) ?_
        exact ih z7 g5 X H locs ls hf hP hS (lv_sub hl [1, 2, 3, 0] rfl) kx31
  refine lv_iconst (v := (0)) hx hb dX7_laySpelled_0 (by decide) ?_
  refine lv_istore_n (lv' := [(3, .int (0 : Int32)), (0, .ref a_t), (1, .ref a_q1), (2, .int p2)]) hx hb dX7_laySpelled_1 rfl hl (by decide) rfl (fun ls hl => ?_)
  obtain ⟨X2, hX2, hf⟩ := pn_bd1_at hf
  refine lp2 N (0 : Int32) r_t_brief X2 H locs ls hX2 hP hS (lv_sub hl [1, 2, 3, 0] rfl) ?_
  · intro r_t_brief_w8 H locs ls eX hP hS hl
    rw [eX] at hf
    have hf := pn_u1_at hf
    cases hf
    rw [hQ]
    exact pn_retv hx hb hr hlocks hP hS dX7_laySpelled_31
