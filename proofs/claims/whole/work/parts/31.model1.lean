theorem hdX7_readPaper : yX7_readPaper.cls = RX7 ∧ yX7_readPaper.cls ≠ "java/lang/invoke/MethodHandle" ∧ yX7_readPaper.cls ≠ "java/lang/invoke/VarHandle" ∧ (parseMethodDescriptor yX7_readPaper.desc).map (fun d => d.parameters.length) = some 0 := by decide +kernel
theorem hdX7_fault : yX7_fault.cls = RX7 ∧ yX7_fault.cls ≠ "java/lang/invoke/MethodHandle" ∧ yX7_fault.cls ≠ "java/lang/invoke/VarHandle" ∧ (parseMethodDescriptor yX7_fault.desc).map (fun d => d.parameters.length) = some 0 := by decide +kernel
theorem hdX7_paper : yX7_paper.cls = RX7 ∧ yX7_paper.cls ≠ "java/lang/invoke/MethodHandle" ∧ yX7_paper.cls ≠ "java/lang/invoke/VarHandle" ∧ (parseMethodDescriptor yX7_paper.desc).map (fun d => d.parameters.length) = some 0 := by decide +kernel
theorem hdX7_reference : yX7_reference.cls = RX7 ∧ yX7_reference.cls ≠ "java/lang/invoke/MethodHandle" ∧ yX7_reference.cls ≠ "java/lang/invoke/VarHandle" ∧ (parseMethodDescriptor yX7_reference.desc).map (fun d => d.parameters.length) = some 3 := by decide +kernel
theorem hdX7_isSpelled : yX7_isSpelled.cls ≠ "java/lang/invoke/MethodHandle" ∧ yX7_isSpelled.cls ≠ "java/lang/invoke/VarHandle" ∧ (parseMethodDescriptor yX7_isSpelled.desc).map (fun d => d.parameters.length) = some 3 := by decide +kernel
theorem hdX7_hasReport : yX7_hasReport.cls ≠ "java/lang/invoke/MethodHandle" ∧ yX7_hasReport.cls ≠ "java/lang/invoke/VarHandle" ∧ (parseMethodDescriptor yX7_hasReport.desc).map (fun d => d.parameters.length) = some 3 := by decide +kernel
theorem hdX7_meets : yX7_meets.cls ≠ "java/lang/invoke/MethodHandle" ∧ yX7_meets.cls ≠ "java/lang/invoke/VarHandle" ∧ (parseMethodDescriptor yX7_meets.desc).map (fun d => d.parameters.length) = some 3 := by decide +kernel
theorem hdX7_layCases : yX7_layCases.cls = RX7 ∧ yX7_layCases.cls ≠ "java/lang/invoke/MethodHandle" ∧ yX7_layCases.cls ≠ "java/lang/invoke/VarHandle" ∧ (parseMethodDescriptor yX7_layCases.desc).map (fun d => d.parameters.length) = some 2 := by decide +kernel
theorem hdX7_caseOf : yX7_caseOf.cls = RX7 ∧ yX7_caseOf.cls ≠ "java/lang/invoke/MethodHandle" ∧ yX7_caseOf.cls ≠ "java/lang/invoke/VarHandle" ∧ (parseMethodDescriptor yX7_caseOf.desc).map (fun d => d.parameters.length) = some 1 := by decide +kernel
theorem hdX7_initial : yX7_initial.cls = RX7 ∧ yX7_initial.cls ≠ "java/lang/invoke/MethodHandle" ∧ yX7_initial.cls ≠ "java/lang/invoke/VarHandle" ∧ (parseMethodDescriptor yX7_initial.desc).map (fun d => d.parameters.length) = some 2 := by decide +kernel
theorem hdX7_byShort : yX7_byShort.cls = RX7 ∧ yX7_byShort.cls ≠ "java/lang/invoke/MethodHandle" ∧ yX7_byShort.cls ≠ "java/lang/invoke/VarHandle" ∧ (parseMethodDescriptor yX7_byShort.desc).map (fun d => d.parameters.length) = some 4 := by decide +kernel
theorem hdX7_byAbove : yX7_byAbove.cls = RX7 ∧ yX7_byAbove.cls ≠ "java/lang/invoke/MethodHandle" ∧ yX7_byAbove.cls ≠ "java/lang/invoke/VarHandle" ∧ (parseMethodDescriptor yX7_byAbove.desc).map (fun d => d.parameters.length) = some 4 := by decide +kernel
def j_X7_readPaper_131 (rc : Int32 → Int32 → (Nat → Int32) → Option ((Int32 × (Nat → Int32)) ⊕ (Int32 × (Nat → Int32)))) (v_t_textSize : Int32) (r_t_text : Nat → Int32) (x1 : Int32) (v_t_place : Int32) (r_t_readPage : Nat → Int32) : Option ((Int32 × (Nat → Int32)) ⊕ (Int32 × (Nat → Int32))) :=
  pn_bd1 (f_X7_next v_t_textSize v_t_place r_t_text) fun ru1 =>
  if ¬ ru1 = (59 : Int32) then
  rc x1 v_t_place r_t_readPage
  else
  pn_rd 265 r_t_readPage (0 : Int32) fun w3 =>
  if (8 : Int32) ≤ w3 then
  rc x1 v_t_place r_t_readPage
  else
  pn_nm (v_t_place + (1 : Int32)) fun z6 =>
  pn_rd 265 r_t_readPage (0 : Int32) fun w7 =>
  pn_wrI 265 r_t_readPage ((1 : Int32) + w7) (0 : Int32) fun g9 =>
  pn_rd 265 g9 (0 : Int32) fun w11 =>
  pn_wrI 265 g9 (0 : Int32) (w11 + (1 : Int32)) fun g13 =>
  rc (1 : Int32) z6 g13
def lp_X7_readPaper_38 (N : Nat) (v_t_textSize : Int32) (r_t_text : Nat → Int32) : Nat → Int32 → Int32 → (Nat → Int32) → Option ((Int32 × (Nat → Int32)) ⊕ (Int32 × (Nat → Int32)))
  | 0, _, _, _ => none
  | n + 1, x1, v_t_place, r_t_readPage =>
    if x1 = 0 then
  some (.inr (v_t_place, r_t_readPage))
  else
  pn_rd 265 r_t_readPage (0 : Int32) fun w16 =>
  pn_nm (w16 - (1 : Int32)) fun z18 =>
  pn_rd 265 r_t_readPage ((1 : Int32) + z18) fun w19 =>
  pn_bd3 (f_X7_readReference N v_t_textSize v_t_place r_t_readPage r_t_text ((9 : Int32) + ((8 : Int32) * (((4 : Int32) * z18) + w19)))) fun ru21 v_t_place_u21 r_t_readPage_u21 =>
  if ¬ ru21 = 0 then
  pn_rd 265 r_t_readPage_u21 ((1 : Int32) + z18) fun w23 =>
  pn_wrI 265 r_t_readPage_u21 ((1 : Int32) + z18) (w23 + (1 : Int32)) fun g25 =>
  pn_bd1 (f_X7_next v_t_textSize v_t_place_u21 r_t_text) fun ru27 =>
  if ¬ ru27 = (44 : Int32) then
  j_X7_readPaper_131 (lp_X7_readPaper_38 N v_t_textSize r_t_text n) v_t_textSize r_t_text (0 : Int32) v_t_place_u21 g25
  else
  pn_rd 265 g25 ((1 : Int32) + z18) fun w29 =>
  if (4 : Int32) ≤ w29 then
  j_X7_readPaper_131 (lp_X7_readPaper_38 N v_t_textSize r_t_text n) v_t_textSize r_t_text (0 : Int32) v_t_place_u21 g25
  else
  pn_nm (v_t_place_u21 + (1 : Int32)) fun z32 =>
  lp_X7_readPaper_38 N v_t_textSize r_t_text n (1 : Int32) z32 g25
  else
  some (.inl (v_t_place_u21, r_t_readPage_u21))
def f_X7_readPaper (N : Nat) (v_t_textSize : Int32) (v_t_place : Int32) (r_t_readPage : Nat → Int32) (r_t_text : Nat → Int32) : Option (Int32 × Int32 × (Nat → Int32)) :=
  pn_wrI 265 r_t_readPage (0 : Int32) (0 : Int32) fun g33 =>
  if ¬ v_t_textSize = 0 then
  pn_wrI 265 g33 (0 : Int32) (1 : Int32) fun g36 =>
  pn_wrI 265 g36 (1 : Int32) (0 : Int32) fun g38 =>
  pn_bd1 (lp_X7_readPaper_38 N v_t_textSize r_t_text N (1 : Int32) (0 : Int32) g38) (fun X38 => pn_s2 X38 (pn_u2 fun v_t_place_w40 r_t_readPage_w40 => some (v_t_place_w40, v_t_place_w40, r_t_readPage_w40)) (fun Y38_0 => (pn_u2 fun v_t_place_w41 r_t_readPage_w41 => if ¬ v_t_place_w41 = v_t_textSize then
  some (v_t_place_w41, v_t_place_w41, r_t_readPage_w41)
  else
  some ((-9 : Int32), v_t_place_w41, r_t_readPage_w41)) Y38_0))
  else
  some ((-9 : Int32), (0 : Int32), g33)
set_option maxHeartbeats 4000000 in
set_option maxRecDepth 100000 in
theorem c_X7_readPaper (l : Launch) (D : va_G) (cI cJ cZ : ClassId) (a_t a_t_text a_t_readPage a_t_page a_t_trial a_t_work a_t_book a_t_kept a_t_isKept a_t_seenWhat a_t_seenV a_t_seenIs a_t_label a_t_finds a_t_reason a_t_caseFirst a_t_brief a_t_printed a_t_renamed a_t_worth : Nat) (sz : Nat) (v_t_thrown : Int32) (v_t_doings : Int32) (v_t_seen : Int32) (v_t_seed : Int64) (v_t_cases : Int32) (v_t_printedSize : Int32) (v_t_lastReason : Int32) (N : Nat) (v_t_textSize : Int32) (v_t_place : Int32) (r_t_readPage : Nat → Int32) (r_t_text : Nat → Int32) (rR : Int32) (o_t_place : Int32) (o_t_readPage : Nat → Int32) (hf : f_X7_readPaper N v_t_textSize v_t_place r_t_readPage r_t_text = some (rR, o_t_place, o_t_readPage)) : Met l yX7_readPaper wsX7_readPaper { frames := 7, cells := 0, slots := 0, locals := 164 } (pn_Pc D cI cJ cZ [.ref a_t] [(a_t, .inr (6, [.int v_t_thrown, .ref a_t_text, .int v_t_textSize, .int v_t_place, .ref a_t_readPage, .ref a_t_page, .ref a_t_trial, .ref a_t_work, .ref a_t_book, .int v_t_doings, .ref a_t_kept, .ref a_t_isKept, .int v_t_seen, .ref a_t_seenWhat, .ref a_t_seenV, .ref a_t_seenIs, .long v_t_seed, .ref a_t_label, .ref a_t_finds, .ref a_t_reason, .ref a_t_caseFirst, .int v_t_cases, .ref a_t_brief, .ref a_t_printed, .int v_t_printedSize, .ref a_t_renamed, .ref a_t_worth, .int v_t_lastReason])), (a_t_readPage, .inl (cI, 265, .inl r_t_readPage)), (a_t_text, .inl (cI, 120, .inl r_t_text))] sz) (pn_Qi D rR [(a_t, .inr (6, [.int v_t_thrown, .ref a_t_text, .int v_t_textSize, .int o_t_place, .ref a_t_readPage, .ref a_t_page, .ref a_t_trial, .ref a_t_work, .ref a_t_book, .int v_t_doings, .ref a_t_kept, .ref a_t_isKept, .int v_t_seen, .ref a_t_seenWhat, .ref a_t_seenV, .ref a_t_seenIs, .long v_t_seed, .ref a_t_label, .ref a_t_finds, .ref a_t_reason, .ref a_t_caseFirst, .int v_t_cases, .ref a_t_brief, .ref a_t_printed, .int v_t_printedSize, .ref a_t_renamed, .ref a_t_worth, .int v_t_lastReason])), (a_t_readPage, .inl (cI, 265, .inl o_t_readPage)), (a_t_text, .inl (cI, 120, .inl r_t_text))] (va_A [(a_t, .inr (6, [.int v_t_thrown, .ref a_t_text, .int v_t_textSize, .int v_t_place, .ref a_t_readPage, .ref a_t_page, .ref a_t_trial, .ref a_t_work, .ref a_t_book, .int v_t_doings, .ref a_t_kept, .ref a_t_isKept, .int v_t_seen, .ref a_t_seenWhat, .ref a_t_seenV, .ref a_t_seenIs, .long v_t_seed, .ref a_t_label, .ref a_t_finds, .ref a_t_reason, .ref a_t_caseFirst, .int v_t_cases, .ref a_t_brief, .ref a_t_printed, .int v_t_printedSize, .ref a_t_renamed, .ref a_t_worth, .int v_t_lastReason])), (a_t_readPage, .inl (cI, 265, .inl r_t_readPage)), (a_t_text, .inl (cI, 120, .inl r_t_text))] sz)) 0 0 (va_A [(a_t, .inr (6, [.int v_t_thrown, .ref a_t_text, .int v_t_textSize, .int v_t_place, .ref a_t_readPage, .ref a_t_page, .ref a_t_trial, .ref a_t_work, .ref a_t_book, .int v_t_doings, .ref a_t_kept, .ref a_t_isKept, .int v_t_seen, .ref a_t_seenWhat, .ref a_t_seenV, .ref a_t_seenIs, .long v_t_seed, .ref a_t_label, .ref a_t_finds, .ref a_t_reason, .ref a_t_caseFirst, .int v_t_cases, .ref a_t_brief, .ref a_t_printed, .int v_t_printedSize, .ref a_t_renamed, .ref a_t_worth, .int v_t_lastReason])), (a_t_readPage, .inl (cI, 265, .inl r_t_readPage)), (a_t_text, .inl (cI, 120, .inl r_t_text))] sz) := by
  refine pn_entry (cc := cX7_readPaper) (maxL := 3) (ret := (some .int)) (Qf := pn_Qi D rR [(a_t, .inr (6, [.int v_t_thrown, .ref a_t_text, .int v_t_textSize, .int o_t_place, .ref a_t_readPage, .ref a_t_page, .ref a_t_trial, .ref a_t_work, .ref a_t_book, .int v_t_doings, .ref a_t_kept, .ref a_t_isKept, .int v_t_seen, .ref a_t_seenWhat, .ref a_t_seenV, .ref a_t_seenIs, .long v_t_seed, .ref a_t_label, .ref a_t_finds, .ref a_t_reason, .ref a_t_caseFirst, .int v_t_cases, .ref a_t_brief, .ref a_t_printed, .int v_t_printedSize, .ref a_t_renamed, .ref a_t_worth, .int v_t_lastReason])), (a_t_readPage, .inl (cI, 265, .inl o_t_readPage)), (a_t_text, .inl (cI, 120, .inl r_t_text))]) (by decide) rfl (Nat.le_of_ble_eq_true rfl) ?_
  intro p e s m args below meth c A ls H locs Qm hQ hx hb hr hlocks hml hown hts hK hP hD hA hS hl
  have hl : lv_has ls 3 [(0, .ref a_t)] := hl
  have hinX7 : ∀ w ∈ wsX70, w ∈ wsX7_readPaper := by decide +kernel
  have fl_13 := hts (.fieldLink RX7 13 "PointingNotesModel" "readPage" "[I") (by decide +kernel)
  have fl_86 := hts (.fieldLink RX7 86 "PointingNotesModel" "textSize" "I") (by decide +kernel)
  have fl_89 := hts (.fieldLink RX7 89 "PointingNotesModel" "place" "I") (by decide +kernel)
  rw [f_X7_readPaper] at hf
  have lp38 : ∀ (n : Nat) (x1 : Int32) (v_t_place : Int32) (r_t_readPage : Nat → Int32) (X : (Int32 × (Nat → Int32)) ⊕ (Int32 × (Nat → Int32))) (H : Heap) (locs : List Loc) (ls : Array Slot), lp_X7_readPaper_38 N v_t_textSize r_t_text n x1 v_t_place r_t_readPage = some X → va_P D vwCl [(a_t, .inr (6, [.int v_t_thrown, .ref a_t_text, .int v_t_textSize, .int v_t_place, .ref a_t_readPage, .ref a_t_page, .ref a_t_trial, .ref a_t_work, .ref a_t_book, .int v_t_doings, .ref a_t_kept, .ref a_t_isKept, .int v_t_seen, .ref a_t_seenWhat, .ref a_t_seenV, .ref a_t_seenIs, .long v_t_seed, .ref a_t_label, .ref a_t_finds, .ref a_t_reason, .ref a_t_caseFirst, .int v_t_cases, .ref a_t_brief, .ref a_t_printed, .int v_t_printedSize, .ref a_t_renamed, .ref a_t_worth, .int v_t_lastReason])), (a_t_readPage, .inl (cI, 265, .inl r_t_readPage)), (a_t_text, .inl (cI, 120, .inl r_t_text))] H → va_S A s.heap H locs → lv_has ls 3 [(0, .ref a_t), (1, .int x1)] → (∀  (v_t_place' : Int32) (r_t_readPage' : Nat → Int32) (H : Heap) (locs : List Loc) (ls : Array Slot), X = .inl (v_t_place', r_t_readPage') → va_P D vwCl [(a_t, .inr (6, [.int v_t_thrown, .ref a_t_text, .int v_t_textSize, .int (v_t_place'), .ref a_t_readPage, .ref a_t_page, .ref a_t_trial, .ref a_t_work, .ref a_t_book, .int v_t_doings, .ref a_t_kept, .ref a_t_isKept, .int v_t_seen, .ref a_t_seenWhat, .ref a_t_seenV, .ref a_t_seenIs, .long v_t_seed, .ref a_t_label, .ref a_t_finds, .ref a_t_reason, .ref a_t_caseFirst, .int v_t_cases, .ref a_t_brief, .ref a_t_printed, .int v_t_printedSize, .ref a_t_renamed, .ref a_t_worth, .int v_t_lastReason])), (a_t_readPage, .inl (cI, 265, .inl (r_t_readPage'))), (a_t_text, .inl (cI, 120, .inl r_t_text))] H → va_S A s.heap H locs → lv_has ls 3 [(0, .ref a_t)] → W p l e { frames := 7, cells := 0, slots := 0, locals := 164 } s m args below meth c H locs 0 0 Qm (F0 m 76 ls [])) → (∀  (v_t_place' : Int32) (r_t_readPage' : Nat → Int32) (H : Heap) (locs : List Loc) (ls : Array Slot), X = .inr (v_t_place', r_t_readPage') → va_P D vwCl [(a_t, .inr (6, [.int v_t_thrown, .ref a_t_text, .int v_t_textSize, .int (v_t_place'), .ref a_t_readPage, .ref a_t_page, .ref a_t_trial, .ref a_t_work, .ref a_t_book, .int v_t_doings, .ref a_t_kept, .ref a_t_isKept, .int v_t_seen, .ref a_t_seenWhat, .ref a_t_seenV, .ref a_t_seenIs, .long v_t_seed, .ref a_t_label, .ref a_t_finds, .ref a_t_reason, .ref a_t_caseFirst, .int v_t_cases, .ref a_t_brief, .ref a_t_printed, .int v_t_printedSize, .ref a_t_renamed, .ref a_t_worth, .int v_t_lastReason])), (a_t_readPage, .inl (cI, 265, .inl (r_t_readPage'))), (a_t_text, .inl (cI, 120, .inl r_t_text))] H → va_S A s.heap H locs → lv_has ls 3 [(0, .ref a_t)] → W p l e { frames := 7, cells := 0, slots := 0, locals := 164 } s m args below meth c H locs 0 0 Qm (F0 m 190 ls [])) → W p l e { frames := 7, cells := 0, slots := 0, locals := 164 } s m args below meth c H locs 0 0 Qm (F0 m 38 ls []) := by
    intro n
    induction n with
    | zero => intro x1 v_t_place r_t_readPage X H locs ls hf; cases hf
    | succ n ih =>
      intro x1 v_t_place r_t_readPage X H locs ls hf hP hS hl kx76 kx190
      rw [lp_X7_readPaper_38] at hf
      have jn131 : ∀ (x1 : Int32) (v_t_place : Int32) (r_t_readPage : Nat → Int32) (H : Heap) (locs : List Loc) (ls : Array Slot), j_X7_readPaper_131 (lp_X7_readPaper_38 N v_t_textSize r_t_text n) v_t_textSize r_t_text x1 v_t_place r_t_readPage = some X → va_P D vwCl [(a_t, .inr (6, [.int v_t_thrown, .ref a_t_text, .int v_t_textSize, .int v_t_place, .ref a_t_readPage, .ref a_t_page, .ref a_t_trial, .ref a_t_work, .ref a_t_book, .int v_t_doings, .ref a_t_kept, .ref a_t_isKept, .int v_t_seen, .ref a_t_seenWhat, .ref a_t_seenV, .ref a_t_seenIs, .long v_t_seed, .ref a_t_label, .ref a_t_finds, .ref a_t_reason, .ref a_t_caseFirst, .int v_t_cases, .ref a_t_brief, .ref a_t_printed, .int v_t_printedSize, .ref a_t_renamed, .ref a_t_worth, .int v_t_lastReason])), (a_t_readPage, .inl (cI, 265, .inl r_t_readPage)), (a_t_text, .inl (cI, 120, .inl r_t_text))] H → va_S A s.heap H locs → lv_has ls 3 [(0, .ref a_t), (1, .int x1)] → W p l e { frames := 7, cells := 0, slots := 0, locals := 164 } s m args below meth c H locs 0 0 Qm (F0 m 131 ls []) := by
        intro x1 v_t_place r_t_readPage H locs ls hf hP hS hl
        rw [j_X7_readPaper_131] at hf
        refine lv_aload_n hx hb dX7_readPaper_131 rfl (lv_at hl 0 rfl) ?_
        obtain ⟨ru1, hu1, hf⟩ := pn_bd1_at hf
        refine pn_calli [0, 2] (va_runV (As := []) (rest := []) ⟨hx, hb, hml, hown, hts⟩ (c_X7_next l D cI cJ cZ a_t a_t_text a_t_readPage a_t_page a_t_trial a_t_work a_t_book a_t_kept a_t_isKept a_t_seenWhat a_t_seenV a_t_seenIs a_t_label a_t_finds a_t_reason a_t_caseFirst a_t_brief a_t_printed a_t_renamed a_t_worth H.size v_t_thrown v_t_doings v_t_seen v_t_seed v_t_cases v_t_printedSize v_t_lastReason v_t_textSize v_t_place r_t_text ru1 hu1) (cwV 0 hts gX7_readPaper_X7_next rfl rfl rfl hdX7_next ⟨Nat.le_of_ble_eq_true rfl, Nat.le_of_ble_eq_true rfl⟩) (pn_preV [0, 2] hP (hD.addr rfl) hK rfl rfl (q0 := 0) (ci := 6) rfl rfl) rfl rfl hl.1 rfl (lv_room (Nat.le_of_ble_eq_true rfl)) dX7_readPaper_132 ⟨Nat.zero_le _, Nat.zero_le _⟩) hP (hD.addr rfl) hS hA rfl rfl rfl (fun H locs (hP : va_P D vwCl [(a_t, .inr (6, [.int v_t_thrown, .ref a_t_text, .int v_t_textSize, .int v_t_place, .ref a_t_readPage, .ref a_t_page, .ref a_t_trial, .ref a_t_work, .ref a_t_book, .int v_t_doings, .ref a_t_kept, .ref a_t_isKept, .int v_t_seen, .ref a_t_seenWhat, .ref a_t_seenV, .ref a_t_seenIs, .long v_t_seed, .ref a_t_label, .ref a_t_finds, .ref a_t_reason, .ref a_t_caseFirst, .int v_t_cases, .ref a_t_brief, .ref a_t_printed, .int v_t_printedSize, .ref a_t_renamed, .ref a_t_worth, .int v_t_lastReason])), (a_t_readPage, .inl (cI, 265, .inl r_t_readPage)), (a_t_text, .inl (cI, 120, .inl r_t_text))] H) _ hS => ?_)
        refine lv_bipush (v := (59)) hx hb dX7_readPaper_135 (by decide) ?_
        refine lv_icmp_ne (tgt := 187) hx hb dX7_readPaper_137 (by decide) (fun c2 => ?_) (fun c2 => ?_)
        · have hf := pn_ifp c2 hf
          refine lv_goto (tgt := 38) hx hb dX7_readPaper_187 (by decide) ?_
          exact ih x1 v_t_place r_t_readPage X H locs ls hf hP hS (lv_sub hl [0, 1] rfl) kx76 kx190
        · have hf := pn_ifq c2 hf
          refine lv_aload_n hx hb dX7_readPaper_140 rfl (lv_at hl 0 rfl) ?_
          refine va_get (D := D) (ci := 6) (v := .ref a_t_readPage) (C := RX7) (T := TX7) (N := 28) hx hb hts hinX7 hown hK.1 hP 0 rfl rfl 4 (by decide) fl_13 (fun _ h9 => h9) rfl dX7_readPaper_141 ?_
          refine lv_iconst (v := (0)) hx hb dX7_readPaper_144 (by decide) ?_
          obtain ⟨hi4, w3, ew3, hf⟩ := pn_rd_at hf
          refine pn_ldI hx hb hK.1 hP 1 0 rfl rfl hi4 ew3 dX7_readPaper_145 ?_
          refine lv_bipush (v := (8)) hx hb dX7_readPaper_146 (by decide) ?_
          refine lv_icmp_ge (tgt := 187) hx hb dX7_readPaper_148 (by decide) (fun c5 => ?_) (fun c5 => ?_)
          · have hf := pn_ifp c5 hf
            refine lv_goto (tgt := 38) hx hb dX7_readPaper_187 (by decide) ?_
            exact ih x1 v_t_place r_t_readPage X H locs ls hf hP hS (lv_sub hl [0, 1] rfl) kx76 kx190
          · have hf := pn_ifn c5 hf
            refine lv_aload_n hx hb dX7_readPaper_151 rfl (lv_at hl 0 rfl) ?_
            refine lv_dup hx hb dX7_readPaper_152 rfl ?_
            refine va_get (D := D) (ci := 6) (v := .int v_t_place) (C := RX7) (T := TX7) (N := 28) hx hb hts hinX7 hown hK.1 hP 0 rfl rfl 3 (by decide) fl_89 (fun _ h9 => h9) rfl dX7_readPaper_153 ?_
            refine lv_iconst (v := (1)) hx hb dX7_readPaper_156 (by decide) ?_
            refine lv_iadd hx hb dX7_readPaper_157 ?_
            refine lv_topi (fun z6 ez6 => ?_)
            have hf := pn_nm_at ez6 hf
            refine va_put (D := D) (ci := 6) (v := .int z6) (ty := .int) (C := RX7) (T := TX7) (N := 28) hx hb hts hinX7 tyX7 tyX7_ok nmX7 hown hK.1 hP (hD.addr rfl) hS 0 rfl rfl 3 (by decide) fl_89 (fun _ h9 => h9) rfl (by decide +kernel) rfl rfl (Nat.le_of_ble_eq_true rfl) dX7_readPaper_158 (fun H locs (hP : va_P D vwCl [(a_t, .inr (6, [.int v_t_thrown, .ref a_t_text, .int v_t_textSize, .int z6, .ref a_t_readPage, .ref a_t_page, .ref a_t_trial, .ref a_t_work, .ref a_t_book, .int v_t_doings, .ref a_t_kept, .ref a_t_isKept, .int v_t_seen, .ref a_t_seenWhat, .ref a_t_seenV, .ref a_t_seenIs, .long v_t_seed, .ref a_t_label, .ref a_t_finds, .ref a_t_reason, .ref a_t_caseFirst, .int v_t_cases, .ref a_t_brief, .ref a_t_printed, .int v_t_printedSize, .ref a_t_renamed, .ref a_t_worth, .int v_t_lastReason])), (a_t_readPage, .inl (cI, 265, .inl r_t_readPage)), (a_t_text, .inl (cI, 120, .inl r_t_text))] H) _ hS => ?_)
            refine lv_aload_n hx hb dX7_readPaper_161 rfl (lv_at hl 0 rfl) ?_
            refine va_get (D := D) (ci := 6) (v := .ref a_t_readPage) (C := RX7) (T := TX7) (N := 28) hx hb hts hinX7 hown hK.1 hP 0 rfl rfl 4 (by decide) fl_13 (fun _ h9 => h9) rfl dX7_readPaper_162 ?_
            refine lv_iconst (v := (1)) hx hb dX7_readPaper_165 (by decide) ?_
            refine lv_aload_n hx hb dX7_readPaper_166 rfl (lv_at hl 0 rfl) ?_
            refine va_get (D := D) (ci := 6) (v := .ref a_t_readPage) (C := RX7) (T := TX7) (N := 28) hx hb hts hinX7 hown hK.1 hP 0 rfl rfl 4 (by decide) fl_13 (fun _ h9 => h9) rfl dX7_readPaper_167 ?_
            refine lv_iconst (v := (0)) hx hb dX7_readPaper_170 (by decide) ?_
            obtain ⟨hi8, w7, ew7, hf⟩ := pn_rd_at hf
            refine pn_ldI hx hb hK.1 hP 1 0 rfl rfl hi8 ew7 dX7_readPaper_171 ?_
            refine lv_iadd hx hb dX7_readPaper_172 ?_
            refine lv_iconst (v := (0)) hx hb dX7_readPaper_173 (by decide) ?_
            obtain ⟨hi10, g9, eg9, hf⟩ := pn_wrI_at hf
            refine pn_stI hx hb hK.1 hP (hD.addr rfl) hS 1 0 rfl rfl hi10 eg9 dX7_readPaper_174 (fun H locs (hP : va_P D vwCl [(a_t, .inr (6, [.int v_t_thrown, .ref a_t_text, .int v_t_textSize, .int z6, .ref a_t_readPage, .ref a_t_page, .ref a_t_trial, .ref a_t_work, .ref a_t_book, .int v_t_doings, .ref a_t_kept, .ref a_t_isKept, .int v_t_seen, .ref a_t_seenWhat, .ref a_t_seenV, .ref a_t_seenIs, .long v_t_seed, .ref a_t_label, .ref a_t_finds, .ref a_t_reason, .ref a_t_caseFirst, .int v_t_cases, .ref a_t_brief, .ref a_t_printed, .int v_t_printedSize, .ref a_t_renamed, .ref a_t_worth, .int v_t_lastReason])), (a_t_readPage, .inl (cI, 265, .inl g9)), (a_t_text, .inl (cI, 120, .inl r_t_text))] H) _ hS => ?_)
            refine lv_aload_n hx hb dX7_readPaper_175 rfl (lv_at hl 0 rfl) ?_
            refine va_get (D := D) (ci := 6) (v := .ref a_t_readPage) (C := RX7) (T := TX7) (N := 28) hx hb hts hinX7 hown hK.1 hP 0 rfl rfl 4 (by decide) fl_13 (fun _ h9 => h9) rfl dX7_readPaper_176 ?_
            refine lv_iconst (v := (0)) hx hb dX7_readPaper_179 (by decide) ?_
            refine lv_dup2_11 hx hb dX7_readPaper_180 rfl rfl ?_
            obtain ⟨hi12, w11, ew11, hf⟩ := pn_rd_at hf
            refine pn_ldI hx hb hK.1 hP 1 0 rfl rfl hi12 ew11 dX7_readPaper_181 ?_
            refine lv_iconst (v := (1)) hx hb dX7_readPaper_182 (by decide) ?_
            refine lv_iadd hx hb dX7_readPaper_183 ?_
            obtain ⟨hi14, g13, eg13, hf⟩ := pn_wrI_at hf
            refine pn_stI hx hb hK.1 hP (hD.addr rfl) hS 1 0 rfl rfl hi14 eg13 dX7_readPaper_184 (fun H locs (hP : va_P D vwCl [(a_t, .inr (6, [.int v_t_thrown, .ref a_t_text, .int v_t_textSize, .int z6, .ref a_t_readPage, .ref a_t_page, .ref a_t_trial, .ref a_t_work, .ref a_t_book, .int v_t_doings, .ref a_t_kept, .ref a_t_isKept, .int v_t_seen, .ref a_t_seenWhat, .ref a_t_seenV, .ref a_t_seenIs, .long v_t_seed, .ref a_t_label, .ref a_t_finds, .ref a_t_reason, .ref a_t_caseFirst, .int v_t_cases, .ref a_t_brief, .ref a_t_printed, .int v_t_printedSize, .ref a_t_renamed, .ref a_t_worth, .int v_t_lastReason])), (a_t_readPage, .inl (cI, 265, .inl g13)), (a_t_text, .inl (cI, 120, .inl r_t_text))] H) _ hS => ?_)
            refine lv_iconst (v := (1)) hx hb dX7_readPaper_185 (by decide) ?_
            refine lv_istore_n (lv' := [(1, .int (1 : Int32)), (0, .ref a_t)]) hx hb dX7_readPaper_186 rfl hl (by decide) rfl (fun ls hl => ?_)
            refine lv_goto (tgt := 38) hx hb dX7_readPaper_187 (by decide) ?_
            exact ih (1 : Int32) z6 g13 X H locs ls hf hP hS (lv_sub hl [1, 0] rfl) kx76 kx190
      refine lv_iload_n hx hb dX7_readPaper_38 rfl (lv_at hl 1 rfl) ?_
      refine lv_if_eq (tgt := 190) hx hb dX7_readPaper_39 (by decide) (fun c15 => ?_) (fun c15 => ?_)
      · have hf := pn_ifp c15 hf
        exact kx190 v_t_place r_t_readPage H locs ls (Option.some.inj hf).symm hP hS (lv_sub hl [0] rfl)
      · have hf := pn_ifn c15 hf
        refine lv_aload_n hx hb dX7_readPaper_42 rfl (lv_at hl 0 rfl) ?_
        refine va_get (D := D) (ci := 6) (v := .ref a_t_readPage) (C := RX7) (T := TX7) (N := 28) hx hb hts hinX7 hown hK.1 hP 0 rfl rfl 4 (by decide) fl_13 (fun _ h9 => h9) rfl dX7_readPaper_43 ?_
        refine lv_iconst (v := (0)) hx hb dX7_readPaper_46 (by decide) ?_
        obtain ⟨hi17, w16, ew16, hf⟩ := pn_rd_at hf
        refine pn_ldI hx hb hK.1 hP 1 0 rfl rfl hi17 ew16 dX7_readPaper_47 ?_
        refine lv_iconst (v := (1)) hx hb dX7_readPaper_48 (by decide) ?_
        refine lv_isub hx hb dX7_readPaper_49 ?_
        refine lv_topi (fun z18 ez18 => ?_)
        have hf := pn_nm_at ez18 hf
        refine lv_istore_n (lv' := [(2, .int z18), (0, .ref a_t), (1, .int x1)]) hx hb dX7_readPaper_50 rfl hl (by decide) rfl (fun ls hl => ?_)
        refine lv_aload_n hx hb dX7_readPaper_51 rfl (lv_at hl 1 rfl) ?_
        refine lv_bipush (v := (9)) hx hb dX7_readPaper_52 (by decide) ?_
        refine lv_bipush (v := (8)) hx hb dX7_readPaper_54 (by decide) ?_
        refine lv_iconst (v := (4)) hx hb dX7_readPaper_56 (by decide) ?_
        refine lv_iload_n hx hb dX7_readPaper_57 rfl (lv_at hl 0 rfl) ?_
        refine lv_imul hx hb dX7_readPaper_58 ?_
        refine lv_aload_n hx hb dX7_readPaper_59 rfl (lv_at hl 1 rfl) ?_
        refine va_get (D := D) (ci := 6) (v := .ref a_t_readPage) (C := RX7) (T := TX7) (N := 28) hx hb hts hinX7 hown hK.1 hP 0 rfl rfl 4 (by decide) fl_13 (fun _ h9 => h9) rfl dX7_readPaper_60 ?_
        refine lv_iconst (v := (1)) hx hb dX7_readPaper_63 (by decide) ?_
        refine lv_iload_n hx hb dX7_readPaper_64 rfl (lv_at hl 0 rfl) ?_
        refine lv_iadd hx hb dX7_readPaper_65 ?_
        obtain ⟨hi20, w19, ew19, hf⟩ := pn_rd_at hf
        refine pn_ldI hx hb hK.1 hP 1 0 rfl rfl hi20 ew19 dX7_readPaper_66 ?_
        refine lv_iadd hx hb dX7_readPaper_67 ?_
        refine lv_imul hx hb dX7_readPaper_68 ?_
        refine lv_iadd hx hb dX7_readPaper_69 ?_
        obtain ⟨ru21, v_t_place_u21, r_t_readPage_u21, hu21, hf⟩ := pn_bd3_at hf
        refine pn_calli [0, 1, 2] (va_runV (As := [.int ((9 : Int32) + ((8 : Int32) * (((4 : Int32) * z18) + w19)))]) (rest := []) ⟨hx, hb, hml, hown, hts⟩ (c_X7_readReference l D cI cJ cZ a_t a_t_text a_t_readPage a_t_page a_t_trial a_t_work a_t_book a_t_kept a_t_isKept a_t_seenWhat a_t_seenV a_t_seenIs a_t_label a_t_finds a_t_reason a_t_caseFirst a_t_brief a_t_printed a_t_renamed a_t_worth H.size v_t_thrown v_t_doings v_t_seen v_t_seed v_t_cases v_t_printedSize v_t_lastReason N v_t_textSize v_t_place r_t_readPage r_t_text ((9 : Int32) + ((8 : Int32) * (((4 : Int32) * z18) + w19))) ru21 v_t_place_u21 r_t_readPage_u21 hu21) (cwV 1 hts gX7_readPaper_X7_readReference rfl rfl rfl hdX7_readReference ⟨Nat.le_of_ble_eq_true rfl, Nat.le_of_ble_eq_true rfl⟩) (pn_preV [0, 1, 2] hP (hD.addr rfl) hK rfl rfl (q0 := 0) (ci := 6) rfl rfl) rfl rfl hl.1 rfl (lv_room (Nat.le_of_ble_eq_true rfl)) dX7_readPaper_70 ⟨Nat.zero_le _, Nat.zero_le _⟩) hP (hD.addr rfl) hS hA rfl rfl rfl (fun H locs (hP : va_P D vwCl [(a_t, .inr (6, [.int v_t_thrown, .ref a_t_text, .int v_t_textSize, .int v_t_place_u21, .ref a_t_readPage, .ref a_t_page, .ref a_t_trial, .ref a_t_work, .ref a_t_book, .int v_t_doings, .ref a_t_kept, .ref a_t_isKept, .int v_t_seen, .ref a_t_seenWhat, .ref a_t_seenV, .ref a_t_seenIs, .long v_t_seed, .ref a_t_label, .ref a_t_finds, .ref a_t_reason, .ref a_t_caseFirst, .int v_t_cases, .ref a_t_brief, .ref a_t_printed, .int v_t_printedSize, .ref a_t_renamed, .ref a_t_worth, .int v_t_lastReason])), (a_t_readPage, .inl (cI, 265, .inl r_t_readPage_u21)), (a_t_text, .inl (cI, 120, .inl r_t_text))] H) _ hS => ?_)
        refine lv_if_ne (tgt := 81) hx hb dX7_readPaper_73 (by decide) (fun c22 => ?_) (fun c22 => ?_)
        · have hf := pn_ifp c22 hf
          refine lv_aload_n hx hb dX7_readPaper_81 rfl (lv_at hl 1 rfl) ?_
          refine va_get (D := D) (ci := 6) (v := .ref a_t_readPage) (C := RX7) (T := TX7) (N := 28) hx hb hts hinX7 hown hK.1 hP 0 rfl rfl 4 (by decide) fl_13 (fun _ h9 => h9) rfl dX7_readPaper_82 ?_
          refine lv_iconst (v := (1)) hx hb dX7_readPaper_85 (by decide) ?_
          refine lv_iload_n hx hb dX7_readPaper_86 rfl (lv_at hl 0 rfl) ?_
          refine lv_iadd hx hb dX7_readPaper_87 ?_
          refine lv_dup2_11 hx hb dX7_readPaper_88 rfl rfl ?_
          obtain ⟨hi24, w23, ew23, hf⟩ := pn_rd_at hf
          refine pn_ldI hx hb hK.1 hP 1 0 rfl rfl hi24 ew23 dX7_readPaper_89 ?_
          refine lv_iconst (v := (1)) hx hb dX7_readPaper_90 (by decide) ?_
          refine lv_iadd hx hb dX7_readPaper_91 ?_
          obtain ⟨hi26, g25, eg25, hf⟩ := pn_wrI_at hf
          refine pn_stI hx hb hK.1 hP (hD.addr rfl) hS 1 0 rfl rfl hi26 eg25 dX7_readPaper_92 (fun H locs (hP : va_P D vwCl [(a_t, .inr (6, [.int v_t_thrown, .ref a_t_text, .int v_t_textSize, .int v_t_place_u21, .ref a_t_readPage, .ref a_t_page, .ref a_t_trial, .ref a_t_work, .ref a_t_book, .int v_t_doings, .ref a_t_kept, .ref a_t_isKept, .int v_t_seen, .ref a_t_seenWhat, .ref a_t_seenV, .ref a_t_seenIs, .long v_t_seed, .ref a_t_label, .ref a_t_finds, .ref a_t_reason, .ref a_t_caseFirst, .int v_t_cases, .ref a_t_brief, .ref a_t_printed, .int v_t_printedSize, .ref a_t_renamed, .ref a_t_worth, .int v_t_lastReason])), (a_t_readPage, .inl (cI, 265, .inl g25)), (a_t_text, .inl (cI, 120, .inl r_t_text))] H) _ hS => ?_)
          refine lv_iconst (v := (0)) hx hb dX7_readPaper_93 (by decide) ?_
          refine lv_istore_n (lv' := [(1, .int (0 : Int32)), (2, .int z18), (0, .ref a_t)]) hx hb dX7_readPaper_94 rfl hl (by decide) rfl (fun ls hl => ?_)
          refine lv_aload_n hx hb dX7_readPaper_95 rfl (lv_at hl 2 rfl) ?_
          obtain ⟨ru27, hu27, hf⟩ := pn_bd1_at hf
          refine pn_calli [0, 2] (va_runV (As := []) (rest := []) ⟨hx, hb, hml, hown, hts⟩ (c_X7_next l D cI cJ cZ a_t a_t_text a_t_readPage a_t_page a_t_trial a_t_work a_t_book a_t_kept a_t_isKept a_t_seenWhat a_t_seenV a_t_seenIs a_t_label a_t_finds a_t_reason a_t_caseFirst a_t_brief a_t_printed a_t_renamed a_t_worth H.size v_t_thrown v_t_doings v_t_seen v_t_seed v_t_cases v_t_printedSize v_t_lastReason v_t_textSize v_t_place_u21 r_t_text ru27 hu27) (cwV 0 hts gX7_readPaper_X7_next rfl rfl rfl hdX7_next ⟨Nat.le_of_ble_eq_true rfl, Nat.le_of_ble_eq_true rfl⟩) (pn_preV [0, 2] hP (hD.addr rfl) hK rfl rfl (q0 := 0) (ci := 6) rfl rfl) rfl rfl hl.1 rfl (lv_room (Nat.le_of_ble_eq_true rfl)) dX7_readPaper_96 ⟨Nat.zero_le _, Nat.zero_le _⟩) hP (hD.addr rfl) hS hA rfl rfl rfl (fun H locs (hP : va_P D vwCl [(a_t, .inr (6, [.int v_t_thrown, .ref a_t_text, .int v_t_textSize, .int v_t_place_u21, .ref a_t_readPage, .ref a_t_page, .ref a_t_trial, .ref a_t_work, .ref a_t_book, .int v_t_doings, .ref a_t_kept, .ref a_t_isKept, .int v_t_seen, .ref a_t_seenWhat, .ref a_t_seenV, .ref a_t_seenIs, .long v_t_seed, .ref a_t_label, .ref a_t_finds, .ref a_t_reason, .ref a_t_caseFirst, .int v_t_cases, .ref a_t_brief, .ref a_t_printed, .int v_t_printedSize, .ref a_t_renamed, .ref a_t_worth, .int v_t_lastReason])), (a_t_readPage, .inl (cI, 265, .inl g25)), (a_t_text, .inl (cI, 120, .inl r_t_text))] H) _ hS => ?_)
          refine lv_bipush (v := (44)) hx hb dX7_readPaper_99 (by decide) ?_
          refine lv_icmp_ne (tgt := 131) hx hb dX7_readPaper_101 (by decide) (fun c28 => ?_) (fun c28 => ?_)
          · have hf := pn_ifp c28 hf
            exact jn131 (0 : Int32) v_t_place_u21 g25 H locs ls hf hP hS (lv_sub hl [2, 0] rfl)
          · have hf := pn_ifq c28 hf
            refine lv_aload_n hx hb dX7_readPaper_104 rfl (lv_at hl 2 rfl) ?_
            refine va_get (D := D) (ci := 6) (v := .ref a_t_readPage) (C := RX7) (T := TX7) (N := 28) hx hb hts hinX7 hown hK.1 hP 0 rfl rfl 4 (by decide) fl_13 (fun _ h9 => h9) rfl dX7_readPaper_105 ?_
            refine lv_iconst (v := (1)) hx hb dX7_readPaper_108 (by decide) ?_
            refine lv_iload_n hx hb dX7_readPaper_109 rfl (lv_at hl 1 rfl) ?_
            refine lv_iadd hx hb dX7_readPaper_110 ?_
            obtain ⟨hi30, w29, ew29, hf⟩ := pn_rd_at hf
            refine pn_ldI hx hb hK.1 hP 1 0 rfl rfl hi30 ew29 dX7_readPaper_111 ?_
            refine lv_iconst (v := (4)) hx hb dX7_readPaper_112 (by decide) ?_
            refine lv_icmp_ge (tgt := 131) hx hb dX7_readPaper_113 (by decide) (fun c31 => ?_) (fun c31 => ?_)
            · have hf := pn_ifp c31 hf
              exact jn131 (0 : Int32) v_t_place_u21 g25 H locs ls hf hP hS (lv_sub hl [2, 0] rfl)
            · have hf := pn_ifn c31 hf
              refine lv_aload_n hx hb dX7_readPaper_116 rfl (lv_at hl 2 rfl) ?_
              refine lv_dup hx hb dX7_readPaper_117 rfl ?_
              refine va_get (D := D) (ci := 6) (v := .int v_t_place_u21) (C := RX7) (T := TX7) (N := 28) hx hb hts hinX7 hown hK.1 hP 0 rfl rfl 3 (by decide) fl_89 (fun _ h9 => h9) rfl dX7_readPaper_118 ?_
              refine lv_iconst (v := (1)) hx hb dX7_readPaper_121 (by decide) ?_
              refine lv_iadd hx hb dX7_readPaper_122 ?_
              refine lv_topi (fun z32 ez32 => ?_)
              have hf := pn_nm_at ez32 hf
              refine va_put (D := D) (ci := 6) (v := .int z32) (ty := .int) (C := RX7) (T := TX7) (N := 28) hx hb hts hinX7 tyX7 tyX7_ok nmX7 hown hK.1 hP (hD.addr rfl) hS 0 rfl rfl 3 (by decide) fl_89 (fun _ h9 => h9) rfl (by decide +kernel) rfl rfl (Nat.le_of_ble_eq_true rfl) dX7_readPaper_123 (fun H locs (hP : va_P D vwCl [(a_t, .inr (6, [.int v_t_thrown, .ref a_t_text, .int v_t_textSize, .int z32, .ref a_t_readPage, .ref a_t_page, .ref a_t_trial, .ref a_t_work, .ref a_t_book, .int v_t_doings, .ref a_t_kept, .ref a_t_isKept, .int v_t_seen, .ref a_t_seenWhat, .ref a_t_seenV, .ref a_t_seenIs, .long v_t_seed, .ref a_t_label, .ref a_t_finds, .ref a_t_reason, .ref a_t_caseFirst, .int v_t_cases, .ref a_t_brief, .ref a_t_printed, .int v_t_printedSize, .ref a_t_renamed, .ref a_t_worth, .int v_t_lastReason])), (a_t_readPage, .inl (cI, 265, .inl g25)), (a_t_text, .inl (cI, 120, .inl r_t_text))] H) _ hS => ?_)
              refine lv_iconst (v := (1)) hx hb dX7_readPaper_126 (by decide) ?_
              refine lv_istore_n (lv' := [(1, .int (1 : Int32)), (2, .int z18), (0, .ref a_t)]) hx hb dX7_readPaper_127 rfl hl (by decide) rfl (fun ls hl => ?_)
              refine lv_goto (tgt := 187) hx hb dX7_readPaper_128 (by decide) ?_
              refine lv_goto (tgt := 38) hx hb dX7_readPaper_187 (by decide) ?_
              exact ih (1 : Int32) z32 g25 X H locs ls hf hP hS (lv_sub hl [2, 0] rfl) kx76 kx190
        · have hf := pn_ifq c22 hf
          exact kx76 v_t_place_u21 r_t_readPage_u21 H locs ls (Option.some.inj hf).symm hP hS (lv_sub hl [1] rfl)
  refine lv_aload_n hx hb dX7_readPaper_0 rfl (lv_at hl 0 rfl) ?_
  refine va_get (D := D) (ci := 6) (v := .ref a_t_readPage) (C := RX7) (T := TX7) (N := 28) hx hb hts hinX7 hown hK.1 hP 0 rfl rfl 4 (by decide) fl_13 (fun _ h9 => h9) rfl dX7_readPaper_1 ?_
  refine lv_iconst (v := (0)) hx hb dX7_readPaper_4 (by decide) ?_
  refine lv_iconst (v := (0)) hx hb dX7_readPaper_5 (by decide) ?_
  obtain ⟨hi34, g33, eg33, hf⟩ := pn_wrI_at hf
  refine pn_stI hx hb hK.1 hP (hD.addr rfl) hS 1 0 rfl rfl hi34 eg33 dX7_readPaper_6 (fun H locs (hP : va_P D vwCl [(a_t, .inr (6, [.int v_t_thrown, .ref a_t_text, .int v_t_textSize, .int v_t_place, .ref a_t_readPage, .ref a_t_page, .ref a_t_trial, .ref a_t_work, .ref a_t_book, .int v_t_doings, .ref a_t_kept, .ref a_t_isKept, .int v_t_seen, .ref a_t_seenWhat, .ref a_t_seenV, .ref a_t_seenIs, .long v_t_seed, .ref a_t_label, .ref a_t_finds, .ref a_t_reason, .ref a_t_caseFirst, .int v_t_cases, .ref a_t_brief, .ref a_t_printed, .int v_t_printedSize, .ref a_t_renamed, .ref a_t_worth, .int v_t_lastReason])), (a_t_readPage, .inl (cI, 265, .inl g33)), (a_t_text, .inl (cI, 120, .inl r_t_text))] H) _ hS => ?_)
  refine lv_aload_n hx hb dX7_readPaper_7 rfl (lv_at hl 0 rfl) ?_
  refine lv_iconst (v := (0)) hx hb dX7_readPaper_8 (by decide) ?_
  refine va_put (D := D) (ci := 6) (v := .int (0 : Int32)) (ty := .int) (C := RX7) (T := TX7) (N := 28) hx hb hts hinX7 tyX7 tyX7_ok nmX7 hown hK.1 hP (hD.addr rfl) hS 0 rfl rfl 3 (by decide) fl_89 (fun _ h9 => h9) rfl (by decide +kernel) rfl rfl (Nat.le_of_ble_eq_true rfl) dX7_readPaper_9 (fun H locs (hP : va_P D vwCl [(a_t, .inr (6, [.int v_t_thrown, .ref a_t_text, .int v_t_textSize, .int ((0 : Int32)), .ref a_t_readPage, .ref a_t_page, .ref a_t_trial, .ref a_t_work, .ref a_t_book, .int v_t_doings, .ref a_t_kept, .ref a_t_isKept, .int v_t_seen, .ref a_t_seenWhat, .ref a_t_seenV, .ref a_t_seenIs, .long v_t_seed, .ref a_t_label, .ref a_t_finds, .ref a_t_reason, .ref a_t_caseFirst, .int v_t_cases, .ref a_t_brief, .ref a_t_printed, .int v_t_printedSize, .ref a_t_renamed, .ref a_t_worth, .int v_t_lastReason])), (a_t_readPage, .inl (cI, 265, .inl g33)), (a_t_text, .inl (cI, 120, .inl r_t_text))] H) _ hS => ?_)
  refine lv_aload_n hx hb dX7_readPaper_12 rfl (lv_at hl 0 rfl) ?_
  refine va_get (D := D) (ci := 6) (v := .int v_t_textSize) (C := RX7) (T := TX7) (N := 28) hx hb hts hinX7 hown hK.1 hP 0 rfl rfl 2 (by decide) fl_86 (fun _ h9 => h9) rfl dX7_readPaper_13 ?_
  refine lv_if_ne (tgt := 22) hx hb dX7_readPaper_16 (by decide) (fun c35 => ?_) (fun c35 => ?_)
  · have hf := pn_ifp c35 hf
    refine lv_aload_n hx hb dX7_readPaper_22 rfl (lv_at hl 0 rfl) ?_
    refine va_get (D := D) (ci := 6) (v := .ref a_t_readPage) (C := RX7) (T := TX7) (N := 28) hx hb hts hinX7 hown hK.1 hP 0 rfl rfl 4 (by decide) fl_13 (fun _ h9 => h9) rfl dX7_readPaper_23 ?_
    refine lv_iconst (v := (0)) hx hb dX7_readPaper_26 (by decide) ?_
    refine lv_iconst (v := (1)) hx hb dX7_readPaper_27 (by decide) ?_
    obtain ⟨hi37, g36, eg36, hf⟩ := pn_wrI_at hf
    refine pn_stI hx hb hK.1 hP (hD.addr rfl) hS 1 0 rfl rfl hi37 eg36 dX7_readPaper_28 (fun H locs (hP : va_P D vwCl [(a_t, .inr (6, [.int v_t_thrown, .ref a_t_text, .int v_t_textSize, .int ((0 : Int32)), .ref a_t_readPage, .ref a_t_page, .ref a_t_trial, .ref a_t_work, .ref a_t_book, .int v_t_doings, .ref a_t_kept, .ref a_t_isKept, .int v_t_seen, .ref a_t_seenWhat, .ref a_t_seenV, .ref a_t_seenIs, .long v_t_seed, .ref a_t_label, .ref a_t_finds, .ref a_t_reason, .ref a_t_caseFirst, .int v_t_cases, .ref a_t_brief, .ref a_t_printed, .int v_t_printedSize, .ref a_t_renamed, .ref a_t_worth, .int v_t_lastReason])), (a_t_readPage, .inl (cI, 265, .inl g36)), (a_t_text, .inl (cI, 120, .inl r_t_text))] H) _ hS => ?_)
    refine lv_aload_n hx hb dX7_readPaper_29 rfl (lv_at hl 0 rfl) ?_
    refine va_get (D := D) (ci := 6) (v := .ref a_t_readPage) (C := RX7) (T := TX7) (N := 28) hx hb hts hinX7 hown hK.1 hP 0 rfl rfl 4 (by decide) fl_13 (fun _ h9 => h9) rfl dX7_readPaper_30 ?_
    refine lv_iconst (v := (1)) hx hb dX7_readPaper_33 (by decide) ?_
    refine lv_iconst (v := (0)) hx hb dX7_readPaper_34 (by decide) ?_
    obtain ⟨hi39, g38, eg38, hf⟩ := pn_wrI_at hf
    refine pn_stI hx hb hK.1 hP (hD.addr rfl) hS 1 0 rfl rfl hi39 eg38 dX7_readPaper_35 (fun H locs (hP : va_P D vwCl [(a_t, .inr (6, [.int v_t_thrown, .ref a_t_text, .int v_t_textSize, .int ((0 : Int32)), .ref a_t_readPage, .ref a_t_page, .ref a_t_trial, .ref a_t_work, .ref a_t_book, .int v_t_doings, .ref a_t_kept, .ref a_t_isKept, .int v_t_seen, .ref a_t_seenWhat, .ref a_t_seenV, .ref a_t_seenIs, .long v_t_seed, .ref a_t_label, .ref a_t_finds, .ref a_t_reason, .ref a_t_caseFirst, .int v_t_cases, .ref a_t_brief, .ref a_t_printed, .int v_t_printedSize, .ref a_t_renamed, .ref a_t_worth, .int v_t_lastReason])), (a_t_readPage, .inl (cI, 265, .inl g38)), (a_t_text, .inl (cI, 120, .inl r_t_text))] H) _ hS => ?_)
    refine lv_iconst (v := (1)) hx hb dX7_readPaper_36 (by decide) ?_
    refine lv_istore_n (lv' := [(1, .int (1 : Int32)), (0, .ref a_t)]) hx hb dX7_readPaper_37 rfl hl (by decide) rfl (fun ls hl => ?_)
    obtain ⟨X38, hX38, hf⟩ := pn_bd1_at hf
    refine lp38 N (1 : Int32) (0 : Int32) g38 X38 H locs ls hX38 hP hS (lv_sub hl [1, 0] rfl) ?_ ?_
    · intro v_t_place_w40 r_t_readPage_w40 H locs ls eX hP hS hl
      rw [eX] at hf
      have hf := pn_s2_l hf
      have hf := pn_u2_at hf
      refine lv_aload_n hx hb dX7_readPaper_76 rfl (lv_at hl 0 rfl) ?_
      refine va_get (D := D) (ci := 6) (v := .int v_t_place_w40) (C := RX7) (T := TX7) (N := 28) hx hb hts hinX7 hown hK.1 hP 0 rfl rfl 3 (by decide) fl_89 (fun _ h9 => h9) rfl dX7_readPaper_77 ?_
      cases hf
      rw [hQ]
      exact pn_reti hx hb hr hlocks hP hS rfl dX7_readPaper_80
    · intro v_t_place_w41 r_t_readPage_w41 H locs ls eX hP hS hl
      rw [eX] at hf
      have hf := pn_s2_r hf
      have hf := pn_u2_at hf
      refine lv_aload_n hx hb dX7_readPaper_190 rfl (lv_at hl 0 rfl) ?_
      refine va_get (D := D) (ci := 6) (v := .int v_t_place_w41) (C := RX7) (T := TX7) (N := 28) hx hb hts hinX7 hown hK.1 hP 0 rfl rfl 3 (by decide) fl_89 (fun _ h9 => h9) rfl dX7_readPaper_191 ?_
      refine lv_aload_n hx hb dX7_readPaper_194 rfl (lv_at hl 0 rfl) ?_
      refine va_get (D := D) (ci := 6) (v := .int v_t_textSize) (C := RX7) (T := TX7) (N := 28) hx hb hts hinX7 hown hK.1 hP 0 rfl rfl 2 (by decide) fl_86 (fun _ h9 => h9) rfl dX7_readPaper_195 ?_
      refine lv_icmp_ne (tgt := 206) hx hb dX7_readPaper_198 (by decide) (fun c42 => ?_) (fun c42 => ?_)
      · have hf := pn_ifp c42 hf
        refine lv_aload_n hx hb dX7_readPaper_206 rfl (lv_at hl 0 rfl) ?_
        refine va_get (D := D) (ci := 6) (v := .int v_t_place_w41) (C := RX7) (T := TX7) (N := 28) hx hb hts hinX7 hown hK.1 hP 0 rfl rfl 3 (by decide) fl_89 (fun _ h9 => h9) rfl dX7_readPaper_207 ?_
        cases hf
        rw [hQ]
        exact pn_reti hx hb hr hlocks hP hS rfl dX7_readPaper_210
      · have hf := pn_ifq c42 hf
        refine lv_bipush (v := (-9)) hx hb dX7_readPaper_201 (by decide) ?_
        refine lv_goto (tgt := 210) hx hb dX7_readPaper_203 (by decide) ?_
        cases hf
        rw [hQ]
        exact pn_reti hx hb hr hlocks hP hS rfl dX7_readPaper_210
  · have hf := pn_ifq c35 hf
    refine lv_bipush (v := (-9)) hx hb dX7_readPaper_19 (by decide) ?_
    cases hf
    rw [hQ]
    exact pn_reti hx hb hr hlocks hP hS rfl dX7_readPaper_21
def f_X7_fault (N : Nat) (v_t_thrown : Int32) (v_t_textSize : Int32) (v_t_place : Int32) (r_t_readPage : Nat → Int32) (r_t_text : Nat → Int32) : Option (Int32 × Int32 × Int32 × (Nat → Int32)) :=
  pn_bd3 (f_X7_readPaper N v_t_textSize v_t_place r_t_readPage r_t_text) fun ru1 v_t_place_u1 r_t_readPage_u1 =>
  some (ru1, (0 : Int32), v_t_place_u1, r_t_readPage_u1)
set_option maxHeartbeats 4000000 in
set_option maxRecDepth 100000 in
theorem c_X7_fault (l : Launch) (D : va_G) (cI cJ cZ : ClassId) (a_t a_t_text a_t_readPage a_t_page a_t_trial a_t_work a_t_book a_t_kept a_t_isKept a_t_seenWhat a_t_seenV a_t_seenIs a_t_label a_t_finds a_t_reason a_t_caseFirst a_t_brief a_t_printed a_t_renamed a_t_worth : Nat) (sz : Nat) (v_t_doings : Int32) (v_t_seen : Int32) (v_t_seed : Int64) (v_t_cases : Int32) (v_t_printedSize : Int32) (v_t_lastReason : Int32) (N : Nat) (v_t_thrown : Int32) (v_t_textSize : Int32) (v_t_place : Int32) (r_t_readPage : Nat → Int32) (r_t_text : Nat → Int32) (rR : Int32) (o_t_thrown : Int32) (o_t_place : Int32) (o_t_readPage : Nat → Int32) (hf : f_X7_fault N v_t_thrown v_t_textSize v_t_place r_t_readPage r_t_text = some (rR, o_t_thrown, o_t_place, o_t_readPage)) : Met l yX7_fault wsX7_fault { frames := 8, cells := 0, slots := 0, locals := 186 } (pn_Pc D cI cJ cZ [.ref a_t] [(a_t, .inr (6, [.int v_t_thrown, .ref a_t_text, .int v_t_textSize, .int v_t_place, .ref a_t_readPage, .ref a_t_page, .ref a_t_trial, .ref a_t_work, .ref a_t_book, .int v_t_doings, .ref a_t_kept, .ref a_t_isKept, .int v_t_seen, .ref a_t_seenWhat, .ref a_t_seenV, .ref a_t_seenIs, .long v_t_seed, .ref a_t_label, .ref a_t_finds, .ref a_t_reason, .ref a_t_caseFirst, .int v_t_cases, .ref a_t_brief, .ref a_t_printed, .int v_t_printedSize, .ref a_t_renamed, .ref a_t_worth, .int v_t_lastReason])), (a_t_readPage, .inl (cI, 265, .inl r_t_readPage)), (a_t_text, .inl (cI, 120, .inl r_t_text))] sz) (pn_Qi D rR [(a_t, .inr (6, [.int o_t_thrown, .ref a_t_text, .int v_t_textSize, .int o_t_place, .ref a_t_readPage, .ref a_t_page, .ref a_t_trial, .ref a_t_work, .ref a_t_book, .int v_t_doings, .ref a_t_kept, .ref a_t_isKept, .int v_t_seen, .ref a_t_seenWhat, .ref a_t_seenV, .ref a_t_seenIs, .long v_t_seed, .ref a_t_label, .ref a_t_finds, .ref a_t_reason, .ref a_t_caseFirst, .int v_t_cases, .ref a_t_brief, .ref a_t_printed, .int v_t_printedSize, .ref a_t_renamed, .ref a_t_worth, .int v_t_lastReason])), (a_t_readPage, .inl (cI, 265, .inl o_t_readPage)), (a_t_text, .inl (cI, 120, .inl r_t_text))] (va_A [(a_t, .inr (6, [.int v_t_thrown, .ref a_t_text, .int v_t_textSize, .int v_t_place, .ref a_t_readPage, .ref a_t_page, .ref a_t_trial, .ref a_t_work, .ref a_t_book, .int v_t_doings, .ref a_t_kept, .ref a_t_isKept, .int v_t_seen, .ref a_t_seenWhat, .ref a_t_seenV, .ref a_t_seenIs, .long v_t_seed, .ref a_t_label, .ref a_t_finds, .ref a_t_reason, .ref a_t_caseFirst, .int v_t_cases, .ref a_t_brief, .ref a_t_printed, .int v_t_printedSize, .ref a_t_renamed, .ref a_t_worth, .int v_t_lastReason])), (a_t_readPage, .inl (cI, 265, .inl r_t_readPage)), (a_t_text, .inl (cI, 120, .inl r_t_text))] sz)) 0 0 (va_A [(a_t, .inr (6, [.int v_t_thrown, .ref a_t_text, .int v_t_textSize, .int v_t_place, .ref a_t_readPage, .ref a_t_page, .ref a_t_trial, .ref a_t_work, .ref a_t_book, .int v_t_doings, .ref a_t_kept, .ref a_t_isKept, .int v_t_seen, .ref a_t_seenWhat, .ref a_t_seenV, .ref a_t_seenIs, .long v_t_seed, .ref a_t_label, .ref a_t_finds, .ref a_t_reason, .ref a_t_caseFirst, .int v_t_cases, .ref a_t_brief, .ref a_t_printed, .int v_t_printedSize, .ref a_t_renamed, .ref a_t_worth, .int v_t_lastReason])), (a_t_readPage, .inl (cI, 265, .inl r_t_readPage)), (a_t_text, .inl (cI, 120, .inl r_t_text))] sz) := by
  refine pn_entry (cc := cX7_fault) (maxL := 1) (ret := (some .int)) (Qf := pn_Qi D rR [(a_t, .inr (6, [.int o_t_thrown, .ref a_t_text, .int v_t_textSize, .int o_t_place, .ref a_t_readPage, .ref a_t_page, .ref a_t_trial, .ref a_t_work, .ref a_t_book, .int v_t_doings, .ref a_t_kept, .ref a_t_isKept, .int v_t_seen, .ref a_t_seenWhat, .ref a_t_seenV, .ref a_t_seenIs, .long v_t_seed, .ref a_t_label, .ref a_t_finds, .ref a_t_reason, .ref a_t_caseFirst, .int v_t_cases, .ref a_t_brief, .ref a_t_printed, .int v_t_printedSize, .ref a_t_renamed, .ref a_t_worth, .int v_t_lastReason])), (a_t_readPage, .inl (cI, 265, .inl o_t_readPage)), (a_t_text, .inl (cI, 120, .inl r_t_text))]) (by decide) rfl (Nat.le_of_ble_eq_true rfl) ?_
  intro p e s m args below meth c A ls H locs Qm hQ hx hb hr hlocks hml hown hts hK hP hD hA hS hl
  have hl : lv_has ls 1 [(0, .ref a_t)] := hl
  have hinX7 : ∀ w ∈ wsX70, w ∈ wsX7_fault := by decide +kernel
  have fl_68 := hts (.fieldLink RX7 68 "PointingNotesModel" "thrown" "I") (by decide +kernel)
  rw [f_X7_fault] at hf
  refine lv_aload_n hx hb dX7_fault_0 rfl (lv_at hl 0 rfl) ?_
  refine lv_iconst (v := (0)) hx hb dX7_fault_1 (by decide) ?_
  refine va_put (D := D) (ci := 6) (v := .int (0 : Int32)) (ty := .int) (C := RX7) (T := TX7) (N := 28) hx hb hts hinX7 tyX7 tyX7_ok nmX7 hown hK.1 hP (hD.addr rfl) hS 0 rfl rfl 0 (by decide) fl_68 (fun _ h9 => h9) rfl (by decide +kernel) rfl rfl (Nat.le_of_ble_eq_true rfl) dX7_fault_2 (fun H locs (hP : va_P D vwCl [(a_t, .inr (6, [.int ((0 : Int32)), .ref a_t_text, .int v_t_textSize, .int v_t_place, .ref a_t_readPage, .ref a_t_page, .ref a_t_trial, .ref a_t_work, .ref a_t_book, .int v_t_doings, .ref a_t_kept, .ref a_t_isKept, .int v_t_seen, .ref a_t_seenWhat, .ref a_t_seenV, .ref a_t_seenIs, .long v_t_seed, .ref a_t_label, .ref a_t_finds, .ref a_t_reason, .ref a_t_caseFirst, .int v_t_cases, .ref a_t_brief, .ref a_t_printed, .int v_t_printedSize, .ref a_t_renamed, .ref a_t_worth, .int v_t_lastReason])), (a_t_readPage, .inl (cI, 265, .inl r_t_readPage)), (a_t_text, .inl (cI, 120, .inl r_t_text))] H) _ hS => ?_)
  refine lv_aload_n hx hb dX7_fault_5 rfl (lv_at hl 0 rfl) ?_
  obtain ⟨ru1, v_t_place_u1, r_t_readPage_u1, hu1, hf⟩ := pn_bd3_at hf
  refine pn_calli [0, 1, 2] (va_runV (As := []) (rest := []) ⟨hx, hb, hml, hown, hts⟩ (c_X7_readPaper l D cI cJ cZ a_t a_t_text a_t_readPage a_t_page a_t_trial a_t_work a_t_book a_t_kept a_t_isKept a_t_seenWhat a_t_seenV a_t_seenIs a_t_label a_t_finds a_t_reason a_t_caseFirst a_t_brief a_t_printed a_t_renamed a_t_worth H.size (0 : Int32) v_t_doings v_t_seen v_t_seed v_t_cases v_t_printedSize v_t_lastReason N v_t_textSize v_t_place r_t_readPage r_t_text ru1 v_t_place_u1 r_t_readPage_u1 hu1) (cwV 0 hts gX7_fault_X7_readPaper rfl rfl rfl hdX7_readPaper ⟨Nat.le_of_ble_eq_true rfl, Nat.le_of_ble_eq_true rfl⟩) (pn_preV [0, 1, 2] hP (hD.addr rfl) hK rfl rfl (q0 := 0) (ci := 6) rfl rfl) rfl rfl hl.1 rfl (lv_room (Nat.le_of_ble_eq_true rfl)) dX7_fault_6 ⟨Nat.zero_le _, Nat.zero_le _⟩) hP (hD.addr rfl) hS hA rfl rfl rfl (fun H locs (hP : va_P D vwCl [(a_t, .inr (6, [.int ((0 : Int32)), .ref a_t_text, .int v_t_textSize, .int v_t_place_u1, .ref a_t_readPage, .ref a_t_page, .ref a_t_trial, .ref a_t_work, .ref a_t_book, .int v_t_doings, .ref a_t_kept, .ref a_t_isKept, .int v_t_seen, .ref a_t_seenWhat, .ref a_t_seenV, .ref a_t_seenIs, .long v_t_seed, .ref a_t_label, .ref a_t_finds, .ref a_t_reason, .ref a_t_caseFirst, .int v_t_cases, .ref a_t_brief, .ref a_t_printed, .int v_t_printedSize, .ref a_t_renamed, .ref a_t_worth, .int v_t_lastReason])), (a_t_readPage, .inl (cI, 265, .inl r_t_readPage_u1)), (a_t_text, .inl (cI, 120, .inl r_t_text))] H) _ hS => ?_)
  cases hf
  rw [hQ]
  exact pn_reti hx hb hr hlocks hP hS rfl dX7_fault_9
def f_X7_paper (N : Nat) (v_t_thrown : Int32) (v_t_textSize : Int32) (v_t_place : Int32) (v_t_doings : Int32) (r_t_isKept : Nat → Int32) (r_t_page : Nat → Int32) (r_t_readPage : Nat → Int32) (r_t_text : Nat → Int32) : Option (Int32 × Int32 × Int32 × Int32 × (Nat → Int32) × (Nat → Int32) × (Nat → Int32)) :=
  pn_bd3 (f_X7_readPaper N v_t_textSize v_t_place r_t_readPage r_t_text) fun ru1 v_t_place_u1 r_t_readPage_u1 =>
  if ru1 = (-9 : Int32) then
  pn_bd1 (f_X7_lay N r_t_page r_t_readPage_u1) fun r_t_page_u3 =>
  pn_wrZ 2 r_t_isKept (0 : Int32) (0 : Int32) fun g4 =>
  pn_wrZ 2 g4 (1 : Int32) (0 : Int32) fun g6 =>
  pn_rd 265 r_t_page_u3 (0 : Int32) fun w8 =>
  some (w8, (0 : Int32), v_t_place_u1, (0 : Int32), g6, r_t_page_u3, r_t_readPage_u1)
  else
  some ((-3 : Int32), (0 : Int32), v_t_place_u1, v_t_doings, r_t_isKept, r_t_page, r_t_readPage_u1)
set_option maxHeartbeats 4000000 in
set_option maxRecDepth 100000 in
theorem c_X7_paper (l : Launch) (D : va_G) (cI cJ cZ : ClassId) (a_t a_t_text a_t_readPage a_t_page a_t_trial a_t_work a_t_book a_t_kept a_t_isKept a_t_seenWhat a_t_seenV a_t_seenIs a_t_label a_t_finds a_t_reason a_t_caseFirst a_t_brief a_t_printed a_t_renamed a_t_worth : Nat) (sz : Nat) (v_t_seen : Int32) (v_t_seed : Int64) (v_t_cases : Int32) (v_t_printedSize : Int32) (v_t_lastReason : Int32) (N : Nat) (v_t_thrown : Int32) (v_t_textSize : Int32) (v_t_place : Int32) (v_t_doings : Int32) (r_t_isKept : Nat → Int32) (r_t_page : Nat → Int32) (r_t_readPage : Nat → Int32) (r_t_text : Nat → Int32) (rR : Int32) (o_t_thrown : Int32) (o_t_place : Int32) (o_t_doings : Int32) (o_t_isKept : Nat → Int32) (o_t_page : Nat → Int32) (o_t_readPage : Nat → Int32) (hf : f_X7_paper N v_t_thrown v_t_textSize v_t_place v_t_doings r_t_isKept r_t_page r_t_readPage r_t_text = some (rR, o_t_thrown, o_t_place, o_t_doings, o_t_isKept, o_t_page, o_t_readPage)) : Met l yX7_paper wsX7_paper { frames := 8, cells := 0, slots := 0, locals := 186 } (pn_Pc D cI cJ cZ [.ref a_t] [(a_t, .inr (6, [.int v_t_thrown, .ref a_t_text, .int v_t_textSize, .int v_t_place, .ref a_t_readPage, .ref a_t_page, .ref a_t_trial, .ref a_t_work, .ref a_t_book, .int v_t_doings, .ref a_t_kept, .ref a_t_isKept, .int v_t_seen, .ref a_t_seenWhat, .ref a_t_seenV, .ref a_t_seenIs, .long v_t_seed, .ref a_t_label, .ref a_t_finds, .ref a_t_reason, .ref a_t_caseFirst, .int v_t_cases, .ref a_t_brief, .ref a_t_printed, .int v_t_printedSize, .ref a_t_renamed, .ref a_t_worth, .int v_t_lastReason])), (a_t_isKept, .inl (cZ, 2, .inl r_t_isKept)), (a_t_page, .inl (cI, 265, .inl r_t_page)), (a_t_readPage, .inl (cI, 265, .inl r_t_readPage)), (a_t_text, .inl (cI, 120, .inl r_t_text))] sz) (pn_Qi D rR [(a_t, .inr (6, [.int o_t_thrown, .ref a_t_text, .int v_t_textSize, .int o_t_place, .ref a_t_readPage, .ref a_t_page, .ref a_t_trial, .ref a_t_work, .ref a_t_book, .int o_t_doings, .ref a_t_kept, .ref a_t_isKept, .int v_t_seen, .ref a_t_seenWhat, .ref a_t_seenV, .ref a_t_seenIs, .long v_t_seed, .ref a_t_label, .ref a_t_finds, .ref a_t_reason, .ref a_t_caseFirst, .int v_t_cases, .ref a_t_brief, .ref a_t_printed, .int v_t_printedSize, .ref a_t_renamed, .ref a_t_worth, .int v_t_lastReason])), (a_t_isKept, .inl (cZ, 2, .inl o_t_isKept)), (a_t_page, .inl (cI, 265, .inl o_t_page)), (a_t_readPage, .inl (cI, 265, .inl o_t_readPage)), (a_t_text, .inl (cI, 120, .inl r_t_text))] (va_A [(a_t, .inr (6, [.int v_t_thrown, .ref a_t_text, .int v_t_textSize, .int v_t_place, .ref a_t_readPage, .ref a_t_page, .ref a_t_trial, .ref a_t_work, .ref a_t_book, .int v_t_doings, .ref a_t_kept, .ref a_t_isKept, .int v_t_seen, .ref a_t_seenWhat, .ref a_t_seenV, .ref a_t_seenIs, .long v_t_seed, .ref a_t_label, .ref a_t_finds, .ref a_t_reason, .ref a_t_caseFirst, .int v_t_cases, .ref a_t_brief, .ref a_t_printed, .int v_t_printedSize, .ref a_t_renamed, .ref a_t_worth, .int v_t_lastReason])), (a_t_isKept, .inl (cZ, 2, .inl r_t_isKept)), (a_t_page, .inl (cI, 265, .inl r_t_page)), (a_t_readPage, .inl (cI, 265, .inl r_t_readPage)), (a_t_text, .inl (cI, 120, .inl r_t_text))] sz)) 0 0 (va_A [(a_t, .inr (6, [.int v_t_thrown, .ref a_t_text, .int v_t_textSize, .int v_t_place, .ref a_t_readPage, .ref a_t_page, .ref a_t_trial, .ref a_t_work, .ref a_t_book, .int v_t_doings, .ref a_t_kept, .ref a_t_isKept, .int v_t_seen, .ref a_t_seenWhat, .ref a_t_seenV, .ref a_t_seenIs, .long v_t_seed, .ref a_t_label, .ref a_t_finds, .ref a_t_reason, .ref a_t_caseFirst, .int v_t_cases, .ref a_t_brief, .ref a_t_printed, .int v_t_printedSize, .ref a_t_renamed, .ref a_t_worth, .int v_t_lastReason])), (a_t_isKept, .inl (cZ, 2, .inl r_t_isKept)), (a_t_page, .inl (cI, 265, .inl r_t_page)), (a_t_readPage, .inl (cI, 265, .inl r_t_readPage)), (a_t_text, .inl (cI, 120, .inl r_t_text))] sz) := by
  refine pn_entry (cc := cX7_paper) (maxL := 1) (ret := (some .int)) (Qf := pn_Qi D rR [(a_t, .inr (6, [.int o_t_thrown, .ref a_t_text, .int v_t_textSize, .int o_t_place, .ref a_t_readPage, .ref a_t_page, .ref a_t_trial, .ref a_t_work, .ref a_t_book, .int o_t_doings, .ref a_t_kept, .ref a_t_isKept, .int v_t_seen, .ref a_t_seenWhat, .ref a_t_seenV, .ref a_t_seenIs, .long v_t_seed, .ref a_t_label, .ref a_t_finds, .ref a_t_reason, .ref a_t_caseFirst, .int v_t_cases, .ref a_t_brief, .ref a_t_printed, .int v_t_printedSize, .ref a_t_renamed, .ref a_t_worth, .int v_t_lastReason])), (a_t_isKept, .inl (cZ, 2, .inl o_t_isKept)), (a_t_page, .inl (cI, 265, .inl o_t_page)), (a_t_readPage, .inl (cI, 265, .inl o_t_readPage)), (a_t_text, .inl (cI, 120, .inl r_t_text))]) (by decide) rfl (Nat.le_of_ble_eq_true rfl) ?_
  intro p e s m args below meth c A ls H locs Qm hQ hx hb hr hlocks hml hown hts hK hP hD hA hS hl
  have hl : lv_has ls 1 [(0, .ref a_t)] := hl
  have hinX7 : ∀ w ∈ wsX70, w ∈ wsX7_paper := by decide +kernel
  have fl_13 := hts (.fieldLink RX7 13 "PointingNotesModel" "readPage" "[I") (by decide +kernel)
  have fl_16 := hts (.fieldLink RX7 16 "PointingNotesModel" "page" "[I") (by decide +kernel)
  have fl_31 := hts (.fieldLink RX7 31 "PointingNotesModel" "isKept" "[Z") (by decide +kernel)
  have fl_68 := hts (.fieldLink RX7 68 "PointingNotesModel" "thrown" "I") (by decide +kernel)
  have fl_131 := hts (.fieldLink RX7 131 "PointingNotesModel" "doings" "I") (by decide +kernel)
  rw [f_X7_paper] at hf
  refine lv_aload_n hx hb dX7_paper_0 rfl (lv_at hl 0 rfl) ?_
  refine lv_iconst (v := (0)) hx hb dX7_paper_1 (by decide) ?_
  refine va_put (D := D) (ci := 6) (v := .int (0 : Int32)) (ty := .int) (C := RX7) (T := TX7) (N := 28) hx hb hts hinX7 tyX7 tyX7_ok nmX7 hown hK.1 hP (hD.addr rfl) hS 0 rfl rfl 0 (by decide) fl_68 (fun _ h9 => h9) rfl (by decide +kernel) rfl rfl (Nat.le_of_ble_eq_true rfl) dX7_paper_2 (fun H locs (hP : va_P D vwCl [(a_t, .inr (6, [.int ((0 : Int32)), .ref a_t_text, .int v_t_textSize, .int v_t_place, .ref a_t_readPage, .ref a_t_page, .ref a_t_trial, .ref a_t_work, .ref a_t_book, .int v_t_doings, .ref a_t_kept, .ref a_t_isKept, .int v_t_seen, .ref a_t_seenWhat, .ref a_t_seenV, .ref a_t_seenIs, .long v_t_seed, .ref a_t_label, .ref a_t_finds, .ref a_t_reason, .ref a_t_caseFirst, .int v_t_cases, .ref a_t_brief, .ref a_t_printed, .int v_t_printedSize, .ref a_t_renamed, .ref a_t_worth, .int v_t_lastReason])), (a_t_isKept, .inl (cZ, 2, .inl r_t_isKept)), (a_t_page, .inl (cI, 265, .inl r_t_page)), (a_t_readPage, .inl (cI, 265, .inl r_t_readPage)), (a_t_text, .inl (cI, 120, .inl r_t_text))] H) _ hS => ?_)
  refine lv_aload_n hx hb dX7_paper_5 rfl (lv_at hl 0 rfl) ?_
  obtain ⟨ru1, v_t_place_u1, r_t_readPage_u1, hu1, hf⟩ := pn_bd3_at hf
  refine pn_calli [0, 3, 4] (va_runV (As := []) (rest := []) ⟨hx, hb, hml, hown, hts⟩ (c_X7_readPaper l D cI cJ cZ a_t a_t_text a_t_readPage a_t_page a_t_trial a_t_work a_t_book a_t_kept a_t_isKept a_t_seenWhat a_t_seenV a_t_seenIs a_t_label a_t_finds a_t_reason a_t_caseFirst a_t_brief a_t_printed a_t_renamed a_t_worth H.size (0 : Int32) v_t_doings v_t_seen v_t_seed v_t_cases v_t_printedSize v_t_lastReason N v_t_textSize v_t_place r_t_readPage r_t_text ru1 v_t_place_u1 r_t_readPage_u1 hu1) (cwV 0 hts gX7_paper_X7_readPaper rfl rfl rfl hdX7_readPaper ⟨Nat.le_of_ble_eq_true rfl, Nat.le_of_ble_eq_true rfl⟩) (pn_preV [0, 3, 4] hP (hD.addr rfl) hK rfl rfl (q0 := 0) (ci := 6) rfl rfl) rfl rfl hl.1 rfl (lv_room (Nat.le_of_ble_eq_true rfl)) dX7_paper_6 ⟨Nat.zero_le _, Nat.zero_le _⟩) hP (hD.addr rfl) hS hA rfl rfl rfl (fun H locs (hP : va_P D vwCl [(a_t, .inr (6, [.int ((0 : Int32)), .ref a_t_text, .int v_t_textSize, .int v_t_place_u1, .ref a_t_readPage, .ref a_t_page, .ref a_t_trial, .ref a_t_work, .ref a_t_book, .int v_t_doings, .ref a_t_kept, .ref a_t_isKept, .int v_t_seen, .ref a_t_seenWhat, .ref a_t_seenV, .ref a_t_seenIs, .long v_t_seed, .ref a_t_label, .ref a_t_finds, .ref a_t_reason, .ref a_t_caseFirst, .int v_t_cases, .ref a_t_brief, .ref a_t_printed, .int v_t_printedSize, .ref a_t_renamed, .ref a_t_worth, .int v_t_lastReason])), (a_t_isKept, .inl (cZ, 2, .inl r_t_isKept)), (a_t_page, .inl (cI, 265, .inl r_t_page)), (a_t_readPage, .inl (cI, 265, .inl r_t_readPage_u1)), (a_t_text, .inl (cI, 120, .inl r_t_text))] H) _ hS => ?_)
  refine lv_bipush (v := (-9)) hx hb dX7_paper_9 (by decide) ?_
  refine lv_icmp_eq (tgt := 17) hx hb dX7_paper_11 (by decide) (fun c2 => ?_) (fun c2 => ?_)
  · have hf := pn_ifp c2 hf
    refine lv_aload_n hx hb dX7_paper_17 rfl (lv_at hl 0 rfl) ?_
    refine va_get (D := D) (ci := 6) (v := .ref a_t_page) (C := RX7) (T := TX7) (N := 28) hx hb hts hinX7 hown hK.1 hP 0 rfl rfl 5 (by decide) fl_16 (fun _ h9 => h9) rfl dX7_paper_18 ?_
    refine lv_aload_n hx hb dX7_paper_21 rfl (lv_at hl 0 rfl) ?_
    refine va_get (D := D) (ci := 6) (v := .ref a_t_readPage) (C := RX7) (T := TX7) (N := 28) hx hb hts hinX7 hown hK.1 hP 0 rfl rfl 4 (by decide) fl_13 (fun _ h9 => h9) rfl dX7_paper_22 ?_
    obtain ⟨r_t_page_u3, hu3, hf⟩ := pn_bd1_at hf
    refine pn_callv [2, 3] (va_runS (As := [.ref a_t_page, .ref a_t_readPage]) (rest := []) ⟨hx, hb, hml, hown, hts⟩ (c_X7_lay l D cI cJ cZ a_t_page a_t_readPage H.size N r_t_page r_t_readPage_u1 r_t_page_u3 hu3) (va_cwS 2 hts gX7_paper_X7_lay rfl rfl rfl hdX7_lay ⟨Nat.le_of_ble_eq_true rfl, Nat.le_of_ble_eq_true rfl⟩) (pn_preS [2, 3] hP (hD.addr rfl) hK rfl rfl) rfl rfl hl.1 rfl (lv_room (Nat.le_of_ble_eq_true rfl)) dX7_paper_25 ⟨Nat.zero_le _, Nat.zero_le _⟩) hP (hD.addr rfl) hS hA rfl rfl rfl (fun H locs (hP : va_P D vwCl [(a_t, .inr (6, [.int ((0 : Int32)), .ref a_t_text, .int v_t_textSize, .int v_t_place_u1, .ref a_t_readPage, .ref a_t_page, .ref a_t_trial, .ref a_t_work, .ref a_t_book, .int v_t_doings, .ref a_t_kept, .ref a_t_isKept, .int v_t_seen, .ref a_t_seenWhat, .ref a_t_seenV, .ref a_t_seenIs, .long v_t_seed, .ref a_t_label, .ref a_t_finds, .ref a_t_reason, .ref a_t_caseFirst, .int v_t_cases, .ref a_t_brief, .ref a_t_printed, .int v_t_printedSize, .ref a_t_renamed, .ref a_t_worth, .int v_t_lastReason])), (a_t_isKept, .inl (cZ, 2, .inl r_t_isKept)), (a_t_page, .inl (cI, 265, .inl r_t_page_u3)), (a_t_readPage, .inl (cI, 265, .inl r_t_readPage_u1)), (a_t_text, .inl (cI, 120, .inl r_t_text))] H) _ hS => ?_)
    refine lv_aload_n hx hb dX7_paper_28 rfl (lv_at hl 0 rfl) ?_
    refine lv_iconst (v := (0)) hx hb dX7_paper_29 (by decide) ?_
    refine va_put (D := D) (ci := 6) (v := .int (0 : Int32)) (ty := .int) (C := RX7) (T := TX7) (N := 28) hx hb hts hinX7 tyX7 tyX7_ok nmX7 hown hK.1 hP (hD.addr rfl) hS 0 rfl rfl 9 (by decide) fl_131 (fun _ h9 => h9) rfl (by decide +kernel) rfl rfl (Nat.le_of_ble_eq_true rfl) dX7_paper_30 (fun H locs (hP : va_P D vwCl [(a_t, .inr (6, [.int ((0 : Int32)), .ref a_t_text, .int v_t_textSize, .int v_t_place_u1, .ref a_t_readPage, .ref a_t_page, .ref a_t_trial, .ref a_t_work, .ref a_t_book, .int ((0 : Int32)), .ref a_t_kept, .ref a_t_isKept, .int v_t_seen, .ref a_t_seenWhat, .ref a_t_seenV, .ref a_t_seenIs, .long v_t_seed, .ref a_t_label, .ref a_t_finds, .ref a_t_reason, .ref a_t_caseFirst, .int v_t_cases, .ref a_t_brief, .ref a_t_printed, .int v_t_printedSize, .ref a_t_renamed, .ref a_t_worth, .int v_t_lastReason])), (a_t_isKept, .inl (cZ, 2, .inl r_t_isKept)), (a_t_page, .inl (cI, 265, .inl r_t_page_u3)), (a_t_readPage, .inl (cI, 265, .inl r_t_readPage_u1)), (a_t_text, .inl (cI, 120, .inl r_t_text))] H) _ hS => ?_)
    refine lv_aload_n hx hb dX7_paper_33 rfl (lv_at hl 0 rfl) ?_
    refine va_get (D := D) (ci := 6) (v := .ref a_t_isKept) (C := RX7) (T := TX7) (N := 28) hx hb hts hinX7 hown hK.1 hP 0 rfl rfl 11 (by decide) fl_31 (fun _ h9 => h9) rfl dX7_paper_34 ?_
    refine lv_iconst (v := (0)) hx hb dX7_paper_37 (by decide) ?_
    refine lv_iconst (v := (0)) hx hb dX7_paper_38 (by decide) ?_
    obtain ⟨hi5, g4, eg4, hf⟩ := pn_wrZ_at hf
    refine pn_stZ hx hb hK.1 hP (hD.addr rfl) hS 1 2 rfl rfl hi5 eg4 dX7_paper_39 (fun H locs (hP : va_P D vwCl [(a_t, .inr (6, [.int ((0 : Int32)), .ref a_t_text, .int v_t_textSize, .int v_t_place_u1, .ref a_t_readPage, .ref a_t_page, .ref a_t_trial, .ref a_t_work, .ref a_t_book, .int ((0 : Int32)), .ref a_t_kept, .ref a_t_isKept, .int v_t_seen, .ref a_t_seenWhat, .ref a_t_seenV, .ref a_t_seenIs, .long v_t_seed, .ref a_t_label, .ref a_t_finds, .ref a_t_reason, .ref a_t_caseFirst, .int v_t_cases, .ref a_t_brief, .ref a_t_printed, .int v_t_printedSize, .ref a_t_renamed, .ref a_t_worth, .int v_t_lastReason])), (a_t_isKept, .inl (cZ, 2, .inl g4)), (a_t_page, .inl (cI, 265, .inl r_t_page_u3)), (a_t_readPage, .inl (cI, 265, .inl r_t_readPage_u1)), (a_t_text, .inl (cI, 120, .inl r_t_text))] H) _ hS => ?_)
    refine lv_aload_n hx hb dX7_paper_40 rfl (lv_at hl 0 rfl) ?_
    refine va_get (D := D) (ci := 6) (v := .ref a_t_isKept) (C := RX7) (T := TX7) (N := 28) hx hb hts hinX7 hown hK.1 hP 0 rfl rfl 11 (by decide) fl_31 (fun _ h9 => h9) rfl dX7_paper_41 ?_
    refine lv_iconst (v := (1)) hx hb dX7_paper_44 (by decide) ?_
    refine lv_iconst (v := (0)) hx hb dX7_paper_45 (by decide) ?_
    obtain ⟨hi7, g6, eg6, hf⟩ := pn_wrZ_at hf
    refine pn_stZ hx hb hK.1 hP (hD.addr rfl) hS 1 2 rfl rfl hi7 eg6 dX7_paper_46 (fun H locs (hP : va_P D vwCl [(a_t, .inr (6, [.int ((0 : Int32)), .ref a_t_text, .int v_t_textSize, .int v_t_place_u1, .ref a_t_readPage, .ref a_t_page, .ref a_t_trial, .ref a_t_work, .ref a_t_book, .int ((0 : Int32)), .ref a_t_kept, .ref a_t_isKept, .int v_t_seen, .ref a_t_seenWhat, .ref a_t_seenV, .ref a_t_seenIs, .long v_t_seed, .ref a_t_label, .ref a_t_finds, .ref a_t_reason, .ref a_t_caseFirst, .int v_t_cases, .ref a_t_brief, .ref a_t_printed, .int v_t_printedSize, .ref a_t_renamed, .ref a_t_worth, .int v_t_lastReason])), (a_t_isKept, .inl (cZ, 2, .inl g6)), (a_t_page, .inl (cI, 265, .inl r_t_page_u3)), (a_t_readPage, .inl (cI, 265, .inl r_t_readPage_u1)), (a_t_text, .inl (cI, 120, .inl r_t_text))] H) _ hS => ?_)
    refine lv_aload_n hx hb dX7_paper_47 rfl (lv_at hl 0 rfl) ?_
    refine va_get (D := D) (ci := 6) (v := .ref a_t_page) (C := RX7) (T := TX7) (N := 28) hx hb hts hinX7 hown hK.1 hP 0 rfl rfl 5 (by decide) fl_16 (fun _ h9 => h9) rfl dX7_paper_48 ?_
    refine lv_iconst (v := (0)) hx hb dX7_paper_51 (by decide) ?_
    obtain ⟨hi9, w8, ew8, hf⟩ := pn_rd_at hf
    refine pn_ldI hx hb hK.1 hP 2 0 rfl rfl hi9 ew8 dX7_paper_52 ?_
    cases hf
    rw [hQ]
    exact pn_reti hx hb hr hlocks hP hS rfl dX7_paper_53
  · have hf := pn_ifn c2 hf
    refine lv_bipush (v := (-3)) hx hb dX7_paper_14 (by decide) ?_
    cases hf
    rw [hQ]
    exact pn_reti hx hb hr hlocks hP hS rfl dX7_paper_16
def f_X7_reference (v_t_thrown : Int32) (r_t_page : Nat → Int32) (p1 : Int32) (p2 : Int32) (p3 : Int32) : Option (Int32 × Int32) :=
  pn_bd1 (f_X7_isThere r_t_page p1 p2) fun ru1 =>
  if ¬ ru1 = 0 then
  pn_bd1 (f_X7_in p3.toInt64 (0 : Int64) (2 : Int64)) fun ru3 =>
  if ¬ ru3 = 0 then
  pn_nm (((4 : Int32) * p1) + p2) fun z5 =>
  pn_bd1 (f_X7_ref r_t_page z5 (0 : Int32)) fun ru6 =>
  if ¬ p3 = (1 : Int32) then
  if ¬ p3 = 0 then
  if ¬ ru6 = (3 : Int32) then
  some ((-9 : Int32), (0 : Int32))
  else
  pn_bd1 (f_X7_ref r_t_page z5 (6 : Int32)) fun ru10 =>
  some (ru10, (0 : Int32))
  else
  some (ru6, (0 : Int32))
  else
  pn_bd1 (f_X7_ref r_t_page z5 (7 : Int32)) fun ru11 =>
  if ¬ ru11 = 0 then
  pn_bd1 (f_X7_ref r_t_page z5 (7 : Int32)) fun ru13 =>
  some (ru13, (0 : Int32))
  else
  some ((-9 : Int32), (0 : Int32))
  else
  some ((-2 : Int32), (0 : Int32))
  else
  some ((-1 : Int32), (0 : Int32))
set_option maxHeartbeats 4000000 in
set_option maxRecDepth 100000 in
theorem c_X7_reference (l : Launch) (D : va_G) (cI cJ cZ : ClassId) (a_t a_t_text a_t_readPage a_t_page a_t_trial a_t_work a_t_book a_t_kept a_t_isKept a_t_seenWhat a_t_seenV a_t_seenIs a_t_label a_t_finds a_t_reason a_t_caseFirst a_t_brief a_t_printed a_t_renamed a_t_worth : Nat) (sz : Nat) (v_t_textSize : Int32) (v_t_place : Int32) (v_t_doings : Int32) (v_t_seen : Int32) (v_t_seed : Int64) (v_t_cases : Int32) (v_t_printedSize : Int32) (v_t_lastReason : Int32) (v_t_thrown : Int32) (r_t_page : Nat → Int32) (p1 : Int32) (p2 : Int32) (p3 : Int32) (rR : Int32) (o_t_thrown : Int32) (hf : f_X7_reference v_t_thrown r_t_page p1 p2 p3 = some (rR, o_t_thrown)) : Met l yX7_reference wsX7_reference { frames := 2, cells := 0, slots := 0, locals := 47 } (pn_Pc D cI cJ cZ [.ref a_t, .int p1, .int p2, .int p3] [(a_t, .inr (6, [.int v_t_thrown, .ref a_t_text, .int v_t_textSize, .int v_t_place, .ref a_t_readPage, .ref a_t_page, .ref a_t_trial, .ref a_t_work, .ref a_t_book, .int v_t_doings, .ref a_t_kept, .ref a_t_isKept, .int v_t_seen, .ref a_t_seenWhat, .ref a_t_seenV, .ref a_t_seenIs, .long v_t_seed, .ref a_t_label, .ref a_t_finds, .ref a_t_reason, .ref a_t_caseFirst, .int v_t_cases, .ref a_t_brief, .ref a_t_printed, .int v_t_printedSize, .ref a_t_renamed, .ref a_t_worth, .int v_t_lastReason])), (a_t_page, .inl (cI, 265, .inl r_t_page))] sz) (pn_Qi D rR [(a_t, .inr (6, [.int o_t_thrown, .ref a_t_text, .int v_t_textSize, .int v_t_place, .ref a_t_readPage, .ref a_t_page, .ref a_t_trial, .ref a_t_work, .ref a_t_book, .int v_t_doings, .ref a_t_kept, .ref a_t_isKept, .int v_t_seen, .ref a_t_seenWhat, .ref a_t_seenV, .ref a_t_seenIs, .long v_t_seed, .ref a_t_label, .ref a_t_finds, .ref a_t_reason, .ref a_t_caseFirst, .int v_t_cases, .ref a_t_brief, .ref a_t_printed, .int v_t_printedSize, .ref a_t_renamed, .ref a_t_worth, .int v_t_lastReason])), (a_t_page, .inl (cI, 265, .inl r_t_page))] (va_A [(a_t, .inr (6, [.int v_t_thrown, .ref a_t_text, .int v_t_textSize, .int v_t_place, .ref a_t_readPage, .ref a_t_page, .ref a_t_trial, .ref a_t_work, .ref a_t_book, .int v_t_doings, .ref a_t_kept, .ref a_t_isKept, .int v_t_seen, .ref a_t_seenWhat, .ref a_t_seenV, .ref a_t_seenIs, .long v_t_seed, .ref a_t_label, .ref a_t_finds, .ref a_t_reason, .ref a_t_caseFirst, .int v_t_cases, .ref a_t_brief, .ref a_t_printed, .int v_t_printedSize, .ref a_t_renamed, .ref a_t_worth, .int v_t_lastReason])), (a_t_page, .inl (cI, 265, .inl r_t_page))] sz)) 0 0 (va_A [(a_t, .inr (6, [.int v_t_thrown, .ref a_t_text, .int v_t_textSize, .int v_t_place, .ref a_t_readPage, .ref a_t_page, .ref a_t_trial, .ref a_t_work, .ref a_t_book, .int v_t_doings, .ref a_t_kept, .ref a_t_isKept, .int v_t_seen, .ref a_t_seenWhat, .ref a_t_seenV, .ref a_t_seenIs, .long v_t_seed, .ref a_t_label, .ref a_t_finds, .ref a_t_reason, .ref a_t_caseFirst, .int v_t_cases, .ref a_t_brief, .ref a_t_printed, .int v_t_printedSize, .ref a_t_renamed, .ref a_t_worth, .int v_t_lastReason])), (a_t_page, .inl (cI, 265, .inl r_t_page))] sz) := by
  refine pn_entry (cc := cX7_reference) (maxL := 6) (ret := (some .int)) (Qf := pn_Qi D rR [(a_t, .inr (6, [.int o_t_thrown, .ref a_t_text, .int v_t_textSize, .int v_t_place, .ref a_t_readPage, .ref a_t_page, .ref a_t_trial, .ref a_t_work, .ref a_t_book, .int v_t_doings, .ref a_t_kept, .ref a_t_isKept, .int v_t_seen, .ref a_t_seenWhat, .ref a_t_seenV, .ref a_t_seenIs, .long v_t_seed, .ref a_t_label, .ref a_t_finds, .ref a_t_reason, .ref a_t_caseFirst, .int v_t_cases, .ref a_t_brief, .ref a_t_printed, .int v_t_printedSize, .ref a_t_renamed, .ref a_t_worth, .int v_t_lastReason])), (a_t_page, .inl (cI, 265, .inl r_t_page))]) (by decide) rfl (Nat.le_of_ble_eq_true rfl) ?_
  intro p e s m args below meth c A ls H locs Qm hQ hx hb hr hlocks hml hown hts hK hP hD hA hS hl
  have hl : lv_has ls 6 [(0, .ref a_t), (1, .int p1), (2, .int p2), (3, .int p3)] := hl
  have hinX7 : ∀ w ∈ wsX70, w ∈ wsX7_reference := by decide +kernel
  have fl_16 := hts (.fieldLink RX7 16 "PointingNotesModel" "page" "[I") (by decide +kernel)
  have fl_68 := hts (.fieldLink RX7 68 "PointingNotesModel" "thrown" "I") (by decide +kernel)
  have kl_134 := hts (.constantLong RX7 134 (2)) (by decide +kernel)
  rw [f_X7_reference] at hf
  refine lv_aload_n hx hb dX7_reference_0 rfl (lv_at hl 0 rfl) ?_
  refine lv_iconst (v := (0)) hx hb dX7_reference_1 (by decide) ?_
  refine va_put (D := D) (ci := 6) (v := .int (0 : Int32)) (ty := .int) (C := RX7) (T := TX7) (N := 28) hx hb hts hinX7 tyX7 tyX7_ok nmX7 hown hK.1 hP (hD.addr rfl) hS 0 rfl rfl 0 (by decide) fl_68 (fun _ h9 => h9) rfl (by decide +kernel) rfl rfl (Nat.le_of_ble_eq_true rfl) dX7_reference_2 (fun H locs (hP : va_P D vwCl [(a_t, .inr (6, [.int ((0 : Int32)), .ref a_t_text, .int v_t_textSize, .int v_t_place, .ref a_t_readPage, .ref a_t_page, .ref a_t_trial, .ref a_t_work, .ref a_t_book, .int v_t_doings, .ref a_t_kept, .ref a_t_isKept, .int v_t_seen, .ref a_t_seenWhat, .ref a_t_seenV, .ref a_t_seenIs, .long v_t_seed, .ref a_t_label, .ref a_t_finds, .ref a_t_reason, .ref a_t_caseFirst, .int v_t_cases, .ref a_t_brief, .ref a_t_printed, .int v_t_printedSize, .ref a_t_renamed, .ref a_t_worth, .int v_t_lastReason])), (a_t_page, .inl (cI, 265, .inl r_t_page))] H) _ hS => ?_)
  refine lv_aload_n hx hb dX7_reference_5 rfl (lv_at hl 0 rfl) ?_
  refine va_get (D := D) (ci := 6) (v := .ref a_t_page) (C := RX7) (T := TX7) (N := 28) hx hb hts hinX7 hown hK.1 hP 0 rfl rfl 5 (by decide) fl_16 (fun _ h9 => h9) rfl dX7_reference_6 ?_
  refine lv_iload_n hx hb dX7_reference_9 rfl (lv_at hl 1 rfl) ?_
  refine lv_iload_n hx hb dX7_reference_10 rfl (lv_at hl 2 rfl) ?_
  obtain ⟨ru1, hu1, hf⟩ := pn_bd1_at hf
  refine pn_calli [1] (va_runS (As := [.ref a_t_page, .int p1, .int p2]) (rest := []) ⟨hx, hb, hml, hown, hts⟩ (c_X7_isThere l D cI cJ cZ a_t_page H.size r_t_page p1 p2 ru1 hu1) (va_cwS 3 hts gX7_reference_X7_isThere rfl rfl rfl hdX7_isThere ⟨Nat.le_of_ble_eq_true rfl, Nat.le_of_ble_eq_true rfl⟩) (pn_preS [1] hP (hD.addr rfl) hK rfl rfl) rfl rfl hl.1 rfl (lv_room (Nat.le_of_ble_eq_true rfl)) dX7_reference_11 ⟨Nat.zero_le _, Nat.zero_le _⟩) hP (hD.addr rfl) hS hA rfl rfl rfl (fun H locs (hP : va_P D vwCl [(a_t, .inr (6, [.int ((0 : Int32)), .ref a_t_text, .int v_t_textSize, .int v_t_place, .ref a_t_readPage, .ref a_t_page, .ref a_t_trial, .ref a_t_work, .ref a_t_book, .int v_t_doings, .ref a_t_kept, .ref a_t_isKept, .int v_t_seen, .ref a_t_seenWhat, .ref a_t_seenV, .ref a_t_seenIs, .long v_t_seed, .ref a_t_label, .ref a_t_finds, .ref a_t_reason, .ref a_t_caseFirst, .int v_t_cases, .ref a_t_brief, .ref a_t_printed, .int v_t_printedSize, .ref a_t_renamed, .ref a_t_worth, .int v_t_lastReason])), (a_t_page, .inl (cI, 265, .inl r_t_page))] H) _ hS => ?_)
  refine lv_if_ne (tgt := 19) hx hb dX7_reference_14 (by decide) (fun c2 => ?_) (fun c2 => ?_)
  · have hf := pn_ifp c2 hf
    refine lv_iload_n hx hb dX7_reference_19 rfl (lv_at hl 3 rfl) ?_
    refine lv_i2l hx hb dX7_reference_20 rfl ?_
    refine lv_lconst (v := 0) hx hb dX7_reference_21 (by decide) ?_
    refine lv_ldc2 hx hb hown kl_134 dX7_reference_22 ?_
    obtain ⟨ru3, hu3, hf⟩ := pn_bd1_at hf
    refine pn_calli [] (va_runS (As := [.long p3.toInt64, .long (0 : Int64), .long (2 : Int64)]) (rest := []) ⟨hx, hb, hml, hown, hts⟩ (c_X7_in l D cI cJ cZ H.size p3.toInt64 (0 : Int64) (2 : Int64) ru3 hu3) (va_cwS 3 hts gX7_reference_X7_in rfl rfl rfl hdX7_in ⟨Nat.le_of_ble_eq_true rfl, Nat.le_of_ble_eq_true rfl⟩) (pn_preS [] hP (hD.addr rfl) hK rfl rfl) rfl rfl hl.1 rfl (lv_room (Nat.le_of_ble_eq_true rfl)) dX7_reference_25 ⟨Nat.zero_le _, Nat.zero_le _⟩) hP (hD.addr rfl) hS hA rfl rfl rfl (fun H locs (hP : va_P D vwCl [(a_t, .inr (6, [.int ((0 : Int32)), .ref a_t_text, .int v_t_textSize, .int v_t_place, .ref a_t_readPage, .ref a_t_page, .ref a_t_trial, .ref a_t_work, .ref a_t_book, .int v_t_doings, .ref a_t_kept, .ref a_t_isKept, .int v_t_seen, .ref a_t_seenWhat, .ref a_t_seenV, .ref a_t_seenIs, .long v_t_seed, .ref a_t_label, .ref a_t_finds, .ref a_t_reason, .ref a_t_caseFirst, .int v_t_cases, .ref a_t_brief, .ref a_t_printed, .int v_t_printedSize, .ref a_t_renamed, .ref a_t_worth, .int v_t_lastReason])), (a_t_page, .inl (cI, 265, .inl r_t_page))] H) _ hS => ?_)
    refine lv_if_ne (tgt := 34) hx hb dX7_reference_28 (by decide) (fun c4 => ?_) (fun c4 => ?_)
    · have hf := pn_ifp c4 hf
      refine lv_iconst (v := (4)) hx hb dX7_reference_34 (by decide) ?_
      refine lv_iload_n hx hb dX7_reference_35 rfl (lv_at hl 1 rfl) ?_
      refine lv_imul hx hb dX7_reference_36 ?_
      refine lv_iload_n hx hb dX7_reference_37 rfl (lv_at hl 2 rfl) ?_
      refine lv_iadd hx hb dX7_reference_38 ?_
      refine lv_topi (fun z5 ez5 => ?_)
      have hf := pn_nm_at ez5 hf
      refine lv_istore (lv' := [(4, .int z5), (0, .ref a_t), (1, .int p1), (2, .int p2), (3, .int p3)]) hx hb dX7_reference_39 hl (by decide) rfl (fun ls hl => ?_)
      refine lv_aload_n hx hb dX7_reference_41 rfl (lv_at hl 1 rfl) ?_
      refine va_get (D := D) (ci := 6) (v := .ref a_t_page) (C := RX7) (T := TX7) (N := 28) hx hb hts hinX7 hown hK.1 hP 0 rfl rfl 5 (by decide) fl_16 (fun _ h9 => h9) rfl dX7_reference_42 ?_
      refine lv_iload hx hb dX7_reference_45 (lv_at hl 0 rfl) ?_
      refine lv_iconst (v := (0)) hx hb dX7_reference_47 (by decide) ?_
      obtain ⟨ru6, hu6, hf⟩ := pn_bd1_at hf
      refine pn_calli [1] (va_runS (As := [.ref a_t_page, .int z5, .int (0 : Int32)]) (rest := []) ⟨hx, hb, hml, hown, hts⟩ (c_X7_ref l D cI cJ cZ a_t_page H.size r_t_page z5 (0 : Int32) ru6 hu6) (va_cwS 3 hts gX7_reference_X7_ref rfl rfl rfl hdX7_ref ⟨Nat.le_of_ble_eq_true rfl, Nat.le_of_ble_eq_true rfl⟩) (pn_preS [1] hP (hD.addr rfl) hK rfl rfl) rfl rfl hl.1 rfl (lv_room (Nat.le_of_ble_eq_true rfl)) dX7_reference_48 ⟨Nat.zero_le _, Nat.zero_le _⟩) hP (hD.addr rfl) hS hA rfl rfl rfl (fun H locs (hP : va_P D vwCl [(a_t, .inr (6, [.int ((0 : Int32)), .ref a_t_text, .int v_t_textSize, .int v_t_place, .ref a_t_readPage, .ref a_t_page, .ref a_t_trial, .ref a_t_work, .ref a_t_book, .int v_t_doings, .ref a_t_kept, .ref a_t_isKept, .int v_t_seen, .ref a_t_seenWhat, .ref a_t_seenV, .ref a_t_seenIs, .long v_t_seed, .ref a_t_label, .ref a_t_finds, .ref a_t_reason, .ref a_t_caseFirst, .int v_t_cases, .ref a_t_brief, .ref a_t_printed, .int v_t_printedSize, .ref a_t_renamed, .ref a_t_worth, .int v_t_lastReason])), (a_t_page, .inl (cI, 265, .inl r_t_page))] H) _ hS => ?_)
      refine lv_istore (lv' := [(5, .int ru6), (4, .int z5), (0, .ref a_t), (1, .int p1), (2, .int p2), (3, .int p3)]) hx hb dX7_reference_51 hl (by decide) rfl (fun ls hl => ?_)
      refine lv_iload_n hx hb dX7_reference_53 rfl (lv_at hl 5 rfl) ?_
      refine lv_iconst (v := (1)) hx hb dX7_reference_54 (by decide) ?_
      refine lv_icmp_ne (tgt := 89) hx hb dX7_reference_55 (by decide) (fun c7 => ?_) (fun c7 => ?_)
      · have hf := pn_ifp c7 hf
        refine lv_iload_n hx hb dX7_reference_89 rfl (lv_at hl 5 rfl) ?_
        refine lv_if_ne (tgt := 98) hx hb dX7_reference_90 (by decide) (fun c8 => ?_) (fun c8 => ?_)
        · have hf := pn_ifp c8 hf
          refine lv_iload hx hb dX7_reference_98 (lv_at hl 0 rfl) ?_
          refine lv_iconst (v := (3)) hx hb dX7_reference_100 (by decide) ?_
          refine lv_icmp_ne (tgt := 118) hx hb dX7_reference_101 (by decide) (fun c9 => ?_) (fun c9 => ?_)
          · have hf := pn_ifp c9 hf
            refine lv_bipush (v := (-9)) hx hb dX7_reference_118 (by decide) ?_
            cases hf
            rw [hQ]
            exact pn_reti hx hb hr hlocks hP hS rfl dX7_reference_120
          · have hf := pn_ifq c9 hf
            refine lv_aload_n hx hb dX7_reference_104 rfl (lv_at hl 2 rfl) ?_
            refine va_get (D := D) (ci := 6) (v := .ref a_t_page) (C := RX7) (T := TX7) (N := 28) hx hb hts hinX7 hown hK.1 hP 0 rfl rfl 5 (by decide) fl_16 (fun _ h9 => h9) rfl dX7_reference_105 ?_
            refine lv_iload hx hb dX7_reference_108 (lv_at hl 1 rfl) ?_
            refine lv_bipush (v := (6)) hx hb dX7_reference_110 (by decide) ?_
            obtain ⟨ru10, hu10, hf⟩ := pn_bd1_at hf
            refine pn_calli [1] (va_runS (As := [.ref a_t_page, .int z5, .int (6 : Int32)]) (rest := []) ⟨hx, hb, hml, hown, hts⟩ (c_X7_ref l D cI cJ cZ a_t_page H.size r_t_page z5 (6 : Int32) ru10 hu10) (va_cwS 3 hts gX7_reference_X7_ref rfl rfl rfl hdX7_ref ⟨Nat.le_of_ble_eq_true rfl, Nat.le_of_ble_eq_true rfl⟩) (pn_preS [1] hP (hD.addr rfl) hK rfl rfl) rfl rfl hl.1 rfl (lv_room (Nat.le_of_ble_eq_true rfl)) dX7_reference_112 ⟨Nat.zero_le _, Nat.zero_le _⟩) hP (hD.addr rfl) hS hA rfl rfl rfl (fun H locs (hP : va_P D vwCl [(a_t, .inr (6, [.int ((0 : Int32)), .ref a_t_text, .int v_t_textSize, .int v_t_place, .ref a_t_readPage, .ref a_t_page, .ref a_t_trial, .ref a_t_work, .ref a_t_book, .int v_t_doings, .ref a_t_kept, .ref a_t_isKept, .int v_t_seen, .ref a_t_seenWhat, .ref a_t_seenV, .ref a_t_seenIs, .long v_t_seed, .ref a_t_label, .ref a_t_finds, .ref a_t_reason, .ref a_t_caseFirst, .int v_t_cases, .ref a_t_brief, .ref a_t_printed, .int v_t_printedSize, .ref a_t_renamed, .ref a_t_worth, .int v_t_lastReason])), (a_t_page, .inl (cI, 265, .inl r_t_page))] H) _ hS => ?_)
            refine lv_goto (tgt := 120) hx hb dX7_reference_115 (by decide) ?_
            cases hf
            rw [hQ]
            exact pn_reti hx hb hr hlocks hP hS rfl dX7_reference_120
        · have hf := pn_ifq c8 hf
          refine lv_iload hx hb dX7_reference_93 (lv_at hl 0 rfl) ?_
          refine lv_goto (tgt := 120) hx hb dX7_reference_95 (by decide) ?_
          cases hf
          rw [hQ]
          exact pn_reti hx hb hr hlocks hP hS rfl dX7_reference_120
      · have hf := pn_ifq c7 hf
        refine lv_aload_n hx hb dX7_reference_58 rfl (lv_at hl 2 rfl) ?_
        refine va_get (D := D) (ci := 6) (v := .ref a_t_page) (C := RX7) (T := TX7) (N := 28) hx hb hts hinX7 hown hK.1 hP 0 rfl rfl 5 (by decide) fl_16 (fun _ h9 => h9) rfl dX7_reference_59 ?_
        refine lv_iload hx hb dX7_reference_62 (lv_at hl 1 rfl) ?_
        refine lv_bipush (v := (7)) hx hb dX7_reference_64 (by decide) ?_
        obtain ⟨ru11, hu11, hf⟩ := pn_bd1_at hf
        refine pn_calli [1] (va_runS (As := [.ref a_t_page, .int z5, .int (7 : Int32)]) (rest := []) ⟨hx, hb, hml, hown, hts⟩ (c_X7_ref l D cI cJ cZ a_t_page H.size r_t_page z5 (7 : Int32) ru11 hu11) (va_cwS 3 hts gX7_reference_X7_ref rfl rfl rfl hdX7_ref ⟨Nat.le_of_ble_eq_true rfl, Nat.le_of_ble_eq_true rfl⟩) (pn_preS [1] hP (hD.addr rfl) hK rfl rfl) rfl rfl hl.1 rfl (lv_room (Nat.le_of_ble_eq_true rfl)) dX7_reference_66 ⟨Nat.zero_le _, Nat.zero_le _⟩) hP (hD.addr rfl) hS hA rfl rfl rfl (fun H locs (hP : va_P D vwCl [(a_t, .inr (6, [.int ((0 : Int32)), .ref a_t_text, .int v_t_textSize, .int v_t_place, .ref a_t_readPage, .ref a_t_page, .ref a_t_trial, .ref a_t_work, .ref a_t_book, .int v_t_doings, .ref a_t_kept, .ref a_t_isKept, .int v_t_seen, .ref a_t_seenWhat, .ref a_t_seenV, .ref a_t_seenIs, .long v_t_seed, .ref a_t_label, .ref a_t_finds, .ref a_t_reason, .ref a_t_caseFirst, .int v_t_cases, .ref a_t_brief, .ref a_t_printed, .int v_t_printedSize, .ref a_t_renamed, .ref a_t_worth, .int v_t_lastReason])), (a_t_page, .inl (cI, 265, .inl r_t_page))] H) _ hS => ?_)
        refine lv_if_ne (tgt := 77) hx hb dX7_reference_69 (by decide) (fun c12 => ?_) (fun c12 => ?_)
        · have hf := pn_ifp c12 hf
          refine lv_aload_n hx hb dX7_reference_77 rfl (lv_at hl 2 rfl) ?_
          refine va_get (D := D) (ci := 6) (v := .ref a_t_page) (C := RX7) (T := TX7) (N := 28) hx hb hts hinX7 hown hK.1 hP 0 rfl rfl 5 (by decide) fl_16 (fun _ h9 => h9) rfl dX7_reference_78 ?_
          refine lv_iload hx hb dX7_reference_81 (lv_at hl 1 rfl) ?_
          refine lv_bipush (v := (7)) hx hb dX7_reference_83 (by decide) ?_
          obtain ⟨ru13, hu13, hf⟩ := pn_bd1_at hf
          refine pn_calli [1] (va_runS (As := [.ref a_t_page, .int z5, .int (7 : Int32)]) (rest := []) ⟨hx, hb, hml, hown, hts⟩ (c_X7_ref l D cI cJ cZ a_t_page H.size r_t_page z5 (7 : Int32) ru13 hu13) (va_cwS 3 hts gX7_reference_X7_ref rfl rfl rfl hdX7_ref ⟨Nat.le_of_ble_eq_true rfl, Nat.le_of_ble_eq_true rfl⟩) (pn_preS [1] hP (hD.addr rfl) hK rfl rfl) rfl rfl hl.1 rfl (lv_room (Nat.le_of_ble_eq_true rfl)) dX7_reference_85 ⟨Nat.zero_le _, Nat.zero_le _⟩) hP (hD.addr rfl) hS hA rfl rfl rfl (fun H locs (hP : va_P D vwCl [(a_t, .inr (6, [.int ((0 : Int32)), .ref a_t_text, .int v_t_textSize, .int v_t_place, .ref a_t_readPage, .ref a_t_page, .ref a_t_trial, .ref a_t_work, .ref a_t_book, .int v_t_doings, .ref a_t_kept, .ref a_t_isKept, .int v_t_seen, .ref a_t_seenWhat, .ref a_t_seenV, .ref a_t_seenIs, .long v_t_seed, .ref a_t_label, .ref a_t_finds, .ref a_t_reason, .ref a_t_caseFirst, .int v_t_cases, .ref a_t_brief, .ref a_t_printed, .int v_t_printedSize, .ref a_t_renamed, .ref a_t_worth, .int v_t_lastReason])), (a_t_page, .inl (cI, 265, .inl r_t_page))] H) _ hS => ?_)
          cases hf
          rw [hQ]
          exact pn_reti hx hb hr hlocks hP hS rfl dX7_reference_88
        · have hf := pn_ifq c12 hf
          refine lv_bipush (v := (-9)) hx hb dX7_reference_72 (by decide) ?_
          refine lv_goto (tgt := 88) hx hb dX7_reference_74 (by decide) ?_
          cases hf
          rw [hQ]
          exact pn_reti hx hb hr hlocks hP hS rfl dX7_reference_88
    · have hf := pn_ifq c4 hf
      refine lv_bipush (v := (-2)) hx hb dX7_reference_31 (by decide) ?_
      cases hf
      rw [hQ]
      exact pn_reti hx hb hr hlocks hP hS rfl dX7_reference_33
  · have hf := pn_ifq c2 hf
    refine lv_iconst (v := (-1)) hx hb dX7_reference_17 (by decide) ?_
    cases hf
    rw [hQ]
    exact pn_reti hx hb hr hlocks hP hS rfl dX7_reference_18
def f_X7_isSpelled (r_q0 : Nat → Int32) (p1 : Int32) (p2 : Int32) : Option (Int32) :=
  pn_bd1 (f_X7_isLeft r_q0 p1 p2) fun ru1 =>
  if ru1 = 0 then
  some (0 : Int32)
  else
  pn_bd1 (f_X7_ref r_q0 p2 (0 : Int32)) fun ru3 =>
  if ¬ ru3 = 0 then
  some (0 : Int32)
  else
  some (1 : Int32)
set_option maxHeartbeats 4000000 in
set_option maxRecDepth 100000 in
theorem c_X7_isSpelled (l : Launch) (D : va_G) (cI cJ cZ : ClassId) (a_q0 : Nat) (sz : Nat) (r_q0 : Nat → Int32) (p1 : Int32) (p2 : Int32) (rR : Int32) (hf : f_X7_isSpelled r_q0 p1 p2 = some rR) : Met l yX7_isSpelled wsX7_isSpelled { frames := 3, cells := 0, slots := 0, locals := 69 } (pn_Pc D cI cJ cZ [.ref a_q0, .int p1, .int p2] [(a_q0, .inl (cI, 265, .inl r_q0))] sz) (pn_Qi D rR [(a_q0, .inl (cI, 265, .inl r_q0))] (va_A [(a_q0, .inl (cI, 265, .inl r_q0))] sz)) 0 0 (va_A [(a_q0, .inl (cI, 265, .inl r_q0))] sz) := by
  refine pn_entry (cc := cX7_isSpelled) (maxL := 3) (ret := (some .boolean)) (Qf := pn_Qi D rR [(a_q0, .inl (cI, 265, .inl r_q0))]) (by decide) rfl (Nat.le_of_ble_eq_true rfl) ?_
  intro p e s m args below meth c A ls H locs Qm hQ hx hb hr hlocks hml hown hts hK hP hD hA hS hl
  have hl : lv_has ls 3 [(0, .ref a_q0), (1, .int p1), (2, .int p2)] := hl
  rw [f_X7_isSpelled] at hf
  refine lv_aload_n hx hb dX7_isSpelled_0 rfl (lv_at hl 0 rfl) ?_
  refine lv_iload_n hx hb dX7_isSpelled_1 rfl (lv_at hl 1 rfl) ?_
  refine lv_iload_n hx hb dX7_isSpelled_2 rfl (lv_at hl 2 rfl) ?_
  obtain ⟨ru1, hu1, hf⟩ := pn_bd1_at hf
  refine pn_calli [0] (va_runS (As := [.ref a_q0, .int p1, .int p2]) (rest := []) ⟨hx, hb, hml, hown, hts⟩ (c_X7_isLeft l D cI cJ cZ a_q0 H.size r_q0 p1 p2 ru1 hu1) (va_cwS 3 hts gX7_isSpelled_X7_isLeft rfl rfl rfl hdX7_isLeft ⟨Nat.le_of_ble_eq_true rfl, Nat.le_of_ble_eq_true rfl⟩) (pn_preS [0] hP (hD.addr rfl) hK rfl rfl) rfl rfl hl.1 rfl (lv_room (Nat.le_of_ble_eq_true rfl)) dX7_isSpelled_3 ⟨Nat.zero_le _, Nat.zero_le _⟩) hP (hD.addr rfl) hS hA rfl rfl rfl (fun H locs (hP : va_P D vwCl [(a_q0, .inl (cI, 265, .inl r_q0))] H) _ hS => ?_)
  refine lv_if_eq (tgt := 22) hx hb dX7_isSpelled_6 (by decide) (fun c2 => ?_) (fun c2 => ?_)
  · have hf := pn_ifp c2 hf
    refine lv_iconst (v := (0)) hx hb dX7_isSpelled_22 (by decide) ?_
    cases hf
    rw [hQ]
    exact pn_retz hx hb hr hlocks hP hS rfl rfl dX7_isSpelled_23
  · have hf := pn_ifn c2 hf
    refine lv_aload_n hx hb dX7_isSpelled_9 rfl (lv_at hl 0 rfl) ?_
    refine lv_iload_n hx hb dX7_isSpelled_10 rfl (lv_at hl 2 rfl) ?_
    refine lv_iconst (v := (0)) hx hb dX7_isSpelled_11 (by decide) ?_
    obtain ⟨ru3, hu3, hf⟩ := pn_bd1_at hf
    refine pn_calli [0] (va_runS (As := [.ref a_q0, .int p2, .int (0 : Int32)]) (rest := []) ⟨hx, hb, hml, hown, hts⟩ (c_X7_ref l D cI cJ cZ a_q0 H.size r_q0 p2 (0 : Int32) ru3 hu3) (va_cwS 3 hts gX7_isSpelled_X7_ref rfl rfl rfl hdX7_ref ⟨Nat.le_of_ble_eq_true rfl, Nat.le_of_ble_eq_true rfl⟩) (pn_preS [0] hP (hD.addr rfl) hK rfl rfl) rfl rfl hl.1 rfl (lv_room (Nat.le_of_ble_eq_true rfl)) dX7_isSpelled_12 ⟨Nat.zero_le _, Nat.zero_le _⟩) hP (hD.addr rfl) hS hA rfl rfl rfl (fun H locs (hP : va_P D vwCl [(a_q0, .inl (cI, 265, .inl r_q0))] H) _ hS => ?_)
    refine lv_if_ne (tgt := 22) hx hb dX7_isSpelled_15 (by decide) (fun c4 => ?_) (fun c4 => ?_)
    · have hf := pn_ifp c4 hf
      refine lv_iconst (v := (0)) hx hb dX7_isSpelled_22 (by decide) ?_
      cases hf
      rw [hQ]
      exact pn_retz hx hb hr hlocks hP hS rfl rfl dX7_isSpelled_23
    · have hf := pn_ifq c4 hf
      refine lv_iconst (v := (1)) hx hb dX7_isSpelled_18 (by decide) ?_
      refine lv_goto (tgt := 23) hx hb dX7_isSpelled_19 (by decide) ?_
      cases hf
      rw [hQ]
      exact pn_retz hx hb hr hlocks hP hS rfl rfl dX7_isSpelled_23
def f_X7_hasReport (r_q0 : Nat → Int32) (p1 : Int32) (p2 : Int32) : Option (Int32) :=
  if p2 = 0 then
  some (0 : Int32)
  else
  pn_bd1 (f_X7_ref r_q0 p1 (3 : Int32)) fun ru2 =>
  if ru2 = p2 then
  some (1 : Int32)
  else
  pn_bd1 (f_X7_ref r_q0 p1 (4 : Int32)) fun ru4 =>
  if ¬ ru4 = p2 then
  some (0 : Int32)
  else
  some (1 : Int32)
set_option maxHeartbeats 4000000 in
set_option maxRecDepth 100000 in
theorem c_X7_hasReport (l : Launch) (D : va_G) (cI cJ cZ : ClassId) (a_q0 : Nat) (sz : Nat) (r_q0 : Nat → Int32) (p1 : Int32) (p2 : Int32) (rR : Int32) (hf : f_X7_hasReport r_q0 p1 p2 = some rR) : Met l yX7_hasReport wsX7_hasReport { frames := 1, cells := 0, slots := 0, locals := 22 } (pn_Pc D cI cJ cZ [.ref a_q0, .int p1, .int p2] [(a_q0, .inl (cI, 265, .inl r_q0))] sz) (pn_Qi D rR [(a_q0, .inl (cI, 265, .inl r_q0))] (va_A [(a_q0, .inl (cI, 265, .inl r_q0))] sz)) 0 0 (va_A [(a_q0, .inl (cI, 265, .inl r_q0))] sz) := by
  refine pn_entry (cc := cX7_hasReport) (maxL := 3) (ret := (some .boolean)) (Qf := pn_Qi D rR [(a_q0, .inl (cI, 265, .inl r_q0))]) (by decide) rfl (Nat.le_of_ble_eq_true rfl) ?_
  intro p e s m args below meth c A ls H locs Qm hQ hx hb hr hlocks hml hown hts hK hP hD hA hS hl
  have hl : lv_has ls 3 [(0, .ref a_q0), (1, .int p1), (2, .int p2)] := hl
  rw [f_X7_hasReport] at hf
  refine lv_iload_n hx hb dX7_hasReport_0 rfl (lv_at hl 2 rfl) ?_
  refine lv_if_eq (tgt := 28) hx hb dX7_hasReport_1 (by decide) (fun c1 => ?_) (fun c1 => ?_)
  · have hf := pn_ifp c1 hf
    refine lv_iconst (v := (0)) hx hb dX7_hasReport_28 (by decide) ?_
    cases hf
    rw [hQ]
    exact pn_retz hx hb hr hlocks hP hS rfl rfl dX7_hasReport_29
  · have hf := pn_ifn c1 hf
    refine lv_aload_n hx hb dX7_hasReport_4 rfl (lv_at hl 0 rfl) ?_
    refine lv_iload_n hx hb dX7_hasReport_5 rfl (lv_at hl 1 rfl) ?_
    refine lv_iconst (v := (3)) hx hb dX7_hasReport_6 (by decide) ?_
    obtain ⟨ru2, hu2, hf⟩ := pn_bd1_at hf
    refine pn_calli [0] (va_runS (As := [.ref a_q0, .int p1, .int (3 : Int32)]) (rest := []) ⟨hx, hb, hml, hown, hts⟩ (c_X7_ref l D cI cJ cZ a_q0 H.size r_q0 p1 (3 : Int32) ru2 hu2) (va_cwS 3 hts gX7_hasReport_X7_ref rfl rfl rfl hdX7_ref ⟨Nat.le_of_ble_eq_true rfl, Nat.le_of_ble_eq_true rfl⟩) (pn_preS [0] hP (hD.addr rfl) hK rfl rfl) rfl rfl hl.1 rfl (lv_room (Nat.le_of_ble_eq_true rfl)) dX7_hasReport_7 ⟨Nat.zero_le _, Nat.zero_le _⟩) hP (hD.addr rfl) hS hA rfl rfl rfl (fun H locs (hP : va_P D vwCl [(a_q0, .inl (cI, 265, .inl r_q0))] H) _ hS => ?_)
    refine lv_iload_n hx hb dX7_hasReport_10 rfl (lv_at hl 2 rfl) ?_
    refine lv_icmp_eq (tgt := 24) hx hb dX7_hasReport_11 (by decide) (fun c3 => ?_) (fun c3 => ?_)
    · have hf := pn_ifp c3 hf
      refine lv_iconst (v := (1)) hx hb dX7_hasReport_24 (by decide) ?_
      refine lv_goto (tgt := 29) hx hb dX7_hasReport_25 (by decide) ?_
      cases hf
      rw [hQ]
      exact pn_retz hx hb hr hlocks hP hS rfl rfl dX7_hasReport_29
    · have hf := pn_ifn c3 hf
      refine lv_aload_n hx hb dX7_hasReport_14 rfl (lv_at hl 0 rfl) ?_
      refine lv_iload_n hx hb dX7_hasReport_15 rfl (lv_at hl 1 rfl) ?_
      refine lv_iconst (v := (4)) hx hb dX7_hasReport_16 (by decide) ?_
      obtain ⟨ru4, hu4, hf⟩ := pn_bd1_at hf
      refine pn_calli [0] (va_runS (As := [.ref a_q0, .int p1, .int (4 : Int32)]) (rest := []) ⟨hx, hb, hml, hown, hts⟩ (c_X7_ref l D cI cJ cZ a_q0 H.size r_q0 p1 (4 : Int32) ru4 hu4) (va_cwS 3 hts gX7_hasReport_X7_ref rfl rfl rfl hdX7_ref ⟨Nat.le_of_ble_eq_true rfl, Nat.le_of_ble_eq_true rfl⟩) (pn_preS [0] hP (hD.addr rfl) hK rfl rfl) rfl rfl hl.1 rfl (lv_room (Nat.le_of_ble_eq_true rfl)) dX7_hasReport_17 ⟨Nat.zero_le _, Nat.zero_le _⟩) hP (hD.addr rfl) hS hA rfl rfl rfl (fun H locs (hP : va_P D vwCl [(a_q0, .inl (cI, 265, .inl r_q0))] H) _ hS => ?_)
      refine lv_iload_n hx hb dX7_hasReport_20 rfl (lv_at hl 2 rfl) ?_
      refine lv_icmp_ne (tgt := 28) hx hb dX7_hasReport_21 (by decide) (fun c5 => ?_) (fun c5 => ?_)
      · have hf := pn_ifp c5 hf
        refine lv_iconst (v := (0)) hx hb dX7_hasReport_28 (by decide) ?_
        cases hf
        rw [hQ]
        exact pn_retz hx hb hr hlocks hP hS rfl rfl dX7_hasReport_29
      · have hf := pn_ifq c5 hf
        refine lv_iconst (v := (1)) hx hb dX7_hasReport_24 (by decide) ?_
        refine lv_goto (tgt := 29) hx hb dX7_hasReport_25 (by decide) ?_
        cases hf
        rw [hQ]
        exact pn_retz hx hb hr hlocks hP hS rfl rfl dX7_hasReport_29
def f_X7_meets (r_q0 : Nat → Int32) (p1 : Int32) (p2 : Int32) : Option (Int32) :=
  pn_bd1 (f_X7_ref r_q0 p1 (3 : Int32)) fun ru1 =>
  pn_bd1 (f_X7_hasReport r_q0 p2 ru1) fun ru2 =>
  if ¬ ru2 = 0 then
  some (1 : Int32)
  else
  pn_bd1 (f_X7_ref r_q0 p1 (4 : Int32)) fun ru4 =>
  pn_bd1 (f_X7_hasReport r_q0 p2 ru4) fun ru5 =>
  if ru5 = 0 then
  some (0 : Int32)
  else
  some (1 : Int32)
set_option maxHeartbeats 4000000 in
set_option maxRecDepth 100000 in
theorem c_X7_meets (l : Launch) (D : va_G) (cI cJ cZ : ClassId) (a_q0 : Nat) (sz : Nat) (r_q0 : Nat → Int32) (p1 : Int32) (p2 : Int32) (rR : Int32) (hf : f_X7_meets r_q0 p1 p2 = some rR) : Met l yX7_meets wsX7_meets { frames := 2, cells := 0, slots := 0, locals := 44 } (pn_Pc D cI cJ cZ [.ref a_q0, .int p1, .int p2] [(a_q0, .inl (cI, 265, .inl r_q0))] sz) (pn_Qi D rR [(a_q0, .inl (cI, 265, .inl r_q0))] (va_A [(a_q0, .inl (cI, 265, .inl r_q0))] sz)) 0 0 (va_A [(a_q0, .inl (cI, 265, .inl r_q0))] sz) := by
  refine pn_entry (cc := cX7_meets) (maxL := 3) (ret := (some .boolean)) (Qf := pn_Qi D rR [(a_q0, .inl (cI, 265, .inl r_q0))]) (by decide) rfl (Nat.le_of_ble_eq_true rfl) ?_
  intro p e s m args below meth c A ls H locs Qm hQ hx hb hr hlocks hml hown hts hK hP hD hA hS hl
  have hl : lv_has ls 3 [(0, .ref a_q0), (1, .int p1), (2, .int p2)] := hl
  rw [f_X7_meets] at hf
  refine lv_aload_n hx hb dX7_meets_0 rfl (lv_at hl 0 rfl) ?_
  refine lv_iload_n hx hb dX7_meets_1 rfl (lv_at hl 2 rfl) ?_
  refine lv_aload_n hx hb dX7_meets_2 rfl (lv_at hl 0 rfl) ?_
  refine lv_iload_n hx hb dX7_meets_3 rfl (lv_at hl 1 rfl) ?_
  refine lv_iconst (v := (3)) hx hb dX7_meets_4 (by decide) ?_
  obtain ⟨ru1, hu1, hf⟩ := pn_bd1_at hf
  refine pn_calli [0] (va_runS (As := [.ref a_q0, .int p1, .int (3 : Int32)]) (rest := [.int p2, .ref a_q0]) ⟨hx, hb, hml, hown, hts⟩ (c_X7_ref l D cI cJ cZ a_q0 H.size r_q0 p1 (3 : Int32) ru1 hu1) (va_cwS 3 hts gX7_meets_X7_ref rfl rfl rfl hdX7_ref ⟨Nat.le_of_ble_eq_true rfl, Nat.le_of_ble_eq_true rfl⟩) (pn_preS [0] hP (hD.addr rfl) hK rfl rfl) rfl rfl hl.1 rfl (lv_room (Nat.le_of_ble_eq_true rfl)) dX7_meets_5 ⟨Nat.zero_le _, Nat.zero_le _⟩) hP (hD.addr rfl) hS hA rfl rfl rfl (fun H locs (hP : va_P D vwCl [(a_q0, .inl (cI, 265, .inl r_q0))] H) _ hS => ?_)
  obtain ⟨ru2, hu2, hf⟩ := pn_bd1_at hf
  refine pn_calli [0] (va_runS (As := [.ref a_q0, .int p2, .int ru1]) (rest := []) ⟨hx, hb, hml, hown, hts⟩ (c_X7_hasReport l D cI cJ cZ a_q0 H.size r_q0 p2 ru1 ru2 hu2) (va_cwS 3 hts gX7_meets_X7_hasReport rfl rfl rfl hdX7_hasReport ⟨Nat.le_of_ble_eq_true rfl, Nat.le_of_ble_eq_true rfl⟩) (pn_preS [0] hP (hD.addr rfl) hK rfl rfl) rfl rfl hl.1 rfl (lv_room (Nat.le_of_ble_eq_true rfl)) dX7_meets_8 ⟨Nat.zero_le _, Nat.zero_le _⟩) hP (hD.addr rfl) hS hA rfl rfl rfl (fun H locs (hP : va_P D vwCl [(a_q0, .inl (cI, 265, .inl r_q0))] H) _ hS => ?_)
  refine lv_if_ne (tgt := 28) hx hb dX7_meets_11 (by decide) (fun c3 => ?_) (fun c3 => ?_)
  · have hf := pn_ifp c3 hf
    refine lv_iconst (v := (1)) hx hb dX7_meets_28 (by decide) ?_
    refine lv_goto (tgt := 33) hx hb dX7_meets_29 (by decide) ?_
    cases hf
    rw [hQ]
    exact pn_retz hx hb hr hlocks hP hS rfl rfl dX7_meets_33
  · have hf := pn_ifq c3 hf
    refine lv_aload_n hx hb dX7_meets_14 rfl (lv_at hl 0 rfl) ?_
    refine lv_iload_n hx hb dX7_meets_15 rfl (lv_at hl 2 rfl) ?_
    refine lv_aload_n hx hb dX7_meets_16 rfl (lv_at hl 0 rfl) ?_
    refine lv_iload_n hx hb dX7_meets_17 rfl (lv_at hl 1 rfl) ?_
    refine lv_iconst (v := (4)) hx hb dX7_meets_18 (by decide) ?_
    obtain ⟨ru4, hu4, hf⟩ := pn_bd1_at hf
    refine pn_calli [0] (va_runS (As := [.ref a_q0, .int p1, .int (4 : Int32)]) (rest := [.int p2, .ref a_q0]) ⟨hx, hb, hml, hown, hts⟩ (c_X7_ref l D cI cJ cZ a_q0 H.size r_q0 p1 (4 : Int32) ru4 hu4) (va_cwS 3 hts gX7_meets_X7_ref rfl rfl rfl hdX7_ref ⟨Nat.le_of_ble_eq_true rfl, Nat.le_of_ble_eq_true rfl⟩) (pn_preS [0] hP (hD.addr rfl) hK rfl rfl) rfl rfl hl.1 rfl (lv_room (Nat.le_of_ble_eq_true rfl)) dX7_meets_19 ⟨Nat.zero_le _, Nat.zero_le _⟩) hP (hD.addr rfl) hS hA rfl rfl rfl (fun H locs (hP : va_P D vwCl [(a_q0, .inl (cI, 265, .inl r_q0))] H) _ hS => ?_)
    obtain ⟨ru5, hu5, hf⟩ := pn_bd1_at hf
    refine pn_calli [0] (va_runS (As := [.ref a_q0, .int p2, .int ru4]) (rest := []) ⟨hx, hb, hml, hown, hts⟩ (c_X7_hasReport l D cI cJ cZ a_q0 H.size r_q0 p2 ru4 ru5 hu5) (va_cwS 3 hts gX7_meets_X7_hasReport rfl rfl rfl hdX7_hasReport ⟨Nat.le_of_ble_eq_true rfl, Nat.le_of_ble_eq_true rfl⟩) (pn_preS [0] hP (hD.addr rfl) hK rfl rfl) rfl rfl hl.1 rfl (lv_room (Nat.le_of_ble_eq_true rfl)) dX7_meets_22 ⟨Nat.zero_le _, Nat.zero_le _⟩) hP (hD.addr rfl) hS hA rfl rfl rfl (fun H locs (hP : va_P D vwCl [(a_q0, .inl (cI, 265, .inl r_q0))] H) _ hS => ?_)
    refine lv_if_eq (tgt := 32) hx hb dX7_meets_25 (by decide) (fun c6 => ?_) (fun c6 => ?_)
    · have hf := pn_ifp c6 hf
      refine lv_iconst (v := (0)) hx hb dX7_meets_32 (by decide) ?_
      cases hf
      rw [hQ]
      exact pn_retz hx hb hr hlocks hP hS rfl rfl dX7_meets_33
    · have hf := pn_ifn c6 hf
      refine lv_iconst (v := (1)) hx hb dX7_meets_28 (by decide) ?_
      refine lv_goto (tgt := 33) hx hb dX7_meets_29 (by decide) ?_
      cases hf
      rw [hQ]
      exact pn_retz hx hb hr hlocks hP hS rfl rfl dX7_meets_33
def lp_X7_layCases_2  : Nat → Int32 → (Nat → Int32) → Option ((Nat → Int32))
  | 0, _, _ => none
  | n + 1, x3, r_t_label =>
    if (32 : Int32) ≤ x3 then
  some r_t_label
  else
  pn_wrI 32 r_t_label x3 x3 fun g2 =>
  pn_nm (x3 + (1 : Int32)) fun z4 =>
  lp_X7_layCases_2 n z4 g2
def lp_X7_layCases_135 (r_q1 : Nat → Int32) (p2 : Int32) (r_t_label : Nat → Int32) : Nat → Int32 → Int32 → (Nat → Int32) → Option (Int32 × (Nat → Int32))
  | 0, _, _, _ => none
  | n + 1, x4, v_t_cases, r_t_caseFirst =>
    if (32 : Int32) ≤ x4 then
  some (v_t_cases, r_t_caseFirst)
  else
  pn_bd1 (f_X7_isSpelled r_q1 p2 x4) fun ru6 =>
  if ru6 = 0 then
  pn_nm (x4 + (1 : Int32)) fun z8 =>
  lp_X7_layCases_135 r_q1 p2 r_t_label n z8 v_t_cases r_t_caseFirst
  else
  pn_rd 32 r_t_label x4 fun w9 =>
  if ¬ w9 = x4 then
  pn_nm (x4 + (1 : Int32)) fun z12 =>
  lp_X7_layCases_135 r_q1 p2 r_t_label n z12 v_t_cases r_t_caseFirst
  else
  pn_wrI 32 r_t_caseFirst v_t_cases x4 fun g13 =>
  pn_nm (v_t_cases + (1 : Int32)) fun z15 =>
  pn_nm (x4 + (1 : Int32)) fun z16 =>
  lp_X7_layCases_135 r_q1 p2 r_t_label n z16 z15 g13
def lp_X7_layCases_32 (r_q1 : Nat → Int32) (p2 : Int32) : Nat → Int32 → Int32 → (Nat → Int32) → Option (Int32 × (Nat → Int32))
  | 0, _, _, _ => none
  | n + 1, x3, x4, r_t_label =>
    if (1024 : Int32) ≤ x4 then
  some (x3, r_t_label)
  else
  pn_nm (x4 / (32 : Int32)) fun z18 =>
  pn_nm (x4 - x4 / (32 : Int32) * (32 : Int32)) fun z19 =>
  pn_rd 32 r_t_label z19 fun w20 =>
  pn_rd 32 r_t_label z18 fun w22 =>
  if w22 ≤ w20 then
  pn_nm (x4 + (1 : Int32)) fun z25 =>
  lp_X7_layCases_32 r_q1 p2 n x3 z25 r_t_label
  else
  pn_bd1 (f_X7_isSpelled r_q1 p2 z18) fun ru26 =>
  if ru26 = 0 then
  pn_nm (x4 + (1 : Int32)) fun z28 =>
  lp_X7_layCases_32 r_q1 p2 n x3 z28 r_t_label
  else
  pn_bd1 (f_X7_isSpelled r_q1 p2 z19) fun ru29 =>
  if ru29 = 0 then
  pn_nm (x4 + (1 : Int32)) fun z31 =>
  lp_X7_layCases_32 r_q1 p2 n x3 z31 r_t_label
  else
  pn_bd1 (f_X7_meets r_q1 z18 z19) fun ru32 =>
  if ru32 = 0 then
  pn_nm (x4 + (1 : Int32)) fun z34 =>
  lp_X7_layCases_32 r_q1 p2 n x3 z34 r_t_label
  else
  pn_rd 32 r_t_label z19 fun w35 =>
  pn_wrI 32 r_t_label z18 w35 fun g37 =>
  pn_nm (x4 + (1 : Int32)) fun z39 =>
  lp_X7_layCases_32 r_q1 p2 n (1 : Int32) z39 g37
def lp_X7_layCases_23 (N : Nat) (r_q1 : Nat → Int32) (p2 : Int32) : Nat → Int32 → (Nat → Int32) → Option ((Nat → Int32))
  | 0, _, _ => none
  | n + 1, x3, r_t_label =>
    if x3 = 0 then
  some r_t_label
  else
  pn_bd1 (lp_X7_layCases_32 r_q1 p2 N (0 : Int32) (0 : Int32) r_t_label) (fun X32 => (pn_u2 fun x3_w41 r_t_label_w41 => lp_X7_layCases_23 N r_q1 p2 n x3_w41 r_t_label_w41) X32)
def f_X7_layCases (N : Nat) (v_t_cases : Int32) (r_t_caseFirst : Nat → Int32) (r_t_label : Nat → Int32) (r_q1 : Nat → Int32) (p2 : Int32) : Option (Int32 × (Nat → Int32) × (Nat → Int32)) :=
  pn_bd1 (lp_X7_layCases_2  N (0 : Int32) r_t_label) (fun X2 => (pn_u1 fun r_t_label_w42 => pn_bd1 (lp_X7_layCases_23 N r_q1 p2 N (1 : Int32) r_t_label_w42) (fun X23 => (pn_u1 fun r_t_label_w43 => pn_bd1 (lp_X7_layCases_135 r_q1 p2 r_t_label_w43 N (0 : Int32) (0 : Int32) r_t_caseFirst) (fun X135 => (pn_u2 fun v_t_cases_w44 r_t_caseFirst_w44 => some (v_t_cases_w44, r_t_caseFirst_w44, r_t_label_w43)) X135)) X23)) X2)
set_option maxHeartbeats 4000000 in
set_option maxRecDepth 100000 in
theorem c_X7_layCases (l : Launch) (D : va_G) (cI cJ cZ : ClassId) (a_t a_t_text a_t_readPage a_t_page a_t_trial a_t_work a_t_book a_t_kept a_t_isKept a_t_seenWhat a_t_seenV a_t_seenIs a_t_label a_t_finds a_t_reason a_t_caseFirst a_t_brief a_t_printed a_t_renamed a_t_worth a_q1 : Nat) (sz : Nat) (v_t_thrown : Int32) (v_t_textSize : Int32) (v_t_place : Int32) (v_t_doings : Int32) (v_t_seen : Int32) (v_t_seed : Int64) (v_t_printedSize : Int32) (v_t_lastReason : Int32) (N : Nat) (v_t_cases : Int32) (r_t_caseFirst : Nat → Int32) (r_t_label : Nat → Int32) (r_q1 : Nat → Int32) (p2 : Int32) (o_t_cases : Int32) (o_t_caseFirst : Nat → Int32) (o_t_label : Nat → Int32) (hf : f_X7_layCases N v_t_cases r_t_caseFirst r_t_label r_q1 p2 = some (o_t_cases, o_t_caseFirst, o_t_label)) : Met l yX7_layCases wsX7_layCases { frames := 4, cells := 0, slots := 0, locals := 91 } (pn_Pc D cI cJ cZ [.ref a_t, .ref a_q1, .int p2] [(a_t, .inr (6, [.int v_t_thrown, .ref a_t_text, .int v_t_textSize, .int v_t_place, .ref a_t_readPage, .ref a_t_page, .ref a_t_trial, .ref a_t_work, .ref a_t_book, .int v_t_doings, .ref a_t_kept, .ref a_t_isKept, .int v_t_seen, .ref a_t_seenWhat, .ref a_t_seenV, .ref a_t_seenIs, .long v_t_seed, .ref a_t_label, .ref a_t_finds, .ref a_t_reason, .ref a_t_caseFirst, .int v_t_cases, .ref a_t_brief, .ref a_t_printed, .int v_t_printedSize, .ref a_t_renamed, .ref a_t_worth, .int v_t_lastReason])), (a_t_caseFirst, .inl (cI, 32, .inl r_t_caseFirst)), (a_t_label, .inl (cI, 32, .inl r_t_label)), (a_q1, .inl (cI, 265, .inl r_q1))] sz) (pn_Qv D [(a_t, .inr (6, [.int v_t_thrown, .ref a_t_text, .int v_t_textSize, .int v_t_place, .ref a_t_readPage, .ref a_t_page, .ref a_t_trial, .ref a_t_work, .ref a_t_book, .int v_t_doings, .ref a_t_kept, .ref a_t_isKept, .int v_t_seen, .ref a_t_seenWhat, .ref a_t_seenV, .ref a_t_seenIs, .long v_t_seed, .ref a_t_label, .ref a_t_finds, .ref a_t_reason, .ref a_t_caseFirst, .int o_t_cases, .ref a_t_brief, .ref a_t_printed, .int v_t_printedSize, .ref a_t_renamed, .ref a_t_worth, .int v_t_lastReason])), (a_t_caseFirst, .inl (cI, 32, .inl o_t_caseFirst)), (a_t_label, .inl (cI, 32, .inl o_t_label)), (a_q1, .inl (cI, 265, .inl r_q1))] (va_A [(a_t, .inr (6, [.int v_t_thrown, .ref a_t_text, .int v_t_textSize, .int v_t_place, .ref a_t_readPage, .ref a_t_page, .ref a_t_trial, .ref a_t_work, .ref a_t_book, .int v_t_doings, .ref a_t_kept, .ref a_t_isKept, .int v_t_seen, .ref a_t_seenWhat, .ref a_t_seenV, .ref a_t_seenIs, .long v_t_seed, .ref a_t_label, .ref a_t_finds, .ref a_t_reason, .ref a_t_caseFirst, .int v_t_cases, .ref a_t_brief, .ref a_t_printed, .int v_t_printedSize, .ref a_t_renamed, .ref a_t_worth, .int v_t_lastReason])), (a_t_caseFirst, .inl (cI, 32, .inl r_t_caseFirst)), (a_t_label, .inl (cI, 32, .inl r_t_label)), (a_q1, .inl (cI, 265, .inl r_q1))] sz)) 0 0 (va_A [(a_t, .inr (6, [.int v_t_thrown, .ref a_t_text, .int v_t_textSize, .int v_t_place, .ref a_t_readPage, .ref a_t_page, .ref a_t_trial, .ref a_t_work, .ref a_t_book, .int v_t_doings, .ref a_t_kept, .ref a_t_isKept, .int v_t_seen, .ref a_t_seenWhat, .ref a_t_seenV, .ref a_t_seenIs, .long v_t_seed, .ref a_t_label, .ref a_t_finds, .ref a_t_reason, .ref a_t_caseFirst, .int v_t_cases, .ref a_t_brief, .ref a_t_printed, .int v_t_printedSize, .ref a_t_renamed, .ref a_t_worth, .int v_t_lastReason])), (a_t_caseFirst, .inl (cI, 32, .inl r_t_caseFirst)), (a_t_label, .inl (cI, 32, .inl r_t_label)), (a_q1, .inl (cI, 265, .inl r_q1))] sz) := by
  refine pn_entry (cc := cX7_layCases) (maxL := 7) (ret := none) (Qf := pn_Qv D [(a_t, .inr (6, [.int v_t_thrown, .ref a_t_text, .int v_t_textSize, .int v_t_place, .ref a_t_readPage, .ref a_t_page, .ref a_t_trial, .ref a_t_work, .ref a_t_book, .int v_t_doings, .ref a_t_kept, .ref a_t_isKept, .int v_t_seen, .ref a_t_seenWhat, .ref a_t_seenV, .ref a_t_seenIs, .long v_t_seed, .ref a_t_label, .ref a_t_finds, .ref a_t_reason, .ref a_t_caseFirst, .int o_t_cases, .ref a_t_brief, .ref a_t_printed, .int v_t_printedSize, .ref a_t_renamed, .ref a_t_worth, .int v_t_lastReason])), (a_t_caseFirst, .inl (cI, 32, .inl o_t_caseFirst)), (a_t_label, .inl (cI, 32, .inl o_t_label)), (a_q1, .inl (cI, 265, .inl r_q1))]) (by decide) rfl (Nat.le_of_ble_eq_true rfl) ?_
  intro p e s m args below meth c A ls H locs Qm hQ hx hb hr hlocks hml hown hts hK hP hD hA hS hl
  have hl : lv_has ls 7 [(0, .ref a_t), (1, .ref a_q1), (2, .int p2)] := hl
  have hinX7 : ∀ w ∈ wsX70, w ∈ wsX7_layCases := by decide +kernel
  have fl_44 := hts (.fieldLink RX7 44 "PointingNotesModel" "label" "[I") (by decide +kernel)
  have fl_53 := hts (.fieldLink RX7 53 "PointingNotesModel" "caseFirst" "[I") (by decide +kernel)
  have fl_152 := hts (.fieldLink RX7 152 "PointingNotesModel" "cases" "I") (by decide +kernel)
  rw [f_X7_layCases] at hf
  have lp2 : ∀ (n : Nat) (x3 : Int32) (v_t_cases : Int32) (r_t_caseFirst : Nat → Int32) (r_t_label : Nat → Int32) (X : (Nat → Int32)) (H : Heap) (locs : List Loc) (ls : Array Slot), lp_X7_layCases_2  n x3 r_t_label = some X → va_P D vwCl [(a_t, .inr (6, [.int v_t_thrown, .ref a_t_text, .int v_t_textSize, .int v_t_place, .ref a_t_readPage, .ref a_t_page, .ref a_t_trial, .ref a_t_work, .ref a_t_book, .int v_t_doings, .ref a_t_kept, .ref a_t_isKept, .int v_t_seen, .ref a_t_seenWhat, .ref a_t_seenV, .ref a_t_seenIs, .long v_t_seed, .ref a_t_label, .ref a_t_finds, .ref a_t_reason, .ref a_t_caseFirst, .int v_t_cases, .ref a_t_brief, .ref a_t_printed, .int v_t_printedSize, .ref a_t_renamed, .ref a_t_worth, .int v_t_lastReason])), (a_t_caseFirst, .inl (cI, 32, .inl r_t_caseFirst)), (a_t_label, .inl (cI, 32, .inl r_t_label)), (a_q1, .inl (cI, 265, .inl r_q1))] H → va_S A s.heap H locs → lv_has ls 7 [(0, .ref a_t), (1, .ref a_q1), (2, .int p2), (3, .int x3)] → (∀  (r_t_label' : Nat → Int32) (H : Heap) (locs : List Loc) (ls : Array Slot), X = r_t_label' → va_P D vwCl [(a_t, .inr (6, [.int v_t_thrown, .ref a_t_text, .int v_t_textSize, .int v_t_place, .ref a_t_readPage, .ref a_t_page, .ref a_t_trial, .ref a_t_work, .ref a_t_book, .int v_t_doings, .ref a_t_kept, .ref a_t_isKept, .int v_t_seen, .ref a_t_seenWhat, .ref a_t_seenV, .ref a_t_seenIs, .long v_t_seed, .ref a_t_label, .ref a_t_finds, .ref a_t_reason, .ref a_t_caseFirst, .int v_t_cases, .ref a_t_brief, .ref a_t_printed, .int v_t_printedSize, .ref a_t_renamed, .ref a_t_worth, .int v_t_lastReason])), (a_t_caseFirst, .inl (cI, 32, .inl r_t_caseFirst)), (a_t_label, .inl (cI, 32, .inl (r_t_label'))), (a_q1, .inl (cI, 265, .inl r_q1))] H → va_S A s.heap H locs → lv_has ls 7 [(0, .ref a_t), (1, .ref a_q1), (2, .int p2)] → W p l e { frames := 4, cells := 0, slots := 0, locals := 91 } s m args below meth c H locs 0 0 Qm (F0 m 21 ls [])) → W p l e { frames := 4, cells := 0, slots := 0, locals := 91 } s m args below meth c H locs 0 0 Qm (F0 m 2 ls []) := by
    intro n
    induction n with
    | zero => intro x3 v_t_cases r_t_caseFirst r_t_label X H locs ls hf; cases hf
    | succ n ih =>
      intro x3 v_t_cases r_t_caseFirst r_t_label X H locs ls hf hP hS hl kx21
      rw [lp_X7_layCases_2] at hf
      refine lv_iload_n hx hb dX7_layCases_2 rfl (lv_at hl 3 rfl) ?_
      refine lv_bipush (v := (32)) hx hb dX7_layCases_3 (by decide) ?_
      refine lv_icmp_ge (tgt := 21) hx hb dX7_layCases_5 (by decide) (fun c1 => ?_) (fun c1 => ?_)
      · have hf := pn_ifp c1 hf
        exact kx21 r_t_label H locs ls (Option.some.inj hf).symm hP hS (lv_sub hl [0, 1, 2] rfl)
      · have hf := pn_ifn c1 hf
        refine lv_aload_n hx hb dX7_layCases_8 rfl (lv_at hl 0 rfl) ?_
        refine va_get (D := D) (ci := 6) (v := .ref a_t_label) (C := RX7) (T := TX7) (N := 28) hx hb hts hinX7 hown hK.1 hP 0 rfl rfl 17 (by decide) fl_44 (fun _ h9 => h9) rfl dX7_layCases_9 ?_
        refine lv_iload_n hx hb dX7_layCases_12 rfl (lv_at hl 3 rfl) ?_
        refine lv_iload_n hx hb dX7_layCases_13 rfl (lv_at hl 3 rfl) ?_
        obtain ⟨hi3, g2, eg2, hf⟩ := pn_wrI_at hf
        refine pn_stI hx hb hK.1 hP (hD.addr rfl) hS 2 0 rfl rfl hi3 eg2 dX7_layCases_14 (fun H locs (hP : va_P D vwCl [(a_t, .inr (6, [.int v_t_thrown, .ref a_t_text, .int v_t_textSize, .int v_t_place, .ref a_t_readPage, .ref a_t_page, .ref a_t_trial, .ref a_t_work, .ref a_t_book, .int v_t_doings, .ref a_t_kept, .ref a_t_isKept, .int v_t_seen, .ref a_t_seenWhat, .ref a_t_seenV, .ref a_t_seenIs, .long v_t_seed, .ref a_t_label, .ref a_t_finds, .ref a_t_reason, .ref a_t_caseFirst, .int v_t_cases, .ref a_t_brief, .ref a_t_printed, .int v_t_printedSize, .ref a_t_renamed, .ref a_t_worth, .int v_t_lastReason])), (a_t_caseFirst, .inl (cI, 32, .inl r_t_caseFirst)), (a_t_label, .inl (cI, 32, .inl g2)), (a_q1, .inl (cI, 265, .inl r_q1))] H) _ hS => ?_)
        obtain ⟨z4, ez4⟩ : ∃ y : Int32, y = x3 + (1) := ⟨_, rfl⟩
        have hf := pn_nm_at ez4 hf
        refine lv_iinc (v := z4) (lv' := [(3, .int z4), (0, .ref a_t), (1, .ref a_q1), (2, .int p2)]) hx hb dX7_layCases_15 hl (k := 3) rfl (by rw [ez4]; rfl) (by decide) rfl (fun ls hl => ?_)
        refine lv_goto (tgt := 2) hx hb dX7_layCases_18 (by decide) ?_
        exact ih z4 v_t_cases r_t_caseFirst g2 X H locs ls hf hP hS (lv_sub hl [1, 2, 3, 0] rfl) kx21
  have lp135 : ∀ (n : Nat) (x4 : Int32) (v_t_cases : Int32) (r_t_caseFirst : Nat → Int32) (r_t_label : Nat → Int32) (X : Int32 × (Nat → Int32)) (H : Heap) (locs : List Loc) (ls : Array Slot), lp_X7_layCases_135 r_q1 p2 r_t_label n x4 v_t_cases r_t_caseFirst = some X → va_P D vwCl [(a_t, .inr (6, [.int v_t_thrown, .ref a_t_text, .int v_t_textSize, .int v_t_place, .ref a_t_readPage, .ref a_t_page, .ref a_t_trial, .ref a_t_work, .ref a_t_book, .int v_t_doings, .ref a_t_kept, .ref a_t_isKept, .int v_t_seen, .ref a_t_seenWhat, .ref a_t_seenV, .ref a_t_seenIs, .long v_t_seed, .ref a_t_label, .ref a_t_finds, .ref a_t_reason, .ref a_t_caseFirst, .int v_t_cases, .ref a_t_brief, .ref a_t_printed, .int v_t_printedSize, .ref a_t_renamed, .ref a_t_worth, .int v_t_lastReason])), (a_t_caseFirst, .inl (cI, 32, .inl r_t_caseFirst)), (a_t_label, .inl (cI, 32, .inl r_t_label)), (a_q1, .inl (cI, 265, .inl r_q1))] H → va_S A s.heap H locs → lv_has ls 7 [(0, .ref a_t), (1, .ref a_q1), (2, .int p2), (4, .int x4)] → (∀  (v_t_cases' : Int32) (r_t_caseFirst' : Nat → Int32) (H : Heap) (locs : List Loc) (ls : Array Slot), X = (v_t_cases', r_t_caseFirst') → va_P D vwCl [(a_t, .inr (6, [.int v_t_thrown, .ref a_t_text, .int v_t_textSize, .int v_t_place, .ref a_t_readPage, .ref a_t_page, .ref a_t_trial, .ref a_t_work, .ref a_t_book, .int v_t_doings, .ref a_t_kept, .ref a_t_isKept, .int v_t_seen, .ref a_t_seenWhat, .ref a_t_seenV, .ref a_t_seenIs, .long v_t_seed, .ref a_t_label, .ref a_t_finds, .ref a_t_reason, .ref a_t_caseFirst, .int (v_t_cases'), .ref a_t_brief, .ref a_t_printed, .int v_t_printedSize, .ref a_t_renamed, .ref a_t_worth, .int v_t_lastReason])), (a_t_caseFirst, .inl (cI, 32, .inl (r_t_caseFirst'))), (a_t_label, .inl (cI, 32, .inl r_t_label)), (a_q1, .inl (cI, 265, .inl r_q1))] H → va_S A s.heap H locs → lv_has ls 7 [] → W p l e { frames := 4, cells := 0, slots := 0, locals := 91 } s m args below meth c H locs 0 0 Qm (F0 m 191 ls [])) → W p l e { frames := 4, cells := 0, slots := 0, locals := 91 } s m args below meth c H locs 0 0 Qm (F0 m 135 ls []) := by
    intro n
    induction n with
    | zero => intro x4 v_t_cases r_t_caseFirst r_t_label X H locs ls hf; cases hf
    | succ n ih =>
      intro x4 v_t_cases r_t_caseFirst r_t_label X H locs ls hf hP hS hl kx191
      rw [lp_X7_layCases_135] at hf
      refine lv_iload hx hb dX7_layCases_135 (lv_at hl 3 rfl) ?_
      refine lv_bipush (v := (32)) hx hb dX7_layCases_137 (by decide) ?_
      refine lv_icmp_ge (tgt := 191) hx hb dX7_layCases_139 (by decide) (fun c5 => ?_) (fun c5 => ?_)
      · have hf := pn_ifp c5 hf
        exact kx191 v_t_cases r_t_caseFirst H locs ls (Option.some.inj hf).symm hP hS (lv_sub hl [] rfl)
      · have hf := pn_ifn c5 hf
        refine lv_aload_n hx hb dX7_layCases_142 rfl (lv_at hl 1 rfl) ?_
        refine lv_iload_n hx hb dX7_layCases_143 rfl (lv_at hl 2 rfl) ?_
        refine lv_iload hx hb dX7_layCases_144 (lv_at hl 3 rfl) ?_
        obtain ⟨ru6, hu6, hf⟩ := pn_bd1_at hf
        refine pn_calli [3] (va_runS (As := [.ref a_q1, .int p2, .int x4]) (rest := []) ⟨hx, hb, hml, hown, hts⟩ (c_X7_isSpelled l D cI cJ cZ a_q1 H.size r_q1 p2 x4 ru6 hu6) (va_cwS 3 hts gX7_layCases_X7_isSpelled rfl rfl rfl hdX7_isSpelled ⟨Nat.le_of_ble_eq_true rfl, Nat.le_of_ble_eq_true rfl⟩) (pn_preS [3] hP (hD.addr rfl) hK rfl rfl) rfl rfl hl.1 rfl (lv_room (Nat.le_of_ble_eq_true rfl)) dX7_layCases_146 ⟨Nat.zero_le _, Nat.zero_le _⟩) hP (hD.addr rfl) hS hA rfl rfl rfl (fun H locs (hP : va_P D vwCl [(a_t, .inr (6, [.int v_t_thrown, .ref a_t_text, .int v_t_textSize, .int v_t_place, .ref a_t_readPage, .ref a_t_page, .ref a_t_trial, .ref a_t_work, .ref a_t_book, .int v_t_doings, .ref a_t_kept, .ref a_t_isKept, .int v_t_seen, .ref a_t_seenWhat, .ref a_t_seenV, .ref a_t_seenIs, .long v_t_seed, .ref a_t_label, .ref a_t_finds, .ref a_t_reason, .ref a_t_caseFirst, .int v_t_cases, .ref a_t_brief, .ref a_t_printed, .int v_t_printedSize, .ref a_t_renamed, .ref a_t_worth, .int v_t_lastReason])), (a_t_caseFirst, .inl (cI, 32, .inl r_t_caseFirst)), (a_t_label, .inl (cI, 32, .inl r_t_label)), (a_q1, .inl (cI, 265, .inl r_q1))] H) _ hS => ?_)
        refine lv_if_eq (tgt := 185) hx hb dX7_layCases_149 (by decide) (fun c7 => ?_) (fun c7 => ?_)
        · have hf := pn_ifp c7 hf
          obtain ⟨z8, ez8⟩ : ∃ y : Int32, y = x4 + (1) := ⟨_, rfl⟩
          have hf := pn_nm_at ez8 hf
          refine lv_iinc (v := z8) (lv' := [(4, .int z8), (0, .ref a_t), (1, .ref a_q1), (2, .int p2)]) hx hb dX7_layCases_185 hl (k := 3) rfl (by rw [ez8]; rfl) (by decide) rfl (fun ls hl => ?_)
          refine lv_goto (tgt := 135) hx hb dX7_layCases_188 (by decide) ?_
          exact ih z8 v_t_cases r_t_caseFirst r_t_label X H locs ls hf hP hS (lv_sub hl [1, 2, 3, 0] rfl) kx191
        · have hf := pn_ifn c7 hf
          refine lv_aload_n hx hb dX7_layCases_152 rfl (lv_at hl 0 rfl) ?_
          refine va_get (D := D) (ci := 6) (v := .ref a_t_label) (C := RX7) (T := TX7) (N := 28) hx hb hts hinX7 hown hK.1 hP 0 rfl rfl 17 (by decide) fl_44 (fun _ h9 => h9) rfl dX7_layCases_153 ?_
          refine lv_iload hx hb dX7_layCases_156 (lv_at hl 3 rfl) ?_
          obtain ⟨hi10, w9, ew9, hf⟩ := pn_rd_at hf
          refine pn_ldI hx hb hK.1 hP 2 0 rfl rfl hi10 ew9 dX7_layCases_158 ?_
          refine lv_iload hx hb dX7_layCases_159 (lv_at hl 3 rfl) ?_
          refine lv_icmp_ne (tgt := 185) hx hb dX7_layCases_161 (by decide) (fun c11 => ?_) (fun c11 => ?_)
          · have hf := pn_ifp c11 hf
            obtain ⟨z12, ez12⟩ : ∃ y : Int32, y = x4 + (1) := ⟨_, rfl⟩
            have hf := pn_nm_at ez12 hf
            refine lv_iinc (v := z12) (lv' := [(4, .int z12), (0, .ref a_t), (1, .ref a_q1), (2, .int p2)]) hx hb dX7_layCases_185 hl (k := 3) rfl (by rw [ez12]; rfl) (by decide) rfl (fun ls hl => ?_)
            refine lv_goto (tgt := 135) hx hb dX7_layCases_188 (by decide) ?_
            exact ih z12 v_t_cases r_t_caseFirst r_t_label X H locs ls hf hP hS (lv_sub hl [1, 2, 3, 0] rfl) kx191
          · have hf := pn_ifq c11 hf
            refine lv_aload_n hx hb dX7_layCases_164 rfl (lv_at hl 0 rfl) ?_
            refine va_get (D := D) (ci := 6) (v := .ref a_t_caseFirst) (C := RX7) (T := TX7) (N := 28) hx hb hts hinX7 hown hK.1 hP 0 rfl rfl 20 (by decide) fl_53 (fun _ h9 => h9) rfl dX7_layCases_165 ?_
            refine lv_aload_n hx hb dX7_layCases_168 rfl (lv_at hl 0 rfl) ?_
            refine va_get (D := D) (ci := 6) (v := .int v_t_cases) (C := RX7) (T := TX7) (N := 28) hx hb hts hinX7 hown hK.1 hP 0 rfl rfl 21 (by decide) fl_152 (fun _ h9 => h9) rfl dX7_layCases_169 ?_
            refine lv_iload hx hb dX7_layCases_172 (lv_at hl 3 rfl) ?_
            obtain ⟨hi14, g13, eg13, hf⟩ := pn_wrI_at hf
            refine pn_stI hx hb hK.1 hP (hD.addr rfl) hS 1 0 rfl rfl hi14 eg13 dX7_layCases_174 (fun H locs (hP : va_P D vwCl [(a_t, .inr (6, [.int v_t_thrown, .ref a_t_text, .int v_t_textSize, .int v_t_place, .ref a_t_readPage, .ref a_t_page, .ref a_t_trial, .ref a_t_work, .ref a_t_book, .int v_t_doings, .ref a_t_kept, .ref a_t_isKept, .int v_t_seen, .ref a_t_seenWhat, .ref a_t_seenV, .ref a_t_seenIs, .long v_t_seed, .ref a_t_label, .ref a_t_finds, .ref a_t_reason, .ref a_t_caseFirst, .int v_t_cases, .ref a_t_brief, .ref a_t_printed, .int v_t_printedSize, .ref a_t_renamed, .ref a_t_worth, .int v_t_lastReason])), (a_t_caseFirst, .inl (cI, 32, .inl g13)), (a_t_label, .inl (cI, 32, .inl r_t_label)), (a_q1, .inl (cI, 265, .inl r_q1))] H) _ hS => ?_)
            refine lv_aload_n hx hb dX7_layCases_175 rfl (lv_at hl 0 rfl) ?_
            refine lv_dup hx hb dX7_layCases_176 rfl ?_
            refine va_get (D := D) (ci := 6) (v := .int v_t_cases) (C := RX7) (T := TX7) (N := 28) hx hb hts hinX7 hown hK.1 hP 0 rfl rfl 21 (by decide) fl_152 (fun _ h9 => h9) rfl dX7_layCases_177 ?_
            refine lv_iconst (v := (1)) hx hb dX7_layCases_180 (by decide) ?_
            refine lv_iadd hx hb dX7_layCases_181 ?_
            refine lv_topi (fun z15 ez15 => ?_)
            have hf := pn_nm_at ez15 hf
            refine va_put (D := D) (ci := 6) (v := .int z15) (ty := .int) (C := RX7) (T := TX7) (N := 28) hx hb hts hinX7 tyX7 tyX7_ok nmX7 hown hK.1 hP (hD.addr rfl) hS 0 rfl rfl 21 (by decide) fl_152 (fun _ h9 => h9) rfl (by decide +kernel) rfl rfl (Nat.le_of_ble_eq_true rfl) dX7_layCases_182 (fun H locs (hP : va_P D vwCl [(a_t, .inr (6, [.int v_t_thrown, .ref a_t_text, .int v_t_textSize, .int v_t_place, .ref a_t_readPage, .ref a_t_page, .ref a_t_trial, .ref a_t_work, .ref a_t_book, .int v_t_doings, .ref a_t_kept, .ref a_t_isKept, .int v_t_seen, .ref a_t_seenWhat, .ref a_t_seenV, .ref a_t_seenIs, .long v_t_seed, .ref a_t_label, .ref a_t_finds, .ref a_t_reason, .ref a_t_caseFirst, .int z15, .ref a_t_brief, .ref a_t_printed, .int v_t_printedSize, .ref a_t_renamed, .ref a_t_worth, .int v_t_lastReason])), (a_t_caseFirst, .inl (cI, 32, .inl g13)), (a_t_label, .inl (cI, 32, .inl r_t_label)), (a_q1, .inl (cI, 265, .inl r_q1))] H) _ hS => ?_)
            obtain ⟨z16, ez16⟩ : ∃ y : Int32, y = x4 + (1) := ⟨_, rfl⟩
            have hf := pn_nm_at ez16 hf
            refine lv_iinc (v := z16) (lv' := [(4, .int z16), (0, .ref a_t), (1, .ref a_q1), (2, .int p2)]) hx hb dX7_layCases_185 hl (k := 3) rfl (by rw [ez16]; rfl) (by decide) rfl (fun ls hl => ?_)
            refine lv_goto (tgt := 135) hx hb dX7_layCases_188 (by decide) ?_
            exact ih z16 z15 g13 r_t_label X H locs ls hf hP hS (lv_sub hl [1, 2, 3, 0] rfl) kx191
  have lp32 : ∀ (n : Nat) (x3 : Int32) (x4 : Int32) (v_t_cases : Int32) (r_t_caseFirst : Nat → Int32) (r_t_label : Nat → Int32) (X : Int32 × (Nat → Int32)) (H : Heap) (locs : List Loc) (ls : Array Slot), lp_X7_layCases_32 r_q1 p2 n x3 x4 r_t_label = some X → va_P D vwCl [(a_t, .inr (6, [.int v_t_thrown, .ref a_t_text, .int v_t_textSize, .int v_t_place, .ref a_t_readPage, .ref a_t_page, .ref a_t_trial, .ref a_t_work, .ref a_t_book, .int v_t_doings, .ref a_t_kept, .ref a_t_isKept, .int v_t_seen, .ref a_t_seenWhat, .ref a_t_seenV, .ref a_t_seenIs, .long v_t_seed, .ref a_t_label, .ref a_t_finds, .ref a_t_reason, .ref a_t_caseFirst, .int v_t_cases, .ref a_t_brief, .ref a_t_printed, .int v_t_printedSize, .ref a_t_renamed, .ref a_t_worth, .int v_t_lastReason])), (a_t_caseFirst, .inl (cI, 32, .inl r_t_caseFirst)), (a_t_label, .inl (cI, 32, .inl r_t_label)), (a_q1, .inl (cI, 265, .inl r_q1))] H → va_S A s.heap H locs → lv_has ls 7 [(0, .ref a_t), (1, .ref a_q1), (2, .int p2), (3, .int x3), (4, .int x4)] → (∀ (y3 : Int32) (r_t_label' : Nat → Int32) (H : Heap) (locs : List Loc) (ls : Array Slot), X = (y3, r_t_label') → va_P D vwCl [(a_t, .inr (6, [.int v_t_thrown, .ref a_t_text, .int v_t_textSize, .int v_t_place, .ref a_t_readPage, .ref a_t_page, .ref a_t_trial, .ref a_t_work, .ref a_t_book, .int v_t_doings, .ref a_t_kept, .ref a_t_isKept, .int v_t_seen, .ref a_t_seenWhat, .ref a_t_seenV, .ref a_t_seenIs, .long v_t_seed, .ref a_t_label, .ref a_t_finds, .ref a_t_reason, .ref a_t_caseFirst, .int v_t_cases, .ref a_t_brief, .ref a_t_printed, .int v_t_printedSize, .ref a_t_renamed, .ref a_t_worth, .int v_t_lastReason])), (a_t_caseFirst, .inl (cI, 32, .inl r_t_caseFirst)), (a_t_label, .inl (cI, 32, .inl (r_t_label'))), (a_q1, .inl (cI, 265, .inl r_q1))] H → va_S A s.heap H locs → lv_has ls 7 [(0, .ref a_t), (1, .ref a_q1), (2, .int p2), (3, .int y3)] → W p l e { frames := 4, cells := 0, slots := 0, locals := 91 } s m args below meth c H locs 0 0 Qm (F0 m 124 ls [])) → W p l e { frames := 4, cells := 0, slots := 0, locals := 91 } s m args below meth c H locs 0 0 Qm (F0 m 32 ls []) := by
    intro n
    induction n with
    | zero => intro x3 x4 v_t_cases r_t_caseFirst r_t_label X H locs ls hf; cases hf
    | succ n ih =>
      intro x3 x4 v_t_cases r_t_caseFirst r_t_label X H locs ls hf hP hS hl kx124
      rw [lp_X7_layCases_32] at hf
      refine lv_iload hx hb dX7_layCases_32 (lv_at hl 4 rfl) ?_
      refine lv_sipush (v := (1024)) hx hb dX7_layCases_34 (by decide) ?_
      refine lv_icmp_ge (tgt := 124) hx hb dX7_layCases_37 (by decide) (fun c17 => ?_) (fun c17 => ?_)
      · have hf := pn_ifp c17 hf
        exact kx124 x3 r_t_label H locs ls (Option.some.inj hf).symm hP hS (lv_sub hl [0, 1, 2, 3] rfl)
      · have hf := pn_ifn c17 hf
        refine lv_iload hx hb dX7_layCases_40 (lv_at hl 4 rfl) ?_
        refine lv_bipush (v := (32)) hx hb dX7_layCases_42 (by decide) ?_
        refine lv_idiv hx hb dX7_layCases_44 (by decide) ?_
        refine lv_topi (fun z18 ez18 => ?_)
        have hf := pn_nm_at ez18 hf
        refine lv_istore (lv' := [(5, .int z18), (0, .ref a_t), (1, .ref a_q1), (2, .int p2), (3, .int x3), (4, .int x4)]) hx hb dX7_layCases_45 hl (by decide) rfl (fun ls hl => ?_)
        refine lv_iload hx hb dX7_layCases_47 (lv_at hl 5 rfl) ?_
        refine lv_bipush (v := (32)) hx hb dX7_layCases_49 (by decide) ?_
        refine lv_irem hx hb dX7_layCases_51 (by decide) ?_
        refine lv_topi (fun z19 ez19 => ?_)
        have hf := pn_nm_at ez19 hf
        refine lv_istore (lv' := [(6, .int z19), (5, .int z18), (0, .ref a_t), (1, .ref a_q1), (2, .int p2), (3, .int x3), (4, .int x4)]) hx hb dX7_layCases_52 hl (by decide) rfl (fun ls hl => ?_)
        refine lv_aload_n hx hb dX7_layCases_54 rfl (lv_at hl 2 rfl) ?_
        refine va_get (D := D) (ci := 6) (v := .ref a_t_label) (C := RX7) (T := TX7) (N := 28) hx hb hts hinX7 hown hK.1 hP 0 rfl rfl 17 (by decide) fl_44 (fun _ h9 => h9) rfl dX7_layCases_55 ?_
        refine lv_iload hx hb dX7_layCases_58 (lv_at hl 0 rfl) ?_
        obtain ⟨hi21, w20, ew20, hf⟩ := pn_rd_at hf
        refine pn_ldI hx hb hK.1 hP 2 0 rfl rfl hi21 ew20 dX7_layCases_60 ?_
        refine lv_aload_n hx hb dX7_layCases_61 rfl (lv_at hl 2 rfl) ?_
        refine va_get (D := D) (ci := 6) (v := .ref a_t_label) (C := RX7) (T := TX7) (N := 28) hx hb hts hinX7 hown hK.1 hP 0 rfl rfl 17 (by decide) fl_44 (fun _ h9 => h9) rfl dX7_layCases_62 ?_
        refine lv_iload hx hb dX7_layCases_65 (lv_at hl 1 rfl) ?_
        obtain ⟨hi23, w22, ew22, hf⟩ := pn_rd_at hf
        refine pn_ldI hx hb hK.1 hP 2 0 rfl rfl hi23 ew22 dX7_layCases_67 ?_
        refine lv_icmp_ge (tgt := 118) hx hb dX7_layCases_68 (by decide) (fun c24 => ?_) (fun c24 => ?_)
        · have hf := pn_ifp c24 hf
          obtain ⟨z25, ez25⟩ : ∃ y : Int32, y = x4 + (1) := ⟨_, rfl⟩
          have hf := pn_nm_at ez25 hf
          refine lv_iinc (v := z25) (lv' := [(4, .int z25), (6, .int z19), (5, .int z18), (0, .ref a_t), (1, .ref a_q1), (2, .int p2), (3, .int x3)]) hx hb dX7_layCases_118 hl (k := 6) rfl (by rw [ez25]; rfl) (by decide) rfl (fun ls hl => ?_)
          refine lv_goto (tgt := 32) hx hb dX7_layCases_121 (by decide) ?_
          exact ih x3 z25 v_t_cases r_t_caseFirst r_t_label X H locs ls hf hP hS (lv_sub hl [3, 4, 5, 6, 0] rfl) kx124
        · have hf := pn_ifn c24 hf
          refine lv_aload_n hx hb dX7_layCases_71 rfl (lv_at hl 3 rfl) ?_
          refine lv_iload_n hx hb dX7_layCases_72 rfl (lv_at hl 4 rfl) ?_
          refine lv_iload hx hb dX7_layCases_73 (lv_at hl 1 rfl) ?_
          obtain ⟨ru26, hu26, hf⟩ := pn_bd1_at hf
          refine pn_calli [3] (va_runS (As := [.ref a_q1, .int p2, .int z18]) (rest := []) ⟨hx, hb, hml, hown, hts⟩ (c_X7_isSpelled l D cI cJ cZ a_q1 H.size r_q1 p2 z18 ru26 hu26) (va_cwS 3 hts gX7_layCases_X7_isSpelled rfl rfl rfl hdX7_isSpelled ⟨Nat.le_of_ble_eq_true rfl, Nat.le_of_ble_eq_true rfl⟩) (pn_preS [3] hP (hD.addr rfl) hK rfl rfl) rfl rfl hl.1 rfl (lv_room (Nat.le_of_ble_eq_true rfl)) dX7_layCases_75 ⟨Nat.zero_le _, Nat.zero_le _⟩) hP (hD.addr rfl) hS hA rfl rfl rfl (fun H locs (hP : va_P D vwCl [(a_t, .inr (6, [.int v_t_thrown, .ref a_t_text, .int v_t_textSize, .int v_t_place, .ref a_t_readPage, .ref a_t_page, .ref a_t_trial, .ref a_t_work, .ref a_t_book, .int v_t_doings, .ref a_t_kept, .ref a_t_isKept, .int v_t_seen, .ref a_t_seenWhat, .ref a_t_seenV, .ref a_t_seenIs, .long v_t_seed, .ref a_t_label, .ref a_t_finds, .ref a_t_reason, .ref a_t_caseFirst, .int v_t_cases, .ref a_t_brief, .ref a_t_printed, .int v_t_printedSize, .ref a_t_renamed, .ref a_t_worth, .int v_t_lastReason])), (a_t_caseFirst, .inl (cI, 32, .inl r_t_caseFirst)), (a_t_label, .inl (cI, 32, .inl r_t_label)), (a_q1, .inl (cI, 265, .inl r_q1))] H) _ hS => ?_)
          refine lv_if_eq (tgt := 118) hx hb dX7_layCases_78 (by decide) (fun c27 => ?_) (fun c27 => ?_)
          · have hf := pn_ifp c27 hf
            obtain ⟨z28, ez28⟩ : ∃ y : Int32, y = x4 + (1) := ⟨_, rfl⟩
            have hf := pn_nm_at ez28 hf
            refine lv_iinc (v := z28) (lv' := [(4, .int z28), (6, .int z19), (5, .int z18), (0, .ref a_t), (1, .ref a_q1), (2, .int p2), (3, .int x3)]) hx hb dX7_layCases_118 hl (k := 6) rfl (by rw [ez28]; rfl) (by decide) rfl (fun ls hl => ?_)
            refine lv_goto (tgt := 32) hx hb dX7_layCases_121 (by decide) ?_
            exact ih x3 z28 v_t_cases r_t_caseFirst r_t_label X H locs ls hf hP hS (lv_sub hl [3, 4, 5, 6, 0] rfl) kx124
          · have hf := pn_ifn c27 hf
            refine lv_aload_n hx hb dX7_layCases_81 rfl (lv_at hl 3 rfl) ?_
            refine lv_iload_n hx hb dX7_layCases_82 rfl (lv_at hl 4 rfl) ?_
            refine lv_iload hx hb dX7_layCases_83 (lv_at hl 0 rfl) ?_
            obtain ⟨ru29, hu29, hf⟩ := pn_bd1_at hf
            refine pn_calli [3] (va_runS (As := [.ref a_q1, .int p2, .int z19]) (rest := []) ⟨hx, hb, hml, hown, hts⟩ (c_X7_isSpelled l D cI cJ cZ a_q1 H.size r_q1 p2 z19 ru29 hu29) (va_cwS 3 hts gX7_layCases_X7_isSpelled rfl rfl rfl hdX7_isSpelled ⟨Nat.le_of_ble_eq_true rfl, Nat.le_of_ble_eq_true rfl⟩) (pn_preS [3] hP (hD.addr rfl) hK rfl rfl) rfl rfl hl.1 rfl (lv_room (Nat.le_of_ble_eq_true rfl)) dX7_layCases_85 ⟨Nat.zero_le _, Nat.zero_le _⟩) hP (hD.addr rfl) hS hA rfl rfl rfl (fun H locs (hP : va_P D vwCl [(a_t, .inr (6, [.int v_t_thrown, .ref a_t_text, .int v_t_textSize, .int v_t_place, .ref a_t_readPage, .ref a_t_page, .ref a_t_trial, .ref a_t_work, .ref a_t_book, .int v_t_doings, .ref a_t_kept, .ref a_t_isKept, .int v_t_seen, .ref a_t_seenWhat, .ref a_t_seenV, .ref a_t_seenIs, .long v_t_seed, .ref a_t_label, .ref a_t_finds, .ref a_t_reason, .ref a_t_caseFirst, .int v_t_cases, .ref a_t_brief, .ref a_t_printed, .int v_t_printedSize, .ref a_t_renamed, .ref a_t_worth, .int v_t_lastReason])), (a_t_caseFirst, .inl (cI, 32, .inl r_t_caseFirst)), (a_t_label, .inl (cI, 32, .inl r_t_label)), (a_q1, .inl (cI, 265, .inl r_q1))] H) _ hS => ?_)
            refine lv_if_eq (tgt := 118) hx hb dX7_layCases_88 (by decide) (fun c30 => ?_) (fun c30 => ?_)
            · have hf := pn_ifp c30 hf
              obtain ⟨z31, ez31⟩ : ∃ y : Int32, y = x4 + (1) := ⟨_, rfl⟩
              have hf := pn_nm_at ez31 hf
              refine lv_iinc (v := z31) (lv' := [(4, .int z31), (6, .int z19), (5, .int z18), (0, .ref a_t), (1, .ref a_q1), (2, .int p2), (3, .int x3)]) hx hb dX7_layCases_118 hl (k := 6) rfl (by rw [ez31]; rfl) (by decide) rfl (fun ls hl => ?_)
              refine lv_goto (tgt := 32) hx hb dX7_layCases_121 (by decide) ?_
              exact ih x3 z31 v_t_cases r_t_caseFirst r_t_label X H locs ls hf hP hS (lv_sub hl [3, 4, 5, 6, 0] rfl) kx124
            · have hf := pn_ifn c30 hf
              refine lv_aload_n hx hb dX7_layCases_91 rfl (lv_at hl 3 rfl) ?_
              refine lv_iload hx hb dX7_layCases_92 (lv_at hl 1 rfl) ?_
              refine lv_iload hx hb dX7_layCases_94 (lv_at hl 0 rfl) ?_
              obtain ⟨ru32, hu32, hf⟩ := pn_bd1_at hf
              refine pn_calli [3] (va_runS (As := [.ref a_q1, .int z18, .int z19]) (rest := []) ⟨hx, hb, hml, hown, hts⟩ (c_X7_meets l D cI cJ cZ a_q1 H.size r_q1 z18 z19 ru32 hu32) (va_cwS 3 hts gX7_layCases_X7_meets rfl rfl rfl hdX7_meets ⟨Nat.le_of_ble_eq_true rfl, Nat.le_of_ble_eq_true rfl⟩) (pn_preS [3] hP (hD.addr rfl) hK rfl rfl) rfl rfl hl.1 rfl (lv_room (Nat.le_of_ble_eq_true rfl)) dX7_layCases_96 ⟨Nat.zero_le _, Nat.zero_le _⟩) hP (hD.addr rfl) hS hA rfl rfl rfl (fun H locs (hP : va_P D vwCl [(a_t, .inr (6, [.int v_t_thrown, .ref a_t_text, .int v_t_textSize, .int v_t_place, .ref a_t_readPage, .ref a_t_page, .ref a_t_trial, .ref a_t_work, .ref a_t_book, .int v_t_doings, .ref a_t_kept, .ref a_t_isKept, .int v_t_seen, .ref a_t_seenWhat, .ref a_t_seenV, .ref a_t_seenIs, .long v_t_seed, .ref a_t_label, .ref a_t_finds, .ref a_t_reason, .ref a_t_caseFirst, .int v_t_cases, .ref a_t_brief, .ref a_t_printed, .int v_t_printedSize, .ref a_t_renamed, .ref a_t_worth, .int v_t_lastReason])), (a_t_caseFirst, .inl (cI, 32, .inl r_t_caseFirst)), (a_t_label, .inl (cI, 32, .inl r_t_label)), (a_q1, .inl (cI, 265, .inl r_q1))] H) _ hS => ?_)
              refine lv_if_eq (tgt := 118) hx hb dX7_layCases_99 (by decide) (fun c33 => ?_) (fun c33 => ?_)
              · have hf := pn_ifp c33 hf
                obtain ⟨z34, ez34⟩ : ∃ y : Int32, y = x4 + (1) := ⟨_, rfl⟩
                have hf := pn_nm_at ez34 hf
                refine lv_iinc (v := z34) (lv' := [(4, .int z34), (6, .int z19), (5, .int z18), (0, .ref a_t), (1, .ref a_q1), (2, .int p2), (3, .int x3)]) hx hb dX7_layCases_118 hl (k := 6) rfl (by rw [ez34]; rfl) (by decide) rfl (fun ls hl => ?_)
                refine lv_goto (tgt := 32) hx hb dX7_layCases_121 (by decide) ?_
                exact ih x3 z34 v_t_cases r_t_caseFirst r_t_label X H locs ls hf hP hS (lv_sub hl [3, 4, 5, 6, 0] rfl) kx124
              · have hf := pn_ifn c33 hf
                refine lv_aload_n hx hb dX7_layCases_102 rfl (lv_at hl 2 rfl) ?_
                refine va_get (D := D) (ci := 6) (v := .ref a_t_label) (C := RX7) (T := TX7) (N := 28) hx hb hts hinX7 hown hK.1 hP 0 rfl rfl 17 (by decide) fl_44 (fun _ h9 => h9) rfl dX7_layCases_103 ?_
                refine lv_iload hx hb dX7_layCases_106 (lv_at hl 1 rfl) ?_
                refine lv_aload_n hx hb dX7_layCases_108 rfl (lv_at hl 2 rfl) ?_
                refine va_get (D := D) (ci := 6) (v := .ref a_t_label) (C := RX7) (T := TX7) (N := 28) hx hb hts hinX7 hown hK.1 hP 0 rfl rfl 17 (by decide) fl_44 (fun _ h9 => h9) rfl dX7_layCases_109 ?_
                refine lv_iload hx hb dX7_layCases_112 (lv_at hl 0 rfl) ?_
                obtain ⟨hi36, w35, ew35, hf⟩ := pn_rd_at hf
                refine pn_ldI hx hb hK.1 hP 2 0 rfl rfl hi36 ew35 dX7_layCases_114 ?_
                obtain ⟨hi38, g37, eg37, hf⟩ := pn_wrI_at hf
                refine pn_stI hx hb hK.1 hP (hD.addr rfl) hS 2 0 rfl rfl hi38 eg37 dX7_layCases_115 (fun H locs (hP : va_P D vwCl [(a_t, .inr (6, [.int v_t_thrown, .ref a_t_text, .int v_t_textSize, .int v_t_place, .ref a_t_readPage, .ref a_t_page, .ref a_t_trial, .ref a_t_work, .ref a_t_book, .int v_t_doings, .ref a_t_kept, .ref a_t_isKept, .int v_t_seen, .ref a_t_seenWhat, .ref a_t_seenV, .ref a_t_seenIs, .long v_t_seed, .ref a_t_label, .ref a_t_finds, .ref a_t_reason, .ref a_t_caseFirst, .int v_t_cases, .ref a_t_brief, .ref a_t_printed, .int v_t_printedSize, .ref a_t_renamed, .ref a_t_worth, .int v_t_lastReason])), (a_t_caseFirst, .inl (cI, 32, .inl r_t_caseFirst)), (a_t_label, .inl (cI, 32, .inl g37)), (a_q1, .inl (cI, 265, .inl r_q1))] H) _ hS => ?_)
                refine lv_iconst (v := (1)) hx hb dX7_layCases_116 (by decide) ?_
                refine lv_istore_n (lv' := [(3, .int (1 : Int32)), (6, .int z19), (5, .int z18), (0, .ref a_t), (1, .ref a_q1), (2, .int p2), (4, .int x4)]) hx hb dX7_layCases_117 rfl hl (by decide) rfl (fun ls hl => ?_)
                obtain ⟨z39, ez39⟩ : ∃ y : Int32, y = x4 + (1) := ⟨_, rfl⟩
                have hf := pn_nm_at ez39 hf
                refine lv_iinc (v := z39) (lv' := [(4, .int z39), (3, .int (1 : Int32)), (6, .int z19), (5, .int z18), (0, .ref a_t), (1, .ref a_q1), (2, .int p2)]) hx hb dX7_layCases_118 hl (k := 6) rfl (by rw [ez39]; rfl) (by decide) rfl (fun ls hl => ?_)
                refine lv_goto (tgt := 32) hx hb dX7_layCases_121 (by decide) ?_
                exact ih (1 : Int32) z39 v_t_cases r_t_caseFirst g37 X H locs ls hf hP hS (lv_sub hl [4, 5, 6, 1, 0] rfl) kx124
  have lp23 : ∀ (n : Nat) (x3 : Int32) (v_t_cases : Int32) (r_t_caseFirst : Nat → Int32) (r_t_label : Nat → Int32) (X : (Nat → Int32)) (H : Heap) (locs : List Loc) (ls : Array Slot), lp_X7_layCases_23 N r_q1 p2 n x3 r_t_label = some X → va_P D vwCl [(a_t, .inr (6, [.int v_t_thrown, .ref a_t_text, .int v_t_textSize, .int v_t_place, .ref a_t_readPage, .ref a_t_page, .ref a_t_trial, .ref a_t_work, .ref a_t_book, .int v_t_doings, .ref a_t_kept, .ref a_t_isKept, .int v_t_seen, .ref a_t_seenWhat, .ref a_t_seenV, .ref a_t_seenIs, .long v_t_seed, .ref a_t_label, .ref a_t_finds, .ref a_t_reason, .ref a_t_caseFirst, .int v_t_cases, .ref a_t_brief, .ref a_t_printed, .int v_t_printedSize, .ref a_t_renamed, .ref a_t_worth, .int v_t_lastReason])), (a_t_caseFirst, .inl (cI, 32, .inl r_t_caseFirst)), (a_t_label, .inl (cI, 32, .inl r_t_label)), (a_q1, .inl (cI, 265, .inl r_q1))] H → va_S A s.heap H locs → lv_has ls 7 [(0, .ref a_t), (1, .ref a_q1), (2, .int p2), (3, .int x3)] → (∀  (r_t_label' : Nat → Int32) (H : Heap) (locs : List Loc) (ls : Array Slot), X = r_t_label' → va_P D vwCl [(a_t, .inr (6, [.int v_t_thrown, .ref a_t_text, .int v_t_textSize, .int v_t_place, .ref a_t_readPage, .ref a_t_page, .ref a_t_trial, .ref a_t_work, .ref a_t_book, .int v_t_doings, .ref a_t_kept, .ref a_t_isKept, .int v_t_seen, .ref a_t_seenWhat, .ref a_t_seenV, .ref a_t_seenIs, .long v_t_seed, .ref a_t_label, .ref a_t_finds, .ref a_t_reason, .ref a_t_caseFirst, .int v_t_cases, .ref a_t_brief, .ref a_t_printed, .int v_t_printedSize, .ref a_t_renamed, .ref a_t_worth, .int v_t_lastReason])), (a_t_caseFirst, .inl (cI, 32, .inl r_t_caseFirst)), (a_t_label, .inl (cI, 32, .inl (r_t_label'))), (a_q1, .inl (cI, 265, .inl r_q1))] H → va_S A s.heap H locs → lv_has ls 7 [(0, .ref a_t), (1, .ref a_q1), (2, .int p2)] → W p l e { frames := 4, cells := 0, slots := 0, locals := 91 } s m args below meth c H locs 0 0 Qm (F0 m 127 ls [])) → W p l e { frames := 4, cells := 0, slots := 0, locals := 91 } s m args below meth c H locs 0 0 Qm (F0 m 23 ls []) := by
    intro n
    induction n with
    | zero => intro x3 v_t_cases r_t_caseFirst r_t_label X H locs ls hf; cases hf
    | succ n ih =>
      intro x3 v_t_cases r_t_caseFirst r_t_label X H locs ls hf hP hS hl kx127
      rw [lp_X7_layCases_23] at hf
      refine lv_iload_n hx hb dX7_layCases_23 rfl (lv_at hl 3 rfl) ?_
      refine lv_if_eq (tgt := 127) hx hb dX7_layCases_24 (by decide) (fun c40 => ?_) (fun c40 => ?_)
      · have hf := pn_ifp c40 hf
        exact kx127 r_t_label H locs ls (Option.some.inj hf).symm hP hS (lv_sub hl [0, 1, 2] rfl)
      · have hf := pn_ifn c40 hf
        refine lv_iconst (v := (0)) hx hb dX7_layCases_27 (by decide) ?_
        refine lv_istore_n (lv' := [(3, .int (0 : Int32)), (0, .ref a_t), (1, .ref a_q1), (2, .int p2)]) hx hb dX7_layCases_28 rfl hl (by decide) rfl (fun ls hl => ?_)
        refine lv_iconst (v := (0)) hx hb dX7_layCases_29 (by decide) ?_
        refine lv_istore (lv' := [(4, .int (0 : Int32)), (3, .int (0 : Int32)), (0, .ref a_t), (1, .ref a_q1), (2, .int p2)]) hx hb dX7_layCases_30 hl (by decide) rfl (fun ls hl => ?_)
        obtain ⟨X32, hX32, hf⟩ := pn_bd1_at hf
        refine lp32 N (0 : Int32) (0 : Int32) v_t_cases r_t_caseFirst r_t_label X32 H locs ls hX32 hP hS (lv_sub hl [2, 3, 4, 1, 0] rfl) ?_
        · intro x3_w41 r_t_label_w41 H locs ls eX hP hS hl
          rw [eX] at hf
          have hf := pn_u2_at hf
          refine lv_goto (tgt := 23) hx hb dX7_layCases_124 (by decide) ?_
          exact ih x3_w41 v_t_cases r_t_caseFirst r_t_label_w41 X H locs ls hf hP hS (lv_sub hl [0, 1, 2, 3] rfl) kx127
  refine lv_iconst (v := (0)) hx hb dX7_layCases_0 (by decide) ?_
  refine lv_istore_n (lv' := [(3, .int (0 : Int32)), (0, .ref a_t), (1, .ref a_q1), (2, .int p2)]) hx hb dX7_layCases_1 rfl hl (by decide) rfl (fun ls hl => ?_)
  obtain ⟨X2, hX2, hf⟩ := pn_bd1_at hf
  refine lp2 N (0 : Int32) v_t_cases r_t_caseFirst r_t_label X2 H locs ls hX2 hP hS (lv_sub hl [1, 2, 3, 0] rfl) ?_
  · intro r_t_label_w42 H locs ls eX hP hS hl
    rw [eX] at hf
    have hf := pn_u1_at hf
    refine lv_iconst (v := (1)) hx hb dX7_layCases_21 (by decide) ?_
    refine lv_istore_n (lv' := [(3, .int (1 : Int32)), (0, .ref a_t), (1, .ref a_q1), (2, .int p2)]) hx hb dX7_layCases_22 rfl hl (by decide) rfl (fun ls hl => ?_)
    obtain ⟨X23, hX23, hf⟩ := pn_bd1_at hf
    refine lp23 N (1 : Int32) v_t_cases r_t_caseFirst r_t_label_w42 X23 H locs ls hX23 hP hS (lv_sub hl [1, 2, 3, 0] rfl) ?_
    · intro r_t_label_w43 H locs ls eX hP hS hl
      rw [eX] at hf
      have hf := pn_u1_at hf
      refine lv_aload_n hx hb dX7_layCases_127 rfl (lv_at hl 0 rfl) ?_
      refine lv_iconst (v := (0)) hx hb dX7_layCases_128 (by decide) ?_
      refine va_put (D := D) (ci := 6) (v := .int (0 : Int32)) (ty := .int) (C := RX7) (T := TX7) (N := 28) hx hb hts hinX7 tyX7 tyX7_ok nmX7 hown hK.1 hP (hD.addr rfl) hS 0 rfl rfl 21 (by decide) fl_152 (fun _ h9 => h9) rfl (by decide +kernel) rfl rfl (Nat.le_of_ble_eq_true rfl) dX7_layCases_129 (fun H locs (hP : va_P D vwCl [(a_t, .inr (6, [.int v_t_thrown, .ref a_t_text, .int v_t_textSize, .int v_t_place, .ref a_t_readPage, .ref a_t_page, .ref a_t_trial, .ref a_t_work, .ref a_t_book, .int v_t_doings, .ref a_t_kept, .ref a_t_isKept, .int v_t_seen, .ref a_t_seenWhat, .ref a_t_seenV, .ref a_t_seenIs, .long v_t_seed, .ref a_t_label, .ref a_t_finds, .ref a_t_reason, .ref a_t_caseFirst, .int ((0 : Int32)), .ref a_t_brief, .ref a_t_printed, .int v_t_printedSize, .ref a_t_renamed, .ref a_t_worth, .int v_t_lastReason])), (a_t_caseFirst, .inl (cI, 32, .inl r_t_caseFirst)), (a_t_label, .inl (cI, 32, .inl r_t_label_w43)), (a_q1, .inl (cI, 265, .inl r_q1))] H) _ hS => ?_)
      refine lv_iconst (v := (0)) hx hb dX7_layCases_132 (by decide) ?_
      refine lv_istore (lv' := [(4, .int (0 : Int32)), (0, .ref a_t), (1, .ref a_q1), (2, .int p2)]) hx hb dX7_layCases_133 hl (by decide) rfl (fun ls hl => ?_)
      obtain ⟨X135, hX135, hf⟩ := pn_bd1_at hf
      refine lp135 N (0 : Int32) (0 : Int32) r_t_caseFirst r_t_label_w43 X135 H locs ls hX135 hP hS (lv_sub hl [1, 2, 3, 0] rfl) ?_
      · intro v_t_cases_w44 r_t_caseFirst_w44 H locs ls eX hP hS hl
        rw [eX] at hf
        have hf := pn_u2_at hf
        cases hf
        rw [hQ]
        exact pn_retv hx hb hr hlocks hP hS dX7_layCases_191
def lp_X7_caseOf_5 (v_t_cases : Int32) (r_t_caseFirst : Nat → Int32) (r_t_label : Nat → Int32) (p1 : Int32) : Nat → Int32 → Int32 → Option (Int32)
  | 0, _, _ => none
  | n + 1, x2, x3 =>
    if v_t_cases ≤ x3 then
  some x2
  else
  pn_rd 32 r_t_caseFirst x3 fun w2 =>
  pn_rd 32 r_t_label p1 fun w4 =>
  if ¬ w2 = w4 then
  pn_nm (x3 + (1 : Int32)) fun z7 =>
  lp_X7_caseOf_5 v_t_cases r_t_caseFirst r_t_label p1 n x2 z7
  else
  pn_nm (x3 + (1 : Int32)) fun z8 =>
  lp_X7_caseOf_5 v_t_cases r_t_caseFirst r_t_label p1 n x3 z8
def f_X7_caseOf (N : Nat) (v_t_cases : Int32) (r_t_caseFirst : Nat → Int32) (r_t_label : Nat → Int32) (p1 : Int32) : Option (Int32) :=
  pn_bd1 (lp_X7_caseOf_5 v_t_cases r_t_caseFirst r_t_label p1 N (-9 : Int32) (0 : Int32)) (fun X5 => (pn_u1 fun x2_w9 => some x2_w9) X5)
set_option maxHeartbeats 4000000 in
set_option maxRecDepth 100000 in
theorem c_X7_caseOf (l : Launch) (D : va_G) (cI cJ cZ : ClassId) (a_t a_t_text a_t_readPage a_t_page a_t_trial a_t_work a_t_book a_t_kept a_t_isKept a_t_seenWhat a_t_seenV a_t_seenIs a_t_label a_t_finds a_t_reason a_t_caseFirst a_t_brief a_t_printed a_t_renamed a_t_worth : Nat) (sz : Nat) (v_t_thrown : Int32) (v_t_textSize : Int32) (v_t_place : Int32) (v_t_doings : Int32) (v_t_seen : Int32) (v_t_seed : Int64) (v_t_printedSize : Int32) (v_t_lastReason : Int32) (N : Nat) (v_t_cases : Int32) (r_t_caseFirst : Nat → Int32) (r_t_label : Nat → Int32) (p1 : Int32) (rR : Int32) (hf : f_X7_caseOf N v_t_cases r_t_caseFirst r_t_label p1 = some rR) : Met l yX7_caseOf wsX7_caseOf { frames := 0, cells := 0, slots := 0, locals := 0 } (pn_Pc D cI cJ cZ [.ref a_t, .int p1] [(a_t, .inr (6, [.int v_t_thrown, .ref a_t_text, .int v_t_textSize, .int v_t_place, .ref a_t_readPage, .ref a_t_page, .ref a_t_trial, .ref a_t_work, .ref a_t_book, .int v_t_doings, .ref a_t_kept, .ref a_t_isKept, .int v_t_seen, .ref a_t_seenWhat, .ref a_t_seenV, .ref a_t_seenIs, .long v_t_seed, .ref a_t_label, .ref a_t_finds, .ref a_t_reason, .ref a_t_caseFirst, .int v_t_cases, .ref a_t_brief, .ref a_t_printed, .int v_t_printedSize, .ref a_t_renamed, .ref a_t_worth, .int v_t_lastReason])), (a_t_caseFirst, .inl (cI, 32, .inl r_t_caseFirst)), (a_t_label, .inl (cI, 32, .inl r_t_label))] sz) (pn_Qi D rR [(a_t, .inr (6, [.int v_t_thrown, .ref a_t_text, .int v_t_textSize, .int v_t_place, .ref a_t_readPage, .ref a_t_page, .ref a_t_trial, .ref a_t_work, .ref a_t_book, .int v_t_doings, .ref a_t_kept, .ref a_t_isKept, .int v_t_seen, .ref a_t_seenWhat, .ref a_t_seenV, .ref a_t_seenIs, .long v_t_seed, .ref a_t_label, .ref a_t_finds, .ref a_t_reason, .ref a_t_caseFirst, .int v_t_cases, .ref a_t_brief, .ref a_t_printed, .int v_t_printedSize, .ref a_t_renamed, .ref a_t_worth, .int v_t_lastReason])), (a_t_caseFirst, .inl (cI, 32, .inl r_t_caseFirst)), (a_t_label, .inl (cI, 32, .inl r_t_label))] (va_A [(a_t, .inr (6, [.int v_t_thrown, .ref a_t_text, .int v_t_textSize, .int v_t_place, .ref a_t_readPage, .ref a_t_page, .ref a_t_trial, .ref a_t_work, .ref a_t_book, .int v_t_doings, .ref a_t_kept, .ref a_t_isKept, .int v_t_seen, .ref a_t_seenWhat, .ref a_t_seenV, .ref a_t_seenIs, .long v_t_seed, .ref a_t_label, .ref a_t_finds, .ref a_t_reason, .ref a_t_caseFirst, .int v_t_cases, .ref a_t_brief, .ref a_t_printed, .int v_t_printedSize, .ref a_t_renamed, .ref a_t_worth, .int v_t_lastReason])), (a_t_caseFirst, .inl (cI, 32, .inl r_t_caseFirst)), (a_t_label, .inl (cI, 32, .inl r_t_label))] sz)) 0 0 (va_A [(a_t, .inr (6, [.int v_t_thrown, .ref a_t_text, .int v_t_textSize, .int v_t_place, .ref a_t_readPage, .ref a_t_page, .ref a_t_trial, .ref a_t_work, .ref a_t_book, .int v_t_doings, .ref a_t_kept, .ref a_t_isKept, .int v_t_seen, .ref a_t_seenWhat, .ref a_t_seenV, .ref a_t_seenIs, .long v_t_seed, .ref a_t_label, .ref a_t_finds, .ref a_t_reason, .ref a_t_caseFirst, .int v_t_cases, .ref a_t_brief, .ref a_t_printed, .int v_t_printedSize, .ref a_t_renamed, .ref a_t_worth, .int v_t_lastReason])), (a_t_caseFirst, .inl (cI, 32, .inl r_t_caseFirst)), (a_t_label, .inl (cI, 32, .inl r_t_label))] sz) := by
  refine pn_entry (cc := cX7_caseOf) (maxL := 4) (ret := (some .int)) (Qf := pn_Qi D rR [(a_t, .inr (6, [.int v_t_thrown, .ref a_t_text, .int v_t_textSize, .int v_t_place, .ref a_t_readPage, .ref a_t_page, .ref a_t_trial, .ref a_t_work, .ref a_t_book, .int v_t_doings, .ref a_t_kept, .ref a_t_isKept, .int v_t_seen, .ref a_t_seenWhat, .ref a_t_seenV, .ref a_t_seenIs, .long v_t_seed, .ref a_t_label, .ref a_t_finds, .ref a_t_reason, .ref a_t_caseFirst, .int v_t_cases, .ref a_t_brief, .ref a_t_printed, .int v_t_printedSize, .ref a_t_renamed, .ref a_t_worth, .int v_t_lastReason])), (a_t_caseFirst, .inl (cI, 32, .inl r_t_caseFirst)), (a_t_label, .inl (cI, 32, .inl r_t_label))]) (by decide) rfl (Nat.le_of_ble_eq_true rfl) ?_
  intro p e s m args below meth c A ls H locs Qm hQ hx hb hr hlocks hml hown hts hK hP hD hA hS hl
  have hl : lv_has ls 4 [(0, .ref a_t), (1, .int p1)] := hl
  have hinX7 : ∀ w ∈ wsX70, w ∈ wsX7_caseOf := by decide +kernel
  have fl_44 := hts (.fieldLink RX7 44 "PointingNotesModel" "label" "[I") (by decide +kernel)
  have fl_53 := hts (.fieldLink RX7 53 "PointingNotesModel" "caseFirst" "[I") (by decide +kernel)
  have fl_152 := hts (.fieldLink RX7 152 "PointingNotesModel" "cases" "I") (by decide +kernel)
  rw [f_X7_caseOf] at hf
  have lp5 : ∀ (n : Nat) (x2 : Int32) (x3 : Int32) (X : Int32) (H : Heap) (locs : List Loc) (ls : Array Slot), lp_X7_caseOf_5 v_t_cases r_t_caseFirst r_t_label p1 n x2 x3 = some X → va_P D vwCl [(a_t, .inr (6, [.int v_t_thrown, .ref a_t_text, .int v_t_textSize, .int v_t_place, .ref a_t_readPage, .ref a_t_page, .ref a_t_trial, .ref a_t_work, .ref a_t_book, .int v_t_doings, .ref a_t_kept, .ref a_t_isKept, .int v_t_seen, .ref a_t_seenWhat, .ref a_t_seenV, .ref a_t_seenIs, .long v_t_seed, .ref a_t_label, .ref a_t_finds, .ref a_t_reason, .ref a_t_caseFirst, .int v_t_cases, .ref a_t_brief, .ref a_t_printed, .int v_t_printedSize, .ref a_t_renamed, .ref a_t_worth, .int v_t_lastReason])), (a_t_caseFirst, .inl (cI, 32, .inl r_t_caseFirst)), (a_t_label, .inl (cI, 32, .inl r_t_label))] H → va_S A s.heap H locs → lv_has ls 4 [(0, .ref a_t), (1, .int p1), (2, .int x2), (3, .int x3)] → (∀ (y2 : Int32)  (H : Heap) (locs : List Loc) (ls : Array Slot), X = y2 → va_P D vwCl [(a_t, .inr (6, [.int v_t_thrown, .ref a_t_text, .int v_t_textSize, .int v_t_place, .ref a_t_readPage, .ref a_t_page, .ref a_t_trial, .ref a_t_work, .ref a_t_book, .int v_t_doings, .ref a_t_kept, .ref a_t_isKept, .int v_t_seen, .ref a_t_seenWhat, .ref a_t_seenV, .ref a_t_seenIs, .long v_t_seed, .ref a_t_label, .ref a_t_finds, .ref a_t_reason, .ref a_t_caseFirst, .int v_t_cases, .ref a_t_brief, .ref a_t_printed, .int v_t_printedSize, .ref a_t_renamed, .ref a_t_worth, .int v_t_lastReason])), (a_t_caseFirst, .inl (cI, 32, .inl r_t_caseFirst)), (a_t_label, .inl (cI, 32, .inl r_t_label))] H → va_S A s.heap H locs → lv_has ls 4 [(2, .int y2)] → W p l e { frames := 0, cells := 0, slots := 0, locals := 0 } s m args below meth c H locs 0 0 Qm (F0 m 40 ls [])) → W p l e { frames := 0, cells := 0, slots := 0, locals := 0 } s m args below meth c H locs 0 0 Qm (F0 m 5 ls []) := by
    intro n
    induction n with
    | zero => intro x2 x3 X H locs ls hf; cases hf
    | succ n ih =>
      intro x2 x3 X H locs ls hf hP hS hl kx40
      rw [lp_X7_caseOf_5] at hf
      refine lv_iload_n hx hb dX7_caseOf_5 rfl (lv_at hl 3 rfl) ?_
      refine lv_aload_n hx hb dX7_caseOf_6 rfl (lv_at hl 0 rfl) ?_
      refine va_get (D := D) (ci := 6) (v := .int v_t_cases) (C := RX7) (T := TX7) (N := 28) hx hb hts hinX7 hown hK.1 hP 0 rfl rfl 21 (by decide) fl_152 (fun _ h9 => h9) rfl dX7_caseOf_7 ?_
      refine lv_icmp_ge (tgt := 40) hx hb dX7_caseOf_10 (by decide) (fun c1 => ?_) (fun c1 => ?_)
      · have hf := pn_ifp c1 hf
        exact kx40 x2 H locs ls (Option.some.inj hf).symm hP hS (lv_sub hl [2] rfl)
      · have hf := pn_ifn c1 hf
        refine lv_aload_n hx hb dX7_caseOf_13 rfl (lv_at hl 0 rfl) ?_
        refine va_get (D := D) (ci := 6) (v := .ref a_t_caseFirst) (C := RX7) (T := TX7) (N := 28) hx hb hts hinX7 hown hK.1 hP 0 rfl rfl 20 (by decide) fl_53 (fun _ h9 => h9) rfl dX7_caseOf_14 ?_
        refine lv_iload_n hx hb dX7_caseOf_17 rfl (lv_at hl 3 rfl) ?_
        obtain ⟨hi3, w2, ew2, hf⟩ := pn_rd_at hf
        refine pn_ldI hx hb hK.1 hP 1 0 rfl rfl hi3 ew2 dX7_caseOf_18 ?_
        refine lv_aload_n hx hb dX7_caseOf_19 rfl (lv_at hl 0 rfl) ?_
        refine va_get (D := D) (ci := 6) (v := .ref a_t_label) (C := RX7) (T := TX7) (N := 28) hx hb hts hinX7 hown hK.1 hP 0 rfl rfl 17 (by decide) fl_44 (fun _ h9 => h9) rfl dX7_caseOf_20 ?_
        refine lv_iload_n hx hb dX7_caseOf_23 rfl (lv_at hl 1 rfl) ?_
        obtain ⟨hi5, w4, ew4, hf⟩ := pn_rd_at hf
        refine pn_ldI hx hb hK.1 hP 2 0 rfl rfl hi5 ew4 dX7_caseOf_24 ?_
        refine lv_icmp_ne (tgt := 32) hx hb dX7_caseOf_25 (by decide) (fun c6 => ?_) (fun c6 => ?_)
        · have hf := pn_ifp c6 hf
          refine lv_iload_n hx hb dX7_caseOf_32 rfl (lv_at hl 2 rfl) ?_
          refine lv_istore_n (lv' := [(2, .int x2), (0, .ref a_t), (1, .int p1), (3, .int x3)]) hx hb dX7_caseOf_33 rfl hl (by decide) rfl (fun ls hl => ?_)
          obtain ⟨z7, ez7⟩ : ∃ y : Int32, y = x3 + (1) := ⟨_, rfl⟩
          have hf := pn_nm_at ez7 hf
          refine lv_iinc (v := z7) (lv' := [(3, .int z7), (2, .int x2), (0, .ref a_t), (1, .int p1)]) hx hb dX7_caseOf_34 hl (k := 3) rfl (by rw [ez7]; rfl) (by decide) rfl (fun ls hl => ?_)
          refine lv_goto (tgt := 5) hx hb dX7_caseOf_37 (by decide) ?_
          exact ih x2 z7 X H locs ls hf hP hS (lv_sub hl [2, 3, 1, 0] rfl) kx40
        · have hf := pn_ifq c6 hf
          refine lv_iload_n hx hb dX7_caseOf_28 rfl (lv_at hl 3 rfl) ?_
          refine lv_goto (tgt := 33) hx hb dX7_caseOf_29 (by decide) ?_
          refine lv_istore_n (lv' := [(2, .int x3), (0, .ref a_t), (1, .int p1), (3, .int x3)]) hx hb dX7_caseOf_33 rfl hl (by decide) rfl (fun ls hl => ?_)
          obtain ⟨z8, ez8⟩ : ∃ y : Int32, y = x3 + (1) := ⟨_, rfl⟩
          have hf := pn_nm_at ez8 hf
          refine lv_iinc (v := z8) (lv' := [(3, .int z8), (2, .int x3), (0, .ref a_t), (1, .int p1)]) hx hb dX7_caseOf_34 hl (k := 3) rfl (by rw [ez8]; rfl) (by decide) rfl (fun ls hl => ?_)
          refine lv_goto (tgt := 5) hx hb dX7_caseOf_37 (by decide) ?_
          exact ih x3 z8 X H locs ls hf hP hS (lv_sub hl [2, 3, 1, 0] rfl) kx40
  refine lv_bipush (v := (-9)) hx hb dX7_caseOf_0 (by decide) ?_
  refine lv_istore_n (lv' := [(2, .int (-9 : Int32)), (0, .ref a_t), (1, .int p1)]) hx hb dX7_caseOf_2 rfl hl (by decide) rfl (fun ls hl => ?_)
  refine lv_iconst (v := (0)) hx hb dX7_caseOf_3 (by decide) ?_
  refine lv_istore_n (lv' := [(3, .int (0 : Int32)), (2, .int (-9 : Int32)), (0, .ref a_t), (1, .int p1)]) hx hb dX7_caseOf_4 rfl hl (by decide) rfl (fun ls hl => ?_)
  obtain ⟨X5, hX5, hf⟩ := pn_bd1_at hf
  refine lp5 N (-9 : Int32) (0 : Int32) X5 H locs ls hX5 hP hS (lv_sub hl [2, 3, 1, 0] rfl) ?_
  · intro x2_w9 H locs ls eX hP hS hl
    rw [eX] at hf
    have hf := pn_u1_at hf
    refine lv_iload_n hx hb dX7_caseOf_40 rfl (lv_at hl 0 rfl) ?_
    cases hf
    rw [hQ]
    exact pn_reti hx hb hr hlocks hP hS rfl dX7_caseOf_41
def f_X7_initial (r_t_caseFirst : Nat → Int32) (r_q1 : Nat → Int32) (p2 : Int32) : Option (Int32) :=
  pn_rd 32 r_t_caseFirst p2 fun w1 =>
  pn_bd1 (f_X7_ref r_q1 w1 (1 : Int32)) fun ru3 =>
  some ru3
set_option maxHeartbeats 4000000 in
set_option maxRecDepth 100000 in
theorem c_X7_initial (l : Launch) (D : va_G) (cI cJ cZ : ClassId) (a_t a_t_text a_t_readPage a_t_page a_t_trial a_t_work a_t_book a_t_kept a_t_isKept a_t_seenWhat a_t_seenV a_t_seenIs a_t_label a_t_finds a_t_reason a_t_caseFirst a_t_brief a_t_printed a_t_renamed a_t_worth a_q1 : Nat) (sz : Nat) (v_t_thrown : Int32) (v_t_textSize : Int32) (v_t_place : Int32) (v_t_doings : Int32) (v_t_seen : Int32) (v_t_seed : Int64) (v_t_cases : Int32) (v_t_printedSize : Int32) (v_t_lastReason : Int32) (r_t_caseFirst : Nat → Int32) (r_q1 : Nat → Int32) (p2 : Int32) (rR : Int32) (hf : f_X7_initial r_t_caseFirst r_q1 p2 = some rR) : Met l yX7_initial wsX7_initial { frames := 1, cells := 0, slots := 0, locals := 22 } (pn_Pc D cI cJ cZ [.ref a_t, .ref a_q1, .int p2] [(a_t, .inr (6, [.int v_t_thrown, .ref a_t_text, .int v_t_textSize, .int v_t_place, .ref a_t_readPage, .ref a_t_page, .ref a_t_trial, .ref a_t_work, .ref a_t_book, .int v_t_doings, .ref a_t_kept, .ref a_t_isKept, .int v_t_seen, .ref a_t_seenWhat, .ref a_t_seenV, .ref a_t_seenIs, .long v_t_seed, .ref a_t_label, .ref a_t_finds, .ref a_t_reason, .ref a_t_caseFirst, .int v_t_cases, .ref a_t_brief, .ref a_t_printed, .int v_t_printedSize, .ref a_t_renamed, .ref a_t_worth, .int v_t_lastReason])), (a_t_caseFirst, .inl (cI, 32, .inl r_t_caseFirst)), (a_q1, .inl (cI, 265, .inl r_q1))] sz) (pn_Qi D rR [(a_t, .inr (6, [.int v_t_thrown, .ref a_t_text, .int v_t_textSize, .int v_t_place, .ref a_t_readPage, .ref a_t_page, .ref a_t_trial, .ref a_t_work, .ref a_t_book, .int v_t_doings, .ref a_t_kept, .ref a_t_isKept, .int v_t_seen, .ref a_t_seenWhat, .ref a_t_seenV, .ref a_t_seenIs, .long v_t_seed, .ref a_t_label, .ref a_t_finds, .ref a_t_reason, .ref a_t_caseFirst, .int v_t_cases, .ref a_t_brief, .ref a_t_printed, .int v_t_printedSize, .ref a_t_renamed, .ref a_t_worth, .int v_t_lastReason])), (a_t_caseFirst, .inl (cI, 32, .inl r_t_caseFirst)), (a_q1, .inl (cI, 265, .inl r_q1))] (va_A [(a_t, .inr (6, [.int v_t_thrown, .ref a_t_text, .int v_t_textSize, .int v_t_place, .ref a_t_readPage, .ref a_t_page, .ref a_t_trial, .ref a_t_work, .ref a_t_book, .int v_t_doings, .ref a_t_kept, .ref a_t_isKept, .int v_t_seen, .ref a_t_seenWhat, .ref a_t_seenV, .ref a_t_seenIs, .long v_t_seed, .ref a_t_label, .ref a_t_finds, .ref a_t_reason, .ref a_t_caseFirst, .int v_t_cases, .ref a_t_brief, .ref a_t_printed, .int v_t_printedSize, .ref a_t_renamed, .ref a_t_worth, .int v_t_lastReason])), (a_t_caseFirst, .inl (cI, 32, .inl r_t_caseFirst)), (a_q1, .inl (cI, 265, .inl r_q1))] sz)) 0 0 (va_A [(a_t, .inr (6, [.int v_t_thrown, .ref a_t_text, .int v_t_textSize, .int v_t_place, .ref a_t_readPage, .ref a_t_page, .ref a_t_trial, .ref a_t_work, .ref a_t_book, .int v_t_doings, .ref a_t_kept, .ref a_t_isKept, .int v_t_seen, .ref a_t_seenWhat, .ref a_t_seenV, .ref a_t_seenIs, .long v_t_seed, .ref a_t_label, .ref a_t_finds, .ref a_t_reason, .ref a_t_caseFirst, .int v_t_cases, .ref a_t_brief, .ref a_t_printed, .int v_t_printedSize, .ref a_t_renamed, .ref a_t_worth, .int v_t_lastReason])), (a_t_caseFirst, .inl (cI, 32, .inl r_t_caseFirst)), (a_q1, .inl (cI, 265, .inl r_q1))] sz) := by
  refine pn_entry (cc := cX7_initial) (maxL := 3) (ret := (some .int)) (Qf := pn_Qi D rR [(a_t, .inr (6, [.int v_t_thrown, .ref a_t_text, .int v_t_textSize, .int v_t_place, .ref a_t_readPage, .ref a_t_page, .ref a_t_trial, .ref a_t_work, .ref a_t_book, .int v_t_doings, .ref a_t_kept, .ref a_t_isKept, .int v_t_seen, .ref a_t_seenWhat, .ref a_t_seenV, .ref a_t_seenIs, .long v_t_seed, .ref a_t_label, .ref a_t_finds, .ref a_t_reason, .ref a_t_caseFirst, .int v_t_cases, .ref a_t_brief, .ref a_t_printed, .int v_t_printedSize, .ref a_t_renamed, .ref a_t_worth, .int v_t_lastReason])), (a_t_caseFirst, .inl (cI, 32, .inl r_t_caseFirst)), (a_q1, .inl (cI, 265, .inl r_q1))]) (by decide) rfl (Nat.le_of_ble_eq_true rfl) ?_
  intro p e s m args below meth c A ls H locs Qm hQ hx hb hr hlocks hml hown hts hK hP hD hA hS hl
  have hl : lv_has ls 3 [(0, .ref a_t), (1, .ref a_q1), (2, .int p2)] := hl
  have hinX7 : ∀ w ∈ wsX70, w ∈ wsX7_initial := by decide +kernel
  have fl_53 := hts (.fieldLink RX7 53 "PointingNotesModel" "caseFirst" "[I") (by decide +kernel)
  rw [f_X7_initial] at hf
  refine lv_aload_n hx hb dX7_initial_0 rfl (lv_at hl 1 rfl) ?_
  refine lv_aload_n hx hb dX7_initial_1 rfl (lv_at hl 0 rfl) ?_
  refine va_get (D := D) (ci := 6) (v := .ref a_t_caseFirst) (C := RX7) (T := TX7) (N := 28) hx hb hts hinX7 hown hK.1 hP 0 rfl rfl 20 (by decide) fl_53 (fun _ h9 => h9) rfl dX7_initial_2 ?_
  refine lv_iload_n hx hb dX7_initial_5 rfl (lv_at hl 2 rfl) ?_
  obtain ⟨hi2, w1, ew1, hf⟩ := pn_rd_at hf
  refine pn_ldI hx hb hK.1 hP 1 0 rfl rfl hi2 ew1 dX7_initial_6 ?_
  refine lv_iconst (v := (1)) hx hb dX7_initial_7 (by decide) ?_
  obtain ⟨ru3, hu3, hf⟩ := pn_bd1_at hf
  refine pn_calli [2] (va_runS (As := [.ref a_q1, .int w1, .int (1 : Int32)]) (rest := []) ⟨hx, hb, hml, hown, hts⟩ (c_X7_ref l D cI cJ cZ a_q1 H.size r_q1 w1 (1 : Int32) ru3 hu3) (va_cwS 3 hts gX7_initial_X7_ref rfl rfl rfl hdX7_ref ⟨Nat.le_of_ble_eq_true rfl, Nat.le_of_ble_eq_true rfl⟩) (pn_preS [2] hP (hD.addr rfl) hK rfl rfl) rfl rfl hl.1 rfl (lv_room (Nat.le_of_ble_eq_true rfl)) dX7_initial_8 ⟨Nat.zero_le _, Nat.zero_le _⟩) hP (hD.addr rfl) hS hA rfl rfl rfl (fun H locs (hP : va_P D vwCl [(a_t, .inr (6, [.int v_t_thrown, .ref a_t_text, .int v_t_textSize, .int v_t_place, .ref a_t_readPage, .ref a_t_page, .ref a_t_trial, .ref a_t_work, .ref a_t_book, .int v_t_doings, .ref a_t_kept, .ref a_t_isKept, .int v_t_seen, .ref a_t_seenWhat, .ref a_t_seenV, .ref a_t_seenIs, .long v_t_seed, .ref a_t_label, .ref a_t_finds, .ref a_t_reason, .ref a_t_caseFirst, .int v_t_cases, .ref a_t_brief, .ref a_t_printed, .int v_t_printedSize, .ref a_t_renamed, .ref a_t_worth, .int v_t_lastReason])), (a_t_caseFirst, .inl (cI, 32, .inl r_t_caseFirst)), (a_q1, .inl (cI, 265, .inl r_q1))] H) _ hS => ?_)
  cases hf
  rw [hQ]
  exact pn_reti hx hb hr hlocks hP hS rfl dX7_initial_11
def j_X7_byShort_44 (rc : Int32 → Int32 → Option (Int32)) (x5 : Int32) (x6 : Int32) (s0 : Int32) : Option (Int32) :=
  if ¬ s0 = 0 then
  if ¬ x5 = (-9 : Int32) then
  pn_nm (x6 + (1 : Int32)) fun z3 =>
  rc (-10 : Int32) z3
  else
  pn_nm (x6 + (1 : Int32)) fun z4 =>
  rc x6 z4
  else
  pn_nm (x6 + (1 : Int32)) fun z5 =>
  rc x5 z5
def lp_X7_byShort_7 (v_t_cases : Int32) (r_t_caseFirst : Nat → Int32) (r_q1 : Nat → Int32) (p3 : Int32) (p4 : Int32) : Nat → Int32 → Int32 → Option (Int32)
  | 0, _, _ => none
  | n + 1, x5, x6 =>
    if v_t_cases ≤ x6 then
  some x5
  else
  pn_rd 32 r_t_caseFirst x6 fun w7 =>
  if p3 ≤ w7 then
  j_X7_byShort_44 (lp_X7_byShort_7 v_t_cases r_t_caseFirst r_q1 p3 p4 n) x5 x6 (0 : Int32)
  else
  pn_bd1 (f_X7_initial r_t_caseFirst r_q1 x6) fun ru10 =>
  if ¬ ru10 = p4 then
  j_X7_byShort_44 (lp_X7_byShort_7 v_t_cases r_t_caseFirst r_q1 p3 p4 n) x5 x6 (0 : Int32)
  else
  j_X7_byShort_44 (lp_X7_byShort_7 v_t_cases r_t_caseFirst r_q1 p3 p4 n) x5 x6 (1 : Int32)
def f_X7_byShort (N : Nat) (v_t_cases : Int32) (r_t_caseFirst : Nat → Int32) (r_q1 : Nat → Int32) (p2 : Int32) (p3 : Int32) (p4 : Int32) : Option (Int32) :=
  pn_bd1 (lp_X7_byShort_7 v_t_cases r_t_caseFirst r_q1 p3 p4 N (-9 : Int32) (0 : Int32)) (fun X7 => (pn_u1 fun x5_w12 => some x5_w12) X7)
set_option maxHeartbeats 4000000 in
set_option maxRecDepth 100000 in
theorem c_X7_byShort (l : Launch) (D : va_G) (cI cJ cZ : ClassId) (a_t a_t_text a_t_readPage a_t_page a_t_trial a_t_work a_t_book a_t_kept a_t_isKept a_t_seenWhat a_t_seenV a_t_seenIs a_t_label a_t_finds a_t_reason a_t_caseFirst a_t_brief a_t_printed a_t_renamed a_t_worth a_q1 : Nat) (sz : Nat) (v_t_thrown : Int32) (v_t_textSize : Int32) (v_t_place : Int32) (v_t_doings : Int32) (v_t_seen : Int32) (v_t_seed : Int64) (v_t_printedSize : Int32) (v_t_lastReason : Int32) (N : Nat) (v_t_cases : Int32) (r_t_caseFirst : Nat → Int32) (r_q1 : Nat → Int32) (p2 : Int32) (p3 : Int32) (p4 : Int32) (rR : Int32) (hf : f_X7_byShort N v_t_cases r_t_caseFirst r_q1 p2 p3 p4 = some rR) : Met l yX7_byShort wsX7_byShort { frames := 2, cells := 0, slots := 0, locals := 44 } (pn_Pc D cI cJ cZ [.ref a_t, .ref a_q1, .int p2, .int p3, .int p4] [(a_t, .inr (6, [.int v_t_thrown, .ref a_t_text, .int v_t_textSize, .int v_t_place, .ref a_t_readPage, .ref a_t_page, .ref a_t_trial, .ref a_t_work, .ref a_t_book, .int v_t_doings, .ref a_t_kept, .ref a_t_isKept, .int v_t_seen, .ref a_t_seenWhat, .ref a_t_seenV, .ref a_t_seenIs, .long v_t_seed, .ref a_t_label, .ref a_t_finds, .ref a_t_reason, .ref a_t_caseFirst, .int v_t_cases, .ref a_t_brief, .ref a_t_printed, .int v_t_printedSize, .ref a_t_renamed, .ref a_t_worth, .int v_t_lastReason])), (a_t_caseFirst, .inl (cI, 32, .inl r_t_caseFirst)), (a_q1, .inl (cI, 265, .inl r_q1))] sz) (pn_Qi D rR [(a_t, .inr (6, [.int v_t_thrown, .ref a_t_text, .int v_t_textSize, .int v_t_place, .ref a_t_readPage, .ref a_t_page, .ref a_t_trial, .ref a_t_work, .ref a_t_book, .int v_t_doings, .ref a_t_kept, .ref a_t_isKept, .int v_t_seen, .ref a_t_seenWhat, .ref a_t_seenV, .ref a_t_seenIs, .long v_t_seed, .ref a_t_label, .ref a_t_finds, .ref a_t_reason, .ref a_t_caseFirst, .int v_t_cases, .ref a_t_brief, .ref a_t_printed, .int v_t_printedSize, .ref a_t_renamed, .ref a_t_worth, .int v_t_lastReason])), (a_t_caseFirst, .inl (cI, 32, .inl r_t_caseFirst)), (a_q1, .inl (cI, 265, .inl r_q1))] (va_A [(a_t, .inr (6, [.int v_t_thrown, .ref a_t_text, .int v_t_textSize, .int v_t_place, .ref a_t_readPage, .ref a_t_page, .ref a_t_trial, .ref a_t_work, .ref a_t_book, .int v_t_doings, .ref a_t_kept, .ref a_t_isKept, .int v_t_seen, .ref a_t_seenWhat, .ref a_t_seenV, .ref a_t_seenIs, .long v_t_seed, .ref a_t_label, .ref a_t_finds, .ref a_t_reason, .ref a_t_caseFirst, .int v_t_cases, .ref a_t_brief, .ref a_t_printed, .int v_t_printedSize, .ref a_t_renamed, .ref a_t_worth, .int v_t_lastReason])), (a_t_caseFirst, .inl (cI, 32, .inl r_t_caseFirst)), (a_q1, .inl (cI, 265, .inl r_q1))] sz)) 0 0 (va_A [(a_t, .inr (6, [.int v_t_thrown, .ref a_t_text, .int v_t_textSize, .int v_t_place, .ref a_t_readPage, .ref a_t_page, .ref a_t_trial, .ref a_t_work, .ref a_t_book, .int v_t_doings, .ref a_t_kept, .ref a_t_isKept, .int v_t_seen, .ref a_t_seenWhat, .ref a_t_seenV, .ref a_t_seenIs, .long v_t_seed, .ref a_t_label, .ref a_t_finds, .ref a_t_reason, .ref a_t_caseFirst, .int v_t_cases, .ref a_t_brief, .ref a_t_printed, .int v_t_printedSize, .ref a_t_renamed, .ref a_t_worth, .int v_t_lastReason])), (a_t_caseFirst, .inl (cI, 32, .inl r_t_caseFirst)), (a_q1, .inl (cI, 265, .inl r_q1))] sz) := by
  refine pn_entry (cc := cX7_byShort) (maxL := 8) (ret := (some .int)) (Qf := pn_Qi D rR [(a_t, .inr (6, [.int v_t_thrown, .ref a_t_text, .int v_t_textSize, .int v_t_place, .ref a_t_readPage, .ref a_t_page, .ref a_t_trial, .ref a_t_work, .ref a_t_book, .int v_t_doings, .ref a_t_kept, .ref a_t_isKept, .int v_t_seen, .ref a_t_seenWhat, .ref a_t_seenV, .ref a_t_seenIs, .long v_t_seed, .ref a_t_label, .ref a_t_finds, .ref a_t_reason, .ref a_t_caseFirst, .int v_t_cases, .ref a_t_brief, .ref a_t_printed, .int v_t_printedSize, .ref a_t_renamed, .ref a_t_worth, .int v_t_lastReason])), (a_t_caseFirst, .inl (cI, 32, .inl r_t_caseFirst)), (a_q1, .inl (cI, 265, .inl r_q1))]) (by decide) rfl (Nat.le_of_ble_eq_true rfl) ?_
  intro p e s m args below meth c A ls H locs Qm hQ hx hb hr hlocks hml hown hts hK hP hD hA hS hl
  have hl : lv_has ls 8 [(0, .ref a_t), (1, .ref a_q1), (2, .int p2), (3, .int p3), (4, .int p4)] := hl
  have hinX7 : ∀ w ∈ wsX70, w ∈ wsX7_byShort := by decide +kernel
  have fl_53 := hts (.fieldLink RX7 53 "PointingNotesModel" "caseFirst" "[I") (by decide +kernel)
  have fl_152 := hts (.fieldLink RX7 152 "PointingNotesModel" "cases" "I") (by decide +kernel)
  rw [f_X7_byShort] at hf
  have lp7 : ∀ (n : Nat) (x5 : Int32) (x6 : Int32) (X : Int32) (H : Heap) (locs : List Loc) (ls : Array Slot), lp_X7_byShort_7 v_t_cases r_t_caseFirst r_q1 p3 p4 n x5 x6 = some X → va_P D vwCl [(a_t, .inr (6, [.int v_t_thrown, .ref a_t_text, .int v_t_textSize, .int v_t_place, .ref a_t_readPage, .ref a_t_page, .ref a_t_trial, .ref a_t_work, .ref a_t_book, .int v_t_doings, .ref a_t_kept, .ref a_t_isKept, .int v_t_seen, .ref a_t_seenWhat, .ref a_t_seenV, .ref a_t_seenIs, .long v_t_seed, .ref a_t_label, .ref a_t_finds, .ref a_t_reason, .ref a_t_caseFirst, .int v_t_cases, .ref a_t_brief, .ref a_t_printed, .int v_t_printedSize, .ref a_t_renamed, .ref a_t_worth, .int v_t_lastReason])), (a_t_caseFirst, .inl (cI, 32, .inl r_t_caseFirst)), (a_q1, .inl (cI, 265, .inl r_q1))] H → va_S A s.heap H locs → lv_has ls 8 [(0, .ref a_t), (1, .ref a_q1), (3, .int p3), (4, .int p4), (5, .int x5), (6, .int x6)] → (∀ (y5 : Int32)  (H : Heap) (locs : List Loc) (ls : Array Slot), X = y5 → va_P D vwCl [(a_t, .inr (6, [.int v_t_thrown, .ref a_t_text, .int v_t_textSize, .int v_t_place, .ref a_t_readPage, .ref a_t_page, .ref a_t_trial, .ref a_t_work, .ref a_t_book, .int v_t_doings, .ref a_t_kept, .ref a_t_isKept, .int v_t_seen, .ref a_t_seenWhat, .ref a_t_seenV, .ref a_t_seenIs, .long v_t_seed, .ref a_t_label, .ref a_t_finds, .ref a_t_reason, .ref a_t_caseFirst, .int v_t_cases, .ref a_t_brief, .ref a_t_printed, .int v_t_printedSize, .ref a_t_renamed, .ref a_t_worth, .int v_t_lastReason])), (a_t_caseFirst, .inl (cI, 32, .inl r_t_caseFirst)), (a_q1, .inl (cI, 265, .inl r_q1))] H → va_S A s.heap H locs → lv_has ls 8 [(5, .int y5)] → W p l e { frames := 2, cells := 0, slots := 0, locals := 44 } s m args below meth c H locs 0 0 Qm (F0 m 78 ls [])) → W p l e { frames := 2, cells := 0, slots := 0, locals := 44 } s m args below meth c H locs 0 0 Qm (F0 m 7 ls []) := by
    intro n
    induction n with
    | zero => intro x5 x6 X H locs ls hf; cases hf
    | succ n ih =>
      intro x5 x6 X H locs ls hf hP hS hl kx78
      rw [lp_X7_byShort_7] at hf
      have jn44 : ∀ (x5 : Int32) (x6 : Int32) (s0 : Int32) (H : Heap) (locs : List Loc) (ls : Array Slot), j_X7_byShort_44 (lp_X7_byShort_7 v_t_cases r_t_caseFirst r_q1 p3 p4 n) x5 x6 s0 = some X → va_P D vwCl [(a_t, .inr (6, [.int v_t_thrown, .ref a_t_text, .int v_t_textSize, .int v_t_place, .ref a_t_readPage, .ref a_t_page, .ref a_t_trial, .ref a_t_work, .ref a_t_book, .int v_t_doings, .ref a_t_kept, .ref a_t_isKept, .int v_t_seen, .ref a_t_seenWhat, .ref a_t_seenV, .ref a_t_seenIs, .long v_t_seed, .ref a_t_label, .ref a_t_finds, .ref a_t_reason, .ref a_t_caseFirst, .int v_t_cases, .ref a_t_brief, .ref a_t_printed, .int v_t_printedSize, .ref a_t_renamed, .ref a_t_worth, .int v_t_lastReason])), (a_t_caseFirst, .inl (cI, 32, .inl r_t_caseFirst)), (a_q1, .inl (cI, 265, .inl r_q1))] H → va_S A s.heap H locs → lv_has ls 8 [(0, .ref a_t), (1, .ref a_q1), (3, .int p3), (4, .int p4), (5, .int x5), (6, .int x6)] → W p l e { frames := 2, cells := 0, slots := 0, locals := 44 } s m args below meth c H locs 0 0 Qm (F0 m 44 ls [.int s0]) := by
        intro x5 x6 s0 H locs ls hf hP hS hl
        rw [j_X7_byShort_44] at hf
        refine lv_istore (lv' := [(7, .int s0), (0, .ref a_t), (1, .ref a_q1), (3, .int p3), (4, .int p4), (5, .int x5), (6, .int x6)]) hx hb dX7_byShort_44 hl (by decide) rfl (fun ls hl => ?_)
        refine lv_iload hx hb dX7_byShort_46 (lv_at hl 0 rfl) ?_
        refine lv_if_ne (tgt := 56) hx hb dX7_byShort_48 (by decide) (fun c1 => ?_) (fun c1 => ?_)
        · have hf := pn_ifp c1 hf
          refine lv_iload hx hb dX7_byShort_56 (lv_at hl 5 rfl) ?_
          refine lv_bipush (v := (-9)) hx hb dX7_byShort_58 (by decide) ?_
          refine lv_icmp_ne (tgt := 68) hx hb dX7_byShort_60 (by decide) (fun c2 => ?_) (fun c2 => ?_)
          · have hf := pn_ifp c2 hf
            refine lv_bipush (v := (-10)) hx hb dX7_byShort_68 (by decide) ?_
            refine lv_istore (lv' := [(5, .int (-10 : Int32)), (7, .int s0), (0, .ref a_t), (1, .ref a_q1), (3, .int p3), (4, .int p4), (6, .int x6)]) hx hb dX7_byShort_70 hl (by decide) rfl (fun ls hl => ?_)
            obtain ⟨z3, ez3⟩ : ∃ y : Int32, y = x6 + (1) := ⟨_, rfl⟩
            have hf := pn_nm_at ez3 hf
            refine lv_iinc (v := z3) (lv' := [(6, .int z3), (5, .int (-10 : Int32)), (7, .int s0), (0, .ref a_t), (1, .ref a_q1), (3, .int p3), (4, .int p4)]) hx hb dX7_byShort_72 hl (k := 6) rfl (by rw [ez3]; rfl) (by decide) rfl (fun ls hl => ?_)
            refine lv_goto (tgt := 7) hx hb dX7_byShort_75 (by decide) ?_
            exact ih (-10 : Int32) z3 X H locs ls hf hP hS (lv_sub hl [3, 4, 5, 6, 1, 0] rfl) kx78
          · have hf := pn_ifq c2 hf
            refine lv_iload hx hb dX7_byShort_63 (lv_at hl 6 rfl) ?_
            refine lv_goto (tgt := 70) hx hb dX7_byShort_65 (by decide) ?_
            refine lv_istore (lv' := [(5, .int x6), (7, .int s0), (0, .ref a_t), (1, .ref a_q1), (3, .int p3), (4, .int p4), (6, .int x6)]) hx hb dX7_byShort_70 hl (by decide) rfl (fun ls hl => ?_)
            obtain ⟨z4, ez4⟩ : ∃ y : Int32, y = x6 + (1) := ⟨_, rfl⟩
            have hf := pn_nm_at ez4 hf
            refine lv_iinc (v := z4) (lv' := [(6, .int z4), (5, .int x6), (7, .int s0), (0, .ref a_t), (1, .ref a_q1), (3, .int p3), (4, .int p4)]) hx hb dX7_byShort_72 hl (k := 6) rfl (by rw [ez4]; rfl) (by decide) rfl (fun ls hl => ?_)
            refine lv_goto (tgt := 7) hx hb dX7_byShort_75 (by decide) ?_
            exact ih x6 z4 X H locs ls hf hP hS (lv_sub hl [3, 4, 5, 6, 1, 0] rfl) kx78
        · have hf := pn_ifq c1 hf
          refine lv_iload hx hb dX7_byShort_51 (lv_at hl 5 rfl) ?_
          refine lv_goto (tgt := 70) hx hb dX7_byShort_53 (by decide) ?_
          refine lv_istore (lv' := [(5, .int x5), (7, .int s0), (0, .ref a_t), (1, .ref a_q1), (3, .int p3), (4, .int p4), (6, .int x6)]) hx hb dX7_byShort_70 hl (by decide) rfl (fun ls hl => ?_)
          obtain ⟨z5, ez5⟩ : ∃ y : Int32, y = x6 + (1) := ⟨_, rfl⟩
          have hf := pn_nm_at ez5 hf
          refine lv_iinc (v := z5) (lv' := [(6, .int z5), (5, .int x5), (7, .int s0), (0, .ref a_t), (1, .ref a_q1), (3, .int p3), (4, .int p4)]) hx hb dX7_byShort_72 hl (k := 6) rfl (by rw [ez5]; rfl) (by decide) rfl (fun ls hl => ?_)
          refine lv_goto (tgt := 7) hx hb dX7_byShort_75 (by decide) ?_
          exact ih x5 z5 X H locs ls hf hP hS (lv_sub hl [3, 4, 5, 6, 1, 0] rfl) kx78
      refine lv_iload hx hb dX7_byShort_7 (lv_at hl 5 rfl) ?_
      refine lv_aload_n hx hb dX7_byShort_9 rfl (lv_at hl 0 rfl) ?_
      refine va_get (D := D) (ci := 6) (v := .int v_t_cases) (C := RX7) (T := TX7) (N := 28) hx hb hts hinX7 hown hK.1 hP 0 rfl rfl 21 (by decide) fl_152 (fun _ h9 => h9) rfl dX7_byShort_10 ?_
      refine lv_icmp_ge (tgt := 78) hx hb dX7_byShort_13 (by decide) (fun c6 => ?_) (fun c6 => ?_)
      · have hf := pn_ifp c6 hf
        exact kx78 x5 H locs ls (Option.some.inj hf).symm hP hS (lv_sub hl [4] rfl)
      · have hf := pn_ifn c6 hf
        refine lv_aload_n hx hb dX7_byShort_16 rfl (lv_at hl 0 rfl) ?_
        refine va_get (D := D) (ci := 6) (v := .ref a_t_caseFirst) (C := RX7) (T := TX7) (N := 28) hx hb hts hinX7 hown hK.1 hP 0 rfl rfl 20 (by decide) fl_53 (fun _ h9 => h9) rfl dX7_byShort_17 ?_
        refine lv_iload hx hb dX7_byShort_20 (lv_at hl 5 rfl) ?_
        obtain ⟨hi8, w7, ew7, hf⟩ := pn_rd_at hf
        refine pn_ldI hx hb hK.1 hP 1 0 rfl rfl hi8 ew7 dX7_byShort_22 ?_
        refine lv_iload_n hx hb dX7_byShort_23 rfl (lv_at hl 2 rfl) ?_
        refine lv_icmp_ge (tgt := 43) hx hb dX7_byShort_24 (by decide) (fun c9 => ?_) (fun c9 => ?_)
        · have hf := pn_ifp c9 hf
          refine lv_iconst (v := (0)) hx hb dX7_byShort_43 (by decide) ?_
          exact jn44 x5 x6 (0 : Int32) H locs ls hf hP hS (lv_sub hl [0, 1, 2, 3, 4, 5] rfl)
        · have hf := pn_ifn c9 hf
          refine lv_aload_n hx hb dX7_byShort_27 rfl (lv_at hl 0 rfl) ?_
          refine lv_aload_n hx hb dX7_byShort_28 rfl (lv_at hl 1 rfl) ?_
          refine lv_iload hx hb dX7_byShort_29 (lv_at hl 5 rfl) ?_
          obtain ⟨ru10, hu10, hf⟩ := pn_bd1_at hf
          refine pn_calli [0, 1, 2] (va_runV (As := [.ref a_q1, .int x6]) (rest := []) ⟨hx, hb, hml, hown, hts⟩ (c_X7_initial l D cI cJ cZ a_t a_t_text a_t_readPage a_t_page a_t_trial a_t_work a_t_book a_t_kept a_t_isKept a_t_seenWhat a_t_seenV a_t_seenIs a_t_label a_t_finds a_t_reason a_t_caseFirst a_t_brief a_t_printed a_t_renamed a_t_worth a_q1 H.size v_t_thrown v_t_textSize v_t_place v_t_doings v_t_seen v_t_seed v_t_cases v_t_printedSize v_t_lastReason r_t_caseFirst r_q1 x6 ru10 hu10) (cwV 2 hts gX7_byShort_X7_initial rfl rfl rfl hdX7_initial ⟨Nat.le_of_ble_eq_true rfl, Nat.le_of_ble_eq_true rfl⟩) (pn_preV [0, 1, 2] hP (hD.addr rfl) hK rfl rfl (q0 := 0) (ci := 6) rfl rfl) rfl rfl hl.1 rfl (lv_room (Nat.le_of_ble_eq_true rfl)) dX7_byShort_31 ⟨Nat.zero_le _, Nat.zero_le _⟩) hP (hD.addr rfl) hS hA rfl rfl rfl (fun H locs (hP : va_P D vwCl [(a_t, .inr (6, [.int v_t_thrown, .ref a_t_text, .int v_t_textSize, .int v_t_place, .ref a_t_readPage, .ref a_t_page, .ref a_t_trial, .ref a_t_work, .ref a_t_book, .int v_t_doings, .ref a_t_kept, .ref a_t_isKept, .int v_t_seen, .ref a_t_seenWhat, .ref a_t_seenV, .ref a_t_seenIs, .long v_t_seed, .ref a_t_label, .ref a_t_finds, .ref a_t_reason, .ref a_t_caseFirst, .int v_t_cases, .ref a_t_brief, .ref a_t_printed, .int v_t_printedSize, .ref a_t_renamed, .ref a_t_worth, .int v_t_lastReason])), (a_t_caseFirst, .inl (cI, 32, .inl r_t_caseFirst)), (a_q1, .inl (cI, 265, .inl r_q1))] H) _ hS => ?_)
          refine lv_iload hx hb dX7_byShort_34 (lv_at hl 3 rfl) ?_
          refine lv_icmp_ne (tgt := 43) hx hb dX7_byShort_36 (by decide) (fun c11 => ?_) (fun c11 => ?_)
          · have hf := pn_ifp c11 hf
            refine lv_iconst (v := (0)) hx hb dX7_byShort_43 (by decide) ?_
            exact jn44 x5 x6 (0 : Int32) H locs ls hf hP hS (lv_sub hl [0, 1, 2, 3, 4, 5] rfl)
          · have hf := pn_ifq c11 hf
            refine lv_iconst (v := (1)) hx hb dX7_byShort_39 (by decide) ?_
            refine lv_goto (tgt := 44) hx hb dX7_byShort_40 (by decide) ?_
            exact jn44 x5 x6 (1 : Int32) H locs ls hf hP hS (lv_sub hl [0, 1, 2, 3, 4, 5] rfl)
  refine lv_bipush (v := (-9)) hx hb dX7_byShort_0 (by decide) ?_
  refine lv_istore (lv' := [(5, .int (-9 : Int32)), (0, .ref a_t), (1, .ref a_q1), (2, .int p2), (3, .int p3), (4, .int p4)]) hx hb dX7_byShort_2 hl (by decide) rfl (fun ls hl => ?_)
  refine lv_iconst (v := (0)) hx hb dX7_byShort_4 (by decide) ?_
  refine lv_istore (lv' := [(6, .int (0 : Int32)), (5, .int (-9 : Int32)), (0, .ref a_t), (1, .ref a_q1), (2, .int p2), (3, .int p3), (4, .int p4)]) hx hb dX7_byShort_5 hl (by decide) rfl (fun ls hl => ?_)
  obtain ⟨X7, hX7, hf⟩ := pn_bd1_at hf
  refine lp7 N (-9 : Int32) (0 : Int32) X7 H locs ls hX7 hP hS (lv_sub hl [2, 3, 5, 6, 1, 0] rfl) ?_
  · intro x5_w12 H locs ls eX hP hS hl
    rw [eX] at hf
    have hf := pn_u1_at hf
    refine lv_iload hx hb dX7_byShort_78 (lv_at hl 0 rfl) ?_
    cases hf
    rw [hQ]
    exact pn_reti hx hb hr hlocks hP hS rfl dX7_byShort_80
def lp_X7_byAbove_22 (r_t_finds : Nat → Int32) (r_q1 : Nat → Int32) (p2 : Int32) (p3 : Int32) (x6 : Int32) : Nat → Int32 → Int32 → Option (Int32)
  | 0, _, _ => none
  | n + 1, x7, x8 =>
    if (4 : Int32) ≤ x8 then
  some x7
  else
  if ¬ x7 = 0 then
  pn_nm (x8 + (1 : Int32)) fun z3 =>
  lp_X7_byAbove_22 r_t_finds r_q1 p2 p3 x6 n (1 : Int32) z3
  else
  pn_bd1 (f_X7_isLeft r_q1 p2 (((4 : Int32) * p3) + x8)) fun ru4 =>
  if ru4 = 0 then
  pn_nm (x8 + (1 : Int32)) fun z6 =>
  lp_X7_byAbove_22 r_t_finds r_q1 p2 p3 x6 n (0 : Int32) z6
  else
  pn_rd 32 r_t_finds (((4 : Int32) * p3) + x8) fun w7 =>
  if ¬ w7 = x6 then
  pn_nm (x8 + (1 : Int32)) fun z10 =>
  lp_X7_byAbove_22 r_t_finds r_q1 p2 p3 x6 n (0 : Int32) z10
  else
  pn_nm (x8 + (1 : Int32)) fun z11 =>
  lp_X7_byAbove_22 r_t_finds r_q1 p2 p3 x6 n (1 : Int32) z11
def lp_X7_byAbove_7 (N : Nat) (v_t_cases : Int32) (r_t_caseFirst : Nat → Int32) (r_t_finds : Nat → Int32) (r_q1 : Nat → Int32) (p2 : Int32) (p3 : Int32) (p4 : Int32) : Nat → Int32 → Int32 → Option (Int32)
  | 0, _, _ => none
  | n + 1, x5, x6 =>
    if v_t_cases ≤ x6 then
  some x5
  else
  pn_bd1 (lp_X7_byAbove_22 r_t_finds r_q1 p2 p3 x6 N (0 : Int32) (0 : Int32)) (fun X22 => (pn_u1 fun x7_w13 => if x7_w13 = 0 then
  pn_nm (x6 + (1 : Int32)) fun z15 =>
  lp_X7_byAbove_7 N v_t_cases r_t_caseFirst r_t_finds r_q1 p2 p3 p4 n x5 z15
  else
  pn_bd1 (f_X7_initial r_t_caseFirst r_q1 x6) fun ru16 =>
  if ru16 = p4 then
  if ¬ x5 = (-9 : Int32) then
  pn_nm (x6 + (1 : Int32)) fun z19 =>
  lp_X7_byAbove_7 N v_t_cases r_t_caseFirst r_t_finds r_q1 p2 p3 p4 n (-10 : Int32) z19
  else
  pn_nm (x6 + (1 : Int32)) fun z20 =>
  lp_X7_byAbove_7 N v_t_cases r_t_caseFirst r_t_finds r_q1 p2 p3 p4 n x6 z20
  else
  pn_nm (x6 + (1 : Int32)) fun z21 =>
  lp_X7_byAbove_7 N v_t_cases r_t_caseFirst r_t_finds r_q1 p2 p3 p4 n x5 z21) X22)
def f_X7_byAbove (N : Nat) (v_t_cases : Int32) (r_t_caseFirst : Nat → Int32) (r_t_finds : Nat → Int32) (r_q1 : Nat → Int32) (p2 : Int32) (p3 : Int32) (p4 : Int32) : Option (Int32) :=
  pn_bd1 (lp_X7_byAbove_7 N v_t_cases r_t_caseFirst r_t_finds r_q1 p2 p3 p4 N (-9 : Int32) (0 : Int32)) (fun X7 => (pn_u1 fun x5_w22 => some x5_w22) X7)
set_option maxHeartbeats 4000000 in
set_option maxRecDepth 100000 in
theorem c_X7_byAbove (l : Launch) (D : va_G) (cI cJ cZ : ClassId) (a_t a_t_text a_t_readPage a_t_page a_t_trial a_t_work a_t_book a_t_kept a_t_isKept a_t_seenWhat a_t_seenV a_t_seenIs a_t_label a_t_finds a_t_reason a_t_caseFirst a_t_brief a_t_printed a_t_renamed a_t_worth a_q1 : Nat) (sz : Nat) (v_t_thrown : Int32) (v_t_textSize : Int32) (v_t_place : Int32) (v_t_doings : Int32) (v_t_seen : Int32) (v_t_seed : Int64) (v_t_printedSize : Int32) (v_t_lastReason : Int32) (N : Nat) (v_t_cases : Int32) (r_t_caseFirst : Nat → Int32) (r_t_finds : Nat → Int32) (r_q1 : Nat → Int32) (p2 : Int32) (p3 : Int32) (p4 : Int32) (rR : Int32) (hf : f_X7_byAbove N v_t_cases r_t_caseFirst r_t_finds r_q1 p2 p3 p4 = some rR) : Met l yX7_byAbove wsX7_byAbove { frames := 3, cells := 0, slots := 0, locals := 69 } (pn_Pc D cI cJ cZ [.ref a_t, .ref a_q1, .int p2, .int p3, .int p4] [(a_t, .inr (6, [.int v_t_thrown, .ref a_t_text, .int v_t_textSize, .int v_t_place, .ref a_t_readPage, .ref a_t_page, .ref a_t_trial, .ref a_t_work, .ref a_t_book, .int v_t_doings, .ref a_t_kept, .ref a_t_isKept, .int v_t_seen, .ref a_t_seenWhat, .ref a_t_seenV, .ref a_t_seenIs, .long v_t_seed, .ref a_t_label, .ref a_t_finds, .ref a_t_reason, .ref a_t_caseFirst, .int v_t_cases, .ref a_t_brief, .ref a_t_printed, .int v_t_printedSize, .ref a_t_renamed, .ref a_t_worth, .int v_t_lastReason])), (a_t_caseFirst, .inl (cI, 32, .inl r_t_caseFirst)), (a_t_finds, .inl (cI, 32, .inl r_t_finds)), (a_q1, .inl (cI, 265, .inl r_q1))] sz) (pn_Qi D rR [(a_t, .inr (6, [.int v_t_thrown, .ref a_t_text, .int v_t_textSize, .int v_t_place, .ref a_t_readPage, .ref a_t_page, .ref a_t_trial, .ref a_t_work, .ref a_t_book, .int v_t_doings, .ref a_t_kept, .ref a_t_isKept, .int v_t_seen, .ref a_t_seenWhat, .ref a_t_seenV, .ref a_t_seenIs, .long v_t_seed, .ref a_t_label, .ref a_t_finds, .ref a_t_reason, .ref a_t_caseFirst, .int v_t_cases, .ref a_t_brief, .ref a_t_printed, .int v_t_printedSize, .ref a_t_renamed, .ref a_t_worth, .int v_t_lastReason])), (a_t_caseFirst, .inl (cI, 32, .inl r_t_caseFirst)), (a_t_finds, .inl (cI, 32, .inl r_t_finds)), (a_q1, .inl (cI, 265, .inl r_q1))] (va_A [(a_t, .inr (6, [.int v_t_thrown, .ref a_t_text, .int v_t_textSize, .int v_t_place, .ref a_t_readPage, .ref a_t_page, .ref a_t_trial, .ref a_t_work, .ref a_t_book, .int v_t_doings, .ref a_t_kept, .ref a_t_isKept, .int v_t_seen, .ref a_t_seenWhat, .ref a_t_seenV, .ref a_t_seenIs, .long v_t_seed, .ref a_t_label, .ref a_t_finds, .ref a_t_reason, .ref a_t_caseFirst, .int v_t_cases, .ref a_t_brief, .ref a_t_printed, .int v_t_printedSize, .ref a_t_renamed, .ref a_t_worth, .int v_t_lastReason])), (a_t_caseFirst, .inl (cI, 32, .inl r_t_caseFirst)), (a_t_finds, .inl (cI, 32, .inl r_t_finds)), (a_q1, .inl (cI, 265, .inl r_q1))] sz)) 0 0 (va_A [(a_t, .inr (6, [.int v_t_thrown, .ref a_t_text, .int v_t_textSize, .int v_t_place, .ref a_t_readPage, .ref a_t_page, .ref a_t_trial, .ref a_t_work, .ref a_t_book, .int v_t_doings, .ref a_t_kept, .ref a_t_isKept, .int v_t_seen, .ref a_t_seenWhat, .ref a_t_seenV, .ref a_t_seenIs, .long v_t_seed, .ref a_t_label, .ref a_t_finds, .ref a_t_reason, .ref a_t_caseFirst, .int v_t_cases, .ref a_t_brief, .ref a_t_printed, .int v_t_printedSize, .ref a_t_renamed, .ref a_t_worth, .int v_t_lastReason])), (a_t_caseFirst, .inl (cI, 32, .inl r_t_caseFirst)), (a_t_finds, .inl (cI, 32, .inl r_t_finds)), (a_q1, .inl (cI, 265, .inl r_q1))] sz) := by
  refine pn_entry (cc := cX7_byAbove) (maxL := 9) (ret := (some .int)) (Qf := pn_Qi D rR [(a_t, .inr (6, [.int v_t_thrown, .ref a_t_text, .int v_t_textSize, .int v_t_place, .ref a_t_readPage, .ref a_t_page, .ref a_t_trial, .ref a_t_work, .ref a_t_book, .int v_t_doings, .ref a_t_kept, .ref a_t_isKept, .int v_t_seen, .ref a_t_seenWhat, .ref a_t_seenV, .ref a_t_seenIs, .long v_t_seed, .ref a_t_label, .ref a_t_finds, .ref a_t_reason, .ref a_t_caseFirst, .int v_t_cases, .ref a_t_brief, .ref a_t_printed, .int v_t_printedSize, .ref a_t_renamed, .ref a_t_worth, .int v_t_lastReason])), (a_t_caseFirst, .inl (cI, 32, .inl r_t_caseFirst)), (a_t_finds, .inl (cI, 32, .inl r_t_finds)), (a_q1, .inl (cI, 265, .inl r_q1))]) (by decide) rfl (Nat.le_of_ble_eq_true rfl) ?_
  intro p e s m args below meth c A ls H locs Qm hQ hx hb hr hlocks hml hown hts hK hP hD hA hS hl
  have hl : lv_has ls 9 [(0, .ref a_t), (1, .ref a_q1), (2, .int p2), (3, .int p3), (4, .int p4)] := hl
  have hinX7 : ∀ w ∈ wsX70, w ∈ wsX7_byAbove := by decide +kernel
  have fl_47 := hts (.fieldLink RX7 47 "PointingNotesModel" "finds" "[I") (by decide +kernel)
  have fl_152 := hts (.fieldLink RX7 152 "PointingNotesModel" "cases" "I") (by decide +kernel)
  rw [f_X7_byAbove] at hf
  have lp22 : ∀ (n : Nat) (x5 : Int32) (x6 : Int32) (x7 : Int32) (x8 : Int32) (X : Int32) (H : Heap) (locs : List Loc) (ls : Array Slot), lp_X7_byAbove_22 r_t_finds r_q1 p2 p3 x6 n x7 x8 = some X → va_P D vwCl [(a_t, .inr (6, [.int v_t_thrown, .ref a_t_text, .int v_t_textSize, .int v_t_place, .ref a_t_readPage, .ref a_t_page, .ref a_t_trial, .ref a_t_work, .ref a_t_book, .int v_t_doings, .ref a_t_kept, .ref a_t_isKept, .int v_t_seen, .ref a_t_seenWhat, .ref a_t_seenV, .ref a_t_seenIs, .long v_t_seed, .ref a_t_label, .ref a_t_finds, .ref a_t_reason, .ref a_t_caseFirst, .int v_t_cases, .ref a_t_brief, .ref a_t_printed, .int v_t_printedSize, .ref a_t_renamed, .ref a_t_worth, .int v_t_lastReason])), (a_t_caseFirst, .inl (cI, 32, .inl r_t_caseFirst)), (a_t_finds, .inl (cI, 32, .inl r_t_finds)), (a_q1, .inl (cI, 265, .inl r_q1))] H → va_S A s.heap H locs → lv_has ls 9 [(0, .ref a_t), (1, .ref a_q1), (2, .int p2), (3, .int p3), (4, .int p4), (5, .int x5), (6, .int x6), (7, .int x7), (8, .int x8)] → (∀ (y7 : Int32)  (H : Heap) (locs : List Loc) (ls : Array Slot), X = y7 → va_P D vwCl [(a_t, .inr (6, [.int v_t_thrown, .ref a_t_text, .int v_t_textSize, .int v_t_place, .ref a_t_readPage, .ref a_t_page, .ref a_t_trial, .ref a_t_work, .ref a_t_book, .int v_t_doings, .ref a_t_kept, .ref a_t_isKept, .int v_t_seen, .ref a_t_seenWhat, .ref a_t_seenV, .ref a_t_seenIs, .long v_t_seed, .ref a_t_label, .ref a_t_finds, .ref a_t_reason, .ref a_t_caseFirst, .int v_t_cases, .ref a_t_brief, .ref a_t_printed, .int v_t_printedSize, .ref a_t_renamed, .ref a_t_worth, .int v_t_lastReason])), (a_t_caseFirst, .inl (cI, 32, .inl r_t_caseFirst)), (a_t_finds, .inl (cI, 32, .inl r_t_finds)), (a_q1, .inl (cI, 265, .inl r_q1))] H → va_S A s.heap H locs → lv_has ls 9 [(0, .ref a_t), (1, .ref a_q1), (2, .int p2), (3, .int p3), (4, .int p4), (5, .int x5), (6, .int x6), (7, .int y7)] → W p l e { frames := 3, cells := 0, slots := 0, locals := 69 } s m args below meth c H locs 0 0 Qm (F0 m 76 ls [])) → W p l e { frames := 3, cells := 0, slots := 0, locals := 69 } s m args below meth c H locs 0 0 Qm (F0 m 22 ls []) := by
    intro n
    induction n with
    | zero => intro x5 x6 x7 x8 X H locs ls hf; cases hf
    | succ n ih =>
      intro x5 x6 x7 x8 X H locs ls hf hP hS hl kx76
      rw [lp_X7_byAbove_22] at hf
      refine lv_iload hx hb dX7_byAbove_22 (lv_at hl 8 rfl) ?_
      refine lv_iconst (v := (4)) hx hb dX7_byAbove_24 (by decide) ?_
      refine lv_icmp_ge (tgt := 76) hx hb dX7_byAbove_25 (by decide) (fun c1 => ?_) (fun c1 => ?_)
      · have hf := pn_ifp c1 hf
        exact kx76 x7 H locs ls (Option.some.inj hf).symm hP hS (lv_sub hl [0, 1, 2, 3, 4, 5, 6, 7] rfl)
      · have hf := pn_ifn c1 hf
        refine lv_iload hx hb dX7_byAbove_28 (lv_at hl 7 rfl) ?_
        refine lv_if_ne (tgt := 63) hx hb dX7_byAbove_30 (by decide) (fun c2 => ?_) (fun c2 => ?_)
        · have hf := pn_ifp c2 hf
          refine lv_iconst (v := (1)) hx hb dX7_byAbove_63 (by decide) ?_
          refine lv_goto (tgt := 68) hx hb dX7_byAbove_64 (by decide) ?_
          refine lv_istore (lv' := [(7, .int (1 : Int32)), (0, .ref a_t), (1, .ref a_q1), (2, .int p2), (3, .int p3), (4, .int p4), (5, .int x5), (6, .int x6), (8, .int x8)]) hx hb dX7_byAbove_68 hl (by decide) rfl (fun ls hl => ?_)
          obtain ⟨z3, ez3⟩ : ∃ y : Int32, y = x8 + (1) := ⟨_, rfl⟩
          have hf := pn_nm_at ez3 hf
          refine lv_iinc (v := z3) (lv' := [(8, .int z3), (7, .int (1 : Int32)), (0, .ref a_t), (1, .ref a_q1), (2, .int p2), (3, .int p3), (4, .int p4), (5, .int x5), (6, .int x6)]) hx hb dX7_byAbove_70 hl (k := 8) rfl (by rw [ez3]; rfl) (by decide) rfl (fun ls hl => ?_)
          refine lv_goto (tgt := 22) hx hb dX7_byAbove_73 (by decide) ?_
          exact ih x5 x6 (1 : Int32) z3 X H locs ls hf hP hS (lv_sub hl [2, 3, 4, 5, 6, 7, 8, 1, 0] rfl) kx76
        · have hf := pn_ifq c2 hf
          refine lv_aload_n hx hb dX7_byAbove_33 rfl (lv_at hl 1 rfl) ?_
          refine lv_iload_n hx hb dX7_byAbove_34 rfl (lv_at hl 2 rfl) ?_
          refine lv_iconst (v := (4)) hx hb dX7_byAbove_35 (by decide) ?_
          refine lv_iload_n hx hb dX7_byAbove_36 rfl (lv_at hl 3 rfl) ?_
          refine lv_imul hx hb dX7_byAbove_37 ?_
          refine lv_iload hx hb dX7_byAbove_38 (lv_at hl 8 rfl) ?_
          refine lv_iadd hx hb dX7_byAbove_40 ?_
          obtain ⟨ru4, hu4, hf⟩ := pn_bd1_at hf
          refine pn_calli [3] (va_runS (As := [.ref a_q1, .int p2, .int (((4 : Int32) * p3) + x8)]) (rest := []) ⟨hx, hb, hml, hown, hts⟩ (c_X7_isLeft l D cI cJ cZ a_q1 H.size r_q1 p2 (((4 : Int32) * p3) + x8) ru4 hu4) (va_cwS 3 hts gX7_byAbove_X7_isLeft rfl rfl rfl hdX7_isLeft ⟨Nat.le_of_ble_eq_true rfl, Nat.le_of_ble_eq_true rfl⟩) (pn_preS [3] hP (hD.addr rfl) hK rfl rfl) rfl rfl hl.1 rfl (lv_room (Nat.le_of_ble_eq_true rfl)) dX7_byAbove_41 ⟨Nat.zero_le _, Nat.zero_le _⟩) hP (hD.addr rfl) hS hA rfl rfl rfl (fun H locs (hP : va_P D vwCl [(a_t, .inr (6, [.int v_t_thrown, .ref a_t_text, .int v_t_textSize, .int v_t_place, .ref a_t_readPage, .ref a_t_page, .ref a_t_trial, .ref a_t_work, .ref a_t_book, .int v_t_doings, .ref a_t_kept, .ref a_t_isKept, .int v_t_seen, .ref a_t_seenWhat, .ref a_t_seenV, .ref a_t_seenIs, .long v_t_seed, .ref a_t_label, .ref a_t_finds, .ref a_t_reason, .ref a_t_caseFirst, .int v_t_cases, .ref a_t_brief, .ref a_t_printed, .int v_t_printedSize, .ref a_t_renamed, .ref a_t_worth, .int v_t_lastReason])), (a_t_caseFirst, .inl (cI, 32, .inl r_t_caseFirst)), (a_t_finds, .inl (cI, 32, .inl r_t_finds)), (a_q1, .inl (cI, 265, .inl r_q1))] H) _ hS => ?_)
          refine lv_if_eq (tgt := 67) hx hb dX7_byAbove_44 (by decide) (fun c5 => ?_) (fun c5 => ?_)
          · have hf := pn_ifp c5 hf
            refine lv_iconst (v := (0)) hx hb dX7_byAbove_67 (by decide) ?_
            refine lv_istore (lv' := [(7, .int (0 : Int32)), (0, .ref a_t), (1, .ref a_q1), (2, .int p2), (3, .int p3), (4, .int p4), (5, .int x5), (6, .int x6), (8, .int x8)]) hx hb dX7_byAbove_68 hl (by decide) rfl (fun ls hl => ?_)
            obtain ⟨z6, ez6⟩ : ∃ y : Int32, y = x8 + (1) := ⟨_, rfl⟩
            have hf := pn_nm_at ez6 hf
            refine lv_iinc (v := z6) (lv' := [(8, .int z6), (7, .int (0 : Int32)), (0, .ref a_t), (1, .ref a_q1), (2, .int p2), (3, .int p3), (4, .int p4), (5, .int x5), (6, .int x6)]) hx hb dX7_byAbove_70 hl (k := 8) rfl (by rw [ez6]; rfl) (by decide) rfl (fun ls hl => ?_)
            refine lv_goto (tgt := 22) hx hb dX7_byAbove_73 (by decide) ?_
            exact ih x5 x6 (0 : Int32) z6 X H locs ls hf hP hS (lv_sub hl [2, 3, 4, 5, 6, 7, 8, 1, 0] rfl) kx76
          · have hf := pn_ifn c5 hf
            refine lv_aload_n hx hb dX7_byAbove_47 rfl (lv_at hl 0 rfl) ?_
            refine va_get (D := D) (ci := 6) (v := .ref a_t_finds) (C := RX7) (T := TX7) (N := 28) hx hb hts hinX7 hown hK.1 hP 0 rfl rfl 18 (by decide) fl_47 (fun _ h9 => h9) rfl dX7_byAbove_48 ?_
            refine lv_iconst (v := (4)) hx hb dX7_byAbove_51 (by decide) ?_
            refine lv_iload_n hx hb dX7_byAbove_52 rfl (lv_at hl 3 rfl) ?_
            refine lv_imul hx hb dX7_byAbove_53 ?_
            refine lv_iload hx hb dX7_byAbove_54 (lv_at hl 8 rfl) ?_
            refine lv_iadd hx hb dX7_byAbove_56 ?_
            obtain ⟨hi8, w7, ew7, hf⟩ := pn_rd_at hf
            refine pn_ldI hx hb hK.1 hP 2 0 rfl rfl hi8 ew7 dX7_byAbove_57 ?_
            refine lv_iload hx hb dX7_byAbove_58 (lv_at hl 6 rfl) ?_
            refine lv_icmp_ne (tgt := 67) hx hb dX7_byAbove_60 (by decide) (fun c9 => ?_) (fun c9 => ?_)
            · have hf := pn_ifp c9 hf
              refine lv_iconst (v := (0)) hx hb dX7_byAbove_67 (by decide) ?_
              refine lv_istore (lv' := [(7, .int (0 : Int32)), (0, .ref a_t), (1, .ref a_q1), (2, .int p2), (3, .int p3), (4, .int p4), (5, .int x5), (6, .int x6), (8, .int x8)]) hx hb dX7_byAbove_68 hl (by decide) rfl (fun ls hl => ?_)
              obtain ⟨z10, ez10⟩ : ∃ y : Int32, y = x8 + (1) := ⟨_, rfl⟩
              have hf := pn_nm_at ez10 hf
              refine lv_iinc (v := z10) (lv' := [(8, .int z10), (7, .int (0 : Int32)), (0, .ref a_t), (1, .ref a_q1), (2, .int p2), (3, .int p3), (4, .int p4), (5, .int x5), (6, .int x6)]) hx hb dX7_byAbove_70 hl (k := 8) rfl (by rw [ez10]; rfl) (by decide) rfl (fun ls hl => ?_)
              refine lv_goto (tgt := 22) hx hb dX7_byAbove_73 (by decide) ?_
              exact ih x5 x6 (0 : Int32) z10 X H locs ls hf hP hS (lv_sub hl [2, 3, 4, 5, 6, 7, 8, 1, 0] rfl) kx76
            · have hf := pn_ifq c9 hf
              refine lv_iconst (v := (1)) hx hb dX7_byAbove_63 (by decide) ?_
              refine lv_goto (tgt := 68) hx hb dX7_byAbove_64 (by decide) ?_
              refine lv_istore (lv' := [(7, .int (1 : Int32)), (0, .ref a_t), (1, .ref a_q1), (2, .int p2), (3, .int p3), (4, .int p4), (5, .int x5), (6, .int x6), (8, .int x8)]) hx hb dX7_byAbove_68 hl (by decide) rfl (fun ls hl => ?_)
              obtain ⟨z11, ez11⟩ : ∃ y : Int32, y = x8 + (1) := ⟨_, rfl⟩
              have hf := pn_nm_at ez11 hf
              refine lv_iinc (v := z11) (lv' := [(8, .int z11), (7, .int (1 : Int32)), (0, .ref a_t), (1, .ref a_q1), (2, .int p2), (3, .int p3), (4, .int p4), (5, .int x5), (6, .int x6)]) hx hb dX7_byAbove_70 hl (k := 8) rfl (by rw [ez11]; rfl) (by decide) rfl (fun ls hl => ?_)
              refine lv_goto (tgt := 22) hx hb dX7_byAbove_73 (by decide) ?_
              exact ih x5 x6 (1 : Int32) z11 X H locs ls hf hP hS (lv_sub hl [2, 3, 4, 5, 6, 7, 8, 1, 0] rfl) kx76
  have lp7 : ∀ (n : Nat) (x5 : Int32) (x6 : Int32) (X : Int32) (H : Heap) (locs : List Loc) (ls : Array Slot), lp_X7_byAbove_7 N v_t_cases r_t_caseFirst r_t_finds r_q1 p2 p3 p4 n x5 x6 = some X → va_P D vwCl [(a_t, .inr (6, [.int v_t_thrown, .ref a_t_text, .int v_t_textSize, .int v_t_place, .ref a_t_readPage, .ref a_t_page, .ref a_t_trial, .ref a_t_work, .ref a_t_book, .int v_t_doings, .ref a_t_kept, .ref a_t_isKept, .int v_t_seen, .ref a_t_seenWhat, .ref a_t_seenV, .ref a_t_seenIs, .long v_t_seed, .ref a_t_label, .ref a_t_finds, .ref a_t_reason, .ref a_t_caseFirst, .int v_t_cases, .ref a_t_brief, .ref a_t_printed, .int v_t_printedSize, .ref a_t_renamed, .ref a_t_worth, .int v_t_lastReason])), (a_t_caseFirst, .inl (cI, 32, .inl r_t_caseFirst)), (a_t_finds, .inl (cI, 32, .inl r_t_finds)), (a_q1, .inl (cI, 265, .inl r_q1))] H → va_S A s.heap H locs → lv_has ls 9 [(0, .ref a_t), (1, .ref a_q1), (2, .int p2), (3, .int p3), (4, .int p4), (5, .int x5), (6, .int x6)] → (∀ (y5 : Int32)  (H : Heap) (locs : List Loc) (ls : Array Slot), X = y5 → va_P D vwCl [(a_t, .inr (6, [.int v_t_thrown, .ref a_t_text, .int v_t_textSize, .int v_t_place, .ref a_t_readPage, .ref a_t_page, .ref a_t_trial, .ref a_t_work, .ref a_t_book, .int v_t_doings, .ref a_t_kept, .ref a_t_isKept, .int v_t_seen, .ref a_t_seenWhat, .ref a_t_seenV, .ref a_t_seenIs, .long v_t_seed, .ref a_t_label, .ref a_t_finds, .ref a_t_reason, .ref a_t_caseFirst, .int v_t_cases, .ref a_t_brief, .ref a_t_printed, .int v_t_printedSize, .ref a_t_renamed, .ref a_t_worth, .int v_t_lastReason])), (a_t_caseFirst, .inl (cI, 32, .inl r_t_caseFirst)), (a_t_finds, .inl (cI, 32, .inl r_t_finds)), (a_q1, .inl (cI, 265, .inl r_q1))] H → va_S A s.heap H locs → lv_has ls 9 [(5, .int y5)] → W p l e { frames := 3, cells := 0, slots := 0, locals := 69 } s m args below meth c H locs 0 0 Qm (F0 m 120 ls [])) → W p l e { frames := 3, cells := 0, slots := 0, locals := 69 } s m args below meth c H locs 0 0 Qm (F0 m 7 ls []) := by
    intro n
    induction n with
    | zero => intro x5 x6 X H locs ls hf; cases hf
    | succ n ih =>
      intro x5 x6 X H locs ls hf hP hS hl kx120
      rw [lp_X7_byAbove_7] at hf
      refine lv_iload hx hb dX7_byAbove_7 (lv_at hl 6 rfl) ?_
      refine lv_aload_n hx hb dX7_byAbove_9 rfl (lv_at hl 0 rfl) ?_
      refine va_get (D := D) (ci := 6) (v := .int v_t_cases) (C := RX7) (T := TX7) (N := 28) hx hb hts hinX7 hown hK.1 hP 0 rfl rfl 21 (by decide) fl_152 (fun _ h9 => h9) rfl dX7_byAbove_10 ?_
      refine lv_icmp_ge (tgt := 120) hx hb dX7_byAbove_13 (by decide) (fun c12 => ?_) (fun c12 => ?_)
      · have hf := pn_ifp c12 hf
        exact kx120 x5 H locs ls (Option.some.inj hf).symm hP hS (lv_sub hl [5] rfl)
      · have hf := pn_ifn c12 hf
        refine lv_iconst (v := (0)) hx hb dX7_byAbove_16 (by decide) ?_
        refine lv_istore (lv' := [(7, .int (0 : Int32)), (0, .ref a_t), (1, .ref a_q1), (2, .int p2), (3, .int p3), (4, .int p4), (5, .int x5), (6, .int x6)]) hx hb dX7_byAbove_17 hl (by decide) rfl (fun ls hl => ?_)
        refine lv_iconst (v := (0)) hx hb dX7_byAbove_19 (by decide) ?_
        refine lv_istore (lv' := [(8, .int (0 : Int32)), (7, .int (0 : Int32)), (0, .ref a_t), (1, .ref a_q1), (2, .int p2), (3, .int p3), (4, .int p4), (5, .int x5), (6, .int x6)]) hx hb dX7_byAbove_20 hl (by decide) rfl (fun ls hl => ?_)
        obtain ⟨X22, hX22, hf⟩ := pn_bd1_at hf
        refine lp22 N x5 x6 (0 : Int32) (0 : Int32) X22 H locs ls hX22 hP hS (lv_sub hl [2, 3, 4, 5, 6, 7, 8, 1, 0] rfl) ?_
        · intro x7_w13 H locs ls eX hP hS hl
          rw [eX] at hf
          have hf := pn_u1_at hf
          refine lv_iload hx hb dX7_byAbove_76 (lv_at hl 7 rfl) ?_
          refine lv_if_eq (tgt := 93) hx hb dX7_byAbove_78 (by decide) (fun c14 => ?_) (fun c14 => ?_)
          · have hf := pn_ifp c14 hf
            refine lv_iload hx hb dX7_byAbove_93 (lv_at hl 5 rfl) ?_
            refine lv_goto (tgt := 112) hx hb dX7_byAbove_95 (by decide) ?_
            refine lv_istore (lv' := [(5, .int x5), (0, .ref a_t), (1, .ref a_q1), (2, .int p2), (3, .int p3), (4, .int p4), (6, .int x6), (7, .int x7_w13)]) hx hb dX7_byAbove_112 hl (by decide) rfl (fun ls hl => ?_)
            obtain ⟨z15, ez15⟩ : ∃ y : Int32, y = x6 + (1) := ⟨_, rfl⟩
            have hf := pn_nm_at ez15 hf
            refine lv_iinc (v := z15) (lv' := [(6, .int z15), (5, .int x5), (0, .ref a_t), (1, .ref a_q1), (2, .int p2), (3, .int p3), (4, .int p4), (7, .int x7_w13)]) hx hb dX7_byAbove_114 hl (k := 6) rfl (by rw [ez15]; rfl) (by decide) rfl (fun ls hl => ?_)
            refine lv_goto (tgt := 7) hx hb dX7_byAbove_117 (by decide) ?_
            exact ih x5 z15 X H locs ls hf hP hS (lv_sub hl [2, 3, 4, 5, 6, 1, 0] rfl) kx120
          · have hf := pn_ifn c14 hf
            refine lv_aload_n hx hb dX7_byAbove_81 rfl (lv_at hl 0 rfl) ?_
            refine lv_aload_n hx hb dX7_byAbove_82 rfl (lv_at hl 1 rfl) ?_
            refine lv_iload hx hb dX7_byAbove_83 (lv_at hl 6 rfl) ?_
            obtain ⟨ru16, hu16, hf⟩ := pn_bd1_at hf
            refine pn_calli [0, 1, 3] (va_runV (As := [.ref a_q1, .int x6]) (rest := []) ⟨hx, hb, hml, hown, hts⟩ (c_X7_initial l D cI cJ cZ a_t a_t_text a_t_readPage a_t_page a_t_trial a_t_work a_t_book a_t_kept a_t_isKept a_t_seenWhat a_t_seenV a_t_seenIs a_t_label a_t_finds a_t_reason a_t_caseFirst a_t_brief a_t_printed a_t_renamed a_t_worth a_q1 H.size v_t_thrown v_t_textSize v_t_place v_t_doings v_t_seen v_t_seed v_t_cases v_t_printedSize v_t_lastReason r_t_caseFirst r_q1 x6 ru16 hu16) (cwV 2 hts gX7_byAbove_X7_initial rfl rfl rfl hdX7_initial ⟨Nat.le_of_ble_eq_true rfl, Nat.le_of_ble_eq_true rfl⟩) (pn_preV [0, 1, 3] hP (hD.addr rfl) hK rfl rfl (q0 := 0) (ci := 6) rfl rfl) rfl rfl hl.1 rfl (lv_room (Nat.le_of_ble_eq_true rfl)) dX7_byAbove_85 ⟨Nat.zero_le _, Nat.zero_le _⟩) hP (hD.addr rfl) hS hA rfl rfl rfl (fun H locs (hP : va_P D vwCl [(a_t, .inr (6, [.int v_t_thrown, .ref a_t_text, .int v_t_textSize, .int v_t_place, .ref a_t_readPage, .ref a_t_page, .ref a_t_trial, .ref a_t_work, .ref a_t_book, .int v_t_doings, .ref a_t_kept, .ref a_t_isKept, .int v_t_seen, .ref a_t_seenWhat, .ref a_t_seenV, .ref a_t_seenIs, .long v_t_seed, .ref a_t_label, .ref a_t_finds, .ref a_t_reason, .ref a_t_caseFirst, .int v_t_cases, .ref a_t_brief, .ref a_t_printed, .int v_t_printedSize, .ref a_t_renamed, .ref a_t_worth, .int v_t_lastReason])), (a_t_caseFirst, .inl (cI, 32, .inl r_t_caseFirst)), (a_t_finds, .inl (cI, 32, .inl r_t_finds)), (a_q1, .inl (cI, 265, .inl r_q1))] H) _ hS => ?_)
            refine lv_iload hx hb dX7_byAbove_88 (lv_at hl 4 rfl) ?_
            refine lv_icmp_eq (tgt := 98) hx hb dX7_byAbove_90 (by decide) (fun c17 => ?_) (fun c17 => ?_)
            · have hf := pn_ifp c17 hf
              refine lv_iload hx hb dX7_byAbove_98 (lv_at hl 5 rfl) ?_
              refine lv_bipush (v := (-9)) hx hb dX7_byAbove_100 (by decide) ?_
              refine lv_icmp_ne (tgt := 110) hx hb dX7_byAbove_102 (by decide) (fun c18 => ?_) (fun c18 => ?_)
              · have hf := pn_ifp c18 hf
                refine lv_bipush (v := (-10)) hx hb dX7_byAbove_110 (by decide) ?_
                refine lv_istore (lv' := [(5, .int (-10 : Int32)), (0, .ref a_t), (1, .ref a_q1), (2, .int p2), (3, .int p3), (4, .int p4), (6, .int x6), (7, .int x7_w13)]) hx hb dX7_byAbove_112 hl (by decide) rfl (fun ls hl => ?_)
                obtain ⟨z19, ez19⟩ : ∃ y : Int32, y = x6 + (1) := ⟨_, rfl⟩
                have hf := pn_nm_at ez19 hf
                refine lv_iinc (v := z19) (lv' := [(6, .int z19), (5, .int (-10 : Int32)), (0, .ref a_t), (1, .ref a_q1), (2, .int p2), (3, .int p3), (4, .int p4), (7, .int x7_w13)]) hx hb dX7_byAbove_114 hl (k := 6) rfl (by rw [ez19]; rfl) (by decide) rfl (fun ls hl => ?_)
                refine lv_goto (tgt := 7) hx hb dX7_byAbove_117 (by decide) ?_
                exact ih (-10 : Int32) z19 X H locs ls hf hP hS (lv_sub hl [2, 3, 4, 5, 6, 1, 0] rfl) kx120
              · have hf := pn_ifq c18 hf
                refine lv_iload hx hb dX7_byAbove_105 (lv_at hl 6 rfl) ?_
                refine lv_goto (tgt := 112) hx hb dX7_byAbove_107 (by decide) ?_
                refine lv_istore (lv' := [(5, .int x6), (0, .ref a_t), (1, .ref a_q1), (2, .int p2), (3, .int p3), (4, .int p4), (6, .int x6), (7, .int x7_w13)]) hx hb dX7_byAbove_112 hl (by decide) rfl (fun ls hl => ?_)
                obtain ⟨z20, ez20⟩ : ∃ y : Int32, y = x6 + (1) := ⟨_, rfl⟩
                have hf := pn_nm_at ez20 hf
                refine lv_iinc (v := z20) (lv' := [(6, .int z20), (5, .int x6), (0, .ref a_t), (1, .ref a_q1), (2, .int p2), (3, .int p3), (4, .int p4), (7, .int x7_w13)]) hx hb dX7_byAbove_114 hl (k := 6) rfl (by rw [ez20]; rfl) (by decide) rfl (fun ls hl => ?_)
                refine lv_goto (tgt := 7) hx hb dX7_byAbove_117 (by decide) ?_
                exact ih x6 z20 X H locs ls hf hP hS (lv_sub hl [2, 3, 4, 5, 6, 1, 0] rfl) kx120
            · have hf := pn_ifn c17 hf
              refine lv_iload hx hb dX7_byAbove_93 (lv_at hl 5 rfl) ?_
              refine lv_goto (tgt := 112) hx hb dX7_byAbove_95 (by decide) ?_
              refine lv_istore (lv' := [(5, .int x5), (0, .ref a_t), (1, .ref a_q1), (2, .int p2), (3, .int p3), (4, .int p4), (6, .int x6), (7, .int x7_w13)]) hx hb dX7_byAbove_112 hl (by decide) rfl (fun ls hl => ?_)
              obtain ⟨z21, ez21⟩ : ∃ y : Int32, y = x6 + (1) := ⟨_, rfl⟩
              have hf := pn_nm_at ez21 hf
              refine lv_iinc (v := z21) (lv' := [(6, .int z21), (5, .int x5), (0, .ref a_t), (1, .ref a_q1), (2, .int p2), (3, .int p3), (4, .int p4), (7, .int x7_w13)]) hx hb dX7_byAbove_114 hl (k := 6) rfl (by rw [ez21]; rfl) (by decide) rfl (fun ls hl => ?_)
              refine lv_goto (tgt := 7) hx hb dX7_byAbove_117 (by decide) ?_
              exact ih x5 z21 X H locs ls hf hP hS (lv_sub hl [2, 3, 4, 5, 6, 1, 0] rfl) kx120
  refine lv_bipush (v := (-9)) hx hb dX7_byAbove_0 (by decide) ?_
  refine lv_istore (lv' := [(5, .int (-9 : Int32)), (0, .ref a_t), (1, .ref a_q1), (2, .int p2), (3, .int p3), (4, .int p4)]) hx hb dX7_byAbove_2 hl (by decide) rfl (fun ls hl => ?_)
  refine lv_iconst (v := (0)) hx hb dX7_byAbove_4 (by decide) ?_
  refine lv_istore (lv' := [(6, .int (0 : Int32)), (5, .int (-9 : Int32)), (0, .ref a_t), (1, .ref a_q1), (2, .int p2), (3, .int p3), (4, .int p4)]) hx hb dX7_byAbove_5 hl (by decide) rfl (fun ls hl => ?_)
  obtain ⟨X7, hX7, hf⟩ := pn_bd1_at hf
  refine lp7 N (-9 : Int32) (0 : Int32) X7 H locs ls hX7 hP hS (lv_sub hl [2, 3, 4, 5, 6, 1, 0] rfl) ?_
  · intro x5_w22 H locs ls eX hP hS hl
    rw [eX] at hf
    have hf := pn_u1_at hf
    refine lv_iload hx hb dX7_byAbove_120 (lv_at hl 0 rfl) ?_
    cases hf
    rw [hQ]
    exact pn_reti hx hb hr hlocks hP hS rfl dX7_byAbove_122
