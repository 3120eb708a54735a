theorem hdX7_note : yX7_note.cls = RX7 ∧ yX7_note.cls ≠ "java/lang/invoke/MethodHandle" ∧ yX7_note.cls ≠ "java/lang/invoke/VarHandle" ∧ (parseMethodDescriptor yX7_note.desc).map (fun d => d.parameters.length) = some 0 := by decide +kernel
theorem hdX7_rename : yX7_rename.cls = RX7 ∧ yX7_rename.cls ≠ "java/lang/invoke/MethodHandle" ∧ yX7_rename.cls ≠ "java/lang/invoke/VarHandle" ∧ (parseMethodDescriptor yX7_rename.desc).map (fun d => d.parameters.length) = some 2 := by decide +kernel
theorem hdX7_copyNote : yX7_copyNote.cls ≠ "java/lang/invoke/MethodHandle" ∧ yX7_copyNote.cls ≠ "java/lang/invoke/VarHandle" ∧ (parseMethodDescriptor yX7_copyNote.desc).map (fun d => d.parameters.length) = some 4 := by decide +kernel
theorem hdX7_put : yX7_put.cls = RX7 ∧ yX7_put.cls ≠ "java/lang/invoke/MethodHandle" ∧ yX7_put.cls ≠ "java/lang/invoke/VarHandle" ∧ (parseMethodDescriptor yX7_put.desc).map (fun d => d.parameters.length) = some 2 := by decide +kernel
theorem hdX7_cutOn : yX7_cutOn.cls = RX7 ∧ yX7_cutOn.cls ≠ "java/lang/invoke/MethodHandle" ∧ yX7_cutOn.cls ≠ "java/lang/invoke/VarHandle" ∧ (parseMethodDescriptor yX7_cutOn.desc).map (fun d => d.parameters.length) = some 3 := by decide +kernel
theorem hdX7_cut : yX7_cut.cls = RX7 ∧ yX7_cut.cls ≠ "java/lang/invoke/MethodHandle" ∧ yX7_cut.cls ≠ "java/lang/invoke/VarHandle" ∧ (parseMethodDescriptor yX7_cut.desc).map (fun d => d.parameters.length) = some 2 := by decide +kernel
theorem hdX7_moveOn : yX7_moveOn.cls = RX7 ∧ yX7_moveOn.cls ≠ "java/lang/invoke/MethodHandle" ∧ yX7_moveOn.cls ≠ "java/lang/invoke/VarHandle" ∧ (parseMethodDescriptor yX7_moveOn.desc).map (fun d => d.parameters.length) = some 4 := by decide +kernel
theorem hdX7_move : yX7_move.cls = RX7 ∧ yX7_move.cls ≠ "java/lang/invoke/MethodHandle" ∧ yX7_move.cls ≠ "java/lang/invoke/VarHandle" ∧ (parseMethodDescriptor yX7_move.desc).map (fun d => d.parameters.length) = some 3 := by decide +kernel
def lp_X7_note_11  : Nat → Int32 → (Nat → Int32) → Option ((Nat → Int32))
  | 0, _, _ => none
  | n + 1, x1, r_t_book =>
    if (3445 : Int32) ≤ x1 then
  some r_t_book
  else
  pn_rd 3710 r_t_book (x1 + (265 : Int32)) fun w2 =>
  pn_wrI 3710 r_t_book x1 w2 fun g4 =>
  pn_nm (x1 + (1 : Int32)) fun z6 =>
  lp_X7_note_11 n z6 g4
def lp_X7_note_52 (r_t_page : Nat → Int32) (v_t_doings : Int32) : Nat → Int32 → (Nat → Int32) → Option ((Nat → Int32))
  | 0, _, _ => none
  | n + 1, x1, r_t_book =>
    if (265 : Int32) ≤ x1 then
  some r_t_book
  else
  pn_rd 265 r_t_page x1 fun w8 =>
  pn_wrI 3710 r_t_book (((265 : Int32) * v_t_doings) + x1) w8 fun g10 =>
  pn_nm (x1 + (1 : Int32)) fun z12 =>
  lp_X7_note_52 r_t_page v_t_doings n z12 g10
def f_X7_note (N : Nat) (v_t_doings : Int32) (r_t_book : Nat → Int32) (r_t_page : Nat → Int32) : Option (Int32 × (Nat → Int32)) :=
  if ¬ v_t_doings = (14 : Int32) then
  pn_bd1 (lp_X7_note_52 r_t_page v_t_doings N (0 : Int32) r_t_book) (fun X52 => (pn_u1 fun r_t_book_w14 => pn_nm (v_t_doings + (1 : Int32)) fun z15 =>
  some (z15, r_t_book_w14)) X52)
  else
  pn_bd1 (lp_X7_note_11  N (0 : Int32) r_t_book) (fun X11 => (pn_u1 fun r_t_book_w16 => pn_nm (v_t_doings - (1 : Int32)) fun z17 =>
  pn_bd1 (lp_X7_note_52 r_t_page z17 N (0 : Int32) r_t_book_w16) (fun X52 => (pn_u1 fun r_t_book_w18 => pn_nm (z17 + (1 : Int32)) fun z19 =>
  some (z19, r_t_book_w18)) X52)) X11)
set_option maxHeartbeats 4000000 in
set_option maxRecDepth 100000 in
theorem c_X7_note (l : Launch) (D : va_G) (cI cJ cZ : ClassId) (a_t a_t_text a_t_readPage a_t_page a_t_trial a_t_work a_t_book a_t_kept a_t_isKept a_t_seenWhat a_t_seenV a_t_seenIs a_t_label a_t_finds a_t_reason a_t_caseFirst a_t_brief a_t_printed a_t_renamed a_t_worth : Nat) (sz : Nat) (v_t_thrown : Int32) (v_t_textSize : Int32) (v_t_place : Int32) (v_t_seen : Int32) (v_t_seed : Int64) (v_t_cases : Int32) (v_t_printedSize : Int32) (v_t_lastReason : Int32) (N : Nat) (v_t_doings : Int32) (r_t_book : Nat → Int32) (r_t_page : Nat → Int32) (o_t_doings : Int32) (o_t_book : Nat → Int32) (hf : f_X7_note N v_t_doings r_t_book r_t_page = some (o_t_doings, o_t_book)) : Met l yX7_note wsX7_note { frames := 0, cells := 0, slots := 0, locals := 0 } (pn_Pc D cI cJ cZ [.ref a_t] [(a_t, .inr (6, [.int v_t_thrown, .ref a_t_text, .int v_t_textSize, .int v_t_place, .ref a_t_readPage, .ref a_t_page, .ref a_t_trial, .ref a_t_work, .ref a_t_book, .int v_t_doings, .ref a_t_kept, .ref a_t_isKept, .int v_t_seen, .ref a_t_seenWhat, .ref a_t_seenV, .ref a_t_seenIs, .long v_t_seed, .ref a_t_label, .ref a_t_finds, .ref a_t_reason, .ref a_t_caseFirst, .int v_t_cases, .ref a_t_brief, .ref a_t_printed, .int v_t_printedSize, .ref a_t_renamed, .ref a_t_worth, .int v_t_lastReason])), (a_t_book, .inl (cI, 3710, .inl r_t_book)), (a_t_page, .inl (cI, 265, .inl r_t_page))] sz) (pn_Qv D [(a_t, .inr (6, [.int v_t_thrown, .ref a_t_text, .int v_t_textSize, .int v_t_place, .ref a_t_readPage, .ref a_t_page, .ref a_t_trial, .ref a_t_work, .ref a_t_book, .int o_t_doings, .ref a_t_kept, .ref a_t_isKept, .int v_t_seen, .ref a_t_seenWhat, .ref a_t_seenV, .ref a_t_seenIs, .long v_t_seed, .ref a_t_label, .ref a_t_finds, .ref a_t_reason, .ref a_t_caseFirst, .int v_t_cases, .ref a_t_brief, .ref a_t_printed, .int v_t_printedSize, .ref a_t_renamed, .ref a_t_worth, .int v_t_lastReason])), (a_t_book, .inl (cI, 3710, .inl o_t_book)), (a_t_page, .inl (cI, 265, .inl r_t_page))] (va_A [(a_t, .inr (6, [.int v_t_thrown, .ref a_t_text, .int v_t_textSize, .int v_t_place, .ref a_t_readPage, .ref a_t_page, .ref a_t_trial, .ref a_t_work, .ref a_t_book, .int v_t_doings, .ref a_t_kept, .ref a_t_isKept, .int v_t_seen, .ref a_t_seenWhat, .ref a_t_seenV, .ref a_t_seenIs, .long v_t_seed, .ref a_t_label, .ref a_t_finds, .ref a_t_reason, .ref a_t_caseFirst, .int v_t_cases, .ref a_t_brief, .ref a_t_printed, .int v_t_printedSize, .ref a_t_renamed, .ref a_t_worth, .int v_t_lastReason])), (a_t_book, .inl (cI, 3710, .inl r_t_book)), (a_t_page, .inl (cI, 265, .inl r_t_page))] sz)) 0 0 (va_A [(a_t, .inr (6, [.int v_t_thrown, .ref a_t_text, .int v_t_textSize, .int v_t_place, .ref a_t_readPage, .ref a_t_page, .ref a_t_trial, .ref a_t_work, .ref a_t_book, .int v_t_doings, .ref a_t_kept, .ref a_t_isKept, .int v_t_seen, .ref a_t_seenWhat, .ref a_t_seenV, .ref a_t_seenIs, .long v_t_seed, .ref a_t_label, .ref a_t_finds, .ref a_t_reason, .ref a_t_caseFirst, .int v_t_cases, .ref a_t_brief, .ref a_t_printed, .int v_t_printedSize, .ref a_t_renamed, .ref a_t_worth, .int v_t_lastReason])), (a_t_book, .inl (cI, 3710, .inl r_t_book)), (a_t_page, .inl (cI, 265, .inl r_t_page))] sz) := by
  refine pn_entry (cc := cX7_note) (maxL := 2) (ret := none) (Qf := pn_Qv D [(a_t, .inr (6, [.int v_t_thrown, .ref a_t_text, .int v_t_textSize, .int v_t_place, .ref a_t_readPage, .ref a_t_page, .ref a_t_trial, .ref a_t_work, .ref a_t_book, .int o_t_doings, .ref a_t_kept, .ref a_t_isKept, .int v_t_seen, .ref a_t_seenWhat, .ref a_t_seenV, .ref a_t_seenIs, .long v_t_seed, .ref a_t_label, .ref a_t_finds, .ref a_t_reason, .ref a_t_caseFirst, .int v_t_cases, .ref a_t_brief, .ref a_t_printed, .int v_t_printedSize, .ref a_t_renamed, .ref a_t_worth, .int v_t_lastReason])), (a_t_book, .inl (cI, 3710, .inl o_t_book)), (a_t_page, .inl (cI, 265, .inl r_t_page))]) (by decide) rfl (Nat.le_of_ble_eq_true rfl) ?_
  intro p e s m args below meth c A ls H locs Qm hQ hx hb hr hlocks hml hown hts hK hP hD hA hS hl
  have hl : lv_has ls 2 [(0, .ref a_t)] := hl
  have hinX7 : ∀ w ∈ wsX70, w ∈ wsX7_note := by decide +kernel
  have fl_16 := hts (.fieldLink RX7 16 "PointingNotesModel" "page" "[I") (by decide +kernel)
  have fl_25 := hts (.fieldLink RX7 25 "PointingNotesModel" "book" "[I") (by decide +kernel)
  have fl_131 := hts (.fieldLink RX7 131 "PointingNotesModel" "doings" "I") (by decide +kernel)
  rw [f_X7_note] at hf
  have lp11 : ∀ (n : Nat) (x1 : Int32) (v_t_doings : Int32) (r_t_book : Nat → Int32) (X : (Nat → Int32)) (H : Heap) (locs : List Loc) (ls : Array Slot), lp_X7_note_11  n x1 r_t_book = some X → va_P D vwCl [(a_t, .inr (6, [.int v_t_thrown, .ref a_t_text, .int v_t_textSize, .int v_t_place, .ref a_t_readPage, .ref a_t_page, .ref a_t_trial, .ref a_t_work, .ref a_t_book, .int v_t_doings, .ref a_t_kept, .ref a_t_isKept, .int v_t_seen, .ref a_t_seenWhat, .ref a_t_seenV, .ref a_t_seenIs, .long v_t_seed, .ref a_t_label, .ref a_t_finds, .ref a_t_reason, .ref a_t_caseFirst, .int v_t_cases, .ref a_t_brief, .ref a_t_printed, .int v_t_printedSize, .ref a_t_renamed, .ref a_t_worth, .int v_t_lastReason])), (a_t_book, .inl (cI, 3710, .inl r_t_book)), (a_t_page, .inl (cI, 265, .inl r_t_page))] H → va_S A s.heap H locs → lv_has ls 2 [(0, .ref a_t), (1, .int x1)] → (∀  (r_t_book' : Nat → Int32) (H : Heap) (locs : List Loc) (ls : Array Slot), X = r_t_book' → va_P D vwCl [(a_t, .inr (6, [.int v_t_thrown, .ref a_t_text, .int v_t_textSize, .int v_t_place, .ref a_t_readPage, .ref a_t_page, .ref a_t_trial, .ref a_t_work, .ref a_t_book, .int v_t_doings, .ref a_t_kept, .ref a_t_isKept, .int v_t_seen, .ref a_t_seenWhat, .ref a_t_seenV, .ref a_t_seenIs, .long v_t_seed, .ref a_t_label, .ref a_t_finds, .ref a_t_reason, .ref a_t_caseFirst, .int v_t_cases, .ref a_t_brief, .ref a_t_printed, .int v_t_printedSize, .ref a_t_renamed, .ref a_t_worth, .int v_t_lastReason])), (a_t_book, .inl (cI, 3710, .inl (r_t_book'))), (a_t_page, .inl (cI, 265, .inl r_t_page))] H → va_S A s.heap H locs → lv_has ls 2 [(0, .ref a_t)] → W p l e { frames := 0, cells := 0, slots := 0, locals := 0 } s m args below meth c H locs 0 0 Qm (F0 m 40 ls [])) → W p l e { frames := 0, cells := 0, slots := 0, locals := 0 } s m args below meth c H locs 0 0 Qm (F0 m 11 ls []) := by
    intro n
    induction n with
    | zero => intro x1 v_t_doings r_t_book X H locs ls hf; cases hf
    | succ n ih =>
      intro x1 v_t_doings r_t_book X H locs ls hf hP hS hl kx40
      rw [lp_X7_note_11] at hf
      refine lv_iload_n hx hb dX7_note_11 rfl (lv_at hl 1 rfl) ?_
      refine lv_sipush (v := (3445)) hx hb dX7_note_12 (by decide) ?_
      refine lv_icmp_ge (tgt := 40) hx hb dX7_note_15 (by decide) (fun c1 => ?_) (fun c1 => ?_)
      · have hf := pn_ifp c1 hf
        exact kx40 r_t_book H locs ls (Option.some.inj hf).symm hP hS (lv_sub hl [0] rfl)
      · have hf := pn_ifn c1 hf
        refine lv_aload_n hx hb dX7_note_18 rfl (lv_at hl 0 rfl) ?_
        refine va_get (D := D) (ci := 6) (v := .ref a_t_book) (C := RX7) (T := TX7) (N := 28) hx hb hts hinX7 hown hK.1 hP 0 rfl rfl 8 (by decide) fl_25 (fun _ h9 => h9) rfl dX7_note_19 ?_
        refine lv_iload_n hx hb dX7_note_22 rfl (lv_at hl 1 rfl) ?_
        refine lv_aload_n hx hb dX7_note_23 rfl (lv_at hl 0 rfl) ?_
        refine va_get (D := D) (ci := 6) (v := .ref a_t_book) (C := RX7) (T := TX7) (N := 28) hx hb hts hinX7 hown hK.1 hP 0 rfl rfl 8 (by decide) fl_25 (fun _ h9 => h9) rfl dX7_note_24 ?_
        refine lv_iload_n hx hb dX7_note_27 rfl (lv_at hl 1 rfl) ?_
        refine lv_sipush (v := (265)) hx hb dX7_note_28 (by decide) ?_
        refine lv_iadd hx hb dX7_note_31 ?_
        obtain ⟨hi3, w2, ew2, hf⟩ := pn_rd_at hf
        refine pn_ldI hx hb hK.1 hP 1 0 rfl rfl hi3 ew2 dX7_note_32 ?_
        obtain ⟨hi5, g4, eg4, hf⟩ := pn_wrI_at hf
        refine pn_stI hx hb hK.1 hP (hD.addr rfl) hS 1 0 rfl rfl hi5 eg4 dX7_note_33 (fun H locs (hP : va_P D vwCl [(a_t, .inr (6, [.int v_t_thrown, .ref a_t_text, .int v_t_textSize, .int v_t_place, .ref a_t_readPage, .ref a_t_page, .ref a_t_trial, .ref a_t_work, .ref a_t_book, .int v_t_doings, .ref a_t_kept, .ref a_t_isKept, .int v_t_seen, .ref a_t_seenWhat, .ref a_t_seenV, .ref a_t_seenIs, .long v_t_seed, .ref a_t_label, .ref a_t_finds, .ref a_t_reason, .ref a_t_caseFirst, .int v_t_cases, .ref a_t_brief, .ref a_t_printed, .int v_t_printedSize, .ref a_t_renamed, .ref a_t_worth, .int v_t_lastReason])), (a_t_book, .inl (cI, 3710, .inl g4)), (a_t_page, .inl (cI, 265, .inl r_t_page))] H) _ hS => ?_)
        obtain ⟨z6, ez6⟩ : ∃ y : Int32, y = x1 + (1) := ⟨_, rfl⟩
        have hf := pn_nm_at ez6 hf
        refine lv_iinc (v := z6) (lv' := [(1, .int z6), (0, .ref a_t)]) hx hb dX7_note_34 hl (k := 1) rfl (by rw [ez6]; rfl) (by decide) rfl (fun ls hl => ?_)
        refine lv_goto (tgt := 11) hx hb dX7_note_37 (by decide) ?_
        exact ih z6 v_t_doings g4 X H locs ls hf hP hS (lv_sub hl [1, 0] rfl) kx40
  have lp52 : ∀ (n : Nat) (x1 : Int32) (v_t_doings : Int32) (r_t_book : Nat → Int32) (X : (Nat → Int32)) (H : Heap) (locs : List Loc) (ls : Array Slot), lp_X7_note_52 r_t_page v_t_doings n x1 r_t_book = some X → va_P D vwCl [(a_t, .inr (6, [.int v_t_thrown, .ref a_t_text, .int v_t_textSize, .int v_t_place, .ref a_t_readPage, .ref a_t_page, .ref a_t_trial, .ref a_t_work, .ref a_t_book, .int v_t_doings, .ref a_t_kept, .ref a_t_isKept, .int v_t_seen, .ref a_t_seenWhat, .ref a_t_seenV, .ref a_t_seenIs, .long v_t_seed, .ref a_t_label, .ref a_t_finds, .ref a_t_reason, .ref a_t_caseFirst, .int v_t_cases, .ref a_t_brief, .ref a_t_printed, .int v_t_printedSize, .ref a_t_renamed, .ref a_t_worth, .int v_t_lastReason])), (a_t_book, .inl (cI, 3710, .inl r_t_book)), (a_t_page, .inl (cI, 265, .inl r_t_page))] H → va_S A s.heap H locs → lv_has ls 2 [(0, .ref a_t), (1, .int x1)] → (∀  (r_t_book' : Nat → Int32) (H : Heap) (locs : List Loc) (ls : Array Slot), X = r_t_book' → va_P D vwCl [(a_t, .inr (6, [.int v_t_thrown, .ref a_t_text, .int v_t_textSize, .int v_t_place, .ref a_t_readPage, .ref a_t_page, .ref a_t_trial, .ref a_t_work, .ref a_t_book, .int v_t_doings, .ref a_t_kept, .ref a_t_isKept, .int v_t_seen, .ref a_t_seenWhat, .ref a_t_seenV, .ref a_t_seenIs, .long v_t_seed, .ref a_t_label, .ref a_t_finds, .ref a_t_reason, .ref a_t_caseFirst, .int v_t_cases, .ref a_t_brief, .ref a_t_printed, .int v_t_printedSize, .ref a_t_renamed, .ref a_t_worth, .int v_t_lastReason])), (a_t_book, .inl (cI, 3710, .inl (r_t_book'))), (a_t_page, .inl (cI, 265, .inl r_t_page))] H → va_S A s.heap H locs → lv_has ls 2 [(0, .ref a_t)] → W p l e { frames := 0, cells := 0, slots := 0, locals := 0 } s m args below meth c H locs 0 0 Qm (F0 m 86 ls [])) → W p l e { frames := 0, cells := 0, slots := 0, locals := 0 } s m args below meth c H locs 0 0 Qm (F0 m 52 ls []) := by
    intro n
    induction n with
    | zero => intro x1 v_t_doings r_t_book X H locs ls hf; cases hf
    | succ n ih =>
      intro x1 v_t_doings r_t_book X H locs ls hf hP hS hl kx86
      rw [lp_X7_note_52] at hf
      refine lv_iload_n hx hb dX7_note_52 rfl (lv_at hl 1 rfl) ?_
      refine lv_sipush (v := (265)) hx hb dX7_note_53 (by decide) ?_
      refine lv_icmp_ge (tgt := 86) hx hb dX7_note_56 (by decide) (fun c7 => ?_) (fun c7 => ?_)
      · have hf := pn_ifp c7 hf
        exact kx86 r_t_book H locs ls (Option.some.inj hf).symm hP hS (lv_sub hl [0] rfl)
      · have hf := pn_ifn c7 hf
        refine lv_aload_n hx hb dX7_note_59 rfl (lv_at hl 0 rfl) ?_
        refine va_get (D := D) (ci := 6) (v := .ref a_t_book) (C := RX7) (T := TX7) (N := 28) hx hb hts hinX7 hown hK.1 hP 0 rfl rfl 8 (by decide) fl_25 (fun _ h9 => h9) rfl dX7_note_60 ?_
        refine lv_sipush (v := (265)) hx hb dX7_note_63 (by decide) ?_
        refine lv_aload_n hx hb dX7_note_66 rfl (lv_at hl 0 rfl) ?_
        refine va_get (D := D) (ci := 6) (v := .int v_t_doings) (C := RX7) (T := TX7) (N := 28) hx hb hts hinX7 hown hK.1 hP 0 rfl rfl 9 (by decide) fl_131 (fun _ h9 => h9) rfl dX7_note_67 ?_
        refine lv_imul hx hb dX7_note_70 ?_
        refine lv_iload_n hx hb dX7_note_71 rfl (lv_at hl 1 rfl) ?_
        refine lv_iadd hx hb dX7_note_72 ?_
        refine lv_aload_n hx hb dX7_note_73 rfl (lv_at hl 0 rfl) ?_
        refine va_get (D := D) (ci := 6) (v := .ref a_t_page) (C := RX7) (T := TX7) (N := 28) hx hb hts hinX7 hown hK.1 hP 0 rfl rfl 5 (by decide) fl_16 (fun _ h9 => h9) rfl dX7_note_74 ?_
        refine lv_iload_n hx hb dX7_note_77 rfl (lv_at hl 1 rfl) ?_
        obtain ⟨hi9, w8, ew8, hf⟩ := pn_rd_at hf
        refine pn_ldI hx hb hK.1 hP 2 0 rfl rfl hi9 ew8 dX7_note_78 ?_
        obtain ⟨hi11, g10, eg10, hf⟩ := pn_wrI_at hf
        refine pn_stI hx hb hK.1 hP (hD.addr rfl) hS 1 0 rfl rfl hi11 eg10 dX7_note_79 (fun H locs (hP : va_P D vwCl [(a_t, .inr (6, [.int v_t_thrown, .ref a_t_text, .int v_t_textSize, .int v_t_place, .ref a_t_readPage, .ref a_t_page, .ref a_t_trial, .ref a_t_work, .ref a_t_book, .int v_t_doings, .ref a_t_kept, .ref a_t_isKept, .int v_t_seen, .ref a_t_seenWhat, .ref a_t_seenV, .ref a_t_seenIs, .long v_t_seed, .ref a_t_label, .ref a_t_finds, .ref a_t_reason, .ref a_t_caseFirst, .int v_t_cases, .ref a_t_brief, .ref a_t_printed, .int v_t_printedSize, .ref a_t_renamed, .ref a_t_worth, .int v_t_lastReason])), (a_t_book, .inl (cI, 3710, .inl g10)), (a_t_page, .inl (cI, 265, .inl r_t_page))] H) _ hS => ?_)
        obtain ⟨z12, ez12⟩ : ∃ y : Int32, y = x1 + (1) := ⟨_, rfl⟩
        have hf := pn_nm_at ez12 hf
        refine lv_iinc (v := z12) (lv' := [(1, .int z12), (0, .ref a_t)]) hx hb dX7_note_80 hl (k := 1) rfl (by rw [ez12]; rfl) (by decide) rfl (fun ls hl => ?_)
        refine lv_goto (tgt := 52) hx hb dX7_note_83 (by decide) ?_
        exact ih z12 v_t_doings g10 X H locs ls hf hP hS (lv_sub hl [1, 0] rfl) kx86
  refine lv_aload_n hx hb dX7_note_0 rfl (lv_at hl 0 rfl) ?_
  refine va_get (D := D) (ci := 6) (v := .int v_t_doings) (C := RX7) (T := TX7) (N := 28) hx hb hts hinX7 hown hK.1 hP 0 rfl rfl 9 (by decide) fl_131 (fun _ h9 => h9) rfl dX7_note_1 ?_
  refine lv_bipush (v := (14)) hx hb dX7_note_4 (by decide) ?_
  refine lv_icmp_ne (tgt := 50) hx hb dX7_note_6 (by decide) (fun c13 => ?_) (fun c13 => ?_)
  · have hf := pn_ifp c13 hf
    refine lv_iconst (v := (0)) hx hb dX7_note_50 (by decide) ?_
    refine lv_istore_n (lv' := [(1, .int (0 : Int32)), (0, .ref a_t)]) hx hb dX7_note_51 rfl hl (by decide) rfl (fun ls hl => ?_)
    obtain ⟨X52, hX52, hf⟩ := pn_bd1_at hf
    refine lp52 N (0 : Int32) v_t_doings r_t_book X52 H locs ls hX52 hP hS (lv_sub hl [1, 0] rfl) ?_
    · intro r_t_book_w14 H locs ls eX hP hS hl
      rw [eX] at hf
      have hf := pn_u1_at hf
      refine lv_aload_n hx hb dX7_note_86 rfl (lv_at hl 0 rfl) ?_
      refine lv_dup hx hb dX7_note_87 rfl ?_
      refine va_get (D := D) (ci := 6) (v := .int v_t_doings) (C := RX7) (T := TX7) (N := 28) hx hb hts hinX7 hown hK.1 hP 0 rfl rfl 9 (by decide) fl_131 (fun _ h9 => h9) rfl dX7_note_88 ?_
      refine lv_iconst (v := (1)) hx hb dX7_note_91 (by decide) ?_
      refine lv_iadd hx hb dX7_note_92 ?_
      refine lv_topi (fun z15 ez15 => ?_)
      have hf := pn_nm_at ez15 hf
      refine va_put (D := D) (ci := 6) (v := .int z15) (ty := .int) (C := RX7) (T := TX7) (N := 28) hx hb hts hinX7 tyX7 tyX7_ok nmX7 hown hK.1 hP (hD.addr rfl) hS 0 rfl rfl 9 (by decide) fl_131 (fun _ h9 => h9) rfl (by decide +kernel) rfl rfl (Nat.le_of_ble_eq_true rfl) dX7_note_93 (fun H locs (hP : va_P D vwCl [(a_t, .inr (6, [.int v_t_thrown, .ref a_t_text, .int v_t_textSize, .int v_t_place, .ref a_t_readPage, .ref a_t_page, .ref a_t_trial, .ref a_t_work, .ref a_t_book, .int z15, .ref a_t_kept, .ref a_t_isKept, .int v_t_seen, .ref a_t_seenWhat, .ref a_t_seenV, .ref a_t_seenIs, .long v_t_seed, .ref a_t_label, .ref a_t_finds, .ref a_t_reason, .ref a_t_caseFirst, .int v_t_cases, .ref a_t_brief, .ref a_t_printed, .int v_t_printedSize, .ref a_t_renamed, .ref a_t_worth, .int v_t_lastReason])), (a_t_book, .inl (cI, 3710, .inl r_t_book_w14)), (a_t_page, .inl (cI, 265, .inl r_t_page))] H) _ hS => ?_)
      cases hf
      rw [hQ]
      exact pn_retv hx hb hr hlocks hP hS dX7_note_96
  · have hf := pn_ifq c13 hf
    refine lv_iconst (v := (0)) hx hb dX7_note_9 (by decide) ?_
    refine lv_istore_n (lv' := [(1, .int (0 : Int32)), (0, .ref a_t)]) hx hb dX7_note_10 rfl hl (by decide) rfl (fun ls hl => ?_)
    obtain ⟨X11, hX11, hf⟩ := pn_bd1_at hf
    refine lp11 N (0 : Int32) v_t_doings r_t_book X11 H locs ls hX11 hP hS (lv_sub hl [1, 0] rfl) ?_
    · intro r_t_book_w16 H locs ls eX hP hS hl
      rw [eX] at hf
      have hf := pn_u1_at hf
      refine lv_aload_n hx hb dX7_note_40 rfl (lv_at hl 0 rfl) ?_
      refine lv_dup hx hb dX7_note_41 rfl ?_
      refine va_get (D := D) (ci := 6) (v := .int v_t_doings) (C := RX7) (T := TX7) (N := 28) hx hb hts hinX7 hown hK.1 hP 0 rfl rfl 9 (by decide) fl_131 (fun _ h9 => h9) rfl dX7_note_42 ?_
      refine lv_iconst (v := (1)) hx hb dX7_note_45 (by decide) ?_
      refine lv_isub hx hb dX7_note_46 ?_
      refine lv_topi (fun z17 ez17 => ?_)
      have hf := pn_nm_at ez17 hf
      refine va_put (D := D) (ci := 6) (v := .int z17) (ty := .int) (C := RX7) (T := TX7) (N := 28) hx hb hts hinX7 tyX7 tyX7_ok nmX7 hown hK.1 hP (hD.addr rfl) hS 0 rfl rfl 9 (by decide) fl_131 (fun _ h9 => h9) rfl (by decide +kernel) rfl rfl (Nat.le_of_ble_eq_true rfl) dX7_note_47 (fun H locs (hP : va_P D vwCl [(a_t, .inr (6, [.int v_t_thrown, .ref a_t_text, .int v_t_textSize, .int v_t_place, .ref a_t_readPage, .ref a_t_page, .ref a_t_trial, .ref a_t_work, .ref a_t_book, .int z17, .ref a_t_kept, .ref a_t_isKept, .int v_t_seen, .ref a_t_seenWhat, .ref a_t_seenV, .ref a_t_seenIs, .long v_t_seed, .ref a_t_label, .ref a_t_finds, .ref a_t_reason, .ref a_t_caseFirst, .int v_t_cases, .ref a_t_brief, .ref a_t_printed, .int v_t_printedSize, .ref a_t_renamed, .ref a_t_worth, .int v_t_lastReason])), (a_t_book, .inl (cI, 3710, .inl r_t_book_w16)), (a_t_page, .inl (cI, 265, .inl r_t_page))] H) _ hS => ?_)
      refine lv_iconst (v := (0)) hx hb dX7_note_50 (by decide) ?_
      refine lv_istore_n (lv' := [(1, .int (0 : Int32)), (0, .ref a_t)]) hx hb dX7_note_51 rfl hl (by decide) rfl (fun ls hl => ?_)
      obtain ⟨X52, hX52, hf⟩ := pn_bd1_at hf
      refine lp52 N (0 : Int32) z17 r_t_book_w16 X52 H locs ls hX52 hP hS (lv_sub hl [1, 0] rfl) ?_
      · intro r_t_book_w18 H locs ls eX hP hS hl
        rw [eX] at hf
        have hf := pn_u1_at hf
        refine lv_aload_n hx hb dX7_note_86 rfl (lv_at hl 0 rfl) ?_
        refine lv_dup hx hb dX7_note_87 rfl ?_
        refine va_get (D := D) (ci := 6) (v := .int z17) (C := RX7) (T := TX7) (N := 28) hx hb hts hinX7 hown hK.1 hP 0 rfl rfl 9 (by decide) fl_131 (fun _ h9 => h9) rfl dX7_note_88 ?_
        refine lv_iconst (v := (1)) hx hb dX7_note_91 (by decide) ?_
        refine lv_iadd hx hb dX7_note_92 ?_
        refine lv_topi (fun z19 ez19 => ?_)
        have hf := pn_nm_at ez19 hf
        refine va_put (D := D) (ci := 6) (v := .int z19) (ty := .int) (C := RX7) (T := TX7) (N := 28) hx hb hts hinX7 tyX7 tyX7_ok nmX7 hown hK.1 hP (hD.addr rfl) hS 0 rfl rfl 9 (by decide) fl_131 (fun _ h9 => h9) rfl (by decide +kernel) rfl rfl (Nat.le_of_ble_eq_true rfl) dX7_note_93 (fun H locs (hP : va_P D vwCl [(a_t, .inr (6, [.int v_t_thrown, .ref a_t_text, .int v_t_textSize, .int v_t_place, .ref a_t_readPage, .ref a_t_page, .ref a_t_trial, .ref a_t_work, .ref a_t_book, .int z19, .ref a_t_kept, .ref a_t_isKept, .int v_t_seen, .ref a_t_seenWhat, .ref a_t_seenV, .ref a_t_seenIs, .long v_t_seed, .ref a_t_label, .ref a_t_finds, .ref a_t_reason, .ref a_t_caseFirst, .int v_t_cases, .ref a_t_brief, .ref a_t_printed, .int v_t_printedSize, .ref a_t_renamed, .ref a_t_worth, .int v_t_lastReason])), (a_t_book, .inl (cI, 3710, .inl r_t_book_w18)), (a_t_page, .inl (cI, 265, .inl r_t_page))] H) _ hS => ?_)
        cases hf
        rw [hQ]
        exact pn_retv hx hb hr hlocks hP hS dX7_note_96
def lp_X7_rename_2 (r_t_renamed : Nat → Int32) (p2 : Int32) : Nat → Int32 → (Nat → Int32) → Option ((Nat → Int32))
  | 0, _, _ => none
  | n + 1, x3, r_q1 =>
    if (32 : Int32) ≤ x3 then
  some r_q1
  else
  pn_bd1 (f_X7_ref r_q1 x3 (6 : Int32)) fun ru2 =>
  pn_bd1 (f_X7_ref r_q1 x3 (0 : Int32)) fun ru3 =>
  if ¬ ru3 = (3 : Int32) then
  pn_nm (x3 + (1 : Int32)) fun z5 =>
  lp_X7_rename_2 r_t_renamed p2 n z5 r_q1
  else
  pn_bd1 (f_X7_isThere r_q1 (x3 / (4 : Int32)) (x3 - x3 / (4 : Int32) * (4 : Int32))) fun ru6 =>
  if ru6 = 0 then
  pn_nm (x3 + (1 : Int32)) fun z8 =>
  lp_X7_rename_2 r_t_renamed p2 n z8 r_q1
  else
  if p2 ≤ ru2 then
  pn_nm (x3 + (1 : Int32)) fun z10 =>
  lp_X7_rename_2 r_t_renamed p2 n z10 r_q1
  else
  pn_rd 8 r_t_renamed ru2 fun w11 =>
  if w11 = (-9 : Int32) then
  pn_nm (x3 + (1 : Int32)) fun z14 =>
  lp_X7_rename_2 r_t_renamed p2 n z14 r_q1
  else
  pn_rd 8 r_t_renamed ru2 fun w15 =>
  pn_wrI 265 r_q1 (((9 : Int32) + ((8 : Int32) * x3)) + (6 : Int32)) w15 fun g17 =>
  pn_nm (x3 + (1 : Int32)) fun z19 =>
  lp_X7_rename_2 r_t_renamed p2 n z19 g17
def f_X7_rename (N : Nat) (r_t_renamed : Nat → Int32) (r_q1 : Nat → Int32) (p2 : Int32) : Option ((Nat → Int32)) :=
  pn_bd1 (lp_X7_rename_2 r_t_renamed p2 N (0 : Int32) r_q1) (fun X2 => (pn_u1 fun r_q1_w20 => some r_q1_w20) X2)
set_option maxHeartbeats 4000000 in
set_option maxRecDepth 100000 in
theorem c_X7_rename (l : Launch) (D : va_G) (cI cJ cZ : ClassId) (a_t a_t_text a_t_readPage a_t_page a_t_trial a_t_work a_t_book a_t_kept a_t_isKept a_t_seenWhat a_t_seenV a_t_seenIs a_t_label a_t_finds a_t_reason a_t_caseFirst a_t_brief a_t_printed a_t_renamed a_t_worth a_q1 : Nat) (sz : Nat) (v_t_thrown : Int32) (v_t_textSize : Int32) (v_t_place : Int32) (v_t_doings : Int32) (v_t_seen : Int32) (v_t_seed : Int64) (v_t_cases : Int32) (v_t_printedSize : Int32) (v_t_lastReason : Int32) (N : Nat) (r_t_renamed : Nat → Int32) (r_q1 : Nat → Int32) (p2 : Int32) (o_q1 : Nat → Int32) (hf : f_X7_rename N r_t_renamed r_q1 p2 = some o_q1) : Met l yX7_rename wsX7_rename { frames := 2, cells := 0, slots := 0, locals := 47 } (pn_Pc D cI cJ cZ [.ref a_t, .ref a_q1, .int p2] [(a_t, .inr (6, [.int v_t_thrown, .ref a_t_text, .int v_t_textSize, .int v_t_place, .ref a_t_readPage, .ref a_t_page, .ref a_t_trial, .ref a_t_work, .ref a_t_book, .int v_t_doings, .ref a_t_kept, .ref a_t_isKept, .int v_t_seen, .ref a_t_seenWhat, .ref a_t_seenV, .ref a_t_seenIs, .long v_t_seed, .ref a_t_label, .ref a_t_finds, .ref a_t_reason, .ref a_t_caseFirst, .int v_t_cases, .ref a_t_brief, .ref a_t_printed, .int v_t_printedSize, .ref a_t_renamed, .ref a_t_worth, .int v_t_lastReason])), (a_t_renamed, .inl (cI, 8, .inl r_t_renamed)), (a_q1, .inl (cI, 265, .inl r_q1))] sz) (pn_Qv D [(a_t, .inr (6, [.int v_t_thrown, .ref a_t_text, .int v_t_textSize, .int v_t_place, .ref a_t_readPage, .ref a_t_page, .ref a_t_trial, .ref a_t_work, .ref a_t_book, .int v_t_doings, .ref a_t_kept, .ref a_t_isKept, .int v_t_seen, .ref a_t_seenWhat, .ref a_t_seenV, .ref a_t_seenIs, .long v_t_seed, .ref a_t_label, .ref a_t_finds, .ref a_t_reason, .ref a_t_caseFirst, .int v_t_cases, .ref a_t_brief, .ref a_t_printed, .int v_t_printedSize, .ref a_t_renamed, .ref a_t_worth, .int v_t_lastReason])), (a_t_renamed, .inl (cI, 8, .inl r_t_renamed)), (a_q1, .inl (cI, 265, .inl o_q1))] (va_A [(a_t, .inr (6, [.int v_t_thrown, .ref a_t_text, .int v_t_textSize, .int v_t_place, .ref a_t_readPage, .ref a_t_page, .ref a_t_trial, .ref a_t_work, .ref a_t_book, .int v_t_doings, .ref a_t_kept, .ref a_t_isKept, .int v_t_seen, .ref a_t_seenWhat, .ref a_t_seenV, .ref a_t_seenIs, .long v_t_seed, .ref a_t_label, .ref a_t_finds, .ref a_t_reason, .ref a_t_caseFirst, .int v_t_cases, .ref a_t_brief, .ref a_t_printed, .int v_t_printedSize, .ref a_t_renamed, .ref a_t_worth, .int v_t_lastReason])), (a_t_renamed, .inl (cI, 8, .inl r_t_renamed)), (a_q1, .inl (cI, 265, .inl r_q1))] sz)) 0 0 (va_A [(a_t, .inr (6, [.int v_t_thrown, .ref a_t_text, .int v_t_textSize, .int v_t_place, .ref a_t_readPage, .ref a_t_page, .ref a_t_trial, .ref a_t_work, .ref a_t_book, .int v_t_doings, .ref a_t_kept, .ref a_t_isKept, .int v_t_seen, .ref a_t_seenWhat, .ref a_t_seenV, .ref a_t_seenIs, .long v_t_seed, .ref a_t_label, .ref a_t_finds, .ref a_t_reason, .ref a_t_caseFirst, .int v_t_cases, .ref a_t_brief, .ref a_t_printed, .int v_t_printedSize, .ref a_t_renamed, .ref a_t_worth, .int v_t_lastReason])), (a_t_renamed, .inl (cI, 8, .inl r_t_renamed)), (a_q1, .inl (cI, 265, .inl r_q1))] sz) := by
  refine pn_entry (cc := cX7_rename) (maxL := 5) (ret := none) (Qf := pn_Qv D [(a_t, .inr (6, [.int v_t_thrown, .ref a_t_text, .int v_t_textSize, .int v_t_place, .ref a_t_readPage, .ref a_t_page, .ref a_t_trial, .ref a_t_work, .ref a_t_book, .int v_t_doings, .ref a_t_kept, .ref a_t_isKept, .int v_t_seen, .ref a_t_seenWhat, .ref a_t_seenV, .ref a_t_seenIs, .long v_t_seed, .ref a_t_label, .ref a_t_finds, .ref a_t_reason, .ref a_t_caseFirst, .int v_t_cases, .ref a_t_brief, .ref a_t_printed, .int v_t_printedSize, .ref a_t_renamed, .ref a_t_worth, .int v_t_lastReason])), (a_t_renamed, .inl (cI, 8, .inl r_t_renamed)), (a_q1, .inl (cI, 265, .inl o_q1))]) (by decide) rfl (Nat.le_of_ble_eq_true rfl) ?_
  intro p e s m args below meth c A ls H locs Qm hQ hx hb hr hlocks hml hown hts hK hP hD hA hS hl
  have hl : lv_has ls 5 [(0, .ref a_t), (1, .ref a_q1), (2, .int p2)] := hl
  have hinX7 : ∀ w ∈ wsX70, w ∈ wsX7_rename := by decide +kernel
  have fl_62 := hts (.fieldLink RX7 62 "PointingNotesModel" "renamed" "[I") (by decide +kernel)
  rw [f_X7_rename] at hf
  have lp2 : ∀ (n : Nat) (x3 : Int32) (r_q1 : Nat → Int32) (X : (Nat → Int32)) (H : Heap) (locs : List Loc) (ls : Array Slot), lp_X7_rename_2 r_t_renamed p2 n x3 r_q1 = some X → va_P D vwCl [(a_t, .inr (6, [.int v_t_thrown, .ref a_t_text, .int v_t_textSize, .int v_t_place, .ref a_t_readPage, .ref a_t_page, .ref a_t_trial, .ref a_t_work, .ref a_t_book, .int v_t_doings, .ref a_t_kept, .ref a_t_isKept, .int v_t_seen, .ref a_t_seenWhat, .ref a_t_seenV, .ref a_t_seenIs, .long v_t_seed, .ref a_t_label, .ref a_t_finds, .ref a_t_reason, .ref a_t_caseFirst, .int v_t_cases, .ref a_t_brief, .ref a_t_printed, .int v_t_printedSize, .ref a_t_renamed, .ref a_t_worth, .int v_t_lastReason])), (a_t_renamed, .inl (cI, 8, .inl r_t_renamed)), (a_q1, .inl (cI, 265, .inl r_q1))] H → va_S A s.heap H locs → lv_has ls 5 [(0, .ref a_t), (1, .ref a_q1), (2, .int p2), (3, .int x3)] → (∀  (r_q1' : Nat → Int32) (H : Heap) (locs : List Loc) (ls : Array Slot), X = r_q1' → va_P D vwCl [(a_t, .inr (6, [.int v_t_thrown, .ref a_t_text, .int v_t_textSize, .int v_t_place, .ref a_t_readPage, .ref a_t_page, .ref a_t_trial, .ref a_t_work, .ref a_t_book, .int v_t_doings, .ref a_t_kept, .ref a_t_isKept, .int v_t_seen, .ref a_t_seenWhat, .ref a_t_seenV, .ref a_t_seenIs, .long v_t_seed, .ref a_t_label, .ref a_t_finds, .ref a_t_reason, .ref a_t_caseFirst, .int v_t_cases, .ref a_t_brief, .ref a_t_printed, .int v_t_printedSize, .ref a_t_renamed, .ref a_t_worth, .int v_t_lastReason])), (a_t_renamed, .inl (cI, 8, .inl r_t_renamed)), (a_q1, .inl (cI, 265, .inl (r_q1')))] H → va_S A s.heap H locs → lv_has ls 5 [] → W p l e { frames := 2, cells := 0, slots := 0, locals := 47 } s m args below meth c H locs 0 0 Qm (F0 m 83 ls [])) → W p l e { frames := 2, cells := 0, slots := 0, locals := 47 } s m args below meth c H locs 0 0 Qm (F0 m 2 ls []) := by
    intro n
    induction n with
    | zero => intro x3 r_q1 X H locs ls hf; cases hf
    | succ n ih =>
      intro x3 r_q1 X H locs ls hf hP hS hl kx83
      rw [lp_X7_rename_2] at hf
      refine lv_iload_n hx hb dX7_rename_2 rfl (lv_at hl 3 rfl) ?_
      refine lv_bipush (v := (32)) hx hb dX7_rename_3 (by decide) ?_
      refine lv_icmp_ge (tgt := 83) hx hb dX7_rename_5 (by decide) (fun c1 => ?_) (fun c1 => ?_)
      · have hf := pn_ifp c1 hf
        exact kx83 r_q1 H locs ls (Option.some.inj hf).symm hP hS (lv_sub hl [] rfl)
      · have hf := pn_ifn c1 hf
        refine lv_aload_n hx hb dX7_rename_8 rfl (lv_at hl 1 rfl) ?_
        refine lv_iload_n hx hb dX7_rename_9 rfl (lv_at hl 3 rfl) ?_
        refine lv_bipush (v := (6)) hx hb dX7_rename_10 (by decide) ?_
        obtain ⟨ru2, hu2, hf⟩ := pn_bd1_at hf
        refine pn_calli [2] (va_runS (As := [.ref a_q1, .int x3, .int (6 : Int32)]) (rest := []) ⟨hx, hb, hml, hown, hts⟩ (c_X7_ref l D cI cJ cZ a_q1 H.size r_q1 x3 (6 : Int32) ru2 hu2) (va_cwS 3 hts gX7_rename_X7_ref rfl rfl rfl hdX7_ref ⟨Nat.le_of_ble_eq_true rfl, Nat.le_of_ble_eq_true rfl⟩) (pn_preS [2] hP (hD.addr rfl) hK rfl rfl) rfl rfl hl.1 rfl (lv_room (Nat.le_of_ble_eq_true rfl)) dX7_rename_12 ⟨Nat.zero_le _, Nat.zero_le _⟩) hP (hD.addr rfl) hS hA rfl rfl rfl (fun H locs (hP : va_P D vwCl [(a_t, .inr (6, [.int v_t_thrown, .ref a_t_text, .int v_t_textSize, .int v_t_place, .ref a_t_readPage, .ref a_t_page, .ref a_t_trial, .ref a_t_work, .ref a_t_book, .int v_t_doings, .ref a_t_kept, .ref a_t_isKept, .int v_t_seen, .ref a_t_seenWhat, .ref a_t_seenV, .ref a_t_seenIs, .long v_t_seed, .ref a_t_label, .ref a_t_finds, .ref a_t_reason, .ref a_t_caseFirst, .int v_t_cases, .ref a_t_brief, .ref a_t_printed, .int v_t_printedSize, .ref a_t_renamed, .ref a_t_worth, .int v_t_lastReason])), (a_t_renamed, .inl (cI, 8, .inl r_t_renamed)), (a_q1, .inl (cI, 265, .inl r_q1))] H) _ hS => ?_)
        refine lv_istore (lv' := [(4, .int ru2), (0, .ref a_t), (1, .ref a_q1), (2, .int p2), (3, .int x3)]) hx hb dX7_rename_15 hl (by decide) rfl (fun ls hl => ?_)
        refine lv_aload_n hx hb dX7_rename_17 rfl (lv_at hl 2 rfl) ?_
        refine lv_iload_n hx hb dX7_rename_18 rfl (lv_at hl 4 rfl) ?_
        refine lv_iconst (v := (0)) hx hb dX7_rename_19 (by decide) ?_
        obtain ⟨ru3, hu3, hf⟩ := pn_bd1_at hf
        refine pn_calli [2] (va_runS (As := [.ref a_q1, .int x3, .int (0 : Int32)]) (rest := []) ⟨hx, hb, hml, hown, hts⟩ (c_X7_ref l D cI cJ cZ a_q1 H.size r_q1 x3 (0 : Int32) ru3 hu3) (va_cwS 3 hts gX7_rename_X7_ref rfl rfl rfl hdX7_ref ⟨Nat.le_of_ble_eq_true rfl, Nat.le_of_ble_eq_true rfl⟩) (pn_preS [2] hP (hD.addr rfl) hK rfl rfl) rfl rfl hl.1 rfl (lv_room (Nat.le_of_ble_eq_true rfl)) dX7_rename_20 ⟨Nat.zero_le _, Nat.zero_le _⟩) hP (hD.addr rfl) hS hA rfl rfl rfl (fun H locs (hP : va_P D vwCl [(a_t, .inr (6, [.int v_t_thrown, .ref a_t_text, .int v_t_textSize, .int v_t_place, .ref a_t_readPage, .ref a_t_page, .ref a_t_trial, .ref a_t_work, .ref a_t_book, .int v_t_doings, .ref a_t_kept, .ref a_t_isKept, .int v_t_seen, .ref a_t_seenWhat, .ref a_t_seenV, .ref a_t_seenIs, .long v_t_seed, .ref a_t_label, .ref a_t_finds, .ref a_t_reason, .ref a_t_caseFirst, .int v_t_cases, .ref a_t_brief, .ref a_t_printed, .int v_t_printedSize, .ref a_t_renamed, .ref a_t_worth, .int v_t_lastReason])), (a_t_renamed, .inl (cI, 8, .inl r_t_renamed)), (a_q1, .inl (cI, 265, .inl r_q1))] H) _ hS => ?_)
        refine lv_iconst (v := (3)) hx hb dX7_rename_23 (by decide) ?_
        refine lv_icmp_ne (tgt := 77) hx hb dX7_rename_24 (by decide) (fun c4 => ?_) (fun c4 => ?_)
        · have hf := pn_ifp c4 hf
          obtain ⟨z5, ez5⟩ : ∃ y : Int32, y = x3 + (1) := ⟨_, rfl⟩
          have hf := pn_nm_at ez5 hf
          refine lv_iinc (v := z5) (lv' := [(3, .int z5), (4, .int ru2), (0, .ref a_t), (1, .ref a_q1), (2, .int p2)]) hx hb dX7_rename_77 hl (k := 4) rfl (by rw [ez5]; rfl) (by decide) rfl (fun ls hl => ?_)
          refine lv_goto (tgt := 2) hx hb dX7_rename_80 (by decide) ?_
          exact ih z5 r_q1 X H locs ls hf hP hS (lv_sub hl [2, 3, 4, 0] rfl) kx83
        · have hf := pn_ifq c4 hf
          refine lv_aload_n hx hb dX7_rename_27 rfl (lv_at hl 2 rfl) ?_
          refine lv_iload_n hx hb dX7_rename_28 rfl (lv_at hl 4 rfl) ?_
          refine lv_iconst (v := (4)) hx hb dX7_rename_29 (by decide) ?_
          refine lv_idiv hx hb dX7_rename_30 (by decide) ?_
          refine lv_iload_n hx hb dX7_rename_31 rfl (lv_at hl 4 rfl) ?_
          refine lv_iconst (v := (4)) hx hb dX7_rename_32 (by decide) ?_
          refine lv_irem hx hb dX7_rename_33 (by decide) ?_
          obtain ⟨ru6, hu6, hf⟩ := pn_bd1_at hf
          refine pn_calli [2] (va_runS (As := [.ref a_q1, .int (x3 / (4 : Int32)), .int (x3 - x3 / (4 : Int32) * (4 : Int32))]) (rest := []) ⟨hx, hb, hml, hown, hts⟩ (c_X7_isThere l D cI cJ cZ a_q1 H.size r_q1 (x3 / (4 : Int32)) (x3 - x3 / (4 : Int32) * (4 : Int32)) ru6 hu6) (va_cwS 3 hts gX7_rename_X7_isThere rfl rfl rfl hdX7_isThere ⟨Nat.le_of_ble_eq_true rfl, Nat.le_of_ble_eq_true rfl⟩) (pn_preS [2] hP (hD.addr rfl) hK rfl rfl) rfl rfl hl.1 rfl (lv_room (Nat.le_of_ble_eq_true rfl)) dX7_rename_34 ⟨Nat.zero_le _, Nat.zero_le _⟩) hP (hD.addr rfl) hS hA rfl rfl rfl (fun H locs (hP : va_P D vwCl [(a_t, .inr (6, [.int v_t_thrown, .ref a_t_text, .int v_t_textSize, .int v_t_place, .ref a_t_readPage, .ref a_t_page, .ref a_t_trial, .ref a_t_work, .ref a_t_book, .int v_t_doings, .ref a_t_kept, .ref a_t_isKept, .int v_t_seen, .ref a_t_seenWhat, .ref a_t_seenV, .ref a_t_seenIs, .long v_t_seed, .ref a_t_label, .ref a_t_finds, .ref a_t_reason, .ref a_t_caseFirst, .int v_t_cases, .ref a_t_brief, .ref a_t_printed, .int v_t_printedSize, .ref a_t_renamed, .ref a_t_worth, .int v_t_lastReason])), (a_t_renamed, .inl (cI, 8, .inl r_t_renamed)), (a_q1, .inl (cI, 265, .inl r_q1))] H) _ hS => ?_)
          refine lv_if_eq (tgt := 77) hx hb dX7_rename_37 (by decide) (fun c7 => ?_) (fun c7 => ?_)
          · have hf := pn_ifp c7 hf
            obtain ⟨z8, ez8⟩ : ∃ y : Int32, y = x3 + (1) := ⟨_, rfl⟩
            have hf := pn_nm_at ez8 hf
            refine lv_iinc (v := z8) (lv' := [(3, .int z8), (4, .int ru2), (0, .ref a_t), (1, .ref a_q1), (2, .int p2)]) hx hb dX7_rename_77 hl (k := 4) rfl (by rw [ez8]; rfl) (by decide) rfl (fun ls hl => ?_)
            refine lv_goto (tgt := 2) hx hb dX7_rename_80 (by decide) ?_
            exact ih z8 r_q1 X H locs ls hf hP hS (lv_sub hl [2, 3, 4, 0] rfl) kx83
          · have hf := pn_ifn c7 hf
            refine lv_iload hx hb dX7_rename_40 (lv_at hl 0 rfl) ?_
            refine lv_iload_n hx hb dX7_rename_42 rfl (lv_at hl 3 rfl) ?_
            refine lv_icmp_ge (tgt := 77) hx hb dX7_rename_43 (by decide) (fun c9 => ?_) (fun c9 => ?_)
            · have hf := pn_ifp c9 hf
              obtain ⟨z10, ez10⟩ : ∃ y : Int32, y = x3 + (1) := ⟨_, rfl⟩
              have hf := pn_nm_at ez10 hf
              refine lv_iinc (v := z10) (lv' := [(3, .int z10), (4, .int ru2), (0, .ref a_t), (1, .ref a_q1), (2, .int p2)]) hx hb dX7_rename_77 hl (k := 4) rfl (by rw [ez10]; rfl) (by decide) rfl (fun ls hl => ?_)
              refine lv_goto (tgt := 2) hx hb dX7_rename_80 (by decide) ?_
              exact ih z10 r_q1 X H locs ls hf hP hS (lv_sub hl [2, 3, 4, 0] rfl) kx83
            · have hf := pn_ifn c9 hf
              refine lv_aload_n hx hb dX7_rename_46 rfl (lv_at hl 1 rfl) ?_
              refine va_get (D := D) (ci := 6) (v := .ref a_t_renamed) (C := RX7) (T := TX7) (N := 28) hx hb hts hinX7 hown hK.1 hP 0 rfl rfl 25 (by decide) fl_62 (fun _ h9 => h9) rfl dX7_rename_47 ?_
              refine lv_iload hx hb dX7_rename_50 (lv_at hl 0 rfl) ?_
              obtain ⟨hi12, w11, ew11, hf⟩ := pn_rd_at hf
              refine pn_ldI hx hb hK.1 hP 1 0 rfl rfl hi12 ew11 dX7_rename_52 ?_
              refine lv_bipush (v := (-9)) hx hb dX7_rename_53 (by decide) ?_
              refine lv_icmp_eq (tgt := 77) hx hb dX7_rename_55 (by decide) (fun c13 => ?_) (fun c13 => ?_)
              · have hf := pn_ifp c13 hf
                obtain ⟨z14, ez14⟩ : ∃ y : Int32, y = x3 + (1) := ⟨_, rfl⟩
                have hf := pn_nm_at ez14 hf
                refine lv_iinc (v := z14) (lv' := [(3, .int z14), (4, .int ru2), (0, .ref a_t), (1, .ref a_q1), (2, .int p2)]) hx hb dX7_rename_77 hl (k := 4) rfl (by rw [ez14]; rfl) (by decide) rfl (fun ls hl => ?_)
                refine lv_goto (tgt := 2) hx hb dX7_rename_80 (by decide) ?_
                exact ih z14 r_q1 X H locs ls hf hP hS (lv_sub hl [2, 3, 4, 0] rfl) kx83
              · have hf := pn_ifn c13 hf
                refine lv_aload_n hx hb dX7_rename_58 rfl (lv_at hl 2 rfl) ?_
                refine lv_bipush (v := (9)) hx hb dX7_rename_59 (by decide) ?_
                refine lv_bipush (v := (8)) hx hb dX7_rename_61 (by decide) ?_
                refine lv_iload_n hx hb dX7_rename_63 rfl (lv_at hl 4 rfl) ?_
                refine lv_imul hx hb dX7_rename_64 ?_
                refine lv_iadd hx hb dX7_rename_65 ?_
                refine lv_bipush (v := (6)) hx hb dX7_rename_66 (by decide) ?_
                refine lv_iadd hx hb dX7_rename_68 ?_
                refine lv_aload_n hx hb dX7_rename_69 rfl (lv_at hl 1 rfl) ?_
                refine va_get (D := D) (ci := 6) (v := .ref a_t_renamed) (C := RX7) (T := TX7) (N := 28) hx hb hts hinX7 hown hK.1 hP 0 rfl rfl 25 (by decide) fl_62 (fun _ h9 => h9) rfl dX7_rename_70 ?_
                refine lv_iload hx hb dX7_rename_73 (lv_at hl 0 rfl) ?_
                obtain ⟨hi16, w15, ew15, hf⟩ := pn_rd_at hf
                refine pn_ldI hx hb hK.1 hP 1 0 rfl rfl hi16 ew15 dX7_rename_75 ?_
                obtain ⟨hi18, g17, eg17, hf⟩ := pn_wrI_at hf
                refine pn_stI hx hb hK.1 hP (hD.addr rfl) hS 2 0 rfl rfl hi18 eg17 dX7_rename_76 (fun H locs (hP : va_P D vwCl [(a_t, .inr (6, [.int v_t_thrown, .ref a_t_text, .int v_t_textSize, .int v_t_place, .ref a_t_readPage, .ref a_t_page, .ref a_t_trial, .ref a_t_work, .ref a_t_book, .int v_t_doings, .ref a_t_kept, .ref a_t_isKept, .int v_t_seen, .ref a_t_seenWhat, .ref a_t_seenV, .ref a_t_seenIs, .long v_t_seed, .ref a_t_label, .ref a_t_finds, .ref a_t_reason, .ref a_t_caseFirst, .int v_t_cases, .ref a_t_brief, .ref a_t_printed, .int v_t_printedSize, .ref a_t_renamed, .ref a_t_worth, .int v_t_lastReason])), (a_t_renamed, .inl (cI, 8, .inl r_t_renamed)), (a_q1, .inl (cI, 265, .inl g17))] H) _ hS => ?_)
                obtain ⟨z19, ez19⟩ : ∃ y : Int32, y = x3 + (1) := ⟨_, rfl⟩
                have hf := pn_nm_at ez19 hf
                refine lv_iinc (v := z19) (lv' := [(3, .int z19), (4, .int ru2), (0, .ref a_t), (1, .ref a_q1), (2, .int p2)]) hx hb dX7_rename_77 hl (k := 4) rfl (by rw [ez19]; rfl) (by decide) rfl (fun ls hl => ?_)
                refine lv_goto (tgt := 2) hx hb dX7_rename_80 (by decide) ?_
                exact ih z19 g17 X H locs ls hf hP hS (lv_sub hl [2, 3, 4, 0] rfl) kx83
  refine lv_iconst (v := (0)) hx hb dX7_rename_0 (by decide) ?_
  refine lv_istore_n (lv' := [(3, .int (0 : Int32)), (0, .ref a_t), (1, .ref a_q1), (2, .int p2)]) hx hb dX7_rename_1 rfl hl (by decide) rfl (fun ls hl => ?_)
  obtain ⟨X2, hX2, hf⟩ := pn_bd1_at hf
  refine lp2 N (0 : Int32) r_q1 X2 H locs ls hX2 hP hS (lv_sub hl [1, 2, 3, 0] rfl) ?_
  · intro r_q1_w20 H locs ls eX hP hS hl
    rw [eX] at hf
    have hf := pn_u1_at hf
    cases hf
    rw [hQ]
    exact pn_retv hx hb hr hlocks hP hS dX7_rename_83
def lp_X7_copyNote_13 (r_q2 : Nat → Int32) (p1 : Int32) (p3 : Int32) : Nat → Int32 → (Nat → Int32) → Option ((Nat → Int32))
  | 0, _, _ => none
  | n + 1, x4, r_q0 =>
    if (32 : Int32) ≤ x4 then
  some r_q0
  else
  pn_rd 265 r_q2 (((9 : Int32) + ((32 : Int32) * p3)) + x4) fun w2 =>
  pn_wrI 265 r_q0 (((9 : Int32) + ((32 : Int32) * p1)) + x4) w2 fun g4 =>
  pn_nm (x4 + (1 : Int32)) fun z6 =>
  lp_X7_copyNote_13 r_q2 p1 p3 n z6 g4
def f_X7_copyNote (N : Nat) (r_q0 : Nat → Int32) (r_q2 : Nat → Int32) (p1 : Int32) (p3 : Int32) : Option ((Nat → Int32)) :=
  pn_rd 265 r_q2 ((1 : Int32) + p3) fun w7 =>
  pn_wrI 265 r_q0 ((1 : Int32) + p1) w7 fun g9 =>
  pn_bd1 (lp_X7_copyNote_13 r_q2 p1 p3 N (0 : Int32) g9) (fun X13 => (pn_u1 fun r_q0_w11 => some r_q0_w11) X13)
set_option maxHeartbeats 4000000 in
set_option maxRecDepth 100000 in
theorem c_X7_copyNote (l : Launch) (D : va_G) (cI cJ cZ : ClassId) (a_q0 a_q2 : Nat) (sz : Nat) (N : Nat) (r_q0 : Nat → Int32) (r_q2 : Nat → Int32) (p1 : Int32) (p3 : Int32) (o_q0 : Nat → Int32) (hf : f_X7_copyNote N r_q0 r_q2 p1 p3 = some o_q0) : Met l yX7_copyNote wsX7_copyNote { frames := 0, cells := 0, slots := 0, locals := 0 } (pn_Pc D cI cJ cZ [.ref a_q0, .int p1, .ref a_q2, .int p3] [(a_q0, .inl (cI, 265, .inl r_q0)), (a_q2, .inl (cI, 265, .inl r_q2))] sz) (pn_Qv D [(a_q0, .inl (cI, 265, .inl o_q0)), (a_q2, .inl (cI, 265, .inl r_q2))] (va_A [(a_q0, .inl (cI, 265, .inl r_q0)), (a_q2, .inl (cI, 265, .inl r_q2))] sz)) 0 0 (va_A [(a_q0, .inl (cI, 265, .inl r_q0)), (a_q2, .inl (cI, 265, .inl r_q2))] sz) := by
  refine pn_entry (cc := cX7_copyNote) (maxL := 5) (ret := none) (Qf := pn_Qv D [(a_q0, .inl (cI, 265, .inl o_q0)), (a_q2, .inl (cI, 265, .inl r_q2))]) (by decide) rfl (Nat.le_of_ble_eq_true rfl) ?_
  intro p e s m args below meth c A ls H locs Qm hQ hx hb hr hlocks hml hown hts hK hP hD hA hS hl
  have hl : lv_has ls 5 [(0, .ref a_q0), (1, .int p1), (2, .ref a_q2), (3, .int p3)] := hl
  rw [f_X7_copyNote] at hf
  have lp13 : ∀ (n : Nat) (x4 : Int32) (r_q0 : Nat → Int32) (X : (Nat → Int32)) (H : Heap) (locs : List Loc) (ls : Array Slot), lp_X7_copyNote_13 r_q2 p1 p3 n x4 r_q0 = some X → va_P D vwCl [(a_q0, .inl (cI, 265, .inl r_q0)), (a_q2, .inl (cI, 265, .inl r_q2))] H → va_S A s.heap H locs → lv_has ls 5 [(0, .ref a_q0), (1, .int p1), (2, .ref a_q2), (3, .int p3), (4, .int x4)] → (∀  (r_q0' : Nat → Int32) (H : Heap) (locs : List Loc) (ls : Array Slot), X = r_q0' → va_P D vwCl [(a_q0, .inl (cI, 265, .inl (r_q0'))), (a_q2, .inl (cI, 265, .inl r_q2))] H → va_S A s.heap H locs → lv_has ls 5 [] → W p l e { frames := 0, cells := 0, slots := 0, locals := 0 } s m args below meth c H locs 0 0 Qm (F0 m 50 ls [])) → W p l e { frames := 0, cells := 0, slots := 0, locals := 0 } s m args below meth c H locs 0 0 Qm (F0 m 13 ls []) := by
    intro n
    induction n with
    | zero => intro x4 r_q0 X H locs ls hf; cases hf
    | succ n ih =>
      intro x4 r_q0 X H locs ls hf hP hS hl kx50
      rw [lp_X7_copyNote_13] at hf
      refine lv_iload hx hb dX7_copyNote_13 (lv_at hl 4 rfl) ?_
      refine lv_bipush (v := (32)) hx hb dX7_copyNote_15 (by decide) ?_
      refine lv_icmp_ge (tgt := 50) hx hb dX7_copyNote_17 (by decide) (fun c1 => ?_) (fun c1 => ?_)
      · have hf := pn_ifp c1 hf
        exact kx50 r_q0 H locs ls (Option.some.inj hf).symm hP hS (lv_sub hl [] rfl)
      · have hf := pn_ifn c1 hf
        refine lv_aload_n hx hb dX7_copyNote_20 rfl (lv_at hl 0 rfl) ?_
        refine lv_bipush (v := (9)) hx hb dX7_copyNote_21 (by decide) ?_
        refine lv_bipush (v := (32)) hx hb dX7_copyNote_23 (by decide) ?_
        refine lv_iload_n hx hb dX7_copyNote_25 rfl (lv_at hl 1 rfl) ?_
        refine lv_imul hx hb dX7_copyNote_26 ?_
        refine lv_iadd hx hb dX7_copyNote_27 ?_
        refine lv_iload hx hb dX7_copyNote_28 (lv_at hl 4 rfl) ?_
        refine lv_iadd hx hb dX7_copyNote_30 ?_
        refine lv_aload_n hx hb dX7_copyNote_31 rfl (lv_at hl 2 rfl) ?_
        refine lv_bipush (v := (9)) hx hb dX7_copyNote_32 (by decide) ?_
        refine lv_bipush (v := (32)) hx hb dX7_copyNote_34 (by decide) ?_
        refine lv_iload_n hx hb dX7_copyNote_36 rfl (lv_at hl 3 rfl) ?_
        refine lv_imul hx hb dX7_copyNote_37 ?_
        refine lv_iadd hx hb dX7_copyNote_38 ?_
        refine lv_iload hx hb dX7_copyNote_39 (lv_at hl 4 rfl) ?_
        refine lv_iadd hx hb dX7_copyNote_41 ?_
        obtain ⟨hi3, w2, ew2, hf⟩ := pn_rd_at hf
        refine pn_ldI hx hb hK.1 hP 1 0 rfl rfl hi3 ew2 dX7_copyNote_42 ?_
        obtain ⟨hi5, g4, eg4, hf⟩ := pn_wrI_at hf
        refine pn_stI hx hb hK.1 hP (hD.addr rfl) hS 0 0 rfl rfl hi5 eg4 dX7_copyNote_43 (fun H locs (hP : va_P D vwCl [(a_q0, .inl (cI, 265, .inl g4)), (a_q2, .inl (cI, 265, .inl r_q2))] H) _ hS => ?_)
        obtain ⟨z6, ez6⟩ : ∃ y : Int32, y = x4 + (1) := ⟨_, rfl⟩
        have hf := pn_nm_at ez6 hf
        refine lv_iinc (v := z6) (lv' := [(4, .int z6), (0, .ref a_q0), (1, .int p1), (2, .ref a_q2), (3, .int p3)]) hx hb dX7_copyNote_44 hl (k := 4) rfl (by rw [ez6]; rfl) (by decide) rfl (fun ls hl => ?_)
        refine lv_goto (tgt := 13) hx hb dX7_copyNote_47 (by decide) ?_
        exact ih z6 g4 X H locs ls hf hP hS (lv_sub hl [1, 2, 3, 4, 0] rfl) kx50
  refine lv_aload_n hx hb dX7_copyNote_0 rfl (lv_at hl 0 rfl) ?_
  refine lv_iconst (v := (1)) hx hb dX7_copyNote_1 (by decide) ?_
  refine lv_iload_n hx hb dX7_copyNote_2 rfl (lv_at hl 1 rfl) ?_
  refine lv_iadd hx hb dX7_copyNote_3 ?_
  refine lv_aload_n hx hb dX7_copyNote_4 rfl (lv_at hl 2 rfl) ?_
  refine lv_iconst (v := (1)) hx hb dX7_copyNote_5 (by decide) ?_
  refine lv_iload_n hx hb dX7_copyNote_6 rfl (lv_at hl 3 rfl) ?_
  refine lv_iadd hx hb dX7_copyNote_7 ?_
  obtain ⟨hi8, w7, ew7, hf⟩ := pn_rd_at hf
  refine pn_ldI hx hb hK.1 hP 1 0 rfl rfl hi8 ew7 dX7_copyNote_8 ?_
  obtain ⟨hi10, g9, eg9, hf⟩ := pn_wrI_at hf
  refine pn_stI hx hb hK.1 hP (hD.addr rfl) hS 0 0 rfl rfl hi10 eg9 dX7_copyNote_9 (fun H locs (hP : va_P D vwCl [(a_q0, .inl (cI, 265, .inl g9)), (a_q2, .inl (cI, 265, .inl r_q2))] H) _ hS => ?_)
  refine lv_iconst (v := (0)) hx hb dX7_copyNote_10 (by decide) ?_
  refine lv_istore (lv' := [(4, .int (0 : Int32)), (0, .ref a_q0), (1, .int p1), (2, .ref a_q2), (3, .int p3)]) hx hb dX7_copyNote_11 hl (by decide) rfl (fun ls hl => ?_)
  obtain ⟨X13, hX13, hf⟩ := pn_bd1_at hf
  refine lp13 N (0 : Int32) g9 X13 H locs ls hX13 hP hS (lv_sub hl [1, 2, 3, 4, 0] rfl) ?_
  · intro r_q0_w11 H locs ls eX hP hS hl
    rw [eX] at hf
    have hf := pn_u1_at hf
    cases hf
    rw [hQ]
    exact pn_retv hx hb hr hlocks hP hS dX7_copyNote_50
def lp_X7_copyNote_al_13 (p1 : Int32) (p3 : Int32) : Nat → Int32 → (Nat → Int32) → Option ((Nat → Int32))
  | 0, _, _ => none
  | n + 1, x4, r_q0 =>
    if (32 : Int32) ≤ x4 then
  some r_q0
  else
  pn_rd 265 r_q0 (((9 : Int32) + ((32 : Int32) * p3)) + x4) fun w2 =>
  pn_wrI 265 r_q0 (((9 : Int32) + ((32 : Int32) * p1)) + x4) w2 fun g4 =>
  pn_nm (x4 + (1 : Int32)) fun z6 =>
  lp_X7_copyNote_al_13 p1 p3 n z6 g4
def f_X7_copyNote_al (N : Nat) (r_q0 : Nat → Int32) (p1 : Int32) (p3 : Int32) : Option ((Nat → Int32)) :=
  pn_rd 265 r_q0 ((1 : Int32) + p3) fun w7 =>
  pn_wrI 265 r_q0 ((1 : Int32) + p1) w7 fun g9 =>
  pn_bd1 (lp_X7_copyNote_al_13 p1 p3 N (0 : Int32) g9) (fun X13 => (pn_u1 fun r_q0_w11 => some r_q0_w11) X13)
set_option maxHeartbeats 4000000 in
set_option maxRecDepth 100000 in
theorem c_X7_copyNote_al (l : Launch) (D : va_G) (cI cJ cZ : ClassId) (a_q0 : Nat) (sz : Nat) (N : Nat) (r_q0 : Nat → Int32) (p1 : Int32) (p3 : Int32) (o_q0 : Nat → Int32) (hf : f_X7_copyNote_al N r_q0 p1 p3 = some o_q0) : Met l yX7_copyNote wsX7_copyNote { frames := 0, cells := 0, slots := 0, locals := 0 } (pn_Pc D cI cJ cZ [.ref a_q0, .int p1, .ref a_q0, .int p3] [(a_q0, .inl (cI, 265, .inl r_q0))] sz) (pn_Qv D [(a_q0, .inl (cI, 265, .inl o_q0))] (va_A [(a_q0, .inl (cI, 265, .inl r_q0))] sz)) 0 0 (va_A [(a_q0, .inl (cI, 265, .inl r_q0))] sz) := by
  refine pn_entry (cc := cX7_copyNote) (maxL := 5) (ret := none) (Qf := pn_Qv D [(a_q0, .inl (cI, 265, .inl o_q0))]) (by decide) rfl (Nat.le_of_ble_eq_true rfl) ?_
  intro p e s m args below meth c A ls H locs Qm hQ hx hb hr hlocks hml hown hts hK hP hD hA hS hl
  have hl : lv_has ls 5 [(0, .ref a_q0), (1, .int p1), (2, .ref a_q0), (3, .int p3)] := hl
  rw [f_X7_copyNote_al] at hf
  have lp13 : ∀ (n : Nat) (x4 : Int32) (r_q0 : Nat → Int32) (X : (Nat → Int32)) (H : Heap) (locs : List Loc) (ls : Array Slot), lp_X7_copyNote_al_13 p1 p3 n x4 r_q0 = some X → va_P D vwCl [(a_q0, .inl (cI, 265, .inl r_q0))] H → va_S A s.heap H locs → lv_has ls 5 [(0, .ref a_q0), (1, .int p1), (2, .ref a_q0), (3, .int p3), (4, .int x4)] → (∀  (r_q0' : Nat → Int32) (H : Heap) (locs : List Loc) (ls : Array Slot), X = r_q0' → va_P D vwCl [(a_q0, .inl (cI, 265, .inl (r_q0')))] H → va_S A s.heap H locs → lv_has ls 5 [] → W p l e { frames := 0, cells := 0, slots := 0, locals := 0 } s m args below meth c H locs 0 0 Qm (F0 m 50 ls [])) → W p l e { frames := 0, cells := 0, slots := 0, locals := 0 } s m args below meth c H locs 0 0 Qm (F0 m 13 ls []) := by
    intro n
    induction n with
    | zero => intro x4 r_q0 X H locs ls hf; cases hf
    | succ n ih =>
      intro x4 r_q0 X H locs ls hf hP hS hl kx50
      rw [lp_X7_copyNote_al_13] at hf
      refine lv_iload hx hb dX7_copyNote_13 (lv_at hl 4 rfl) ?_
      refine lv_bipush (v := (32)) hx hb dX7_copyNote_15 (by decide) ?_
      refine lv_icmp_ge (tgt := 50) hx hb dX7_copyNote_17 (by decide) (fun c1 => ?_) (fun c1 => ?_)
      · have hf := pn_ifp c1 hf
        exact kx50 r_q0 H locs ls (Option.some.inj hf).symm hP hS (lv_sub hl [] rfl)
      · have hf := pn_ifn c1 hf
        refine lv_aload_n hx hb dX7_copyNote_20 rfl (lv_at hl 0 rfl) ?_
        refine lv_bipush (v := (9)) hx hb dX7_copyNote_21 (by decide) ?_
        refine lv_bipush (v := (32)) hx hb dX7_copyNote_23 (by decide) ?_
        refine lv_iload_n hx hb dX7_copyNote_25 rfl (lv_at hl 1 rfl) ?_
        refine lv_imul hx hb dX7_copyNote_26 ?_
        refine lv_iadd hx hb dX7_copyNote_27 ?_
        refine lv_iload hx hb dX7_copyNote_28 (lv_at hl 4 rfl) ?_
        refine lv_iadd hx hb dX7_copyNote_30 ?_
        refine lv_aload_n hx hb dX7_copyNote_31 rfl (lv_at hl 2 rfl) ?_
        refine lv_bipush (v := (9)) hx hb dX7_copyNote_32 (by decide) ?_
        refine lv_bipush (v := (32)) hx hb dX7_copyNote_34 (by decide) ?_
        refine lv_iload_n hx hb dX7_copyNote_36 rfl (lv_at hl 3 rfl) ?_
        refine lv_imul hx hb dX7_copyNote_37 ?_
        refine lv_iadd hx hb dX7_copyNote_38 ?_
        refine lv_iload hx hb dX7_copyNote_39 (lv_at hl 4 rfl) ?_
        refine lv_iadd hx hb dX7_copyNote_41 ?_
        obtain ⟨hi3, w2, ew2, hf⟩ := pn_rd_at hf
        refine pn_ldI hx hb hK.1 hP 0 0 rfl rfl hi3 ew2 dX7_copyNote_42 ?_
        obtain ⟨hi5, g4, eg4, hf⟩ := pn_wrI_at hf
        refine pn_stI hx hb hK.1 hP (hD.addr rfl) hS 0 0 rfl rfl hi5 eg4 dX7_copyNote_43 (fun H locs (hP : va_P D vwCl [(a_q0, .inl (cI, 265, .inl g4))] H) _ hS => ?_)
        obtain ⟨z6, ez6⟩ : ∃ y : Int32, y = x4 + (1) := ⟨_, rfl⟩
        have hf := pn_nm_at ez6 hf
        refine lv_iinc (v := z6) (lv' := [(4, .int z6), (0, .ref a_q0), (1, .int p1), (2, .ref a_q0), (3, .int p3)]) hx hb dX7_copyNote_44 hl (k := 4) rfl (by rw [ez6]; rfl) (by decide) rfl (fun ls hl => ?_)
        refine lv_goto (tgt := 13) hx hb dX7_copyNote_47 (by decide) ?_
        exact ih z6 g4 X H locs ls hf hP hS (lv_sub hl [1, 2, 3, 4, 0] rfl) kx50
  refine lv_aload_n hx hb dX7_copyNote_0 rfl (lv_at hl 0 rfl) ?_
  refine lv_iconst (v := (1)) hx hb dX7_copyNote_1 (by decide) ?_
  refine lv_iload_n hx hb dX7_copyNote_2 rfl (lv_at hl 1 rfl) ?_
  refine lv_iadd hx hb dX7_copyNote_3 ?_
  refine lv_aload_n hx hb dX7_copyNote_4 rfl (lv_at hl 2 rfl) ?_
  refine lv_iconst (v := (1)) hx hb dX7_copyNote_5 (by decide) ?_
  refine lv_iload_n hx hb dX7_copyNote_6 rfl (lv_at hl 3 rfl) ?_
  refine lv_iadd hx hb dX7_copyNote_7 ?_
  obtain ⟨hi8, w7, ew7, hf⟩ := pn_rd_at hf
  refine pn_ldI hx hb hK.1 hP 0 0 rfl rfl hi8 ew7 dX7_copyNote_8 ?_
  obtain ⟨hi10, g9, eg9, hf⟩ := pn_wrI_at hf
  refine pn_stI hx hb hK.1 hP (hD.addr rfl) hS 0 0 rfl rfl hi10 eg9 dX7_copyNote_9 (fun H locs (hP : va_P D vwCl [(a_q0, .inl (cI, 265, .inl g9))] H) _ hS => ?_)
  refine lv_iconst (v := (0)) hx hb dX7_copyNote_10 (by decide) ?_
  refine lv_istore (lv' := [(4, .int (0 : Int32)), (0, .ref a_q0), (1, .int p1), (2, .ref a_q0), (3, .int p3)]) hx hb dX7_copyNote_11 hl (by decide) rfl (fun ls hl => ?_)
  obtain ⟨X13, hX13, hf⟩ := pn_bd1_at hf
  refine lp13 N (0 : Int32) g9 X13 H locs ls hX13 hP hS (lv_sub hl [1, 2, 3, 4, 0] rfl) ?_
  · intro r_q0_w11 H locs ls eX hP hS hl
    rw [eX] at hf
    have hf := pn_u1_at hf
    cases hf
    rw [hQ]
    exact pn_retv hx hb hr hlocks hP hS dX7_copyNote_50
def lp_X7_put_132 (N : Nat) (p1 : Int32) : Nat → Int32 → (Nat → Int32) → Option ((Nat → Int32))
  | 0, _, _ => none
  | n + 1, x3, r_t_page =>
    if x3 ≤ p1 then
  some r_t_page
  else
  pn_bd1 (f_X7_copyNote_al N r_t_page x3 (x3 - (1 : Int32))) fun r_t_page_u2 =>
  pn_nm (x3 + (-1 : Int32)) fun z3 =>
  lp_X7_put_132 N p1 n z3 r_t_page_u2
def lp_X7_put_76 (p1 : Int32) : Nat → Int32 → (Nat → Int32) → Option ((Nat → Int32))
  | 0, _, _ => none
  | n + 1, x3, r_t_renamed =>
    if (8 : Int32) ≤ x3 then
  some r_t_renamed
  else
  if p1 ≤ x3 then
  pn_wrI 8 r_t_renamed x3 (x3 + (1 : Int32)) fun g6 =>
  pn_nm (x3 + (1 : Int32)) fun z8 =>
  lp_X7_put_76 p1 n z8 g6
  else
  pn_wrI 8 r_t_renamed x3 x3 fun g9 =>
  pn_nm (x3 + (1 : Int32)) fun z11 =>
  lp_X7_put_76 p1 n z11 g9
def j_X7_put_125 (N : Nat) (p1 : Int32) (v_t_thrown : Int32) (v_t_place : Int32) (v_t_doings : Int32) (r_t_book : Nat → Int32) (r_t_page : Nat → Int32) (r_t_readPage : Nat → Int32) (r_t_renamed : Nat → Int32) : Option (Int32 × Int32 × Int32 × Int32 × (Nat → Int32) × (Nat → Int32) × (Nat → Int32) × (Nat → Int32)) :=
  pn_rd 265 r_t_page (0 : Int32) fun w12 =>
  pn_bd1 (lp_X7_put_132 N p1 N w12 r_t_page) (fun X132 => (pn_u1 fun r_t_page_w14 => pn_bd1 (f_X7_copyNote N r_t_page_w14 r_t_readPage p1 (0 : Int32)) fun r_t_page_u15 =>
  pn_rd 265 r_t_page_u15 (0 : Int32) fun w16 =>
  pn_wrI 265 r_t_page_u15 (0 : Int32) (w16 + (1 : Int32)) fun g18 =>
  pn_rd 265 g18 (0 : Int32) fun w20 =>
  some (w20, v_t_thrown, v_t_place, v_t_doings, r_t_book, g18, r_t_readPage, r_t_renamed)) X132)
def f_X7_put (N : Nat) (v_t_thrown : Int32) (v_t_textSize : Int32) (v_t_place : Int32) (v_t_doings : Int32) (r_t_book : Nat → Int32) (r_t_page : Nat → Int32) (r_t_readPage : Nat → Int32) (r_t_renamed : Nat → Int32) (r_t_text : Nat → Int32) (p1 : Int32) (p2 : Int32) : Option (Int32 × Int32 × Int32 × Int32 × (Nat → Int32) × (Nat → Int32) × (Nat → Int32) × (Nat → Int32)) :=
  pn_rd 265 r_t_page (0 : Int32) fun w22 =>
  pn_bd1 (f_X7_in p1.toInt64 (0 : Int64) w22.toInt64) fun ru24 =>
  if ru24 = 0 then
  some ((-2 : Int32), (0 : Int32), v_t_place, v_t_doings, r_t_book, r_t_page, r_t_readPage, r_t_renamed)
  else
  pn_bd1 (f_X7_in p2.toInt64 (0 : Int64) (1 : Int64)) fun ru26 =>
  if ¬ ru26 = 0 then
  pn_bd3 (f_X7_readPaper N v_t_textSize v_t_place r_t_readPage r_t_text) fun ru28 v_t_place_u28 r_t_readPage_u28 =>
  if ¬ ru28 = (-9 : Int32) then
  some ((-3 : Int32), (0 : Int32), v_t_place_u28, v_t_doings, r_t_book, r_t_page, r_t_readPage_u28, r_t_renamed)
  else
  pn_rd 265 r_t_readPage_u28 (0 : Int32) fun w30 =>
  if w30 = (1 : Int32) then
  pn_rd 265 r_t_page (0 : Int32) fun w33 =>
  if ¬ w33 = (8 : Int32) then
  pn_bd2 (f_X7_note N v_t_doings r_t_book r_t_page) fun v_t_doings_u36 r_t_book_u36 =>
  pn_bd1 (lp_X7_put_76 p1 N (0 : Int32) r_t_renamed) (fun X76 => (pn_u1 fun r_t_renamed_w37 => if ¬ p2 = (1 : Int32) then
  j_X7_put_125 N p1 (0 : Int32) v_t_place_u28 v_t_doings_u36 r_t_book_u36 r_t_page r_t_readPage_u28 r_t_renamed_w37
  else
  pn_rd 265 r_t_page (0 : Int32) fun w39 =>
  pn_bd1 (f_X7_rename N r_t_renamed_w37 r_t_page w39) fun r_t_page_u41 =>
  j_X7_put_125 N p1 (0 : Int32) v_t_place_u28 v_t_doings_u36 r_t_book_u36 r_t_page_u41 r_t_readPage_u28 r_t_renamed_w37) X76)
  else
  some ((-4 : Int32), (0 : Int32), v_t_place_u28, v_t_doings, r_t_book, r_t_page, r_t_readPage_u28, r_t_renamed)
  else
  some ((-3 : Int32), (0 : Int32), v_t_place_u28, v_t_doings, r_t_book, r_t_page, r_t_readPage_u28, r_t_renamed)
  else
  some ((-2 : Int32), (0 : Int32), v_t_place, v_t_doings, r_t_book, r_t_page, r_t_readPage, r_t_renamed)
set_option maxHeartbeats 4000000 in
set_option maxRecDepth 100000 in
theorem c_X7_put (l : Launch) (D : va_G) (cI cJ cZ : ClassId) (a_t a_t_text a_t_readPage a_t_page a_t_trial a_t_work a_t_book a_t_kept a_t_isKept a_t_seenWhat a_t_seenV a_t_seenIs a_t_label a_t_finds a_t_reason a_t_caseFirst a_t_brief a_t_printed a_t_renamed a_t_worth : Nat) (sz : Nat) (v_t_seen : Int32) (v_t_seed : Int64) (v_t_cases : Int32) (v_t_printedSize : Int32) (v_t_lastReason : Int32) (N : Nat) (v_t_thrown : Int32) (v_t_textSize : Int32) (v_t_place : Int32) (v_t_doings : Int32) (r_t_book : Nat → Int32) (r_t_page : Nat → Int32) (r_t_readPage : Nat → Int32) (r_t_renamed : Nat → Int32) (r_t_text : Nat → Int32) (p1 : Int32) (p2 : Int32) (rR : Int32) (o_t_thrown : Int32) (o_t_place : Int32) (o_t_doings : Int32) (o_t_book : Nat → Int32) (o_t_page : Nat → Int32) (o_t_readPage : Nat → Int32) (o_t_renamed : Nat → Int32) (hf : f_X7_put N v_t_thrown v_t_textSize v_t_place v_t_doings r_t_book r_t_page r_t_readPage r_t_renamed r_t_text p1 p2 = some (rR, o_t_thrown, o_t_place, o_t_doings, o_t_book, o_t_page, o_t_readPage, o_t_renamed)) : Met l yX7_put wsX7_put { frames := 8, cells := 0, slots := 0, locals := 186 } (pn_Pc D cI cJ cZ [.ref a_t, .int p1, .int p2] [(a_t, .inr (6, [.int v_t_thrown, .ref a_t_text, .int v_t_textSize, .int v_t_place, .ref a_t_readPage, .ref a_t_page, .ref a_t_trial, .ref a_t_work, .ref a_t_book, .int v_t_doings, .ref a_t_kept, .ref a_t_isKept, .int v_t_seen, .ref a_t_seenWhat, .ref a_t_seenV, .ref a_t_seenIs, .long v_t_seed, .ref a_t_label, .ref a_t_finds, .ref a_t_reason, .ref a_t_caseFirst, .int v_t_cases, .ref a_t_brief, .ref a_t_printed, .int v_t_printedSize, .ref a_t_renamed, .ref a_t_worth, .int v_t_lastReason])), (a_t_book, .inl (cI, 3710, .inl r_t_book)), (a_t_page, .inl (cI, 265, .inl r_t_page)), (a_t_readPage, .inl (cI, 265, .inl r_t_readPage)), (a_t_renamed, .inl (cI, 8, .inl r_t_renamed)), (a_t_text, .inl (cI, 120, .inl r_t_text))] sz) (pn_Qi D rR [(a_t, .inr (6, [.int o_t_thrown, .ref a_t_text, .int v_t_textSize, .int o_t_place, .ref a_t_readPage, .ref a_t_page, .ref a_t_trial, .ref a_t_work, .ref a_t_book, .int o_t_doings, .ref a_t_kept, .ref a_t_isKept, .int v_t_seen, .ref a_t_seenWhat, .ref a_t_seenV, .ref a_t_seenIs, .long v_t_seed, .ref a_t_label, .ref a_t_finds, .ref a_t_reason, .ref a_t_caseFirst, .int v_t_cases, .ref a_t_brief, .ref a_t_printed, .int v_t_printedSize, .ref a_t_renamed, .ref a_t_worth, .int v_t_lastReason])), (a_t_book, .inl (cI, 3710, .inl o_t_book)), (a_t_page, .inl (cI, 265, .inl o_t_page)), (a_t_readPage, .inl (cI, 265, .inl o_t_readPage)), (a_t_renamed, .inl (cI, 8, .inl o_t_renamed)), (a_t_text, .inl (cI, 120, .inl r_t_text))] (va_A [(a_t, .inr (6, [.int v_t_thrown, .ref a_t_text, .int v_t_textSize, .int v_t_place, .ref a_t_readPage, .ref a_t_page, .ref a_t_trial, .ref a_t_work, .ref a_t_book, .int v_t_doings, .ref a_t_kept, .ref a_t_isKept, .int v_t_seen, .ref a_t_seenWhat, .ref a_t_seenV, .ref a_t_seenIs, .long v_t_seed, .ref a_t_label, .ref a_t_finds, .ref a_t_reason, .ref a_t_caseFirst, .int v_t_cases, .ref a_t_brief, .ref a_t_printed, .int v_t_printedSize, .ref a_t_renamed, .ref a_t_worth, .int v_t_lastReason])), (a_t_book, .inl (cI, 3710, .inl r_t_book)), (a_t_page, .inl (cI, 265, .inl r_t_page)), (a_t_readPage, .inl (cI, 265, .inl r_t_readPage)), (a_t_renamed, .inl (cI, 8, .inl r_t_renamed)), (a_t_text, .inl (cI, 120, .inl r_t_text))] sz)) 0 0 (va_A [(a_t, .inr (6, [.int v_t_thrown, .ref a_t_text, .int v_t_textSize, .int v_t_place, .ref a_t_readPage, .ref a_t_page, .ref a_t_trial, .ref a_t_work, .ref a_t_book, .int v_t_doings, .ref a_t_kept, .ref a_t_isKept, .int v_t_seen, .ref a_t_seenWhat, .ref a_t_seenV, .ref a_t_seenIs, .long v_t_seed, .ref a_t_label, .ref a_t_finds, .ref a_t_reason, .ref a_t_caseFirst, .int v_t_cases, .ref a_t_brief, .ref a_t_printed, .int v_t_printedSize, .ref a_t_renamed, .ref a_t_worth, .int v_t_lastReason])), (a_t_book, .inl (cI, 3710, .inl r_t_book)), (a_t_page, .inl (cI, 265, .inl r_t_page)), (a_t_readPage, .inl (cI, 265, .inl r_t_readPage)), (a_t_renamed, .inl (cI, 8, .inl r_t_renamed)), (a_t_text, .inl (cI, 120, .inl r_t_text))] sz) := by
  refine pn_entry (cc := cX7_put) (maxL := 4) (ret := (some .int)) (Qf := pn_Qi D rR [(a_t, .inr (6, [.int o_t_thrown, .ref a_t_text, .int v_t_textSize, .int o_t_place, .ref a_t_readPage, .ref a_t_page, .ref a_t_trial, .ref a_t_work, .ref a_t_book, .int o_t_doings, .ref a_t_kept, .ref a_t_isKept, .int v_t_seen, .ref a_t_seenWhat, .ref a_t_seenV, .ref a_t_seenIs, .long v_t_seed, .ref a_t_label, .ref a_t_finds, .ref a_t_reason, .ref a_t_caseFirst, .int v_t_cases, .ref a_t_brief, .ref a_t_printed, .int v_t_printedSize, .ref a_t_renamed, .ref a_t_worth, .int v_t_lastReason])), (a_t_book, .inl (cI, 3710, .inl o_t_book)), (a_t_page, .inl (cI, 265, .inl o_t_page)), (a_t_readPage, .inl (cI, 265, .inl o_t_readPage)), (a_t_renamed, .inl (cI, 8, .inl o_t_renamed)), (a_t_text, .inl (cI, 120, .inl r_t_text))]) (by decide) rfl (Nat.le_of_ble_eq_true rfl) ?_
  intro p e s m args below meth c A ls H locs Qm hQ hx hb hr hlocks hml hown hts hK hP hD hA hS hl
  have hl : lv_has ls 4 [(0, .ref a_t), (1, .int p1), (2, .int p2)] := hl
  have hinX7 : ∀ w ∈ wsX70, w ∈ wsX7_put := by decide +kernel
  have fl_13 := hts (.fieldLink RX7 13 "PointingNotesModel" "readPage" "[I") (by decide +kernel)
  have fl_16 := hts (.fieldLink RX7 16 "PointingNotesModel" "page" "[I") (by decide +kernel)
  have fl_62 := hts (.fieldLink RX7 62 "PointingNotesModel" "renamed" "[I") (by decide +kernel)
  have fl_68 := hts (.fieldLink RX7 68 "PointingNotesModel" "thrown" "I") (by decide +kernel)
  rw [f_X7_put] at hf
  have lp132 : ∀ (n : Nat) (x3 : Int32) (v_t_thrown : Int32) (v_t_place : Int32) (v_t_doings : Int32) (r_t_book : Nat → Int32) (r_t_page : Nat → Int32) (r_t_readPage : Nat → Int32) (r_t_renamed : Nat → Int32) (X : (Nat → Int32)) (H : Heap) (locs : List Loc) (ls : Array Slot), lp_X7_put_132 N p1 n x3 r_t_page = some X → va_P D vwCl [(a_t, .inr (6, [.int v_t_thrown, .ref a_t_text, .int v_t_textSize, .int v_t_place, .ref a_t_readPage, .ref a_t_page, .ref a_t_trial, .ref a_t_work, .ref a_t_book, .int v_t_doings, .ref a_t_kept, .ref a_t_isKept, .int v_t_seen, .ref a_t_seenWhat, .ref a_t_seenV, .ref a_t_seenIs, .long v_t_seed, .ref a_t_label, .ref a_t_finds, .ref a_t_reason, .ref a_t_caseFirst, .int v_t_cases, .ref a_t_brief, .ref a_t_printed, .int v_t_printedSize, .ref a_t_renamed, .ref a_t_worth, .int v_t_lastReason])), (a_t_book, .inl (cI, 3710, .inl r_t_book)), (a_t_page, .inl (cI, 265, .inl r_t_page)), (a_t_readPage, .inl (cI, 265, .inl r_t_readPage)), (a_t_renamed, .inl (cI, 8, .inl r_t_renamed)), (a_t_text, .inl (cI, 120, .inl r_t_text))] H → va_S A s.heap H locs → lv_has ls 4 [(0, .ref a_t), (1, .int p1), (3, .int x3)] → (∀  (r_t_page' : Nat → Int32) (H : Heap) (locs : List Loc) (ls : Array Slot), X = r_t_page' → va_P D vwCl [(a_t, .inr (6, [.int v_t_thrown, .ref a_t_text, .int v_t_textSize, .int v_t_place, .ref a_t_readPage, .ref a_t_page, .ref a_t_trial, .ref a_t_work, .ref a_t_book, .int v_t_doings, .ref a_t_kept, .ref a_t_isKept, .int v_t_seen, .ref a_t_seenWhat, .ref a_t_seenV, .ref a_t_seenIs, .long v_t_seed, .ref a_t_label, .ref a_t_finds, .ref a_t_reason, .ref a_t_caseFirst, .int v_t_cases, .ref a_t_brief, .ref a_t_printed, .int v_t_printedSize, .ref a_t_renamed, .ref a_t_worth, .int v_t_lastReason])), (a_t_book, .inl (cI, 3710, .inl r_t_book)), (a_t_page, .inl (cI, 265, .inl (r_t_page'))), (a_t_readPage, .inl (cI, 265, .inl r_t_readPage)), (a_t_renamed, .inl (cI, 8, .inl r_t_renamed)), (a_t_text, .inl (cI, 120, .inl r_t_text))] H → va_S A s.heap H locs → lv_has ls 4 [(0, .ref a_t), (1, .int p1)] → W p l e { frames := 8, cells := 0, slots := 0, locals := 186 } s m args below meth c H locs 0 0 Qm (F0 m 158 ls [])) → W p l e { frames := 8, cells := 0, slots := 0, locals := 186 } s m args below meth c H locs 0 0 Qm (F0 m 132 ls []) := by
    intro n
    induction n with
    | zero => intro x3 v_t_thrown v_t_place v_t_doings r_t_book r_t_page r_t_readPage r_t_renamed X H locs ls hf; cases hf
    | succ n ih =>
      intro x3 v_t_thrown v_t_place v_t_doings r_t_book r_t_page r_t_readPage r_t_renamed X H locs ls hf hP hS hl kx158
      rw [lp_X7_put_132] at hf
      refine lv_iload_n hx hb dX7_put_132 rfl (lv_at hl 2 rfl) ?_
      refine lv_iload_n hx hb dX7_put_133 rfl (lv_at hl 1 rfl) ?_
      refine lv_icmp_le (tgt := 158) hx hb dX7_put_134 (by decide) (fun c1 => ?_) (fun c1 => ?_)
      · have hf := pn_ifp c1 hf
        exact kx158 r_t_page H locs ls (Option.some.inj hf).symm hP hS (lv_sub hl [0, 1] rfl)
      · have hf := pn_ifn c1 hf
        refine lv_aload_n hx hb dX7_put_137 rfl (lv_at hl 0 rfl) ?_
        refine va_get (D := D) (ci := 6) (v := .ref a_t_page) (C := RX7) (T := TX7) (N := 28) hx hb hts hinX7 hown hK.1 hP 0 rfl rfl 5 (by decide) fl_16 (fun _ h9 => h9) rfl dX7_put_138 ?_
        refine lv_iload_n hx hb dX7_put_141 rfl (lv_at hl 2 rfl) ?_
        refine lv_aload_n hx hb dX7_put_142 rfl (lv_at hl 0 rfl) ?_
        refine va_get (D := D) (ci := 6) (v := .ref a_t_page) (C := RX7) (T := TX7) (N := 28) hx hb hts hinX7 hown hK.1 hP 0 rfl rfl 5 (by decide) fl_16 (fun _ h9 => h9) rfl dX7_put_143 ?_
        refine lv_iload_n hx hb dX7_put_146 rfl (lv_at hl 2 rfl) ?_
        refine lv_iconst (v := (1)) hx hb dX7_put_147 (by decide) ?_
        refine lv_isub hx hb dX7_put_148 ?_
        obtain ⟨r_t_page_u2, hu2, hf⟩ := pn_bd1_at hf
        refine pn_callv [2] (va_runS (As := [.ref a_t_page, .int x3, .ref a_t_page, .int (x3 - (1 : Int32))]) (rest := []) ⟨hx, hb, hml, hown, hts⟩ (c_X7_copyNote_al l D cI cJ cZ a_t_page H.size N r_t_page x3 (x3 - (1 : Int32)) r_t_page_u2 hu2) (va_cwS 4 hts gX7_put_X7_copyNote rfl rfl rfl hdX7_copyNote ⟨Nat.le_of_ble_eq_true rfl, Nat.le_of_ble_eq_true rfl⟩) (pn_preS [2] hP (hD.addr rfl) hK rfl rfl) rfl rfl hl.1 rfl (lv_room (Nat.le_of_ble_eq_true rfl)) dX7_put_149 ⟨Nat.zero_le _, Nat.zero_le _⟩) hP (hD.addr rfl) hS hA rfl rfl rfl (fun H locs (hP : va_P D vwCl [(a_t, .inr (6, [.int v_t_thrown, .ref a_t_text, .int v_t_textSize, .int v_t_place, .ref a_t_readPage, .ref a_t_page, .ref a_t_trial, .ref a_t_work, .ref a_t_book, .int v_t_doings, .ref a_t_kept, .ref a_t_isKept, .int v_t_seen, .ref a_t_seenWhat, .ref a_t_seenV, .ref a_t_seenIs, .long v_t_seed, .ref a_t_label, .ref a_t_finds, .ref a_t_reason, .ref a_t_caseFirst, .int v_t_cases, .ref a_t_brief, .ref a_t_printed, .int v_t_printedSize, .ref a_t_renamed, .ref a_t_worth, .int v_t_lastReason])), (a_t_book, .inl (cI, 3710, .inl r_t_book)), (a_t_page, .inl (cI, 265, .inl r_t_page_u2)), (a_t_readPage, .inl (cI, 265, .inl r_t_readPage)), (a_t_renamed, .inl (cI, 8, .inl r_t_renamed)), (a_t_text, .inl (cI, 120, .inl r_t_text))] H) _ hS => ?_)
        obtain ⟨z3, ez3⟩ : ∃ y : Int32, y = x3 + (-1) := ⟨_, rfl⟩
        have hf := pn_nm_at ez3 hf
        refine lv_iinc (v := z3) (lv' := [(3, .int z3), (0, .ref a_t), (1, .int p1)]) hx hb dX7_put_152 hl (k := 2) rfl (by rw [ez3]; rfl) (by decide) rfl (fun ls hl => ?_)
        refine lv_goto (tgt := 132) hx hb dX7_put_155 (by decide) ?_
        exact ih z3 v_t_thrown v_t_place v_t_doings r_t_book r_t_page_u2 r_t_readPage r_t_renamed X H locs ls hf hP hS (lv_sub hl [1, 2, 0] rfl) kx158
  have lp76 : ∀ (n : Nat) (x3 : Int32) (v_t_thrown : Int32) (v_t_place : Int32) (v_t_doings : Int32) (r_t_book : Nat → Int32) (r_t_page : Nat → Int32) (r_t_readPage : Nat → Int32) (r_t_renamed : Nat → Int32) (X : (Nat → Int32)) (H : Heap) (locs : List Loc) (ls : Array Slot), lp_X7_put_76 p1 n x3 r_t_renamed = some X → va_P D vwCl [(a_t, .inr (6, [.int v_t_thrown, .ref a_t_text, .int v_t_textSize, .int v_t_place, .ref a_t_readPage, .ref a_t_page, .ref a_t_trial, .ref a_t_work, .ref a_t_book, .int v_t_doings, .ref a_t_kept, .ref a_t_isKept, .int v_t_seen, .ref a_t_seenWhat, .ref a_t_seenV, .ref a_t_seenIs, .long v_t_seed, .ref a_t_label, .ref a_t_finds, .ref a_t_reason, .ref a_t_caseFirst, .int v_t_cases, .ref a_t_brief, .ref a_t_printed, .int v_t_printedSize, .ref a_t_renamed, .ref a_t_worth, .int v_t_lastReason])), (a_t_book, .inl (cI, 3710, .inl r_t_book)), (a_t_page, .inl (cI, 265, .inl r_t_page)), (a_t_readPage, .inl (cI, 265, .inl r_t_readPage)), (a_t_renamed, .inl (cI, 8, .inl r_t_renamed)), (a_t_text, .inl (cI, 120, .inl r_t_text))] H → va_S A s.heap H locs → lv_has ls 4 [(0, .ref a_t), (1, .int p1), (2, .int p2), (3, .int x3)] → (∀  (r_t_renamed' : Nat → Int32) (H : Heap) (locs : List Loc) (ls : Array Slot), X = r_t_renamed' → va_P D vwCl [(a_t, .inr (6, [.int v_t_thrown, .ref a_t_text, .int v_t_textSize, .int v_t_place, .ref a_t_readPage, .ref a_t_page, .ref a_t_trial, .ref a_t_work, .ref a_t_book, .int v_t_doings, .ref a_t_kept, .ref a_t_isKept, .int v_t_seen, .ref a_t_seenWhat, .ref a_t_seenV, .ref a_t_seenIs, .long v_t_seed, .ref a_t_label, .ref a_t_finds, .ref a_t_reason, .ref a_t_caseFirst, .int v_t_cases, .ref a_t_brief, .ref a_t_printed, .int v_t_printedSize, .ref a_t_renamed, .ref a_t_worth, .int v_t_lastReason])), (a_t_book, .inl (cI, 3710, .inl r_t_book)), (a_t_page, .inl (cI, 265, .inl r_t_page)), (a_t_readPage, .inl (cI, 265, .inl r_t_readPage)), (a_t_renamed, .inl (cI, 8, .inl (r_t_renamed'))), (a_t_text, .inl (cI, 120, .inl r_t_text))] H → va_S A s.heap H locs → lv_has ls 4 [(0, .ref a_t), (1, .int p1), (2, .int p2)] → W p l e { frames := 8, cells := 0, slots := 0, locals := 186 } s m args below meth c H locs 0 0 Qm (F0 m 106 ls [])) → W p l e { frames := 8, cells := 0, slots := 0, locals := 186 } s m args below meth c H locs 0 0 Qm (F0 m 76 ls []) := by
    intro n
    induction n with
    | zero => intro x3 v_t_thrown v_t_place v_t_doings r_t_book r_t_page r_t_readPage r_t_renamed X H locs ls hf; cases hf
    | succ n ih =>
      intro x3 v_t_thrown v_t_place v_t_doings r_t_book r_t_page r_t_readPage r_t_renamed X H locs ls hf hP hS hl kx106
      rw [lp_X7_put_76] at hf
      refine lv_iload_n hx hb dX7_put_76 rfl (lv_at hl 3 rfl) ?_
      refine lv_bipush (v := (8)) hx hb dX7_put_77 (by decide) ?_
      refine lv_icmp_ge (tgt := 106) hx hb dX7_put_79 (by decide) (fun c4 => ?_) (fun c4 => ?_)
      · have hf := pn_ifp c4 hf
        exact kx106 r_t_renamed H locs ls (Option.some.inj hf).symm hP hS (lv_sub hl [0, 1, 2] rfl)
      · have hf := pn_ifn c4 hf
        refine lv_aload_n hx hb dX7_put_82 rfl (lv_at hl 0 rfl) ?_
        refine va_get (D := D) (ci := 6) (v := .ref a_t_renamed) (C := RX7) (T := TX7) (N := 28) hx hb hts hinX7 hown hK.1 hP 0 rfl rfl 25 (by decide) fl_62 (fun _ h9 => h9) rfl dX7_put_83 ?_
        refine lv_iload_n hx hb dX7_put_86 rfl (lv_at hl 3 rfl) ?_
        refine lv_iload_n hx hb dX7_put_87 rfl (lv_at hl 3 rfl) ?_
        refine lv_iload_n hx hb dX7_put_88 rfl (lv_at hl 1 rfl) ?_
        refine lv_icmp_ge (tgt := 96) hx hb dX7_put_89 (by decide) (fun c5 => ?_) (fun c5 => ?_)
        · have hf := pn_ifp c5 hf
          refine lv_iload_n hx hb dX7_put_96 rfl (lv_at hl 3 rfl) ?_
          refine lv_iconst (v := (1)) hx hb dX7_put_97 (by decide) ?_
          refine lv_iadd hx hb dX7_put_98 ?_
          obtain ⟨hi7, g6, eg6, hf⟩ := pn_wrI_at hf
          refine pn_stI hx hb hK.1 hP (hD.addr rfl) hS 4 0 rfl rfl hi7 eg6 dX7_put_99 (fun H locs (hP : va_P D vwCl [(a_t, .inr (6, [.int v_t_thrown, .ref a_t_text, .int v_t_textSize, .int v_t_place, .ref a_t_readPage, .ref a_t_page, .ref a_t_trial, .ref a_t_work, .ref a_t_book, .int v_t_doings, .ref a_t_kept, .ref a_t_isKept, .int v_t_seen, .ref a_t_seenWhat, .ref a_t_seenV, .ref a_t_seenIs, .long v_t_seed, .ref a_t_label, .ref a_t_finds, .ref a_t_reason, .ref a_t_caseFirst, .int v_t_cases, .ref a_t_brief, .ref a_t_printed, .int v_t_printedSize, .ref a_t_renamed, .ref a_t_worth, .int v_t_lastReason])), (a_t_book, .inl (cI, 3710, .inl r_t_book)), (a_t_page, .inl (cI, 265, .inl r_t_page)), (a_t_readPage, .inl (cI, 265, .inl r_t_readPage)), (a_t_renamed, .inl (cI, 8, .inl g6)), (a_t_text, .inl (cI, 120, .inl r_t_text))] H) _ hS => ?_)
          obtain ⟨z8, ez8⟩ : ∃ y : Int32, y = x3 + (1) := ⟨_, rfl⟩
          have hf := pn_nm_at ez8 hf
          refine lv_iinc (v := z8) (lv' := [(3, .int z8), (0, .ref a_t), (1, .int p1), (2, .int p2)]) hx hb dX7_put_100 hl (k := 3) rfl (by rw [ez8]; rfl) (by decide) rfl (fun ls hl => ?_)
          refine lv_goto (tgt := 76) hx hb dX7_put_103 (by decide) ?_
          exact ih z8 v_t_thrown v_t_place v_t_doings r_t_book r_t_page r_t_readPage g6 X H locs ls hf hP hS (lv_sub hl [1, 2, 3, 0] rfl) kx106
        · have hf := pn_ifn c5 hf
          refine lv_iload_n hx hb dX7_put_92 rfl (lv_at hl 3 rfl) ?_
          refine lv_goto (tgt := 99) hx hb dX7_put_93 (by decide) ?_
          obtain ⟨hi10, g9, eg9, hf⟩ := pn_wrI_at hf
          refine pn_stI hx hb hK.1 hP (hD.addr rfl) hS 4 0 rfl rfl hi10 eg9 dX7_put_99 (fun H locs (hP : va_P D vwCl [(a_t, .inr (6, [.int v_t_thrown, .ref a_t_text, .int v_t_textSize, .int v_t_place, .ref a_t_readPage, .ref a_t_page, .ref a_t_trial, .ref a_t_work, .ref a_t_book, .int v_t_doings, .ref a_t_kept, .ref a_t_isKept, .int v_t_seen, .ref a_t_seenWhat, .ref a_t_seenV, .ref a_t_seenIs, .long v_t_seed, .ref a_t_label, .ref a_t_finds, .ref a_t_reason, .ref a_t_caseFirst, .int v_t_cases, .ref a_t_brief, .ref a_t_printed, .int v_t_printedSize, .ref a_t_renamed, .ref a_t_worth, .int v_t_lastReason])), (a_t_book, .inl (cI, 3710, .inl r_t_book)), (a_t_page, .inl (cI, 265, .inl r_t_page)), (a_t_readPage, .inl (cI, 265, .inl r_t_readPage)), (a_t_renamed, .inl (cI, 8, .inl g9)), (a_t_text, .inl (cI, 120, .inl r_t_text))] H) _ hS => ?_)
          obtain ⟨z11, ez11⟩ : ∃ y : Int32, y = x3 + (1) := ⟨_, rfl⟩
          have hf := pn_nm_at ez11 hf
          refine lv_iinc (v := z11) (lv' := [(3, .int z11), (0, .ref a_t), (1, .int p1), (2, .int p2)]) hx hb dX7_put_100 hl (k := 3) rfl (by rw [ez11]; rfl) (by decide) rfl (fun ls hl => ?_)
          refine lv_goto (tgt := 76) hx hb dX7_put_103 (by decide) ?_
          exact ih z11 v_t_thrown v_t_place v_t_doings r_t_book r_t_page r_t_readPage g9 X H locs ls hf hP hS (lv_sub hl [1, 2, 3, 0] rfl) kx106
  have jn125 : ∀ (v_t_thrown : Int32) (v_t_place : Int32) (v_t_doings : Int32) (r_t_book : Nat → Int32) (r_t_page : Nat → Int32) (r_t_readPage : Nat → Int32) (r_t_renamed : Nat → Int32) (H : Heap) (locs : List Loc) (ls : Array Slot), j_X7_put_125 N p1 v_t_thrown v_t_place v_t_doings r_t_book r_t_page r_t_readPage r_t_renamed = some (rR, o_t_thrown, o_t_place, o_t_doings, o_t_book, o_t_page, o_t_readPage, o_t_renamed) → va_P D vwCl [(a_t, .inr (6, [.int v_t_thrown, .ref a_t_text, .int v_t_textSize, .int v_t_place, .ref a_t_readPage, .ref a_t_page, .ref a_t_trial, .ref a_t_work, .ref a_t_book, .int v_t_doings, .ref a_t_kept, .ref a_t_isKept, .int v_t_seen, .ref a_t_seenWhat, .ref a_t_seenV, .ref a_t_seenIs, .long v_t_seed, .ref a_t_label, .ref a_t_finds, .ref a_t_reason, .ref a_t_caseFirst, .int v_t_cases, .ref a_t_brief, .ref a_t_printed, .int v_t_printedSize, .ref a_t_renamed, .ref a_t_worth, .int v_t_lastReason])), (a_t_book, .inl (cI, 3710, .inl r_t_book)), (a_t_page, .inl (cI, 265, .inl r_t_page)), (a_t_readPage, .inl (cI, 265, .inl r_t_readPage)), (a_t_renamed, .inl (cI, 8, .inl r_t_renamed)), (a_t_text, .inl (cI, 120, .inl r_t_text))] H → va_S A s.heap H locs → lv_has ls 4 [(0, .ref a_t), (1, .int p1)] → W p l e { frames := 8, cells := 0, slots := 0, locals := 186 } s m args below meth c H locs 0 0 Qm (F0 m 125 ls []) := by
    intro v_t_thrown v_t_place v_t_doings r_t_book r_t_page r_t_readPage r_t_renamed H locs ls hf hP hS hl
    rw [j_X7_put_125] at hf
    refine lv_aload_n hx hb dX7_put_125 rfl (lv_at hl 0 rfl) ?_
    refine va_get (D := D) (ci := 6) (v := .ref a_t_page) (C := RX7) (T := TX7) (N := 28) hx hb hts hinX7 hown hK.1 hP 0 rfl rfl 5 (by decide) fl_16 (fun _ h9 => h9) rfl dX7_put_126 ?_
    refine lv_iconst (v := (0)) hx hb dX7_put_129 (by decide) ?_
    obtain ⟨hi13, w12, ew12, hf⟩ := pn_rd_at hf
    refine pn_ldI hx hb hK.1 hP 2 0 rfl rfl hi13 ew12 dX7_put_130 ?_
    refine lv_istore_n (lv' := [(3, .int w12), (0, .ref a_t), (1, .int p1)]) hx hb dX7_put_131 rfl hl (by decide) rfl (fun ls hl => ?_)
    obtain ⟨X132, hX132, hf⟩ := pn_bd1_at hf
    refine lp132 N w12 v_t_thrown v_t_place v_t_doings r_t_book r_t_page r_t_readPage r_t_renamed X132 H locs ls hX132 hP hS (lv_sub hl [1, 2, 0] rfl) ?_
    · intro r_t_page_w14 H locs ls eX hP hS hl
      rw [eX] at hf
      have hf := pn_u1_at hf
      refine lv_aload_n hx hb dX7_put_158 rfl (lv_at hl 0 rfl) ?_
      refine va_get (D := D) (ci := 6) (v := .ref a_t_page) (C := RX7) (T := TX7) (N := 28) hx hb hts hinX7 hown hK.1 hP 0 rfl rfl 5 (by decide) fl_16 (fun _ h9 => h9) rfl dX7_put_159 ?_
      refine lv_iload_n hx hb dX7_put_162 rfl (lv_at hl 1 rfl) ?_
      refine lv_aload_n hx hb dX7_put_163 rfl (lv_at hl 0 rfl) ?_
      refine va_get (D := D) (ci := 6) (v := .ref a_t_readPage) (C := RX7) (T := TX7) (N := 28) hx hb hts hinX7 hown hK.1 hP 0 rfl rfl 4 (by decide) fl_13 (fun _ h9 => h9) rfl dX7_put_164 ?_
      refine lv_iconst (v := (0)) hx hb dX7_put_167 (by decide) ?_
      obtain ⟨r_t_page_u15, hu15, hf⟩ := pn_bd1_at hf
      refine pn_callv [2, 3] (va_runS (As := [.ref a_t_page, .int p1, .ref a_t_readPage, .int (0 : Int32)]) (rest := []) ⟨hx, hb, hml, hown, hts⟩ (c_X7_copyNote l D cI cJ cZ a_t_page a_t_readPage H.size N r_t_page_w14 r_t_readPage p1 (0 : Int32) r_t_page_u15 hu15) (va_cwS 4 hts gX7_put_X7_copyNote rfl rfl rfl hdX7_copyNote ⟨Nat.le_of_ble_eq_true rfl, Nat.le_of_ble_eq_true rfl⟩) (pn_preS [2, 3] hP (hD.addr rfl) hK rfl rfl) rfl rfl hl.1 rfl (lv_room (Nat.le_of_ble_eq_true rfl)) dX7_put_168 ⟨Nat.zero_le _, Nat.zero_le _⟩) hP (hD.addr rfl) hS hA rfl rfl rfl (fun H locs (hP : va_P D vwCl [(a_t, .inr (6, [.int v_t_thrown, .ref a_t_text, .int v_t_textSize, .int v_t_place, .ref a_t_readPage, .ref a_t_page, .ref a_t_trial, .ref a_t_work, .ref a_t_book, .int v_t_doings, .ref a_t_kept, .ref a_t_isKept, .int v_t_seen, .ref a_t_seenWhat, .ref a_t_seenV, .ref a_t_seenIs, .long v_t_seed, .ref a_t_label, .ref a_t_finds, .ref a_t_reason, .ref a_t_caseFirst, .int v_t_cases, .ref a_t_brief, .ref a_t_printed, .int v_t_printedSize, .ref a_t_renamed, .ref a_t_worth, .int v_t_lastReason])), (a_t_book, .inl (cI, 3710, .inl r_t_book)), (a_t_page, .inl (cI, 265, .inl r_t_page_u15)), (a_t_readPage, .inl (cI, 265, .inl r_t_readPage)), (a_t_renamed, .inl (cI, 8, .inl r_t_renamed)), (a_t_text, .inl (cI, 120, .inl r_t_text))] H) _ hS => ?_)
      refine lv_aload_n hx hb dX7_put_171 rfl (lv_at hl 0 rfl) ?_
      refine va_get (D := D) (ci := 6) (v := .ref a_t_page) (C := RX7) (T := TX7) (N := 28) hx hb hts hinX7 hown hK.1 hP 0 rfl rfl 5 (by decide) fl_16 (fun _ h9 => h9) rfl dX7_put_172 ?_
      refine lv_iconst (v := (0)) hx hb dX7_put_175 (by decide) ?_
      refine lv_dup2_11 hx hb dX7_put_176 rfl rfl ?_
      obtain ⟨hi17, w16, ew16, hf⟩ := pn_rd_at hf
      refine pn_ldI hx hb hK.1 hP 2 0 rfl rfl hi17 ew16 dX7_put_177 ?_
      refine lv_iconst (v := (1)) hx hb dX7_put_178 (by decide) ?_
      refine lv_iadd hx hb dX7_put_179 ?_
      obtain ⟨hi19, g18, eg18, hf⟩ := pn_wrI_at hf
      refine pn_stI hx hb hK.1 hP (hD.addr rfl) hS 2 0 rfl rfl hi19 eg18 dX7_put_180 (fun H locs (hP : va_P D vwCl [(a_t, .inr (6, [.int v_t_thrown, .ref a_t_text, .int v_t_textSize, .int v_t_place, .ref a_t_readPage, .ref a_t_page, .ref a_t_trial, .ref a_t_work, .ref a_t_book, .int v_t_doings, .ref a_t_kept, .ref a_t_isKept, .int v_t_seen, .ref a_t_seenWhat, .ref a_t_seenV, .ref a_t_seenIs, .long v_t_seed, .ref a_t_label, .ref a_t_finds, .ref a_t_reason, .ref a_t_caseFirst, .int v_t_cases, .ref a_t_brief, .ref a_t_printed, .int v_t_printedSize, .ref a_t_renamed, .ref a_t_worth, .int v_t_lastReason])), (a_t_book, .inl (cI, 3710, .inl r_t_book)), (a_t_page, .inl (cI, 265, .inl g18)), (a_t_readPage, .inl (cI, 265, .inl r_t_readPage)), (a_t_renamed, .inl (cI, 8, .inl r_t_renamed)), (a_t_text, .inl (cI, 120, .inl r_t_text))] H) _ hS => ?_)
      refine lv_aload_n hx hb dX7_put_181 rfl (lv_at hl 0 rfl) ?_
      refine va_get (D := D) (ci := 6) (v := .ref a_t_page) (C := RX7) (T := TX7) (N := 28) hx hb hts hinX7 hown hK.1 hP 0 rfl rfl 5 (by decide) fl_16 (fun _ h9 => h9) rfl dX7_put_182 ?_
      refine lv_iconst (v := (0)) hx hb dX7_put_185 (by decide) ?_
      obtain ⟨hi21, w20, ew20, hf⟩ := pn_rd_at hf
      refine pn_ldI hx hb hK.1 hP 2 0 rfl rfl hi21 ew20 dX7_put_186 ?_
      cases hf
      rw [hQ]
      exact pn_reti hx hb hr hlocks hP hS rfl dX7_put_187
  refine lv_aload_n hx hb dX7_put_0 rfl (lv_at hl 0 rfl) ?_
  refine lv_iconst (v := (0)) hx hb dX7_put_1 (by decide) ?_
  refine va_put (D := D) (ci := 6) (v := .int (0 : Int32)) (ty := .int) (C := RX7) (T := TX7) (N := 28) hx hb hts hinX7 tyX7 tyX7_ok nmX7 hown hK.1 hP (hD.addr rfl) hS 0 rfl rfl 0 (by decide) fl_68 (fun _ h9 => h9) rfl (by decide +kernel) rfl rfl (Nat.le_of_ble_eq_true rfl) dX7_put_2 (fun H locs (hP : va_P D vwCl [(a_t, .inr (6, [.int ((0 : Int32)), .ref a_t_text, .int v_t_textSize, .int v_t_place, .ref a_t_readPage, .ref a_t_page, .ref a_t_trial, .ref a_t_work, .ref a_t_book, .int v_t_doings, .ref a_t_kept, .ref a_t_isKept, .int v_t_seen, .ref a_t_seenWhat, .ref a_t_seenV, .ref a_t_seenIs, .long v_t_seed, .ref a_t_label, .ref a_t_finds, .ref a_t_reason, .ref a_t_caseFirst, .int v_t_cases, .ref a_t_brief, .ref a_t_printed, .int v_t_printedSize, .ref a_t_renamed, .ref a_t_worth, .int v_t_lastReason])), (a_t_book, .inl (cI, 3710, .inl r_t_book)), (a_t_page, .inl (cI, 265, .inl r_t_page)), (a_t_readPage, .inl (cI, 265, .inl r_t_readPage)), (a_t_renamed, .inl (cI, 8, .inl r_t_renamed)), (a_t_text, .inl (cI, 120, .inl r_t_text))] H) _ hS => ?_)
  refine lv_iload_n hx hb dX7_put_5 rfl (lv_at hl 1 rfl) ?_
  refine lv_i2l hx hb dX7_put_6 rfl ?_
  refine lv_lconst (v := 0) hx hb dX7_put_7 (by decide) ?_
  refine lv_aload_n hx hb dX7_put_8 rfl (lv_at hl 0 rfl) ?_
  refine va_get (D := D) (ci := 6) (v := .ref a_t_page) (C := RX7) (T := TX7) (N := 28) hx hb hts hinX7 hown hK.1 hP 0 rfl rfl 5 (by decide) fl_16 (fun _ h9 => h9) rfl dX7_put_9 ?_
  refine lv_iconst (v := (0)) hx hb dX7_put_12 (by decide) ?_
  obtain ⟨hi23, w22, ew22, hf⟩ := pn_rd_at hf
  refine pn_ldI hx hb hK.1 hP 2 0 rfl rfl hi23 ew22 dX7_put_13 ?_
  refine lv_i2l hx hb dX7_put_14 rfl ?_
  obtain ⟨ru24, hu24, hf⟩ := pn_bd1_at hf
  refine pn_calli [] (va_runS (As := [.long p1.toInt64, .long (0 : Int64), .long w22.toInt64]) (rest := []) ⟨hx, hb, hml, hown, hts⟩ (c_X7_in l D cI cJ cZ H.size p1.toInt64 (0 : Int64) w22.toInt64 ru24 hu24) (va_cwS 3 hts gX7_put_X7_in rfl rfl rfl hdX7_in ⟨Nat.le_of_ble_eq_true rfl, Nat.le_of_ble_eq_true rfl⟩) (pn_preS [] hP (hD.addr rfl) hK rfl rfl) rfl rfl hl.1 rfl (lv_room (Nat.le_of_ble_eq_true rfl)) dX7_put_15 ⟨Nat.zero_le _, Nat.zero_le _⟩) hP (hD.addr rfl) hS hA rfl rfl rfl (fun H locs (hP : va_P D vwCl [(a_t, .inr (6, [.int ((0 : Int32)), .ref a_t_text, .int v_t_textSize, .int v_t_place, .ref a_t_readPage, .ref a_t_page, .ref a_t_trial, .ref a_t_work, .ref a_t_book, .int v_t_doings, .ref a_t_kept, .ref a_t_isKept, .int v_t_seen, .ref a_t_seenWhat, .ref a_t_seenV, .ref a_t_seenIs, .long v_t_seed, .ref a_t_label, .ref a_t_finds, .ref a_t_reason, .ref a_t_caseFirst, .int v_t_cases, .ref a_t_brief, .ref a_t_printed, .int v_t_printedSize, .ref a_t_renamed, .ref a_t_worth, .int v_t_lastReason])), (a_t_book, .inl (cI, 3710, .inl r_t_book)), (a_t_page, .inl (cI, 265, .inl r_t_page)), (a_t_readPage, .inl (cI, 265, .inl r_t_readPage)), (a_t_renamed, .inl (cI, 8, .inl r_t_renamed)), (a_t_text, .inl (cI, 120, .inl r_t_text))] H) _ hS => ?_)
  refine lv_if_eq (tgt := 31) hx hb dX7_put_18 (by decide) (fun c25 => ?_) (fun c25 => ?_)
  · have hf := pn_ifp c25 hf
    refine lv_bipush (v := (-2)) hx hb dX7_put_31 (by decide) ?_
    cases hf
    rw [hQ]
    exact pn_reti hx hb hr hlocks hP hS rfl dX7_put_33
  · have hf := pn_ifn c25 hf
    refine lv_iload_n hx hb dX7_put_21 rfl (lv_at hl 2 rfl) ?_
    refine lv_i2l hx hb dX7_put_22 rfl ?_
    refine lv_lconst (v := 0) hx hb dX7_put_23 (by decide) ?_
    refine lv_lconst (v := 1) hx hb dX7_put_24 (by decide) ?_
    obtain ⟨ru26, hu26, hf⟩ := pn_bd1_at hf
    refine pn_calli [] (va_runS (As := [.long p2.toInt64, .long (0 : Int64), .long (1 : Int64)]) (rest := []) ⟨hx, hb, hml, hown, hts⟩ (c_X7_in l D cI cJ cZ H.size p2.toInt64 (0 : Int64) (1 : Int64) ru26 hu26) (va_cwS 3 hts gX7_put_X7_in rfl rfl rfl hdX7_in ⟨Nat.le_of_ble_eq_true rfl, Nat.le_of_ble_eq_true rfl⟩) (pn_preS [] hP (hD.addr rfl) hK rfl rfl) rfl rfl hl.1 rfl (lv_room (Nat.le_of_ble_eq_true rfl)) dX7_put_25 ⟨Nat.zero_le _, Nat.zero_le _⟩) hP (hD.addr rfl) hS hA rfl rfl rfl (fun H locs (hP : va_P D vwCl [(a_t, .inr (6, [.int ((0 : Int32)), .ref a_t_text, .int v_t_textSize, .int v_t_place, .ref a_t_readPage, .ref a_t_page, .ref a_t_trial, .ref a_t_work, .ref a_t_book, .int v_t_doings, .ref a_t_kept, .ref a_t_isKept, .int v_t_seen, .ref a_t_seenWhat, .ref a_t_seenV, .ref a_t_seenIs, .long v_t_seed, .ref a_t_label, .ref a_t_finds, .ref a_t_reason, .ref a_t_caseFirst, .int v_t_cases, .ref a_t_brief, .ref a_t_printed, .int v_t_printedSize, .ref a_t_renamed, .ref a_t_worth, .int v_t_lastReason])), (a_t_book, .inl (cI, 3710, .inl r_t_book)), (a_t_page, .inl (cI, 265, .inl r_t_page)), (a_t_readPage, .inl (cI, 265, .inl r_t_readPage)), (a_t_renamed, .inl (cI, 8, .inl r_t_renamed)), (a_t_text, .inl (cI, 120, .inl r_t_text))] H) _ hS => ?_)
    refine lv_if_ne (tgt := 34) hx hb dX7_put_28 (by decide) (fun c27 => ?_) (fun c27 => ?_)
    · have hf := pn_ifp c27 hf
      refine lv_aload_n hx hb dX7_put_34 rfl (lv_at hl 0 rfl) ?_
      obtain ⟨ru28, v_t_place_u28, r_t_readPage_u28, hu28, hf⟩ := pn_bd3_at hf
      refine pn_calli [0, 3, 5] (va_runV (As := []) (rest := []) ⟨hx, hb, hml, hown, hts⟩ (c_X7_readPaper l D cI cJ cZ a_t a_t_text a_t_readPage a_t_page a_t_trial a_t_work a_t_book a_t_kept a_t_isKept a_t_seenWhat a_t_seenV a_t_seenIs a_t_label a_t_finds a_t_reason a_t_caseFirst a_t_brief a_t_printed a_t_renamed a_t_worth H.size (0 : Int32) v_t_doings v_t_seen v_t_seed v_t_cases v_t_printedSize v_t_lastReason N v_t_textSize v_t_place r_t_readPage r_t_text ru28 v_t_place_u28 r_t_readPage_u28 hu28) (cwV 0 hts gX7_put_X7_readPaper rfl rfl rfl hdX7_readPaper ⟨Nat.le_of_ble_eq_true rfl, Nat.le_of_ble_eq_true rfl⟩) (pn_preV [0, 3, 5] hP (hD.addr rfl) hK rfl rfl (q0 := 0) (ci := 6) rfl rfl) rfl rfl hl.1 rfl (lv_room (Nat.le_of_ble_eq_true rfl)) dX7_put_35 ⟨Nat.zero_le _, Nat.zero_le _⟩) hP (hD.addr rfl) hS hA rfl rfl rfl (fun H locs (hP : va_P D vwCl [(a_t, .inr (6, [.int ((0 : Int32)), .ref a_t_text, .int v_t_textSize, .int v_t_place_u28, .ref a_t_readPage, .ref a_t_page, .ref a_t_trial, .ref a_t_work, .ref a_t_book, .int v_t_doings, .ref a_t_kept, .ref a_t_isKept, .int v_t_seen, .ref a_t_seenWhat, .ref a_t_seenV, .ref a_t_seenIs, .long v_t_seed, .ref a_t_label, .ref a_t_finds, .ref a_t_reason, .ref a_t_caseFirst, .int v_t_cases, .ref a_t_brief, .ref a_t_printed, .int v_t_printedSize, .ref a_t_renamed, .ref a_t_worth, .int v_t_lastReason])), (a_t_book, .inl (cI, 3710, .inl r_t_book)), (a_t_page, .inl (cI, 265, .inl r_t_page)), (a_t_readPage, .inl (cI, 265, .inl r_t_readPage_u28)), (a_t_renamed, .inl (cI, 8, .inl r_t_renamed)), (a_t_text, .inl (cI, 120, .inl r_t_text))] H) _ hS => ?_)
      refine lv_bipush (v := (-9)) hx hb dX7_put_38 (by decide) ?_
      refine lv_icmp_ne (tgt := 53) hx hb dX7_put_40 (by decide) (fun c29 => ?_) (fun c29 => ?_)
      · have hf := pn_ifp c29 hf
        refine lv_bipush (v := (-3)) hx hb dX7_put_53 (by decide) ?_
        cases hf
        rw [hQ]
        exact pn_reti hx hb hr hlocks hP hS rfl dX7_put_55
      · have hf := pn_ifq c29 hf
        refine lv_aload_n hx hb dX7_put_43 rfl (lv_at hl 0 rfl) ?_
        refine va_get (D := D) (ci := 6) (v := .ref a_t_readPage) (C := RX7) (T := TX7) (N := 28) hx hb hts hinX7 hown hK.1 hP 0 rfl rfl 4 (by decide) fl_13 (fun _ h9 => h9) rfl dX7_put_44 ?_
        refine lv_iconst (v := (0)) hx hb dX7_put_47 (by decide) ?_
        obtain ⟨hi31, w30, ew30, hf⟩ := pn_rd_at hf
        refine pn_ldI hx hb hK.1 hP 3 0 rfl rfl hi31 ew30 dX7_put_48 ?_
        refine lv_iconst (v := (1)) hx hb dX7_put_49 (by decide) ?_
        refine lv_icmp_eq (tgt := 56) hx hb dX7_put_50 (by decide) (fun c32 => ?_) (fun c32 => ?_)
        · have hf := pn_ifp c32 hf
          refine lv_aload_n hx hb dX7_put_56 rfl (lv_at hl 0 rfl) ?_
          refine va_get (D := D) (ci := 6) (v := .ref a_t_page) (C := RX7) (T := TX7) (N := 28) hx hb hts hinX7 hown hK.1 hP 0 rfl rfl 5 (by decide) fl_16 (fun _ h9 => h9) rfl dX7_put_57 ?_
          refine lv_iconst (v := (0)) hx hb dX7_put_60 (by decide) ?_
          obtain ⟨hi34, w33, ew33, hf⟩ := pn_rd_at hf
          refine pn_ldI hx hb hK.1 hP 2 0 rfl rfl hi34 ew33 dX7_put_61 ?_
          refine lv_bipush (v := (8)) hx hb dX7_put_62 (by decide) ?_
          refine lv_icmp_ne (tgt := 70) hx hb dX7_put_64 (by decide) (fun c35 => ?_) (fun c35 => ?_)
          · have hf := pn_ifp c35 hf
            refine lv_aload_n hx hb dX7_put_70 rfl (lv_at hl 0 rfl) ?_
            obtain ⟨v_t_doings_u36, r_t_book_u36, hu36, hf⟩ := pn_bd2_at hf
            refine pn_callv [0, 1, 2] (va_runV (As := []) (rest := []) ⟨hx, hb, hml, hown, hts⟩ (c_X7_note l D cI cJ cZ a_t a_t_text a_t_readPage a_t_page a_t_trial a_t_work a_t_book a_t_kept a_t_isKept a_t_seenWhat a_t_seenV a_t_seenIs a_t_label a_t_finds a_t_reason a_t_caseFirst a_t_brief a_t_printed a_t_renamed a_t_worth H.size (0 : Int32) v_t_textSize v_t_place_u28 v_t_seen v_t_seed v_t_cases v_t_printedSize v_t_lastReason N v_t_doings r_t_book r_t_page v_t_doings_u36 r_t_book_u36 hu36) (cwV 0 hts gX7_put_X7_note rfl rfl rfl hdX7_note ⟨Nat.le_of_ble_eq_true rfl, Nat.le_of_ble_eq_true rfl⟩) (pn_preV [0, 1, 2] hP (hD.addr rfl) hK rfl rfl (q0 := 0) (ci := 6) rfl rfl) rfl rfl hl.1 rfl (lv_room (Nat.le_of_ble_eq_true rfl)) dX7_put_71 ⟨Nat.zero_le _, Nat.zero_le _⟩) hP (hD.addr rfl) hS hA rfl rfl rfl (fun H locs (hP : va_P D vwCl [(a_t, .inr (6, [.int ((0 : Int32)), .ref a_t_text, .int v_t_textSize, .int v_t_place_u28, .ref a_t_readPage, .ref a_t_page, .ref a_t_trial, .ref a_t_work, .ref a_t_book, .int v_t_doings_u36, .ref a_t_kept, .ref a_t_isKept, .int v_t_seen, .ref a_t_seenWhat, .ref a_t_seenV, .ref a_t_seenIs, .long v_t_seed, .ref a_t_label, .ref a_t_finds, .ref a_t_reason, .ref a_t_caseFirst, .int v_t_cases, .ref a_t_brief, .ref a_t_printed, .int v_t_printedSize, .ref a_t_renamed, .ref a_t_worth, .int v_t_lastReason])), (a_t_book, .inl (cI, 3710, .inl r_t_book_u36)), (a_t_page, .inl (cI, 265, .inl r_t_page)), (a_t_readPage, .inl (cI, 265, .inl r_t_readPage_u28)), (a_t_renamed, .inl (cI, 8, .inl r_t_renamed)), (a_t_text, .inl (cI, 120, .inl r_t_text))] H) _ hS => ?_)
            refine lv_iconst (v := (0)) hx hb dX7_put_74 (by decide) ?_
            refine lv_istore_n (lv' := [(3, .int (0 : Int32)), (0, .ref a_t), (1, .int p1), (2, .int p2)]) hx hb dX7_put_75 rfl hl (by decide) rfl (fun ls hl => ?_)
            obtain ⟨X76, hX76, hf⟩ := pn_bd1_at hf
            refine lp76 N (0 : Int32) (0 : Int32) v_t_place_u28 v_t_doings_u36 r_t_book_u36 r_t_page r_t_readPage_u28 r_t_renamed X76 H locs ls hX76 hP hS (lv_sub hl [1, 2, 3, 0] rfl) ?_
            · intro r_t_renamed_w37 H locs ls eX hP hS hl
              rw [eX] at hf
              have hf := pn_u1_at hf
              refine lv_iload_n hx hb dX7_put_106 rfl (lv_at hl 2 rfl) ?_
              refine lv_iconst (v := (1)) hx hb dX7_put_107 (by decide) ?_
              refine lv_icmp_ne (tgt := 125) hx hb dX7_put_108 (by decide) (fun c38 => ?_) (fun c38 => ?_)
              · have hf := pn_ifp c38 hf
                exact jn125 (0 : Int32) v_t_place_u28 v_t_doings_u36 r_t_book_u36 r_t_page r_t_readPage_u28 r_t_renamed_w37 H locs ls hf hP hS (lv_sub hl [0, 1] rfl)
              · have hf := pn_ifq c38 hf
                refine lv_aload_n hx hb dX7_put_111 rfl (lv_at hl 0 rfl) ?_
                refine lv_aload_n hx hb dX7_put_112 rfl (lv_at hl 0 rfl) ?_
                refine va_get (D := D) (ci := 6) (v := .ref a_t_page) (C := RX7) (T := TX7) (N := 28) hx hb hts hinX7 hown hK.1 hP 0 rfl rfl 5 (by decide) fl_16 (fun _ h9 => h9) rfl dX7_put_113 ?_
                refine lv_aload_n hx hb dX7_put_116 rfl (lv_at hl 0 rfl) ?_
                refine va_get (D := D) (ci := 6) (v := .ref a_t_page) (C := RX7) (T := TX7) (N := 28) hx hb hts hinX7 hown hK.1 hP 0 rfl rfl 5 (by decide) fl_16 (fun _ h9 => h9) rfl dX7_put_117 ?_
                refine lv_iconst (v := (0)) hx hb dX7_put_120 (by decide) ?_
                obtain ⟨hi40, w39, ew39, hf⟩ := pn_rd_at hf
                refine pn_ldI hx hb hK.1 hP 2 0 rfl rfl hi40 ew39 dX7_put_121 ?_
                obtain ⟨r_t_page_u41, hu41, hf⟩ := pn_bd1_at hf
                refine pn_callv [0, 4, 2] (va_runV (As := [.ref a_t_page, .int w39]) (rest := []) ⟨hx, hb, hml, hown, hts⟩ (c_X7_rename l D cI cJ cZ a_t a_t_text a_t_readPage a_t_page a_t_trial a_t_work a_t_book a_t_kept a_t_isKept a_t_seenWhat a_t_seenV a_t_seenIs a_t_label a_t_finds a_t_reason a_t_caseFirst a_t_brief a_t_printed a_t_renamed a_t_worth a_t_page H.size (0 : Int32) v_t_textSize v_t_place_u28 v_t_doings_u36 v_t_seen v_t_seed v_t_cases v_t_printedSize v_t_lastReason N r_t_renamed_w37 r_t_page w39 r_t_page_u41 hu41) (cwV 2 hts gX7_put_X7_rename rfl rfl rfl hdX7_rename ⟨Nat.le_of_ble_eq_true rfl, Nat.le_of_ble_eq_true rfl⟩) (pn_preV [0, 4, 2] hP (hD.addr rfl) hK rfl rfl (q0 := 0) (ci := 6) rfl rfl) rfl rfl hl.1 rfl (lv_room (Nat.le_of_ble_eq_true rfl)) dX7_put_122 ⟨Nat.zero_le _, Nat.zero_le _⟩) hP (hD.addr rfl) hS hA rfl rfl rfl (fun H locs (hP : va_P D vwCl [(a_t, .inr (6, [.int ((0 : Int32)), .ref a_t_text, .int v_t_textSize, .int v_t_place_u28, .ref a_t_readPage, .ref a_t_page, .ref a_t_trial, .ref a_t_work, .ref a_t_book, .int v_t_doings_u36, .ref a_t_kept, .ref a_t_isKept, .int v_t_seen, .ref a_t_seenWhat, .ref a_t_seenV, .ref a_t_seenIs, .long v_t_seed, .ref a_t_label, .ref a_t_finds, .ref a_t_reason, .ref a_t_caseFirst, .int v_t_cases, .ref a_t_brief, .ref a_t_printed, .int v_t_printedSize, .ref a_t_renamed, .ref a_t_worth, .int v_t_lastReason])), (a_t_book, .inl (cI, 3710, .inl r_t_book_u36)), (a_t_page, .inl (cI, 265, .inl r_t_page_u41)), (a_t_readPage, .inl (cI, 265, .inl r_t_readPage_u28)), (a_t_renamed, .inl (cI, 8, .inl r_t_renamed_w37)), (a_t_text, .inl (cI, 120, .inl r_t_text))] H) _ hS => ?_)
                exact jn125 (0 : Int32) v_t_place_u28 v_t_doings_u36 r_t_book_u36 r_t_page_u41 r_t_readPage_u28 r_t_renamed_w37 H locs ls hf hP hS (lv_sub hl [0, 1] rfl)
          · have hf := pn_ifq c35 hf
            refine lv_bipush (v := (-4)) hx hb dX7_put_67 (by decide) ?_
            cases hf
            rw [hQ]
            exact pn_reti hx hb hr hlocks hP hS rfl dX7_put_69
        · have hf := pn_ifn c32 hf
          refine lv_bipush (v := (-3)) hx hb dX7_put_53 (by decide) ?_
          cases hf
          rw [hQ]
          exact pn_reti hx hb hr hlocks hP hS rfl dX7_put_55
    · have hf := pn_ifq c27 hf
      refine lv_bipush (v := (-2)) hx hb dX7_put_31 (by decide) ?_
      cases hf
      rw [hQ]
      exact pn_reti hx hb hr hlocks hP hS rfl dX7_put_33
def lp_X7_cutOn_65 (N : Nat) : Nat → Int32 → (Nat → Int32) → Option ((Nat → Int32))
  | 0, _, _ => none
  | n + 1, x4, r_q1 =>
    pn_rd 265 r_q1 (0 : Int32) fun w1 =>
  if (w1 - (1 : Int32)) ≤ x4 then
  some r_q1
  else
  pn_bd1 (f_X7_copyNote_al N r_q1 x4 (x4 + (1 : Int32))) fun r_q1_u4 =>
  pn_nm (x4 + (1 : Int32)) fun z5 =>
  lp_X7_cutOn_65 N n z5 r_q1_u4
def lp_X7_cutOn_3 (p2 : Int32) : Nat → Int32 → (Nat → Int32) → Option ((Nat → Int32))
  | 0, _, _ => none
  | n + 1, x4, r_t_renamed =>
    if (8 : Int32) ≤ x4 then
  some r_t_renamed
  else
  if p2 ≤ x4 then
  if ¬ x4 = p2 then
  pn_wrI 8 r_t_renamed x4 (x4 - (1 : Int32)) fun g9 =>
  pn_nm (x4 + (1 : Int32)) fun z11 =>
  lp_X7_cutOn_3 p2 n z11 g9
  else
  pn_wrI 8 r_t_renamed x4 (-9 : Int32) fun g12 =>
  pn_nm (x4 + (1 : Int32)) fun z14 =>
  lp_X7_cutOn_3 p2 n z14 g12
  else
  pn_wrI 8 r_t_renamed x4 x4 fun g15 =>
  pn_nm (x4 + (1 : Int32)) fun z17 =>
  lp_X7_cutOn_3 p2 n z17 g15
def f_X7_cutOn (N : Nat) (r_t_renamed : Nat → Int32) (r_q1 : Nat → Int32) (p2 : Int32) (p3 : Int32) : Option ((Nat → Int32) × (Nat → Int32)) :=
  pn_bd1 (lp_X7_cutOn_3 p2 N (0 : Int32) r_t_renamed) (fun X3 => (pn_u1 fun r_t_renamed_w18 => if ¬ p3 = (1 : Int32) then
  pn_bd1 (lp_X7_cutOn_65 N N p2 r_q1) (fun X65 => (pn_u1 fun r_q1_w20 => pn_rd 265 r_q1_w20 (0 : Int32) fun w21 =>
  pn_wrI 265 r_q1_w20 (0 : Int32) (w21 - (1 : Int32)) fun g23 =>
  some (r_t_renamed_w18, g23)) X65)
  else
  pn_rd 265 r_q1 (0 : Int32) fun w25 =>
  pn_bd1 (f_X7_rename N r_t_renamed_w18 r_q1 w25) fun r_q1_u27 =>
  pn_bd1 (lp_X7_cutOn_65 N N p2 r_q1_u27) (fun X65 => (pn_u1 fun r_q1_w28 => pn_rd 265 r_q1_w28 (0 : Int32) fun w29 =>
  pn_wrI 265 r_q1_w28 (0 : Int32) (w29 - (1 : Int32)) fun g31 =>
  some (r_t_renamed_w18, g31)) X65)) X3)
set_option maxHeartbeats 4000000 in
set_option maxRecDepth 100000 in
theorem c_X7_cutOn (l : Launch) (D : va_G) (cI cJ cZ : ClassId) (a_t a_t_text a_t_readPage a_t_page a_t_trial a_t_work a_t_book a_t_kept a_t_isKept a_t_seenWhat a_t_seenV a_t_seenIs a_t_label a_t_finds a_t_reason a_t_caseFirst a_t_brief a_t_printed a_t_renamed a_t_worth a_q1 : Nat) (sz : Nat) (v_t_thrown : Int32) (v_t_textSize : Int32) (v_t_place : Int32) (v_t_doings : Int32) (v_t_seen : Int32) (v_t_seed : Int64) (v_t_cases : Int32) (v_t_printedSize : Int32) (v_t_lastReason : Int32) (N : Nat) (r_t_renamed : Nat → Int32) (r_q1 : Nat → Int32) (p2 : Int32) (p3 : Int32) (o_t_renamed : Nat → Int32) (o_q1 : Nat → Int32) (hf : f_X7_cutOn N r_t_renamed r_q1 p2 p3 = some (o_t_renamed, o_q1)) : Met l yX7_cutOn wsX7_cutOn { frames := 3, cells := 0, slots := 0, locals := 71 } (pn_Pc D cI cJ cZ [.ref a_t, .ref a_q1, .int p2, .int p3] [(a_t, .inr (6, [.int v_t_thrown, .ref a_t_text, .int v_t_textSize, .int v_t_place, .ref a_t_readPage, .ref a_t_page, .ref a_t_trial, .ref a_t_work, .ref a_t_book, .int v_t_doings, .ref a_t_kept, .ref a_t_isKept, .int v_t_seen, .ref a_t_seenWhat, .ref a_t_seenV, .ref a_t_seenIs, .long v_t_seed, .ref a_t_label, .ref a_t_finds, .ref a_t_reason, .ref a_t_caseFirst, .int v_t_cases, .ref a_t_brief, .ref a_t_printed, .int v_t_printedSize, .ref a_t_renamed, .ref a_t_worth, .int v_t_lastReason])), (a_t_renamed, .inl (cI, 8, .inl r_t_renamed)), (a_q1, .inl (cI, 265, .inl r_q1))] sz) (pn_Qv D [(a_t, .inr (6, [.int v_t_thrown, .ref a_t_text, .int v_t_textSize, .int v_t_place, .ref a_t_readPage, .ref a_t_page, .ref a_t_trial, .ref a_t_work, .ref a_t_book, .int v_t_doings, .ref a_t_kept, .ref a_t_isKept, .int v_t_seen, .ref a_t_seenWhat, .ref a_t_seenV, .ref a_t_seenIs, .long v_t_seed, .ref a_t_label, .ref a_t_finds, .ref a_t_reason, .ref a_t_caseFirst, .int v_t_cases, .ref a_t_brief, .ref a_t_printed, .int v_t_printedSize, .ref a_t_renamed, .ref a_t_worth, .int v_t_lastReason])), (a_t_renamed, .inl (cI, 8, .inl o_t_renamed)), (a_q1, .inl (cI, 265, .inl o_q1))] (va_A [(a_t, .inr (6, [.int v_t_thrown, .ref a_t_text, .int v_t_textSize, .int v_t_place, .ref a_t_readPage, .ref a_t_page, .ref a_t_trial, .ref a_t_work, .ref a_t_book, .int v_t_doings, .ref a_t_kept, .ref a_t_isKept, .int v_t_seen, .ref a_t_seenWhat, .ref a_t_seenV, .ref a_t_seenIs, .long v_t_seed, .ref a_t_label, .ref a_t_finds, .ref a_t_reason, .ref a_t_caseFirst, .int v_t_cases, .ref a_t_brief, .ref a_t_printed, .int v_t_printedSize, .ref a_t_renamed, .ref a_t_worth, .int v_t_lastReason])), (a_t_renamed, .inl (cI, 8, .inl r_t_renamed)), (a_q1, .inl (cI, 265, .inl r_q1))] sz)) 0 0 (va_A [(a_t, .inr (6, [.int v_t_thrown, .ref a_t_text, .int v_t_textSize, .int v_t_place, .ref a_t_readPage, .ref a_t_page, .ref a_t_trial, .ref a_t_work, .ref a_t_book, .int v_t_doings, .ref a_t_kept, .ref a_t_isKept, .int v_t_seen, .ref a_t_seenWhat, .ref a_t_seenV, .ref a_t_seenIs, .long v_t_seed, .ref a_t_label, .ref a_t_finds, .ref a_t_reason, .ref a_t_caseFirst, .int v_t_cases, .ref a_t_brief, .ref a_t_printed, .int v_t_printedSize, .ref a_t_renamed, .ref a_t_worth, .int v_t_lastReason])), (a_t_renamed, .inl (cI, 8, .inl r_t_renamed)), (a_q1, .inl (cI, 265, .inl r_q1))] sz) := by
  refine pn_entry (cc := cX7_cutOn) (maxL := 5) (ret := none) (Qf := pn_Qv D [(a_t, .inr (6, [.int v_t_thrown, .ref a_t_text, .int v_t_textSize, .int v_t_place, .ref a_t_readPage, .ref a_t_page, .ref a_t_trial, .ref a_t_work, .ref a_t_book, .int v_t_doings, .ref a_t_kept, .ref a_t_isKept, .int v_t_seen, .ref a_t_seenWhat, .ref a_t_seenV, .ref a_t_seenIs, .long v_t_seed, .ref a_t_label, .ref a_t_finds, .ref a_t_reason, .ref a_t_caseFirst, .int v_t_cases, .ref a_t_brief, .ref a_t_printed, .int v_t_printedSize, .ref a_t_renamed, .ref a_t_worth, .int v_t_lastReason])), (a_t_renamed, .inl (cI, 8, .inl o_t_renamed)), (a_q1, .inl (cI, 265, .inl o_q1))]) (by decide) rfl (Nat.le_of_ble_eq_true rfl) ?_
  intro p e s m args below meth c A ls H locs Qm hQ hx hb hr hlocks hml hown hts hK hP hD hA hS hl
  have hl : lv_has ls 5 [(0, .ref a_t), (1, .ref a_q1), (2, .int p2), (3, .int p3)] := hl
  have hinX7 : ∀ w ∈ wsX70, w ∈ wsX7_cutOn := by decide +kernel
  have fl_62 := hts (.fieldLink RX7 62 "PointingNotesModel" "renamed" "[I") (by decide +kernel)
  rw [f_X7_cutOn] at hf
  have lp65 : ∀ (n : Nat) (x4 : Int32) (r_t_renamed : Nat → Int32) (r_q1 : Nat → Int32) (X : (Nat → Int32)) (H : Heap) (locs : List Loc) (ls : Array Slot), lp_X7_cutOn_65 N n x4 r_q1 = some X → va_P D vwCl [(a_t, .inr (6, [.int v_t_thrown, .ref a_t_text, .int v_t_textSize, .int v_t_place, .ref a_t_readPage, .ref a_t_page, .ref a_t_trial, .ref a_t_work, .ref a_t_book, .int v_t_doings, .ref a_t_kept, .ref a_t_isKept, .int v_t_seen, .ref a_t_seenWhat, .ref a_t_seenV, .ref a_t_seenIs, .long v_t_seed, .ref a_t_label, .ref a_t_finds, .ref a_t_reason, .ref a_t_caseFirst, .int v_t_cases, .ref a_t_brief, .ref a_t_printed, .int v_t_printedSize, .ref a_t_renamed, .ref a_t_worth, .int v_t_lastReason])), (a_t_renamed, .inl (cI, 8, .inl r_t_renamed)), (a_q1, .inl (cI, 265, .inl r_q1))] H → va_S A s.heap H locs → lv_has ls 5 [(1, .ref a_q1), (4, .int x4)] → (∀  (r_q1' : Nat → Int32) (H : Heap) (locs : List Loc) (ls : Array Slot), X = r_q1' → va_P D vwCl [(a_t, .inr (6, [.int v_t_thrown, .ref a_t_text, .int v_t_textSize, .int v_t_place, .ref a_t_readPage, .ref a_t_page, .ref a_t_trial, .ref a_t_work, .ref a_t_book, .int v_t_doings, .ref a_t_kept, .ref a_t_isKept, .int v_t_seen, .ref a_t_seenWhat, .ref a_t_seenV, .ref a_t_seenIs, .long v_t_seed, .ref a_t_label, .ref a_t_finds, .ref a_t_reason, .ref a_t_caseFirst, .int v_t_cases, .ref a_t_brief, .ref a_t_printed, .int v_t_printedSize, .ref a_t_renamed, .ref a_t_worth, .int v_t_lastReason])), (a_t_renamed, .inl (cI, 8, .inl r_t_renamed)), (a_q1, .inl (cI, 265, .inl (r_q1')))] H → va_S A s.heap H locs → lv_has ls 5 [(1, .ref a_q1)] → W p l e { frames := 3, cells := 0, slots := 0, locals := 71 } s m args below meth c H locs 0 0 Qm (F0 m 92 ls [])) → W p l e { frames := 3, cells := 0, slots := 0, locals := 71 } s m args below meth c H locs 0 0 Qm (F0 m 65 ls []) := by
    intro n
    induction n with
    | zero => intro x4 r_t_renamed r_q1 X H locs ls hf; cases hf
    | succ n ih =>
      intro x4 r_t_renamed r_q1 X H locs ls hf hP hS hl kx92
      rw [lp_X7_cutOn_65] at hf
      refine lv_iload hx hb dX7_cutOn_65 (lv_at hl 1 rfl) ?_
      refine lv_aload_n hx hb dX7_cutOn_67 rfl (lv_at hl 0 rfl) ?_
      refine lv_iconst (v := (0)) hx hb dX7_cutOn_68 (by decide) ?_
      obtain ⟨hi2, w1, ew1, hf⟩ := pn_rd_at hf
      refine pn_ldI hx hb hK.1 hP 2 0 rfl rfl hi2 ew1 dX7_cutOn_69 ?_
      refine lv_iconst (v := (1)) hx hb dX7_cutOn_70 (by decide) ?_
      refine lv_isub hx hb dX7_cutOn_71 ?_
      refine lv_icmp_ge (tgt := 92) hx hb dX7_cutOn_72 (by decide) (fun c3 => ?_) (fun c3 => ?_)
      · have hf := pn_ifp c3 hf
        exact kx92 r_q1 H locs ls (Option.some.inj hf).symm hP hS (lv_sub hl [0] rfl)
      · have hf := pn_ifn c3 hf
        refine lv_aload_n hx hb dX7_cutOn_75 rfl (lv_at hl 0 rfl) ?_
        refine lv_iload hx hb dX7_cutOn_76 (lv_at hl 1 rfl) ?_
        refine lv_aload_n hx hb dX7_cutOn_78 rfl (lv_at hl 0 rfl) ?_
        refine lv_iload hx hb dX7_cutOn_79 (lv_at hl 1 rfl) ?_
        refine lv_iconst (v := (1)) hx hb dX7_cutOn_81 (by decide) ?_
        refine lv_iadd hx hb dX7_cutOn_82 ?_
        obtain ⟨r_q1_u4, hu4, hf⟩ := pn_bd1_at hf
        refine pn_callv [2] (va_runS (As := [.ref a_q1, .int x4, .ref a_q1, .int (x4 + (1 : Int32))]) (rest := []) ⟨hx, hb, hml, hown, hts⟩ (c_X7_copyNote_al l D cI cJ cZ a_q1 H.size N r_q1 x4 (x4 + (1 : Int32)) r_q1_u4 hu4) (va_cwS 4 hts gX7_cutOn_X7_copyNote rfl rfl rfl hdX7_copyNote ⟨Nat.le_of_ble_eq_true rfl, Nat.le_of_ble_eq_true rfl⟩) (pn_preS [2] hP (hD.addr rfl) hK rfl rfl) rfl rfl hl.1 rfl (lv_room (Nat.le_of_ble_eq_true rfl)) dX7_cutOn_83 ⟨Nat.zero_le _, Nat.zero_le _⟩) hP (hD.addr rfl) hS hA rfl rfl rfl (fun H locs (hP : va_P D vwCl [(a_t, .inr (6, [.int v_t_thrown, .ref a_t_text, .int v_t_textSize, .int v_t_place, .ref a_t_readPage, .ref a_t_page, .ref a_t_trial, .ref a_t_work, .ref a_t_book, .int v_t_doings, .ref a_t_kept, .ref a_t_isKept, .int v_t_seen, .ref a_t_seenWhat, .ref a_t_seenV, .ref a_t_seenIs, .long v_t_seed, .ref a_t_label, .ref a_t_finds, .ref a_t_reason, .ref a_t_caseFirst, .int v_t_cases, .ref a_t_brief, .ref a_t_printed, .int v_t_printedSize, .ref a_t_renamed, .ref a_t_worth, .int v_t_lastReason])), (a_t_renamed, .inl (cI, 8, .inl r_t_renamed)), (a_q1, .inl (cI, 265, .inl r_q1_u4))] H) _ hS => ?_)
        obtain ⟨z5, ez5⟩ : ∃ y : Int32, y = x4 + (1) := ⟨_, rfl⟩
        have hf := pn_nm_at ez5 hf
        refine lv_iinc (v := z5) (lv' := [(4, .int z5), (1, .ref a_q1)]) hx hb dX7_cutOn_86 hl (k := 1) rfl (by rw [ez5]; rfl) (by decide) rfl (fun ls hl => ?_)
        refine lv_goto (tgt := 65) hx hb dX7_cutOn_89 (by decide) ?_
        exact ih z5 r_t_renamed r_q1_u4 X H locs ls hf hP hS (lv_sub hl [1, 0] rfl) kx92
  have lp3 : ∀ (n : Nat) (x4 : Int32) (r_t_renamed : Nat → Int32) (r_q1 : Nat → Int32) (X : (Nat → Int32)) (H : Heap) (locs : List Loc) (ls : Array Slot), lp_X7_cutOn_3 p2 n x4 r_t_renamed = some X → va_P D vwCl [(a_t, .inr (6, [.int v_t_thrown, .ref a_t_text, .int v_t_textSize, .int v_t_place, .ref a_t_readPage, .ref a_t_page, .ref a_t_trial, .ref a_t_work, .ref a_t_book, .int v_t_doings, .ref a_t_kept, .ref a_t_isKept, .int v_t_seen, .ref a_t_seenWhat, .ref a_t_seenV, .ref a_t_seenIs, .long v_t_seed, .ref a_t_label, .ref a_t_finds, .ref a_t_reason, .ref a_t_caseFirst, .int v_t_cases, .ref a_t_brief, .ref a_t_printed, .int v_t_printedSize, .ref a_t_renamed, .ref a_t_worth, .int v_t_lastReason])), (a_t_renamed, .inl (cI, 8, .inl r_t_renamed)), (a_q1, .inl (cI, 265, .inl r_q1))] H → va_S A s.heap H locs → lv_has ls 5 [(0, .ref a_t), (1, .ref a_q1), (2, .int p2), (3, .int p3), (4, .int x4)] → (∀  (r_t_renamed' : Nat → Int32) (H : Heap) (locs : List Loc) (ls : Array Slot), X = r_t_renamed' → va_P D vwCl [(a_t, .inr (6, [.int v_t_thrown, .ref a_t_text, .int v_t_textSize, .int v_t_place, .ref a_t_readPage, .ref a_t_page, .ref a_t_trial, .ref a_t_work, .ref a_t_book, .int v_t_doings, .ref a_t_kept, .ref a_t_isKept, .int v_t_seen, .ref a_t_seenWhat, .ref a_t_seenV, .ref a_t_seenIs, .long v_t_seed, .ref a_t_label, .ref a_t_finds, .ref a_t_reason, .ref a_t_caseFirst, .int v_t_cases, .ref a_t_brief, .ref a_t_printed, .int v_t_printedSize, .ref a_t_renamed, .ref a_t_worth, .int v_t_lastReason])), (a_t_renamed, .inl (cI, 8, .inl (r_t_renamed'))), (a_q1, .inl (cI, 265, .inl r_q1))] H → va_S A s.heap H locs → lv_has ls 5 [(0, .ref a_t), (1, .ref a_q1), (2, .int p2), (3, .int p3)] → W p l e { frames := 3, cells := 0, slots := 0, locals := 71 } s m args below meth c H locs 0 0 Qm (F0 m 49 ls [])) → W p l e { frames := 3, cells := 0, slots := 0, locals := 71 } s m args below meth c H locs 0 0 Qm (F0 m 3 ls []) := by
    intro n
    induction n with
    | zero => intro x4 r_t_renamed r_q1 X H locs ls hf; cases hf
    | succ n ih =>
      intro x4 r_t_renamed r_q1 X H locs ls hf hP hS hl kx49
      rw [lp_X7_cutOn_3] at hf
      refine lv_iload hx hb dX7_cutOn_3 (lv_at hl 4 rfl) ?_
      refine lv_bipush (v := (8)) hx hb dX7_cutOn_5 (by decide) ?_
      refine lv_icmp_ge (tgt := 49) hx hb dX7_cutOn_7 (by decide) (fun c6 => ?_) (fun c6 => ?_)
      · have hf := pn_ifp c6 hf
        exact kx49 r_t_renamed H locs ls (Option.some.inj hf).symm hP hS (lv_sub hl [0, 1, 2, 3] rfl)
      · have hf := pn_ifn c6 hf
        refine lv_aload_n hx hb dX7_cutOn_10 rfl (lv_at hl 0 rfl) ?_
        refine va_get (D := D) (ci := 6) (v := .ref a_t_renamed) (C := RX7) (T := TX7) (N := 28) hx hb hts hinX7 hown hK.1 hP 0 rfl rfl 25 (by decide) fl_62 (fun _ h9 => h9) rfl dX7_cutOn_11 ?_
        refine lv_iload hx hb dX7_cutOn_14 (lv_at hl 4 rfl) ?_
        refine lv_iload hx hb dX7_cutOn_16 (lv_at hl 4 rfl) ?_
        refine lv_iload_n hx hb dX7_cutOn_18 rfl (lv_at hl 2 rfl) ?_
        refine lv_icmp_ge (tgt := 27) hx hb dX7_cutOn_19 (by decide) (fun c7 => ?_) (fun c7 => ?_)
        · have hf := pn_ifp c7 hf
          refine lv_iload hx hb dX7_cutOn_27 (lv_at hl 4 rfl) ?_
          refine lv_iload_n hx hb dX7_cutOn_29 rfl (lv_at hl 2 rfl) ?_
          refine lv_icmp_ne (tgt := 38) hx hb dX7_cutOn_30 (by decide) (fun c8 => ?_) (fun c8 => ?_)
          · have hf := pn_ifp c8 hf
            refine lv_iload hx hb dX7_cutOn_38 (lv_at hl 4 rfl) ?_
            refine lv_iconst (v := (1)) hx hb dX7_cutOn_40 (by decide) ?_
            refine lv_isub hx hb dX7_cutOn_41 ?_
            obtain ⟨hi10, g9, eg9, hf⟩ := pn_wrI_at hf
            refine pn_stI hx hb hK.1 hP (hD.addr rfl) hS 1 0 rfl rfl hi10 eg9 dX7_cutOn_42 (fun H locs (hP : va_P D vwCl [(a_t, .inr (6, [.int v_t_thrown, .ref a_t_text, .int v_t_textSize, .int v_t_place, .ref a_t_readPage, .ref a_t_page, .ref a_t_trial, .ref a_t_work, .ref a_t_book, .int v_t_doings, .ref a_t_kept, .ref a_t_isKept, .int v_t_seen, .ref a_t_seenWhat, .ref a_t_seenV, .ref a_t_seenIs, .long v_t_seed, .ref a_t_label, .ref a_t_finds, .ref a_t_reason, .ref a_t_caseFirst, .int v_t_cases, .ref a_t_brief, .ref a_t_printed, .int v_t_printedSize, .ref a_t_renamed, .ref a_t_worth, .int v_t_lastReason])), (a_t_renamed, .inl (cI, 8, .inl g9)), (a_q1, .inl (cI, 265, .inl r_q1))] H) _ hS => ?_)
            obtain ⟨z11, ez11⟩ : ∃ y : Int32, y = x4 + (1) := ⟨_, rfl⟩
            have hf := pn_nm_at ez11 hf
            refine lv_iinc (v := z11) (lv' := [(4, .int z11), (0, .ref a_t), (1, .ref a_q1), (2, .int p2), (3, .int p3)]) hx hb dX7_cutOn_43 hl (k := 4) rfl (by rw [ez11]; rfl) (by decide) rfl (fun ls hl => ?_)
            refine lv_goto (tgt := 3) hx hb dX7_cutOn_46 (by decide) ?_
            exact ih z11 g9 r_q1 X H locs ls hf hP hS (lv_sub hl [1, 2, 3, 4, 0] rfl) kx49
          · have hf := pn_ifq c8 hf
            refine lv_bipush (v := (-9)) hx hb dX7_cutOn_33 (by decide) ?_
            refine lv_goto (tgt := 42) hx hb dX7_cutOn_35 (by decide) ?_
            obtain ⟨hi13, g12, eg12, hf⟩ := pn_wrI_at hf
            refine pn_stI hx hb hK.1 hP (hD.addr rfl) hS 1 0 rfl rfl hi13 eg12 dX7_cutOn_42 (fun H locs (hP : va_P D vwCl [(a_t, .inr (6, [.int v_t_thrown, .ref a_t_text, .int v_t_textSize, .int v_t_place, .ref a_t_readPage, .ref a_t_page, .ref a_t_trial, .ref a_t_work, .ref a_t_book, .int v_t_doings, .ref a_t_kept, .ref a_t_isKept, .int v_t_seen, .ref a_t_seenWhat, .ref a_t_seenV, .ref a_t_seenIs, .long v_t_seed, .ref a_t_label, .ref a_t_finds, .ref a_t_reason, .ref a_t_caseFirst, .int v_t_cases, .ref a_t_brief, .ref a_t_printed, .int v_t_printedSize, .ref a_t_renamed, .ref a_t_worth, .int v_t_lastReason])), (a_t_renamed, .inl (cI, 8, .inl g12)), (a_q1, .inl (cI, 265, .inl r_q1))] H) _ hS => ?_)
            obtain ⟨z14, ez14⟩ : ∃ y : Int32, y = x4 + (1) := ⟨_, rfl⟩
            have hf := pn_nm_at ez14 hf
            refine lv_iinc (v := z14) (lv' := [(4, .int z14), (0, .ref a_t), (1, .ref a_q1), (2, .int p2), (3, .int p3)]) hx hb dX7_cutOn_43 hl (k := 4) rfl (by rw [ez14]; rfl) (by decide) rfl (fun ls hl => ?_)
            refine lv_goto (tgt := 3) hx hb dX7_cutOn_46 (by decide) ?_
            exact ih z14 g12 r_q1 X H locs ls hf hP hS (lv_sub hl [1, 2, 3, 4, 0] rfl) kx49
        · have hf := pn_ifn c7 hf
          refine lv_iload hx hb dX7_cutOn_22 (lv_at hl 4 rfl) ?_
          refine lv_goto (tgt := 42) hx hb dX7_cutOn_24 (by decide) ?_
          obtain ⟨hi16, g15, eg15, hf⟩ := pn_wrI_at hf
          refine pn_stI hx hb hK.1 hP (hD.addr rfl) hS 1 0 rfl rfl hi16 eg15 dX7_cutOn_42 (fun H locs (hP : va_P D vwCl [(a_t, .inr (6, [.int v_t_thrown, .ref a_t_text, .int v_t_textSize, .int v_t_place, .ref a_t_readPage, .ref a_t_page, .ref a_t_trial, .ref a_t_work, .ref a_t_book, .int v_t_doings, .ref a_t_kept, .ref a_t_isKept, .int v_t_seen, .ref a_t_seenWhat, .ref a_t_seenV, .ref a_t_seenIs, .long v_t_seed, .ref a_t_label, .ref a_t_finds, .ref a_t_reason, .ref a_t_caseFirst, .int v_t_cases, .ref a_t_brief, .ref a_t_printed, .int v_t_printedSize, .ref a_t_renamed, .ref a_t_worth, .int v_t_lastReason])), (a_t_renamed, .inl (cI, 8, .inl g15)), (a_q1, .inl (cI, 265, .inl r_q1))] H) _ hS => ?_)
          obtain ⟨z17, ez17⟩ : ∃ y : Int32, y = x4 + (1) := ⟨_, rfl⟩
          have hf := pn_nm_at ez17 hf
          refine lv_iinc (v := z17) (lv' := [(4, .int z17), (0, .ref a_t), (1, .ref a_q1), (2, .int p2), (3, .int p3)]) hx hb dX7_cutOn_43 hl (k := 4) rfl (by rw [ez17]; rfl) (by decide) rfl (fun ls hl => ?_)
          refine lv_goto (tgt := 3) hx hb dX7_cutOn_46 (by decide) ?_
          exact ih z17 g15 r_q1 X H locs ls hf hP hS (lv_sub hl [1, 2, 3, 4, 0] rfl) kx49
  refine lv_iconst (v := (0)) hx hb dX7_cutOn_0 (by decide) ?_
  refine lv_istore (lv' := [(4, .int (0 : Int32)), (0, .ref a_t), (1, .ref a_q1), (2, .int p2), (3, .int p3)]) hx hb dX7_cutOn_1 hl (by decide) rfl (fun ls hl => ?_)
  obtain ⟨X3, hX3, hf⟩ := pn_bd1_at hf
  refine lp3 N (0 : Int32) r_t_renamed r_q1 X3 H locs ls hX3 hP hS (lv_sub hl [1, 2, 3, 4, 0] rfl) ?_
  · intro r_t_renamed_w18 H locs ls eX hP hS hl
    rw [eX] at hf
    have hf := pn_u1_at hf
    refine lv_iload_n hx hb dX7_cutOn_49 rfl (lv_at hl 3 rfl) ?_
    refine lv_iconst (v := (1)) hx hb dX7_cutOn_50 (by decide) ?_
    refine lv_icmp_ne (tgt := 62) hx hb dX7_cutOn_51 (by decide) (fun c19 => ?_) (fun c19 => ?_)
    · have hf := pn_ifp c19 hf
      refine lv_iload_n hx hb dX7_cutOn_62 rfl (lv_at hl 2 rfl) ?_
      refine lv_istore (lv' := [(4, .int p2), (0, .ref a_t), (1, .ref a_q1), (2, .int p2), (3, .int p3)]) hx hb dX7_cutOn_63 hl (by decide) rfl (fun ls hl => ?_)
      obtain ⟨X65, hX65, hf⟩ := pn_bd1_at hf
      refine lp65 N p2 r_t_renamed_w18 r_q1 X65 H locs ls hX65 hP hS (lv_sub hl [2, 0] rfl) ?_
      · intro r_q1_w20 H locs ls eX hP hS hl
        rw [eX] at hf
        have hf := pn_u1_at hf
        refine lv_aload_n hx hb dX7_cutOn_92 rfl (lv_at hl 0 rfl) ?_
        refine lv_iconst (v := (0)) hx hb dX7_cutOn_93 (by decide) ?_
        refine lv_dup2_11 hx hb dX7_cutOn_94 rfl rfl ?_
        obtain ⟨hi22, w21, ew21, hf⟩ := pn_rd_at hf
        refine pn_ldI hx hb hK.1 hP 2 0 rfl rfl hi22 ew21 dX7_cutOn_95 ?_
        refine lv_iconst (v := (1)) hx hb dX7_cutOn_96 (by decide) ?_
        refine lv_isub hx hb dX7_cutOn_97 ?_
        obtain ⟨hi24, g23, eg23, hf⟩ := pn_wrI_at hf
        refine pn_stI hx hb hK.1 hP (hD.addr rfl) hS 2 0 rfl rfl hi24 eg23 dX7_cutOn_98 (fun H locs (hP : va_P D vwCl [(a_t, .inr (6, [.int v_t_thrown, .ref a_t_text, .int v_t_textSize, .int v_t_place, .ref a_t_readPage, .ref a_t_page, .ref a_t_trial, .ref a_t_work, .ref a_t_book, .int v_t_doings, .ref a_t_kept, .ref a_t_isKept, .int v_t_seen, .ref a_t_seenWhat, .ref a_t_seenV, .ref a_t_seenIs, .long v_t_seed, .ref a_t_label, .ref a_t_finds, .ref a_t_reason, .ref a_t_caseFirst, .int v_t_cases, .ref a_t_brief, .ref a_t_printed, .int v_t_printedSize, .ref a_t_renamed, .ref a_t_worth, .int v_t_lastReason])), (a_t_renamed, .inl (cI, 8, .inl r_t_renamed_w18)), (a_q1, .inl (cI, 265, .inl g23))] H) _ hS => ?_)
        cases hf
        rw [hQ]
        exact pn_retv hx hb hr hlocks hP hS dX7_cutOn_99
    · have hf := pn_ifq c19 hf
      refine lv_aload_n hx hb dX7_cutOn_54 rfl (lv_at hl 0 rfl) ?_
      refine lv_aload_n hx hb dX7_cutOn_55 rfl (lv_at hl 1 rfl) ?_
      refine lv_aload_n hx hb dX7_cutOn_56 rfl (lv_at hl 1 rfl) ?_
      refine lv_iconst (v := (0)) hx hb dX7_cutOn_57 (by decide) ?_
      obtain ⟨hi26, w25, ew25, hf⟩ := pn_rd_at hf
      refine pn_ldI hx hb hK.1 hP 2 0 rfl rfl hi26 ew25 dX7_cutOn_58 ?_
      obtain ⟨r_q1_u27, hu27, hf⟩ := pn_bd1_at hf
      refine pn_callv [0, 1, 2] (va_runV (As := [.ref a_q1, .int w25]) (rest := []) ⟨hx, hb, hml, hown, hts⟩ (c_X7_rename l D cI cJ cZ a_t a_t_text a_t_readPage a_t_page a_t_trial a_t_work a_t_book a_t_kept a_t_isKept a_t_seenWhat a_t_seenV a_t_seenIs a_t_label a_t_finds a_t_reason a_t_caseFirst a_t_brief a_t_printed a_t_renamed a_t_worth a_q1 H.size v_t_thrown v_t_textSize v_t_place v_t_doings v_t_seen v_t_seed v_t_cases v_t_printedSize v_t_lastReason N r_t_renamed_w18 r_q1 w25 r_q1_u27 hu27) (cwV 2 hts gX7_cutOn_X7_rename rfl rfl rfl hdX7_rename ⟨Nat.le_of_ble_eq_true rfl, Nat.le_of_ble_eq_true rfl⟩) (pn_preV [0, 1, 2] hP (hD.addr rfl) hK rfl rfl (q0 := 0) (ci := 6) rfl rfl) rfl rfl hl.1 rfl (lv_room (Nat.le_of_ble_eq_true rfl)) dX7_cutOn_59 ⟨Nat.zero_le _, Nat.zero_le _⟩) hP (hD.addr rfl) hS hA rfl rfl rfl (fun H locs (hP : va_P D vwCl [(a_t, .inr (6, [.int v_t_thrown, .ref a_t_text, .int v_t_textSize, .int v_t_place, .ref a_t_readPage, .ref a_t_page, .ref a_t_trial, .ref a_t_work, .ref a_t_book, .int v_t_doings, .ref a_t_kept, .ref a_t_isKept, .int v_t_seen, .ref a_t_seenWhat, .ref a_t_seenV, .ref a_t_seenIs, .long v_t_seed, .ref a_t_label, .ref a_t_finds, .ref a_t_reason, .ref a_t_caseFirst, .int v_t_cases, .ref a_t_brief, .ref a_t_printed, .int v_t_printedSize, .ref a_t_renamed, .ref a_t_worth, .int v_t_lastReason])), (a_t_renamed, .inl (cI, 8, .inl r_t_renamed_w18)), (a_q1, .inl (cI, 265, .inl r_q1_u27))] H) _ hS => ?_)
      refine lv_iload_n hx hb dX7_cutOn_62 rfl (lv_at hl 2 rfl) ?_
      refine lv_istore (lv' := [(4, .int p2), (0, .ref a_t), (1, .ref a_q1), (2, .int p2), (3, .int p3)]) hx hb dX7_cutOn_63 hl (by decide) rfl (fun ls hl => ?_)
      obtain ⟨X65, hX65, hf⟩ := pn_bd1_at hf
      refine lp65 N p2 r_t_renamed_w18 r_q1_u27 X65 H locs ls hX65 hP hS (lv_sub hl [2, 0] rfl) ?_
      · intro r_q1_w28 H locs ls eX hP hS hl
        rw [eX] at hf
        have hf := pn_u1_at hf
        refine lv_aload_n hx hb dX7_cutOn_92 rfl (lv_at hl 0 rfl) ?_
        refine lv_iconst (v := (0)) hx hb dX7_cutOn_93 (by decide) ?_
        refine lv_dup2_11 hx hb dX7_cutOn_94 rfl rfl ?_
        obtain ⟨hi30, w29, ew29, hf⟩ := pn_rd_at hf
        refine pn_ldI hx hb hK.1 hP 2 0 rfl rfl hi30 ew29 dX7_cutOn_95 ?_
        refine lv_iconst (v := (1)) hx hb dX7_cutOn_96 (by decide) ?_
        refine lv_isub hx hb dX7_cutOn_97 ?_
        obtain ⟨hi32, g31, eg31, hf⟩ := pn_wrI_at hf
        refine pn_stI hx hb hK.1 hP (hD.addr rfl) hS 2 0 rfl rfl hi32 eg31 dX7_cutOn_98 (fun H locs (hP : va_P D vwCl [(a_t, .inr (6, [.int v_t_thrown, .ref a_t_text, .int v_t_textSize, .int v_t_place, .ref a_t_readPage, .ref a_t_page, .ref a_t_trial, .ref a_t_work, .ref a_t_book, .int v_t_doings, .ref a_t_kept, .ref a_t_isKept, .int v_t_seen, .ref a_t_seenWhat, .ref a_t_seenV, .ref a_t_seenIs, .long v_t_seed, .ref a_t_label, .ref a_t_finds, .ref a_t_reason, .ref a_t_caseFirst, .int v_t_cases, .ref a_t_brief, .ref a_t_printed, .int v_t_printedSize, .ref a_t_renamed, .ref a_t_worth, .int v_t_lastReason])), (a_t_renamed, .inl (cI, 8, .inl r_t_renamed_w18)), (a_q1, .inl (cI, 265, .inl g31))] H) _ hS => ?_)
        cases hf
        rw [hQ]
        exact pn_retv hx hb hr hlocks hP hS dX7_cutOn_99
def f_X7_cut (N : Nat) (v_t_thrown : Int32) (v_t_doings : Int32) (r_t_book : Nat → Int32) (r_t_page : Nat → Int32) (r_t_renamed : Nat → Int32) (p1 : Int32) (p2 : Int32) : Option (Int32 × Int32 × Int32 × (Nat → Int32) × (Nat → Int32) × (Nat → Int32)) :=
  pn_rd 265 r_t_page (0 : Int32) fun w1 =>
  pn_bd1 (f_X7_in p1.toInt64 (0 : Int64) ((w1 - (1 : Int32)).toInt64)) fun ru3 =>
  if ¬ ru3 = 0 then
  pn_bd1 (f_X7_in p2.toInt64 (0 : Int64) (1 : Int64)) fun ru5 =>
  if ¬ ru5 = 0 then
  pn_bd2 (f_X7_note N v_t_doings r_t_book r_t_page) fun v_t_doings_u7 r_t_book_u7 =>
  pn_bd2 (f_X7_cutOn N r_t_renamed r_t_page p1 p2) fun r_t_renamed_u8 r_t_page_u8 =>
  pn_rd 265 r_t_page_u8 (0 : Int32) fun w9 =>
  some (w9, (0 : Int32), v_t_doings_u7, r_t_book_u7, r_t_page_u8, r_t_renamed_u8)
  else
  some ((-2 : Int32), (0 : Int32), v_t_doings, r_t_book, r_t_page, r_t_renamed)
  else
  some ((-1 : Int32), (0 : Int32), v_t_doings, r_t_book, r_t_page, r_t_renamed)
set_option maxHeartbeats 4000000 in
set_option maxRecDepth 100000 in
theorem c_X7_cut (l : Launch) (D : va_G) (cI cJ cZ : ClassId) (a_t a_t_text a_t_readPage a_t_page a_t_trial a_t_work a_t_book a_t_kept a_t_isKept a_t_seenWhat a_t_seenV a_t_seenIs a_t_label a_t_finds a_t_reason a_t_caseFirst a_t_brief a_t_printed a_t_renamed a_t_worth : Nat) (sz : Nat) (v_t_textSize : Int32) (v_t_place : Int32) (v_t_seen : Int32) (v_t_seed : Int64) (v_t_cases : Int32) (v_t_printedSize : Int32) (v_t_lastReason : Int32) (N : Nat) (v_t_thrown : Int32) (v_t_doings : Int32) (r_t_book : Nat → Int32) (r_t_page : Nat → Int32) (r_t_renamed : Nat → Int32) (p1 : Int32) (p2 : Int32) (rR : Int32) (o_t_thrown : Int32) (o_t_doings : Int32) (o_t_book : Nat → Int32) (o_t_page : Nat → Int32) (o_t_renamed : Nat → Int32) (hf : f_X7_cut N v_t_thrown v_t_doings r_t_book r_t_page r_t_renamed p1 p2 = some (rR, o_t_thrown, o_t_doings, o_t_book, o_t_page, o_t_renamed)) : Met l yX7_cut wsX7_cut { frames := 4, cells := 0, slots := 0, locals := 95 } (pn_Pc D cI cJ cZ [.ref a_t, .int p1, .int p2] [(a_t, .inr (6, [.int v_t_thrown, .ref a_t_text, .int v_t_textSize, .int v_t_place, .ref a_t_readPage, .ref a_t_page, .ref a_t_trial, .ref a_t_work, .ref a_t_book, .int v_t_doings, .ref a_t_kept, .ref a_t_isKept, .int v_t_seen, .ref a_t_seenWhat, .ref a_t_seenV, .ref a_t_seenIs, .long v_t_seed, .ref a_t_label, .ref a_t_finds, .ref a_t_reason, .ref a_t_caseFirst, .int v_t_cases, .ref a_t_brief, .ref a_t_printed, .int v_t_printedSize, .ref a_t_renamed, .ref a_t_worth, .int v_t_lastReason])), (a_t_book, .inl (cI, 3710, .inl r_t_book)), (a_t_page, .inl (cI, 265, .inl r_t_page)), (a_t_renamed, .inl (cI, 8, .inl r_t_renamed))] sz) (pn_Qi D rR [(a_t, .inr (6, [.int o_t_thrown, .ref a_t_text, .int v_t_textSize, .int v_t_place, .ref a_t_readPage, .ref a_t_page, .ref a_t_trial, .ref a_t_work, .ref a_t_book, .int o_t_doings, .ref a_t_kept, .ref a_t_isKept, .int v_t_seen, .ref a_t_seenWhat, .ref a_t_seenV, .ref a_t_seenIs, .long v_t_seed, .ref a_t_label, .ref a_t_finds, .ref a_t_reason, .ref a_t_caseFirst, .int v_t_cases, .ref a_t_brief, .ref a_t_printed, .int v_t_printedSize, .ref a_t_renamed, .ref a_t_worth, .int v_t_lastReason])), (a_t_book, .inl (cI, 3710, .inl o_t_book)), (a_t_page, .inl (cI, 265, .inl o_t_page)), (a_t_renamed, .inl (cI, 8, .inl o_t_renamed))] (va_A [(a_t, .inr (6, [.int v_t_thrown, .ref a_t_text, .int v_t_textSize, .int v_t_place, .ref a_t_readPage, .ref a_t_page, .ref a_t_trial, .ref a_t_work, .ref a_t_book, .int v_t_doings, .ref a_t_kept, .ref a_t_isKept, .int v_t_seen, .ref a_t_seenWhat, .ref a_t_seenV, .ref a_t_seenIs, .long v_t_seed, .ref a_t_label, .ref a_t_finds, .ref a_t_reason, .ref a_t_caseFirst, .int v_t_cases, .ref a_t_brief, .ref a_t_printed, .int v_t_printedSize, .ref a_t_renamed, .ref a_t_worth, .int v_t_lastReason])), (a_t_book, .inl (cI, 3710, .inl r_t_book)), (a_t_page, .inl (cI, 265, .inl r_t_page)), (a_t_renamed, .inl (cI, 8, .inl r_t_renamed))] sz)) 0 0 (va_A [(a_t, .inr (6, [.int v_t_thrown, .ref a_t_text, .int v_t_textSize, .int v_t_place, .ref a_t_readPage, .ref a_t_page, .ref a_t_trial, .ref a_t_work, .ref a_t_book, .int v_t_doings, .ref a_t_kept, .ref a_t_isKept, .int v_t_seen, .ref a_t_seenWhat, .ref a_t_seenV, .ref a_t_seenIs, .long v_t_seed, .ref a_t_label, .ref a_t_finds, .ref a_t_reason, .ref a_t_caseFirst, .int v_t_cases, .ref a_t_brief, .ref a_t_printed, .int v_t_printedSize, .ref a_t_renamed, .ref a_t_worth, .int v_t_lastReason])), (a_t_book, .inl (cI, 3710, .inl r_t_book)), (a_t_page, .inl (cI, 265, .inl r_t_page)), (a_t_renamed, .inl (cI, 8, .inl r_t_renamed))] sz) := by
  refine pn_entry (cc := cX7_cut) (maxL := 3) (ret := (some .int)) (Qf := pn_Qi D rR [(a_t, .inr (6, [.int o_t_thrown, .ref a_t_text, .int v_t_textSize, .int v_t_place, .ref a_t_readPage, .ref a_t_page, .ref a_t_trial, .ref a_t_work, .ref a_t_book, .int o_t_doings, .ref a_t_kept, .ref a_t_isKept, .int v_t_seen, .ref a_t_seenWhat, .ref a_t_seenV, .ref a_t_seenIs, .long v_t_seed, .ref a_t_label, .ref a_t_finds, .ref a_t_reason, .ref a_t_caseFirst, .int v_t_cases, .ref a_t_brief, .ref a_t_printed, .int v_t_printedSize, .ref a_t_renamed, .ref a_t_worth, .int v_t_lastReason])), (a_t_book, .inl (cI, 3710, .inl o_t_book)), (a_t_page, .inl (cI, 265, .inl o_t_page)), (a_t_renamed, .inl (cI, 8, .inl o_t_renamed))]) (by decide) rfl (Nat.le_of_ble_eq_true rfl) ?_
  intro p e s m args below meth c A ls H locs Qm hQ hx hb hr hlocks hml hown hts hK hP hD hA hS hl
  have hl : lv_has ls 3 [(0, .ref a_t), (1, .int p1), (2, .int p2)] := hl
  have hinX7 : ∀ w ∈ wsX70, w ∈ wsX7_cut := by decide +kernel
  have fl_16 := hts (.fieldLink RX7 16 "PointingNotesModel" "page" "[I") (by decide +kernel)
  have fl_68 := hts (.fieldLink RX7 68 "PointingNotesModel" "thrown" "I") (by decide +kernel)
  rw [f_X7_cut] at hf
  refine lv_aload_n hx hb dX7_cut_0 rfl (lv_at hl 0 rfl) ?_
  refine lv_iconst (v := (0)) hx hb dX7_cut_1 (by decide) ?_
  refine va_put (D := D) (ci := 6) (v := .int (0 : Int32)) (ty := .int) (C := RX7) (T := TX7) (N := 28) hx hb hts hinX7 tyX7 tyX7_ok nmX7 hown hK.1 hP (hD.addr rfl) hS 0 rfl rfl 0 (by decide) fl_68 (fun _ h9 => h9) rfl (by decide +kernel) rfl rfl (Nat.le_of_ble_eq_true rfl) dX7_cut_2 (fun H locs (hP : va_P D vwCl [(a_t, .inr (6, [.int ((0 : Int32)), .ref a_t_text, .int v_t_textSize, .int v_t_place, .ref a_t_readPage, .ref a_t_page, .ref a_t_trial, .ref a_t_work, .ref a_t_book, .int v_t_doings, .ref a_t_kept, .ref a_t_isKept, .int v_t_seen, .ref a_t_seenWhat, .ref a_t_seenV, .ref a_t_seenIs, .long v_t_seed, .ref a_t_label, .ref a_t_finds, .ref a_t_reason, .ref a_t_caseFirst, .int v_t_cases, .ref a_t_brief, .ref a_t_printed, .int v_t_printedSize, .ref a_t_renamed, .ref a_t_worth, .int v_t_lastReason])), (a_t_book, .inl (cI, 3710, .inl r_t_book)), (a_t_page, .inl (cI, 265, .inl r_t_page)), (a_t_renamed, .inl (cI, 8, .inl r_t_renamed))] H) _ hS => ?_)
  refine lv_iload_n hx hb dX7_cut_5 rfl (lv_at hl 1 rfl) ?_
  refine lv_i2l hx hb dX7_cut_6 rfl ?_
  refine lv_lconst (v := 0) hx hb dX7_cut_7 (by decide) ?_
  refine lv_aload_n hx hb dX7_cut_8 rfl (lv_at hl 0 rfl) ?_
  refine va_get (D := D) (ci := 6) (v := .ref a_t_page) (C := RX7) (T := TX7) (N := 28) hx hb hts hinX7 hown hK.1 hP 0 rfl rfl 5 (by decide) fl_16 (fun _ h9 => h9) rfl dX7_cut_9 ?_
  refine lv_iconst (v := (0)) hx hb dX7_cut_12 (by decide) ?_
  obtain ⟨hi2, w1, ew1, hf⟩ := pn_rd_at hf
  refine pn_ldI hx hb hK.1 hP 2 0 rfl rfl hi2 ew1 dX7_cut_13 ?_
  refine lv_iconst (v := (1)) hx hb dX7_cut_14 (by decide) ?_
  refine lv_isub hx hb dX7_cut_15 ?_
  refine lv_i2l hx hb dX7_cut_16 rfl ?_
  obtain ⟨ru3, hu3, hf⟩ := pn_bd1_at hf
  refine pn_calli [] (va_runS (As := [.long p1.toInt64, .long (0 : Int64), .long ((w1 - (1 : Int32)).toInt64)]) (rest := []) ⟨hx, hb, hml, hown, hts⟩ (c_X7_in l D cI cJ cZ H.size p1.toInt64 (0 : Int64) ((w1 - (1 : Int32)).toInt64) ru3 hu3) (va_cwS 3 hts gX7_cut_X7_in rfl rfl rfl hdX7_in ⟨Nat.le_of_ble_eq_true rfl, Nat.le_of_ble_eq_true rfl⟩) (pn_preS [] hP (hD.addr rfl) hK rfl rfl) rfl rfl hl.1 rfl (lv_room (Nat.le_of_ble_eq_true rfl)) dX7_cut_17 ⟨Nat.zero_le _, Nat.zero_le _⟩) hP (hD.addr rfl) hS hA rfl rfl rfl (fun H locs (hP : va_P D vwCl [(a_t, .inr (6, [.int ((0 : Int32)), .ref a_t_text, .int v_t_textSize, .int v_t_place, .ref a_t_readPage, .ref a_t_page, .ref a_t_trial, .ref a_t_work, .ref a_t_book, .int v_t_doings, .ref a_t_kept, .ref a_t_isKept, .int v_t_seen, .ref a_t_seenWhat, .ref a_t_seenV, .ref a_t_seenIs, .long v_t_seed, .ref a_t_label, .ref a_t_finds, .ref a_t_reason, .ref a_t_caseFirst, .int v_t_cases, .ref a_t_brief, .ref a_t_printed, .int v_t_printedSize, .ref a_t_renamed, .ref a_t_worth, .int v_t_lastReason])), (a_t_book, .inl (cI, 3710, .inl r_t_book)), (a_t_page, .inl (cI, 265, .inl r_t_page)), (a_t_renamed, .inl (cI, 8, .inl r_t_renamed))] H) _ hS => ?_)
  refine lv_if_ne (tgt := 25) hx hb dX7_cut_20 (by decide) (fun c4 => ?_) (fun c4 => ?_)
  · have hf := pn_ifp c4 hf
    refine lv_iload_n hx hb dX7_cut_25 rfl (lv_at hl 2 rfl) ?_
    refine lv_i2l hx hb dX7_cut_26 rfl ?_
    refine lv_lconst (v := 0) hx hb dX7_cut_27 (by decide) ?_
    refine lv_lconst (v := 1) hx hb dX7_cut_28 (by decide) ?_
    obtain ⟨ru5, hu5, hf⟩ := pn_bd1_at hf
    refine pn_calli [] (va_runS (As := [.long p2.toInt64, .long (0 : Int64), .long (1 : Int64)]) (rest := []) ⟨hx, hb, hml, hown, hts⟩ (c_X7_in l D cI cJ cZ H.size p2.toInt64 (0 : Int64) (1 : Int64) ru5 hu5) (va_cwS 3 hts gX7_cut_X7_in rfl rfl rfl hdX7_in ⟨Nat.le_of_ble_eq_true rfl, Nat.le_of_ble_eq_true rfl⟩) (pn_preS [] hP (hD.addr rfl) hK rfl rfl) rfl rfl hl.1 rfl (lv_room (Nat.le_of_ble_eq_true rfl)) dX7_cut_29 ⟨Nat.zero_le _, Nat.zero_le _⟩) hP (hD.addr rfl) hS hA rfl rfl rfl (fun H locs (hP : va_P D vwCl [(a_t, .inr (6, [.int ((0 : Int32)), .ref a_t_text, .int v_t_textSize, .int v_t_place, .ref a_t_readPage, .ref a_t_page, .ref a_t_trial, .ref a_t_work, .ref a_t_book, .int v_t_doings, .ref a_t_kept, .ref a_t_isKept, .int v_t_seen, .ref a_t_seenWhat, .ref a_t_seenV, .ref a_t_seenIs, .long v_t_seed, .ref a_t_label, .ref a_t_finds, .ref a_t_reason, .ref a_t_caseFirst, .int v_t_cases, .ref a_t_brief, .ref a_t_printed, .int v_t_printedSize, .ref a_t_renamed, .ref a_t_worth, .int v_t_lastReason])), (a_t_book, .inl (cI, 3710, .inl r_t_book)), (a_t_page, .inl (cI, 265, .inl r_t_page)), (a_t_renamed, .inl (cI, 8, .inl r_t_renamed))] H) _ hS => ?_)
    refine lv_if_ne (tgt := 38) hx hb dX7_cut_32 (by decide) (fun c6 => ?_) (fun c6 => ?_)
    · have hf := pn_ifp c6 hf
      refine lv_aload_n hx hb dX7_cut_38 rfl (lv_at hl 0 rfl) ?_
      obtain ⟨v_t_doings_u7, r_t_book_u7, hu7, hf⟩ := pn_bd2_at hf
      refine pn_callv [0, 1, 2] (va_runV (As := []) (rest := []) ⟨hx, hb, hml, hown, hts⟩ (c_X7_note l D cI cJ cZ a_t a_t_text a_t_readPage a_t_page a_t_trial a_t_work a_t_book a_t_kept a_t_isKept a_t_seenWhat a_t_seenV a_t_seenIs a_t_label a_t_finds a_t_reason a_t_caseFirst a_t_brief a_t_printed a_t_renamed a_t_worth H.size (0 : Int32) v_t_textSize v_t_place v_t_seen v_t_seed v_t_cases v_t_printedSize v_t_lastReason N v_t_doings r_t_book r_t_page v_t_doings_u7 r_t_book_u7 hu7) (cwV 0 hts gX7_cut_X7_note rfl rfl rfl hdX7_note ⟨Nat.le_of_ble_eq_true rfl, Nat.le_of_ble_eq_true rfl⟩) (pn_preV [0, 1, 2] hP (hD.addr rfl) hK rfl rfl (q0 := 0) (ci := 6) rfl rfl) rfl rfl hl.1 rfl (lv_room (Nat.le_of_ble_eq_true rfl)) dX7_cut_39 ⟨Nat.zero_le _, Nat.zero_le _⟩) hP (hD.addr rfl) hS hA rfl rfl rfl (fun H locs (hP : va_P D vwCl [(a_t, .inr (6, [.int ((0 : Int32)), .ref a_t_text, .int v_t_textSize, .int v_t_place, .ref a_t_readPage, .ref a_t_page, .ref a_t_trial, .ref a_t_work, .ref a_t_book, .int v_t_doings_u7, .ref a_t_kept, .ref a_t_isKept, .int v_t_seen, .ref a_t_seenWhat, .ref a_t_seenV, .ref a_t_seenIs, .long v_t_seed, .ref a_t_label, .ref a_t_finds, .ref a_t_reason, .ref a_t_caseFirst, .int v_t_cases, .ref a_t_brief, .ref a_t_printed, .int v_t_printedSize, .ref a_t_renamed, .ref a_t_worth, .int v_t_lastReason])), (a_t_book, .inl (cI, 3710, .inl r_t_book_u7)), (a_t_page, .inl (cI, 265, .inl r_t_page)), (a_t_renamed, .inl (cI, 8, .inl r_t_renamed))] H) _ hS => ?_)
      refine lv_aload_n hx hb dX7_cut_42 rfl (lv_at hl 0 rfl) ?_
      refine lv_aload_n hx hb dX7_cut_43 rfl (lv_at hl 0 rfl) ?_
      refine va_get (D := D) (ci := 6) (v := .ref a_t_page) (C := RX7) (T := TX7) (N := 28) hx hb hts hinX7 hown hK.1 hP 0 rfl rfl 5 (by decide) fl_16 (fun _ h9 => h9) rfl dX7_cut_44 ?_
      refine lv_iload_n hx hb dX7_cut_47 rfl (lv_at hl 1 rfl) ?_
      refine lv_iload_n hx hb dX7_cut_48 rfl (lv_at hl 2 rfl) ?_
      obtain ⟨r_t_renamed_u8, r_t_page_u8, hu8, hf⟩ := pn_bd2_at hf
      refine pn_callv [0, 3, 2] (va_runV (As := [.ref a_t_page, .int p1, .int p2]) (rest := []) ⟨hx, hb, hml, hown, hts⟩ (c_X7_cutOn l D cI cJ cZ a_t a_t_text a_t_readPage a_t_page a_t_trial a_t_work a_t_book a_t_kept a_t_isKept a_t_seenWhat a_t_seenV a_t_seenIs a_t_label a_t_finds a_t_reason a_t_caseFirst a_t_brief a_t_printed a_t_renamed a_t_worth a_t_page H.size (0 : Int32) v_t_textSize v_t_place v_t_doings_u7 v_t_seen v_t_seed v_t_cases v_t_printedSize v_t_lastReason N r_t_renamed r_t_page p1 p2 r_t_renamed_u8 r_t_page_u8 hu8) (cwV 3 hts gX7_cut_X7_cutOn rfl rfl rfl hdX7_cutOn ⟨Nat.le_of_ble_eq_true rfl, Nat.le_of_ble_eq_true rfl⟩) (pn_preV [0, 3, 2] hP (hD.addr rfl) hK rfl rfl (q0 := 0) (ci := 6) rfl rfl) rfl rfl hl.1 rfl (lv_room (Nat.le_of_ble_eq_true rfl)) dX7_cut_49 ⟨Nat.zero_le _, Nat.zero_le _⟩) hP (hD.addr rfl) hS hA rfl rfl rfl (fun H locs (hP : va_P D vwCl [(a_t, .inr (6, [.int ((0 : Int32)), .ref a_t_text, .int v_t_textSize, .int v_t_place, .ref a_t_readPage, .ref a_t_page, .ref a_t_trial, .ref a_t_work, .ref a_t_book, .int v_t_doings_u7, .ref a_t_kept, .ref a_t_isKept, .int v_t_seen, .ref a_t_seenWhat, .ref a_t_seenV, .ref a_t_seenIs, .long v_t_seed, .ref a_t_label, .ref a_t_finds, .ref a_t_reason, .ref a_t_caseFirst, .int v_t_cases, .ref a_t_brief, .ref a_t_printed, .int v_t_printedSize, .ref a_t_renamed, .ref a_t_worth, .int v_t_lastReason])), (a_t_book, .inl (cI, 3710, .inl r_t_book_u7)), (a_t_page, .inl (cI, 265, .inl r_t_page_u8)), (a_t_renamed, .inl (cI, 8, .inl r_t_renamed_u8))] H) _ hS => ?_)
      refine lv_aload_n hx hb dX7_cut_52 rfl (lv_at hl 0 rfl) ?_
      refine va_get (D := D) (ci := 6) (v := .ref a_t_page) (C := RX7) (T := TX7) (N := 28) hx hb hts hinX7 hown hK.1 hP 0 rfl rfl 5 (by decide) fl_16 (fun _ h9 => h9) rfl dX7_cut_53 ?_
      refine lv_iconst (v := (0)) hx hb dX7_cut_56 (by decide) ?_
      obtain ⟨hi10, w9, ew9, hf⟩ := pn_rd_at hf
      refine pn_ldI hx hb hK.1 hP 2 0 rfl rfl hi10 ew9 dX7_cut_57 ?_
      cases hf
      rw [hQ]
      exact pn_reti hx hb hr hlocks hP hS rfl dX7_cut_58
    · have hf := pn_ifq c6 hf
      refine lv_bipush (v := (-2)) hx hb dX7_cut_35 (by decide) ?_
      cases hf
      rw [hQ]
      exact pn_reti hx hb hr hlocks hP hS rfl dX7_cut_37
  · have hf := pn_ifq c4 hf
    refine lv_iconst (v := (-1)) hx hb dX7_cut_23 (by decide) ?_
    cases hf
    rw [hQ]
    exact pn_reti hx hb hr hlocks hP hS rfl dX7_cut_24
def lp_X7_moveOn_98 (N : Nat) (r_t_renamed : Nat → Int32) (r_t_work : Nat → Int32) : Nat → Int32 → (Nat → Int32) → Option ((Nat → Int32))
  | 0, _, _ => none
  | n + 1, x5, r_q1 =>
    pn_rd 265 r_q1 (0 : Int32) fun w1 =>
  if w1 ≤ x5 then
  some r_q1
  else
  pn_rd 8 r_t_renamed x5 fun w4 =>
  pn_bd1 (f_X7_copyNote N r_q1 r_t_work w4 x5) fun r_q1_u6 =>
  pn_nm (x5 + (1 : Int32)) fun z7 =>
  lp_X7_moveOn_98 N r_t_renamed r_t_work n z7 r_q1_u6
def j_X7_moveOn_45 (rc : Int32 → (Nat → Int32) → Option ((Nat → Int32))) (p2 : Int32) (p3 : Int32) (x5 : Int32) (s1 : Int32) (r_t_renamed : Nat → Int32) : Option ((Nat → Int32)) :=
  if x5 < p3 then
  pn_wrI 8 r_t_renamed s1 x5 fun g9 =>
  pn_nm (x5 + (1 : Int32)) fun z11 =>
  rc z11 g9
  else
  if p2 ≤ x5 then
  pn_wrI 8 r_t_renamed s1 x5 fun g13 =>
  pn_nm (x5 + (1 : Int32)) fun z15 =>
  rc z15 g13
  else
  pn_wrI 8 r_t_renamed s1 (x5 + (1 : Int32)) fun g16 =>
  pn_nm (x5 + (1 : Int32)) fun z18 =>
  rc z18 g16
def lp_X7_moveOn_3 (p2 : Int32) (p3 : Int32) : Nat → Int32 → (Nat → Int32) → Option ((Nat → Int32))
  | 0, _, _ => none
  | n + 1, x5, r_t_renamed =>
    if (8 : Int32) ≤ x5 then
  some r_t_renamed
  else
  if ¬ x5 = p2 then
  if x5 ≤ p2 then
  j_X7_moveOn_45 (lp_X7_moveOn_3 p2 p3 n) p2 p3 x5 x5 r_t_renamed
  else
  if p3 < x5 then
  j_X7_moveOn_45 (lp_X7_moveOn_3 p2 p3 n) p2 p3 x5 x5 r_t_renamed
  else
  pn_wrI 8 r_t_renamed x5 (x5 - (1 : Int32)) fun g23 =>
  pn_nm (x5 + (1 : Int32)) fun z25 =>
  lp_X7_moveOn_3 p2 p3 n z25 g23
  else
  pn_wrI 8 r_t_renamed x5 p3 fun g26 =>
  pn_nm (x5 + (1 : Int32)) fun z28 =>
  lp_X7_moveOn_3 p2 p3 n z28 g26
def j_X7_moveOn_87 (N : Nat) (r_t_renamed : Nat → Int32) (r_t_work : Nat → Int32) (r_q1 : Nat → Int32) : Option ((Nat → Int32) × (Nat → Int32) × (Nat → Int32)) :=
  pn_bd1 (f_X7_lay N r_t_work r_q1) fun r_t_work_u29 =>
  pn_bd1 (lp_X7_moveOn_98 N r_t_renamed r_t_work_u29 N (0 : Int32) r_q1) (fun X98 => (pn_u1 fun r_q1_w30 => some (r_t_renamed, r_t_work_u29, r_q1_w30)) X98)
def f_X7_moveOn (N : Nat) (r_t_renamed : Nat → Int32) (r_t_work : Nat → Int32) (r_q1 : Nat → Int32) (p2 : Int32) (p3 : Int32) (p4 : Int32) : Option ((Nat → Int32) × (Nat → Int32) × (Nat → Int32)) :=
  pn_bd1 (lp_X7_moveOn_3 p2 p3 N (0 : Int32) r_t_renamed) (fun X3 => (pn_u1 fun r_t_renamed_w31 => if ¬ p4 = (1 : Int32) then
  j_X7_moveOn_87 N r_t_renamed_w31 r_t_work r_q1
  else
  pn_rd 265 r_q1 (0 : Int32) fun w33 =>
  pn_bd1 (f_X7_rename N r_t_renamed_w31 r_q1 w33) fun r_q1_u35 =>
  j_X7_moveOn_87 N r_t_renamed_w31 r_t_work r_q1_u35) X3)
set_option maxHeartbeats 4000000 in
set_option maxRecDepth 100000 in
theorem c_X7_moveOn (l : Launch) (D : va_G) (cI cJ cZ : ClassId) (a_t a_t_text a_t_readPage a_t_page a_t_trial a_t_work a_t_book a_t_kept a_t_isKept a_t_seenWhat a_t_seenV a_t_seenIs a_t_label a_t_finds a_t_reason a_t_caseFirst a_t_brief a_t_printed a_t_renamed a_t_worth a_q1 : Nat) (sz : Nat) (v_t_thrown : Int32) (v_t_textSize : Int32) (v_t_place : Int32) (v_t_doings : Int32) (v_t_seen : Int32) (v_t_seed : Int64) (v_t_cases : Int32) (v_t_printedSize : Int32) (v_t_lastReason : Int32) (N : Nat) (r_t_renamed : Nat → Int32) (r_t_work : Nat → Int32) (r_q1 : Nat → Int32) (p2 : Int32) (p3 : Int32) (p4 : Int32) (o_t_renamed : Nat → Int32) (o_t_work : Nat → Int32) (o_q1 : Nat → Int32) (hf : f_X7_moveOn N r_t_renamed r_t_work r_q1 p2 p3 p4 = some (o_t_renamed, o_t_work, o_q1)) : Met l yX7_moveOn wsX7_moveOn { frames := 3, cells := 0, slots := 0, locals := 71 } (pn_Pc D cI cJ cZ [.ref a_t, .ref a_q1, .int p2, .int p3, .int p4] [(a_t, .inr (6, [.int v_t_thrown, .ref a_t_text, .int v_t_textSize, .int v_t_place, .ref a_t_readPage, .ref a_t_page, .ref a_t_trial, .ref a_t_work, .ref a_t_book, .int v_t_doings, .ref a_t_kept, .ref a_t_isKept, .int v_t_seen, .ref a_t_seenWhat, .ref a_t_seenV, .ref a_t_seenIs, .long v_t_seed, .ref a_t_label, .ref a_t_finds, .ref a_t_reason, .ref a_t_caseFirst, .int v_t_cases, .ref a_t_brief, .ref a_t_printed, .int v_t_printedSize, .ref a_t_renamed, .ref a_t_worth, .int v_t_lastReason])), (a_t_renamed, .inl (cI, 8, .inl r_t_renamed)), (a_t_work, .inl (cI, 265, .inl r_t_work)), (a_q1, .inl (cI, 265, .inl r_q1))] sz) (pn_Qv D [(a_t, .inr (6, [.int v_t_thrown, .ref a_t_text, .int v_t_textSize, .int v_t_place, .ref a_t_readPage, .ref a_t_page, .ref a_t_trial, .ref a_t_work, .ref a_t_book, .int v_t_doings, .ref a_t_kept, .ref a_t_isKept, .int v_t_seen, .ref a_t_seenWhat, .ref a_t_seenV, .ref a_t_seenIs, .long v_t_seed, .ref a_t_label, .ref a_t_finds, .ref a_t_reason, .ref a_t_caseFirst, .int v_t_cases, .ref a_t_brief, .ref a_t_printed, .int v_t_printedSize, .ref a_t_renamed, .ref a_t_worth, .int v_t_lastReason])), (a_t_renamed, .inl (cI, 8, .inl o_t_renamed)), (a_t_work, .inl (cI, 265, .inl o_t_work)), (a_q1, .inl (cI, 265, .inl o_q1))] (va_A [(a_t, .inr (6, [.int v_t_thrown, .ref a_t_text, .int v_t_textSize, .int v_t_place, .ref a_t_readPage, .ref a_t_page, .ref a_t_trial, .ref a_t_work, .ref a_t_book, .int v_t_doings, .ref a_t_kept, .ref a_t_isKept, .int v_t_seen, .ref a_t_seenWhat, .ref a_t_seenV, .ref a_t_seenIs, .long v_t_seed, .ref a_t_label, .ref a_t_finds, .ref a_t_reason, .ref a_t_caseFirst, .int v_t_cases, .ref a_t_brief, .ref a_t_printed, .int v_t_printedSize, .ref a_t_renamed, .ref a_t_worth, .int v_t_lastReason])), (a_t_renamed, .inl (cI, 8, .inl r_t_renamed)), (a_t_work, .inl (cI, 265, .inl r_t_work)), (a_q1, .inl (cI, 265, .inl r_q1))] sz)) 0 0 (va_A [(a_t, .inr (6, [.int v_t_thrown, .ref a_t_text, .int v_t_textSize, .int v_t_place, .ref a_t_readPage, .ref a_t_page, .ref a_t_trial, .ref a_t_work, .ref a_t_book, .int v_t_doings, .ref a_t_kept, .ref a_t_isKept, .int v_t_seen, .ref a_t_seenWhat, .ref a_t_seenV, .ref a_t_seenIs, .long v_t_seed, .ref a_t_label, .ref a_t_finds, .ref a_t_reason, .ref a_t_caseFirst, .int v_t_cases, .ref a_t_brief, .ref a_t_printed, .int v_t_printedSize, .ref a_t_renamed, .ref a_t_worth, .int v_t_lastReason])), (a_t_renamed, .inl (cI, 8, .inl r_t_renamed)), (a_t_work, .inl (cI, 265, .inl r_t_work)), (a_q1, .inl (cI, 265, .inl r_q1))] sz) := by
  refine pn_entry (cc := cX7_moveOn) (maxL := 6) (ret := none) (Qf := pn_Qv D [(a_t, .inr (6, [.int v_t_thrown, .ref a_t_text, .int v_t_textSize, .int v_t_place, .ref a_t_readPage, .ref a_t_page, .ref a_t_trial, .ref a_t_work, .ref a_t_book, .int v_t_doings, .ref a_t_kept, .ref a_t_isKept, .int v_t_seen, .ref a_t_seenWhat, .ref a_t_seenV, .ref a_t_seenIs, .long v_t_seed, .ref a_t_label, .ref a_t_finds, .ref a_t_reason, .ref a_t_caseFirst, .int v_t_cases, .ref a_t_brief, .ref a_t_printed, .int v_t_printedSize, .ref a_t_renamed, .ref a_t_worth, .int v_t_lastReason])), (a_t_renamed, .inl (cI, 8, .inl o_t_renamed)), (a_t_work, .inl (cI, 265, .inl o_t_work)), (a_q1, .inl (cI, 265, .inl o_q1))]) (by decide) rfl (Nat.le_of_ble_eq_true rfl) ?_
  intro p e s m args below meth c A ls H locs Qm hQ hx hb hr hlocks hml hown hts hK hP hD hA hS hl
  have hl : lv_has ls 6 [(0, .ref a_t), (1, .ref a_q1), (2, .int p2), (3, .int p3), (4, .int p4)] := hl
  have hinX7 : ∀ w ∈ wsX70, w ∈ wsX7_moveOn := by decide +kernel
  have fl_22 := hts (.fieldLink RX7 22 "PointingNotesModel" "work" "[I") (by decide +kernel)
  have fl_62 := hts (.fieldLink RX7 62 "PointingNotesModel" "renamed" "[I") (by decide +kernel)
  rw [f_X7_moveOn] at hf
  have lp98 : ∀ (n : Nat) (x5 : Int32) (r_t_renamed : Nat → Int32) (r_t_work : Nat → Int32) (r_q1 : Nat → Int32) (X : (Nat → Int32)) (H : Heap) (locs : List Loc) (ls : Array Slot), lp_X7_moveOn_98 N r_t_renamed r_t_work n x5 r_q1 = some X → va_P D vwCl [(a_t, .inr (6, [.int v_t_thrown, .ref a_t_text, .int v_t_textSize, .int v_t_place, .ref a_t_readPage, .ref a_t_page, .ref a_t_trial, .ref a_t_work, .ref a_t_book, .int v_t_doings, .ref a_t_kept, .ref a_t_isKept, .int v_t_seen, .ref a_t_seenWhat, .ref a_t_seenV, .ref a_t_seenIs, .long v_t_seed, .ref a_t_label, .ref a_t_finds, .ref a_t_reason, .ref a_t_caseFirst, .int v_t_cases, .ref a_t_brief, .ref a_t_printed, .int v_t_printedSize, .ref a_t_renamed, .ref a_t_worth, .int v_t_lastReason])), (a_t_renamed, .inl (cI, 8, .inl r_t_renamed)), (a_t_work, .inl (cI, 265, .inl r_t_work)), (a_q1, .inl (cI, 265, .inl r_q1))] H → va_S A s.heap H locs → lv_has ls 6 [(0, .ref a_t), (1, .ref a_q1), (5, .int x5)] → (∀  (r_q1' : Nat → Int32) (H : Heap) (locs : List Loc) (ls : Array Slot), X = r_q1' → va_P D vwCl [(a_t, .inr (6, [.int v_t_thrown, .ref a_t_text, .int v_t_textSize, .int v_t_place, .ref a_t_readPage, .ref a_t_page, .ref a_t_trial, .ref a_t_work, .ref a_t_book, .int v_t_doings, .ref a_t_kept, .ref a_t_isKept, .int v_t_seen, .ref a_t_seenWhat, .ref a_t_seenV, .ref a_t_seenIs, .long v_t_seed, .ref a_t_label, .ref a_t_finds, .ref a_t_reason, .ref a_t_caseFirst, .int v_t_cases, .ref a_t_brief, .ref a_t_printed, .int v_t_printedSize, .ref a_t_renamed, .ref a_t_worth, .int v_t_lastReason])), (a_t_renamed, .inl (cI, 8, .inl r_t_renamed)), (a_t_work, .inl (cI, 265, .inl r_t_work)), (a_q1, .inl (cI, 265, .inl (r_q1')))] H → va_S A s.heap H locs → lv_has ls 6 [] → W p l e { frames := 3, cells := 0, slots := 0, locals := 71 } s m args below meth c H locs 0 0 Qm (F0 m 129 ls [])) → W p l e { frames := 3, cells := 0, slots := 0, locals := 71 } s m args below meth c H locs 0 0 Qm (F0 m 98 ls []) := by
    intro n
    induction n with
    | zero => intro x5 r_t_renamed r_t_work r_q1 X H locs ls hf; cases hf
    | succ n ih =>
      intro x5 r_t_renamed r_t_work r_q1 X H locs ls hf hP hS hl kx129
      rw [lp_X7_moveOn_98] at hf
      refine lv_iload hx hb dX7_moveOn_98 (lv_at hl 2 rfl) ?_
      refine lv_aload_n hx hb dX7_moveOn_100 rfl (lv_at hl 1 rfl) ?_
      refine lv_iconst (v := (0)) hx hb dX7_moveOn_101 (by decide) ?_
      obtain ⟨hi2, w1, ew1, hf⟩ := pn_rd_at hf
      refine pn_ldI hx hb hK.1 hP 3 0 rfl rfl hi2 ew1 dX7_moveOn_102 ?_
      refine lv_icmp_ge (tgt := 129) hx hb dX7_moveOn_103 (by decide) (fun c3 => ?_) (fun c3 => ?_)
      · have hf := pn_ifp c3 hf
        exact kx129 r_q1 H locs ls (Option.some.inj hf).symm hP hS (lv_sub hl [] rfl)
      · have hf := pn_ifn c3 hf
        refine lv_aload_n hx hb dX7_moveOn_106 rfl (lv_at hl 1 rfl) ?_
        refine lv_aload_n hx hb dX7_moveOn_107 rfl (lv_at hl 0 rfl) ?_
        refine va_get (D := D) (ci := 6) (v := .ref a_t_renamed) (C := RX7) (T := TX7) (N := 28) hx hb hts hinX7 hown hK.1 hP 0 rfl rfl 25 (by decide) fl_62 (fun _ h9 => h9) rfl dX7_moveOn_108 ?_
        refine lv_iload hx hb dX7_moveOn_111 (lv_at hl 2 rfl) ?_
        obtain ⟨hi5, w4, ew4, hf⟩ := pn_rd_at hf
        refine pn_ldI hx hb hK.1 hP 1 0 rfl rfl hi5 ew4 dX7_moveOn_113 ?_
        refine lv_aload_n hx hb dX7_moveOn_114 rfl (lv_at hl 0 rfl) ?_
        refine va_get (D := D) (ci := 6) (v := .ref a_t_work) (C := RX7) (T := TX7) (N := 28) hx hb hts hinX7 hown hK.1 hP 0 rfl rfl 7 (by decide) fl_22 (fun _ h9 => h9) rfl dX7_moveOn_115 ?_
        refine lv_iload hx hb dX7_moveOn_118 (lv_at hl 2 rfl) ?_
        obtain ⟨r_q1_u6, hu6, hf⟩ := pn_bd1_at hf
        refine pn_callv [3, 2] (va_runS (As := [.ref a_q1, .int w4, .ref a_t_work, .int x5]) (rest := []) ⟨hx, hb, hml, hown, hts⟩ (c_X7_copyNote l D cI cJ cZ a_q1 a_t_work H.size N r_q1 r_t_work w4 x5 r_q1_u6 hu6) (va_cwS 4 hts gX7_moveOn_X7_copyNote rfl rfl rfl hdX7_copyNote ⟨Nat.le_of_ble_eq_true rfl, Nat.le_of_ble_eq_true rfl⟩) (pn_preS [3, 2] hP (hD.addr rfl) hK rfl rfl) rfl rfl hl.1 rfl (lv_room (Nat.le_of_ble_eq_true rfl)) dX7_moveOn_120 ⟨Nat.zero_le _, Nat.zero_le _⟩) hP (hD.addr rfl) hS hA rfl rfl rfl (fun H locs (hP : va_P D vwCl [(a_t, .inr (6, [.int v_t_thrown, .ref a_t_text, .int v_t_textSize, .int v_t_place, .ref a_t_readPage, .ref a_t_page, .ref a_t_trial, .ref a_t_work, .ref a_t_book, .int v_t_doings, .ref a_t_kept, .ref a_t_isKept, .int v_t_seen, .ref a_t_seenWhat, .ref a_t_seenV, .ref a_t_seenIs, .long v_t_seed, .ref a_t_label, .ref a_t_finds, .ref a_t_reason, .ref a_t_caseFirst, .int v_t_cases, .ref a_t_brief, .ref a_t_printed, .int v_t_printedSize, .ref a_t_renamed, .ref a_t_worth, .int v_t_lastReason])), (a_t_renamed, .inl (cI, 8, .inl r_t_renamed)), (a_t_work, .inl (cI, 265, .inl r_t_work)), (a_q1, .inl (cI, 265, .inl r_q1_u6))] H) _ hS => ?_)
        obtain ⟨z7, ez7⟩ : ∃ y : Int32, y = x5 + (1) := ⟨_, rfl⟩
        have hf := pn_nm_at ez7 hf
        refine lv_iinc (v := z7) (lv' := [(5, .int z7), (0, .ref a_t), (1, .ref a_q1)]) hx hb dX7_moveOn_123 hl (k := 2) rfl (by rw [ez7]; rfl) (by decide) rfl (fun ls hl => ?_)
        refine lv_goto (tgt := 98) hx hb dX7_moveOn_126 (by decide) ?_
        exact ih z7 r_t_renamed r_t_work r_q1_u6 X H locs ls hf hP hS (lv_sub hl [1, 2, 0] rfl) kx129
  have lp3 : ∀ (n : Nat) (x5 : Int32) (r_t_renamed : Nat → Int32) (r_t_work : Nat → Int32) (r_q1 : Nat → Int32) (X : (Nat → Int32)) (H : Heap) (locs : List Loc) (ls : Array Slot), lp_X7_moveOn_3 p2 p3 n x5 r_t_renamed = some X → va_P D vwCl [(a_t, .inr (6, [.int v_t_thrown, .ref a_t_text, .int v_t_textSize, .int v_t_place, .ref a_t_readPage, .ref a_t_page, .ref a_t_trial, .ref a_t_work, .ref a_t_book, .int v_t_doings, .ref a_t_kept, .ref a_t_isKept, .int v_t_seen, .ref a_t_seenWhat, .ref a_t_seenV, .ref a_t_seenIs, .long v_t_seed, .ref a_t_label, .ref a_t_finds, .ref a_t_reason, .ref a_t_caseFirst, .int v_t_cases, .ref a_t_brief, .ref a_t_printed, .int v_t_printedSize, .ref a_t_renamed, .ref a_t_worth, .int v_t_lastReason])), (a_t_renamed, .inl (cI, 8, .inl r_t_renamed)), (a_t_work, .inl (cI, 265, .inl r_t_work)), (a_q1, .inl (cI, 265, .inl r_q1))] H → va_S A s.heap H locs → lv_has ls 6 [(0, .ref a_t), (1, .ref a_q1), (2, .int p2), (3, .int p3), (4, .int p4), (5, .int x5)] → (∀  (r_t_renamed' : Nat → Int32) (H : Heap) (locs : List Loc) (ls : Array Slot), X = r_t_renamed' → va_P D vwCl [(a_t, .inr (6, [.int v_t_thrown, .ref a_t_text, .int v_t_textSize, .int v_t_place, .ref a_t_readPage, .ref a_t_page, .ref a_t_trial, .ref a_t_work, .ref a_t_book, .int v_t_doings, .ref a_t_kept, .ref a_t_isKept, .int v_t_seen, .ref a_t_seenWhat, .ref a_t_seenV, .ref a_t_seenIs, .long v_t_seed, .ref a_t_label, .ref a_t_finds, .ref a_t_reason, .ref a_t_caseFirst, .int v_t_cases, .ref a_t_brief, .ref a_t_printed, .int v_t_printedSize, .ref a_t_renamed, .ref a_t_worth, .int v_t_lastReason])), (a_t_renamed, .inl (cI, 8, .inl (r_t_renamed'))), (a_t_work, .inl (cI, 265, .inl r_t_work)), (a_q1, .inl (cI, 265, .inl r_q1))] H → va_S A s.heap H locs → lv_has ls 6 [(0, .ref a_t), (1, .ref a_q1), (4, .int p4)] → W p l e { frames := 3, cells := 0, slots := 0, locals := 71 } s m args below meth c H locs 0 0 Qm (F0 m 73 ls [])) → W p l e { frames := 3, cells := 0, slots := 0, locals := 71 } s m args below meth c H locs 0 0 Qm (F0 m 3 ls []) := by
    intro n
    induction n with
    | zero => intro x5 r_t_renamed r_t_work r_q1 X H locs ls hf; cases hf
    | succ n ih =>
      intro x5 r_t_renamed r_t_work r_q1 X H locs ls hf hP hS hl kx73
      rw [lp_X7_moveOn_3] at hf
      have jn45 : ∀ (x5 : Int32) (s1 : Int32) (r_t_renamed : Nat → Int32) (H : Heap) (locs : List Loc) (ls : Array Slot), j_X7_moveOn_45 (lp_X7_moveOn_3 p2 p3 n) p2 p3 x5 s1 r_t_renamed = some X → va_P D vwCl [(a_t, .inr (6, [.int v_t_thrown, .ref a_t_text, .int v_t_textSize, .int v_t_place, .ref a_t_readPage, .ref a_t_page, .ref a_t_trial, .ref a_t_work, .ref a_t_book, .int v_t_doings, .ref a_t_kept, .ref a_t_isKept, .int v_t_seen, .ref a_t_seenWhat, .ref a_t_seenV, .ref a_t_seenIs, .long v_t_seed, .ref a_t_label, .ref a_t_finds, .ref a_t_reason, .ref a_t_caseFirst, .int v_t_cases, .ref a_t_brief, .ref a_t_printed, .int v_t_printedSize, .ref a_t_renamed, .ref a_t_worth, .int v_t_lastReason])), (a_t_renamed, .inl (cI, 8, .inl r_t_renamed)), (a_t_work, .inl (cI, 265, .inl r_t_work)), (a_q1, .inl (cI, 265, .inl r_q1))] H → va_S A s.heap H locs → lv_has ls 6 [(0, .ref a_t), (1, .ref a_q1), (2, .int p2), (3, .int p3), (4, .int p4), (5, .int x5)] → W p l e { frames := 3, cells := 0, slots := 0, locals := 71 } s m args below meth c H locs 0 0 Qm (F0 m 45 ls [.int s1, .ref a_t_renamed]) := by
        intro x5 s1 r_t_renamed H locs ls hf hP hS hl
        rw [j_X7_moveOn_45] at hf
        refine lv_iload_n hx hb dX7_moveOn_45 rfl (lv_at hl 3 rfl) ?_
        refine lv_iload hx hb dX7_moveOn_46 (lv_at hl 5 rfl) ?_
        refine lv_icmp_gt (tgt := 64) hx hb dX7_moveOn_48 (by decide) (fun c8 => ?_) (fun c8 => ?_)
        · have hf := pn_ifp c8 hf
          refine lv_iload hx hb dX7_moveOn_64 (lv_at hl 5 rfl) ?_
          obtain ⟨hi10, g9, eg9, hf⟩ := pn_wrI_at hf
          refine pn_stI hx hb hK.1 hP (hD.addr rfl) hS 1 0 rfl rfl hi10 eg9 dX7_moveOn_66 (fun H locs (hP : va_P D vwCl [(a_t, .inr (6, [.int v_t_thrown, .ref a_t_text, .int v_t_textSize, .int v_t_place, .ref a_t_readPage, .ref a_t_page, .ref a_t_trial, .ref a_t_work, .ref a_t_book, .int v_t_doings, .ref a_t_kept, .ref a_t_isKept, .int v_t_seen, .ref a_t_seenWhat, .ref a_t_seenV, .ref a_t_seenIs, .long v_t_seed, .ref a_t_label, .ref a_t_finds, .ref a_t_reason, .ref a_t_caseFirst, .int v_t_cases, .ref a_t_brief, .ref a_t_printed, .int v_t_printedSize, .ref a_t_renamed, .ref a_t_worth, .int v_t_lastReason])), (a_t_renamed, .inl (cI, 8, .inl g9)), (a_t_work, .inl (cI, 265, .inl r_t_work)), (a_q1, .inl (cI, 265, .inl r_q1))] H) _ hS => ?_)
          obtain ⟨z11, ez11⟩ : ∃ y : Int32, y = x5 + (1) := ⟨_, rfl⟩
          have hf := pn_nm_at ez11 hf
          refine lv_iinc (v := z11) (lv' := [(5, .int z11), (0, .ref a_t), (1, .ref a_q1), (2, .int p2), (3, .int p3), (4, .int p4)]) hx hb dX7_moveOn_67 hl (k := 5) rfl (by rw [ez11]; rfl) (by decide) rfl (fun ls hl => ?_)
          refine lv_goto (tgt := 3) hx hb dX7_moveOn_70 (by decide) ?_
          exact ih z11 g9 r_t_work r_q1 X H locs ls hf hP hS (lv_sub hl [1, 2, 3, 4, 5, 0] rfl) kx73
        · have hf := pn_ifn c8 hf
          refine lv_iload hx hb dX7_moveOn_51 (lv_at hl 5 rfl) ?_
          refine lv_iload_n hx hb dX7_moveOn_53 rfl (lv_at hl 2 rfl) ?_
          refine lv_icmp_ge (tgt := 64) hx hb dX7_moveOn_54 (by decide) (fun c12 => ?_) (fun c12 => ?_)
          · have hf := pn_ifp c12 hf
            refine lv_iload hx hb dX7_moveOn_64 (lv_at hl 5 rfl) ?_
            obtain ⟨hi14, g13, eg13, hf⟩ := pn_wrI_at hf
            refine pn_stI hx hb hK.1 hP (hD.addr rfl) hS 1 0 rfl rfl hi14 eg13 dX7_moveOn_66 (fun H locs (hP : va_P D vwCl [(a_t, .inr (6, [.int v_t_thrown, .ref a_t_text, .int v_t_textSize, .int v_t_place, .ref a_t_readPage, .ref a_t_page, .ref a_t_trial, .ref a_t_work, .ref a_t_book, .int v_t_doings, .ref a_t_kept, .ref a_t_isKept, .int v_t_seen, .ref a_t_seenWhat, .ref a_t_seenV, .ref a_t_seenIs, .long v_t_seed, .ref a_t_label, .ref a_t_finds, .ref a_t_reason, .ref a_t_caseFirst, .int v_t_cases, .ref a_t_brief, .ref a_t_printed, .int v_t_printedSize, .ref a_t_renamed, .ref a_t_worth, .int v_t_lastReason])), (a_t_renamed, .inl (cI, 8, .inl g13)), (a_t_work, .inl (cI, 265, .inl r_t_work)), (a_q1, .inl (cI, 265, .inl r_q1))] H) _ hS => ?_)
            obtain ⟨z15, ez15⟩ : ∃ y : Int32, y = x5 + (1) := ⟨_, rfl⟩
            have hf := pn_nm_at ez15 hf
            refine lv_iinc (v := z15) (lv' := [(5, .int z15), (0, .ref a_t), (1, .ref a_q1), (2, .int p2), (3, .int p3), (4, .int p4)]) hx hb dX7_moveOn_67 hl (k := 5) rfl (by rw [ez15]; rfl) (by decide) rfl (fun ls hl => ?_)
            refine lv_goto (tgt := 3) hx hb dX7_moveOn_70 (by decide) ?_
            exact ih z15 g13 r_t_work r_q1 X H locs ls hf hP hS (lv_sub hl [1, 2, 3, 4, 5, 0] rfl) kx73
          · have hf := pn_ifn c12 hf
            refine lv_iload hx hb dX7_moveOn_57 (lv_at hl 5 rfl) ?_
            refine lv_iconst (v := (1)) hx hb dX7_moveOn_59 (by decide) ?_
            refine lv_iadd hx hb dX7_moveOn_60 ?_
            refine lv_goto (tgt := 66) hx hb dX7_moveOn_61 (by decide) ?_
            obtain ⟨hi17, g16, eg16, hf⟩ := pn_wrI_at hf
            refine pn_stI hx hb hK.1 hP (hD.addr rfl) hS 1 0 rfl rfl hi17 eg16 dX7_moveOn_66 (fun H locs (hP : va_P D vwCl [(a_t, .inr (6, [.int v_t_thrown, .ref a_t_text, .int v_t_textSize, .int v_t_place, .ref a_t_readPage, .ref a_t_page, .ref a_t_trial, .ref a_t_work, .ref a_t_book, .int v_t_doings, .ref a_t_kept, .ref a_t_isKept, .int v_t_seen, .ref a_t_seenWhat, .ref a_t_seenV, .ref a_t_seenIs, .long v_t_seed, .ref a_t_label, .ref a_t_finds, .ref a_t_reason, .ref a_t_caseFirst, .int v_t_cases, .ref a_t_brief, .ref a_t_printed, .int v_t_printedSize, .ref a_t_renamed, .ref a_t_worth, .int v_t_lastReason])), (a_t_renamed, .inl (cI, 8, .inl g16)), (a_t_work, .inl (cI, 265, .inl r_t_work)), (a_q1, .inl (cI, 265, .inl r_q1))] H) _ hS => ?_)
            obtain ⟨z18, ez18⟩ : ∃ y : Int32, y = x5 + (1) := ⟨_, rfl⟩
            have hf := pn_nm_at ez18 hf
            refine lv_iinc (v := z18) (lv' := [(5, .int z18), (0, .ref a_t), (1, .ref a_q1), (2, .int p2), (3, .int p3), (4, .int p4)]) hx hb dX7_moveOn_67 hl (k := 5) rfl (by rw [ez18]; rfl) (by decide) rfl (fun ls hl => ?_)
            refine lv_goto (tgt := 3) hx hb dX7_moveOn_70 (by decide) ?_
            exact ih z18 g16 r_t_work r_q1 X H locs ls hf hP hS (lv_sub hl [1, 2, 3, 4, 5, 0] rfl) kx73
      refine lv_iload hx hb dX7_moveOn_3 (lv_at hl 5 rfl) ?_
      refine lv_bipush (v := (8)) hx hb dX7_moveOn_5 (by decide) ?_
      refine lv_icmp_ge (tgt := 73) hx hb dX7_moveOn_7 (by decide) (fun c19 => ?_) (fun c19 => ?_)
      · have hf := pn_ifp c19 hf
        exact kx73 r_t_renamed H locs ls (Option.some.inj hf).symm hP hS (lv_sub hl [0, 1, 4] rfl)
      · have hf := pn_ifn c19 hf
        refine lv_aload_n hx hb dX7_moveOn_10 rfl (lv_at hl 0 rfl) ?_
        refine va_get (D := D) (ci := 6) (v := .ref a_t_renamed) (C := RX7) (T := TX7) (N := 28) hx hb hts hinX7 hown hK.1 hP 0 rfl rfl 25 (by decide) fl_62 (fun _ h9 => h9) rfl dX7_moveOn_11 ?_
        refine lv_iload hx hb dX7_moveOn_14 (lv_at hl 5 rfl) ?_
        refine lv_iload hx hb dX7_moveOn_16 (lv_at hl 5 rfl) ?_
        refine lv_iload_n hx hb dX7_moveOn_18 rfl (lv_at hl 2 rfl) ?_
        refine lv_icmp_ne (tgt := 26) hx hb dX7_moveOn_19 (by decide) (fun c20 => ?_) (fun c20 => ?_)
        · have hf := pn_ifp c20 hf
          refine lv_iload_n hx hb dX7_moveOn_26 rfl (lv_at hl 2 rfl) ?_
          refine lv_iload hx hb dX7_moveOn_27 (lv_at hl 5 rfl) ?_
          refine lv_icmp_ge (tgt := 45) hx hb dX7_moveOn_29 (by decide) (fun c21 => ?_) (fun c21 => ?_)
          · have hf := pn_ifp c21 hf
            exact jn45 x5 x5 r_t_renamed H locs ls hf hP hS (lv_sub hl [0, 1, 2, 3, 4, 5] rfl)
          · have hf := pn_ifn c21 hf
            refine lv_iload hx hb dX7_moveOn_32 (lv_at hl 5 rfl) ?_
            refine lv_iload_n hx hb dX7_moveOn_34 rfl (lv_at hl 3 rfl) ?_
            refine lv_icmp_gt (tgt := 45) hx hb dX7_moveOn_35 (by decide) (fun c22 => ?_) (fun c22 => ?_)
            · have hf := pn_ifp c22 hf
              exact jn45 x5 x5 r_t_renamed H locs ls hf hP hS (lv_sub hl [0, 1, 2, 3, 4, 5] rfl)
            · have hf := pn_ifn c22 hf
              refine lv_iload hx hb dX7_moveOn_38 (lv_at hl 5 rfl) ?_
              refine lv_iconst (v := (1)) hx hb dX7_moveOn_40 (by decide) ?_
              refine lv_isub hx hb dX7_moveOn_41 ?_
              refine lv_goto (tgt := 66) hx hb dX7_moveOn_42 (by decide) ?_
              obtain ⟨hi24, g23, eg23, hf⟩ := pn_wrI_at hf
              refine pn_stI hx hb hK.1 hP (hD.addr rfl) hS 1 0 rfl rfl hi24 eg23 dX7_moveOn_66 (fun H locs (hP : va_P D vwCl [(a_t, .inr (6, [.int v_t_thrown, .ref a_t_text, .int v_t_textSize, .int v_t_place, .ref a_t_readPage, .ref a_t_page, .ref a_t_trial, .ref a_t_work, .ref a_t_book, .int v_t_doings, .ref a_t_kept, .ref a_t_isKept, .int v_t_seen, .ref a_t_seenWhat, .ref a_t_seenV, .ref a_t_seenIs, .long v_t_seed, .ref a_t_label, .ref a_t_finds, .ref a_t_reason, .ref a_t_caseFirst, .int v_t_cases, .ref a_t_brief, .ref a_t_printed, .int v_t_printedSize, .ref a_t_renamed, .ref a_t_worth, .int v_t_lastReason])), (a_t_renamed, .inl (cI, 8, .inl g23)), (a_t_work, .inl (cI, 265, .inl r_t_work)), (a_q1, .inl (cI, 265, .inl r_q1))] H) _ hS => ?_)
              obtain ⟨z25, ez25⟩ : ∃ y : Int32, y = x5 + (1) := ⟨_, rfl⟩
              have hf := pn_nm_at ez25 hf
              refine lv_iinc (v := z25) (lv' := [(5, .int z25), (0, .ref a_t), (1, .ref a_q1), (2, .int p2), (3, .int p3), (4, .int p4)]) hx hb dX7_moveOn_67 hl (k := 5) rfl (by rw [ez25]; rfl) (by decide) rfl (fun ls hl => ?_)
              refine lv_goto (tgt := 3) hx hb dX7_moveOn_70 (by decide) ?_
              exact ih z25 g23 r_t_work r_q1 X H locs ls hf hP hS (lv_sub hl [1, 2, 3, 4, 5, 0] rfl) kx73
        · have hf := pn_ifq c20 hf
          refine lv_iload_n hx hb dX7_moveOn_22 rfl (lv_at hl 3 rfl) ?_
          refine lv_goto (tgt := 66) hx hb dX7_moveOn_23 (by decide) ?_
          obtain ⟨hi27, g26, eg26, hf⟩ := pn_wrI_at hf
          refine pn_stI hx hb hK.1 hP (hD.addr rfl) hS 1 0 rfl rfl hi27 eg26 dX7_moveOn_66 (fun H locs (hP : va_P D vwCl [(a_t, .inr (6, [.int v_t_thrown, .ref a_t_text, .int v_t_textSize, .int v_t_place, .ref a_t_readPage, .ref a_t_page, .ref a_t_trial, .ref a_t_work, .ref a_t_book, .int v_t_doings, .ref a_t_kept, .ref a_t_isKept, .int v_t_seen, .ref a_t_seenWhat, .ref a_t_seenV, .ref a_t_seenIs, .long v_t_seed, .ref a_t_label, .ref a_t_finds, .ref a_t_reason, .ref a_t_caseFirst, .int v_t_cases, .ref a_t_brief, .ref a_t_printed, .int v_t_printedSize, .ref a_t_renamed, .ref a_t_worth, .int v_t_lastReason])), (a_t_renamed, .inl (cI, 8, .inl g26)), (a_t_work, .inl (cI, 265, .inl r_t_work)), (a_q1, .inl (cI, 265, .inl r_q1))] H) _ hS => ?_)
          obtain ⟨z28, ez28⟩ : ∃ y : Int32, y = x5 + (1) := ⟨_, rfl⟩
          have hf := pn_nm_at ez28 hf
          refine lv_iinc (v := z28) (lv' := [(5, .int z28), (0, .ref a_t), (1, .ref a_q1), (2, .int p2), (3, .int p3), (4, .int p4)]) hx hb dX7_moveOn_67 hl (k := 5) rfl (by rw [ez28]; rfl) (by decide) rfl (fun ls hl => ?_)
          refine lv_goto (tgt := 3) hx hb dX7_moveOn_70 (by decide) ?_
          exact ih z28 g26 r_t_work r_q1 X H locs ls hf hP hS (lv_sub hl [1, 2, 3, 4, 5, 0] rfl) kx73
  have jn87 : ∀ (r_t_renamed : Nat → Int32) (r_t_work : Nat → Int32) (r_q1 : Nat → Int32) (H : Heap) (locs : List Loc) (ls : Array Slot), j_X7_moveOn_87 N r_t_renamed r_t_work r_q1 = some (o_t_renamed, o_t_work, o_q1) → va_P D vwCl [(a_t, .inr (6, [.int v_t_thrown, .ref a_t_text, .int v_t_textSize, .int v_t_place, .ref a_t_readPage, .ref a_t_page, .ref a_t_trial, .ref a_t_work, .ref a_t_book, .int v_t_doings, .ref a_t_kept, .ref a_t_isKept, .int v_t_seen, .ref a_t_seenWhat, .ref a_t_seenV, .ref a_t_seenIs, .long v_t_seed, .ref a_t_label, .ref a_t_finds, .ref a_t_reason, .ref a_t_caseFirst, .int v_t_cases, .ref a_t_brief, .ref a_t_printed, .int v_t_printedSize, .ref a_t_renamed, .ref a_t_worth, .int v_t_lastReason])), (a_t_renamed, .inl (cI, 8, .inl r_t_renamed)), (a_t_work, .inl (cI, 265, .inl r_t_work)), (a_q1, .inl (cI, 265, .inl r_q1))] H → va_S A s.heap H locs → lv_has ls 6 [(0, .ref a_t), (1, .ref a_q1)] → W p l e { frames := 3, cells := 0, slots := 0, locals := 71 } s m args below meth c H locs 0 0 Qm (F0 m 87 ls []) := by
    intro r_t_renamed r_t_work r_q1 H locs ls hf hP hS hl
    rw [j_X7_moveOn_87] at hf
    refine lv_aload_n hx hb dX7_moveOn_87 rfl (lv_at hl 0 rfl) ?_
    refine va_get (D := D) (ci := 6) (v := .ref a_t_work) (C := RX7) (T := TX7) (N := 28) hx hb hts hinX7 hown hK.1 hP 0 rfl rfl 7 (by decide) fl_22 (fun _ h9 => h9) rfl dX7_moveOn_88 ?_
    refine lv_aload_n hx hb dX7_moveOn_91 rfl (lv_at hl 1 rfl) ?_
    obtain ⟨r_t_work_u29, hu29, hf⟩ := pn_bd1_at hf
    refine pn_callv [2, 3] (va_runS (As := [.ref a_t_work, .ref a_q1]) (rest := []) ⟨hx, hb, hml, hown, hts⟩ (c_X7_lay l D cI cJ cZ a_t_work a_q1 H.size N r_t_work r_q1 r_t_work_u29 hu29) (va_cwS 2 hts gX7_moveOn_X7_lay rfl rfl rfl hdX7_lay ⟨Nat.le_of_ble_eq_true rfl, Nat.le_of_ble_eq_true rfl⟩) (pn_preS [2, 3] hP (hD.addr rfl) hK rfl rfl) rfl rfl hl.1 rfl (lv_room (Nat.le_of_ble_eq_true rfl)) dX7_moveOn_92 ⟨Nat.zero_le _, Nat.zero_le _⟩) hP (hD.addr rfl) hS hA rfl rfl rfl (fun H locs (hP : va_P D vwCl [(a_t, .inr (6, [.int v_t_thrown, .ref a_t_text, .int v_t_textSize, .int v_t_place, .ref a_t_readPage, .ref a_t_page, .ref a_t_trial, .ref a_t_work, .ref a_t_book, .int v_t_doings, .ref a_t_kept, .ref a_t_isKept, .int v_t_seen, .ref a_t_seenWhat, .ref a_t_seenV, .ref a_t_seenIs, .long v_t_seed, .ref a_t_label, .ref a_t_finds, .ref a_t_reason, .ref a_t_caseFirst, .int v_t_cases, .ref a_t_brief, .ref a_t_printed, .int v_t_printedSize, .ref a_t_renamed, .ref a_t_worth, .int v_t_lastReason])), (a_t_renamed, .inl (cI, 8, .inl r_t_renamed)), (a_t_work, .inl (cI, 265, .inl r_t_work_u29)), (a_q1, .inl (cI, 265, .inl r_q1))] H) _ hS => ?_)
    refine lv_iconst (v := (0)) hx hb dX7_moveOn_95 (by decide) ?_
    refine lv_istore (lv' := [(5, .int (0 : Int32)), (0, .ref a_t), (1, .ref a_q1)]) hx hb dX7_moveOn_96 hl (by decide) rfl (fun ls hl => ?_)
    obtain ⟨X98, hX98, hf⟩ := pn_bd1_at hf
    refine lp98 N (0 : Int32) r_t_renamed r_t_work_u29 r_q1 X98 H locs ls hX98 hP hS (lv_sub hl [1, 2, 0] rfl) ?_
    · intro r_q1_w30 H locs ls eX hP hS hl
      rw [eX] at hf
      have hf := pn_u1_at hf
      cases hf
      rw [hQ]
      exact pn_retv hx hb hr hlocks hP hS dX7_moveOn_129
  refine lv_iconst (v := (0)) hx hb dX7_moveOn_0 (by decide) ?_
  refine lv_istore (lv' := [(5, .int (0 : Int32)), (0, .ref a_t), (1, .ref a_q1), (2, .int p2), (3, .int p3), (4, .int p4)]) hx hb dX7_moveOn_1 hl (by decide) rfl (fun ls hl => ?_)
  obtain ⟨X3, hX3, hf⟩ := pn_bd1_at hf
  refine lp3 N (0 : Int32) r_t_renamed r_t_work r_q1 X3 H locs ls hX3 hP hS (lv_sub hl [1, 2, 3, 4, 5, 0] rfl) ?_
  · intro r_t_renamed_w31 H locs ls eX hP hS hl
    rw [eX] at hf
    have hf := pn_u1_at hf
    refine lv_iload hx hb dX7_moveOn_73 (lv_at hl 2 rfl) ?_
    refine lv_iconst (v := (1)) hx hb dX7_moveOn_75 (by decide) ?_
    refine lv_icmp_ne (tgt := 87) hx hb dX7_moveOn_76 (by decide) (fun c32 => ?_) (fun c32 => ?_)
    · have hf := pn_ifp c32 hf
      exact jn87 r_t_renamed_w31 r_t_work r_q1 H locs ls hf hP hS (lv_sub hl [0, 1] rfl)
    · have hf := pn_ifq c32 hf
      refine lv_aload_n hx hb dX7_moveOn_79 rfl (lv_at hl 0 rfl) ?_
      refine lv_aload_n hx hb dX7_moveOn_80 rfl (lv_at hl 1 rfl) ?_
      refine lv_aload_n hx hb dX7_moveOn_81 rfl (lv_at hl 1 rfl) ?_
      refine lv_iconst (v := (0)) hx hb dX7_moveOn_82 (by decide) ?_
      obtain ⟨hi34, w33, ew33, hf⟩ := pn_rd_at hf
      refine pn_ldI hx hb hK.1 hP 3 0 rfl rfl hi34 ew33 dX7_moveOn_83 ?_
      obtain ⟨r_q1_u35, hu35, hf⟩ := pn_bd1_at hf
      refine pn_callv [0, 1, 3] (va_runV (As := [.ref a_q1, .int w33]) (rest := []) ⟨hx, hb, hml, hown, hts⟩ (c_X7_rename l D cI cJ cZ a_t a_t_text a_t_readPage a_t_page a_t_trial a_t_work a_t_book a_t_kept a_t_isKept a_t_seenWhat a_t_seenV a_t_seenIs a_t_label a_t_finds a_t_reason a_t_caseFirst a_t_brief a_t_printed a_t_renamed a_t_worth a_q1 H.size v_t_thrown v_t_textSize v_t_place v_t_doings v_t_seen v_t_seed v_t_cases v_t_printedSize v_t_lastReason N r_t_renamed_w31 r_q1 w33 r_q1_u35 hu35) (cwV 2 hts gX7_moveOn_X7_rename rfl rfl rfl hdX7_rename ⟨Nat.le_of_ble_eq_true rfl, Nat.le_of_ble_eq_true rfl⟩) (pn_preV [0, 1, 3] hP (hD.addr rfl) hK rfl rfl (q0 := 0) (ci := 6) rfl rfl) rfl rfl hl.1 rfl (lv_room (Nat.le_of_ble_eq_true rfl)) dX7_moveOn_84 ⟨Nat.zero_le _, Nat.zero_le _⟩) hP (hD.addr rfl) hS hA rfl rfl rfl (fun H locs (hP : va_P D vwCl [(a_t, .inr (6, [.int v_t_thrown, .ref a_t_text, .int v_t_textSize, .int v_t_place, .ref a_t_readPage, .ref a_t_page, .ref a_t_trial, .ref a_t_work, .ref a_t_book, .int v_t_doings, .ref a_t_kept, .ref a_t_isKept, .int v_t_seen, .ref a_t_seenWhat, .ref a_t_seenV, .ref a_t_seenIs, .long v_t_seed, .ref a_t_label, .ref a_t_finds, .ref a_t_reason, .ref a_t_caseFirst, .int v_t_cases, .ref a_t_brief, .ref a_t_printed, .int v_t_printedSize, .ref a_t_renamed, .ref a_t_worth, .int v_t_lastReason])), (a_t_renamed, .inl (cI, 8, .inl r_t_renamed_w31)), (a_t_work, .inl (cI, 265, .inl r_t_work)), (a_q1, .inl (cI, 265, .inl r_q1_u35))] H) _ hS => ?_)
      exact jn87 r_t_renamed_w31 r_t_work r_q1_u35 H locs ls hf hP hS (lv_sub hl [0, 1] rfl)
def f_X7_move (N : Nat) (v_t_thrown : Int32) (v_t_doings : Int32) (v_t_cases : Int32) (v_t_lastReason : Int32) (r_t_book : Nat → Int32) (r_t_caseFirst : Nat → Int32) (r_t_finds : Nat → Int32) (r_t_label : Nat → Int32) (r_t_page : Nat → Int32) (r_t_reason : Nat → Int32) (r_t_renamed : Nat → Int32) (r_t_work : Nat → Int32) (p1 : Int32) (p2 : Int32) (p3 : Int32) : Option (Int32 × Int32 × Int32 × Int32 × Int32 × (Nat → Int32) × (Nat → Int32) × (Nat → Int32) × (Nat → Int32) × (Nat → Int32) × (Nat → Int32) × (Nat → Int32) × (Nat → Int32)) :=
  pn_rd 265 r_t_page (0 : Int32) fun w1 =>
  pn_bd1 (f_X7_in p1.toInt64 (0 : Int64) ((w1 - (1 : Int32)).toInt64)) fun ru3 =>
  if ru3 = 0 then
  some ((-1 : Int32), (0 : Int32), v_t_doings, v_t_cases, v_t_lastReason, r_t_book, r_t_caseFirst, r_t_finds, r_t_label, r_t_page, r_t_reason, r_t_renamed, r_t_work)
  else
  pn_rd 265 r_t_page (0 : Int32) fun w5 =>
  pn_bd1 (f_X7_in p2.toInt64 (0 : Int64) ((w5 - (1 : Int32)).toInt64)) fun ru7 =>
  if ¬ ru7 = 0 then
  pn_bd1 (f_X7_in p3.toInt64 (0 : Int64) (1 : Int64)) fun ru9 =>
  if ¬ ru9 = 0 then
  pn_bd2 (f_X7_note N v_t_doings r_t_book r_t_page) fun v_t_doings_u11 r_t_book_u11 =>
  pn_bd3 (f_X7_moveOn N r_t_renamed r_t_work r_t_page p1 p2 p3) fun r_t_renamed_u12 r_t_work_u12 r_t_page_u12 =>
  pn_bd7 (f_X7_dead N v_t_cases v_t_lastReason r_t_caseFirst r_t_finds r_t_label r_t_reason r_t_page_u12) fun ru13 v_t_cases_u13 v_t_lastReason_u13 r_t_caseFirst_u13 r_t_finds_u13 r_t_label_u13 r_t_reason_u13 =>
  some (ru13, (0 : Int32), v_t_doings_u11, v_t_cases_u13, v_t_lastReason_u13, r_t_book_u11, r_t_caseFirst_u13, r_t_finds_u13, r_t_label_u13, r_t_page_u12, r_t_reason_u13, r_t_renamed_u12, r_t_work_u12)
  else
  some ((-2 : Int32), (0 : Int32), v_t_doings, v_t_cases, v_t_lastReason, r_t_book, r_t_caseFirst, r_t_finds, r_t_label, r_t_page, r_t_reason, r_t_renamed, r_t_work)
  else
  some ((-1 : Int32), (0 : Int32), v_t_doings, v_t_cases, v_t_lastReason, r_t_book, r_t_caseFirst, r_t_finds, r_t_label, r_t_page, r_t_reason, r_t_renamed, r_t_work)
set_option maxHeartbeats 4000000 in
set_option maxRecDepth 100000 in
theorem c_X7_move (l : Launch) (D : va_G) (cI cJ cZ : ClassId) (a_t a_t_text a_t_readPage a_t_page a_t_trial a_t_work a_t_book a_t_kept a_t_isKept a_t_seenWhat a_t_seenV a_t_seenIs a_t_label a_t_finds a_t_reason a_t_caseFirst a_t_brief a_t_printed a_t_renamed a_t_worth : Nat) (sz : Nat) (v_t_textSize : Int32) (v_t_place : Int32) (v_t_seen : Int32) (v_t_seed : Int64) (v_t_printedSize : Int32) (N : Nat) (v_t_thrown : Int32) (v_t_doings : Int32) (v_t_cases : Int32) (v_t_lastReason : Int32) (r_t_book : Nat → Int32) (r_t_caseFirst : Nat → Int32) (r_t_finds : Nat → Int32) (r_t_label : Nat → Int32) (r_t_page : Nat → Int32) (r_t_reason : Nat → Int32) (r_t_renamed : Nat → Int32) (r_t_work : Nat → Int32) (p1 : Int32) (p2 : Int32) (p3 : Int32) (rR : Int32) (o_t_thrown : Int32) (o_t_doings : Int32) (o_t_cases : Int32) (o_t_lastReason : Int32) (o_t_book : Nat → Int32) (o_t_caseFirst : Nat → Int32) (o_t_finds : Nat → Int32) (o_t_label : Nat → Int32) (o_t_page : Nat → Int32) (o_t_reason : Nat → Int32) (o_t_renamed : Nat → Int32) (o_t_work : Nat → Int32) (hf : f_X7_move N v_t_thrown v_t_doings v_t_cases v_t_lastReason r_t_book r_t_caseFirst r_t_finds r_t_label r_t_page r_t_reason r_t_renamed r_t_work p1 p2 p3 = some (rR, o_t_thrown, o_t_doings, o_t_cases, o_t_lastReason, o_t_book, o_t_caseFirst, o_t_finds, o_t_label, o_t_page, o_t_reason, o_t_renamed, o_t_work)) : Met l yX7_move wsX7_move { frames := 8, cells := 0, slots := 0, locals := 189 } (pn_Pc D cI cJ cZ [.ref a_t, .int p1, .int p2, .int p3] [(a_t, .inr (6, [.int v_t_thrown, .ref a_t_text, .int v_t_textSize, .int v_t_place, .ref a_t_readPage, .ref a_t_page, .ref a_t_trial, .ref a_t_work, .ref a_t_book, .int v_t_doings, .ref a_t_kept, .ref a_t_isKept, .int v_t_seen, .ref a_t_seenWhat, .ref a_t_seenV, .ref a_t_seenIs, .long v_t_seed, .ref a_t_label, .ref a_t_finds, .ref a_t_reason, .ref a_t_caseFirst, .int v_t_cases, .ref a_t_brief, .ref a_t_printed, .int v_t_printedSize, .ref a_t_renamed, .ref a_t_worth, .int v_t_lastReason])), (a_t_book, .inl (cI, 3710, .inl r_t_book)), (a_t_caseFirst, .inl (cI, 32, .inl r_t_caseFirst)), (a_t_finds, .inl (cI, 32, .inl r_t_finds)), (a_t_label, .inl (cI, 32, .inl r_t_label)), (a_t_page, .inl (cI, 265, .inl r_t_page)), (a_t_reason, .inl (cI, 32, .inl r_t_reason)), (a_t_renamed, .inl (cI, 8, .inl r_t_renamed)), (a_t_work, .inl (cI, 265, .inl r_t_work))] sz) (pn_Qi D rR [(a_t, .inr (6, [.int o_t_thrown, .ref a_t_text, .int v_t_textSize, .int v_t_place, .ref a_t_readPage, .ref a_t_page, .ref a_t_trial, .ref a_t_work, .ref a_t_book, .int o_t_doings, .ref a_t_kept, .ref a_t_isKept, .int v_t_seen, .ref a_t_seenWhat, .ref a_t_seenV, .ref a_t_seenIs, .long v_t_seed, .ref a_t_label, .ref a_t_finds, .ref a_t_reason, .ref a_t_caseFirst, .int o_t_cases, .ref a_t_brief, .ref a_t_printed, .int v_t_printedSize, .ref a_t_renamed, .ref a_t_worth, .int o_t_lastReason])), (a_t_book, .inl (cI, 3710, .inl o_t_book)), (a_t_caseFirst, .inl (cI, 32, .inl o_t_caseFirst)), (a_t_finds, .inl (cI, 32, .inl o_t_finds)), (a_t_label, .inl (cI, 32, .inl o_t_label)), (a_t_page, .inl (cI, 265, .inl o_t_page)), (a_t_reason, .inl (cI, 32, .inl o_t_reason)), (a_t_renamed, .inl (cI, 8, .inl o_t_renamed)), (a_t_work, .inl (cI, 265, .inl o_t_work))] (va_A [(a_t, .inr (6, [.int v_t_thrown, .ref a_t_text, .int v_t_textSize, .int v_t_place, .ref a_t_readPage, .ref a_t_page, .ref a_t_trial, .ref a_t_work, .ref a_t_book, .int v_t_doings, .ref a_t_kept, .ref a_t_isKept, .int v_t_seen, .ref a_t_seenWhat, .ref a_t_seenV, .ref a_t_seenIs, .long v_t_seed, .ref a_t_label, .ref a_t_finds, .ref a_t_reason, .ref a_t_caseFirst, .int v_t_cases, .ref a_t_brief, .ref a_t_printed, .int v_t_printedSize, .ref a_t_renamed, .ref a_t_worth, .int v_t_lastReason])), (a_t_book, .inl (cI, 3710, .inl r_t_book)), (a_t_caseFirst, .inl (cI, 32, .inl r_t_caseFirst)), (a_t_finds, .inl (cI, 32, .inl r_t_finds)), (a_t_label, .inl (cI, 32, .inl r_t_label)), (a_t_page, .inl (cI, 265, .inl r_t_page)), (a_t_reason, .inl (cI, 32, .inl r_t_reason)), (a_t_renamed, .inl (cI, 8, .inl r_t_renamed)), (a_t_work, .inl (cI, 265, .inl r_t_work))] sz)) 0 0 (va_A [(a_t, .inr (6, [.int v_t_thrown, .ref a_t_text, .int v_t_textSize, .int v_t_place, .ref a_t_readPage, .ref a_t_page, .ref a_t_trial, .ref a_t_work, .ref a_t_book, .int v_t_doings, .ref a_t_kept, .ref a_t_isKept, .int v_t_seen, .ref a_t_seenWhat, .ref a_t_seenV, .ref a_t_seenIs, .long v_t_seed, .ref a_t_label, .ref a_t_finds, .ref a_t_reason, .ref a_t_caseFirst, .int v_t_cases, .ref a_t_brief, .ref a_t_printed, .int v_t_printedSize, .ref a_t_renamed, .ref a_t_worth, .int v_t_lastReason])), (a_t_book, .inl (cI, 3710, .inl r_t_book)), (a_t_caseFirst, .inl (cI, 32, .inl r_t_caseFirst)), (a_t_finds, .inl (cI, 32, .inl r_t_finds)), (a_t_label, .inl (cI, 32, .inl r_t_label)), (a_t_page, .inl (cI, 265, .inl r_t_page)), (a_t_reason, .inl (cI, 32, .inl r_t_reason)), (a_t_renamed, .inl (cI, 8, .inl r_t_renamed)), (a_t_work, .inl (cI, 265, .inl r_t_work))] sz) := by
  refine pn_entry (cc := cX7_move) (maxL := 4) (ret := (some .int)) (Qf := pn_Qi D rR [(a_t, .inr (6, [.int o_t_thrown, .ref a_t_text, .int v_t_textSize, .int v_t_place, .ref a_t_readPage, .ref a_t_page, .ref a_t_trial, .ref a_t_work, .ref a_t_book, .int o_t_doings, .ref a_t_kept, .ref a_t_isKept, .int v_t_seen, .ref a_t_seenWhat, .ref a_t_seenV, .ref a_t_seenIs, .long v_t_seed, .ref a_t_label, .ref a_t_finds, .ref a_t_reason, .ref a_t_caseFirst, .int o_t_cases, .ref a_t_brief, .ref a_t_printed, .int v_t_printedSize, .ref a_t_renamed, .ref a_t_worth, .int o_t_lastReason])), (a_t_book, .inl (cI, 3710, .inl o_t_book)), (a_t_caseFirst, .inl (cI, 32, .inl o_t_caseFirst)), (a_t_finds, .inl (cI, 32, .inl o_t_finds)), (a_t_label, .inl (cI, 32, .inl o_t_label)), (a_t_page, .inl (cI, 265, .inl o_t_page)), (a_t_reason, .inl (cI, 32, .inl o_t_reason)), (a_t_renamed, .inl (cI, 8, .inl o_t_renamed)), (a_t_work, .inl (cI, 265, .inl o_t_work))]) (by decide) rfl (Nat.le_of_ble_eq_true rfl) ?_
  intro p e s m args below meth c A ls H locs Qm hQ hx hb hr hlocks hml hown hts hK hP hD hA hS hl
  have hl : lv_has ls 4 [(0, .ref a_t), (1, .int p1), (2, .int p2), (3, .int p3)] := hl
  have hinX7 : ∀ w ∈ wsX70, w ∈ wsX7_move := by decide +kernel
  have fl_16 := hts (.fieldLink RX7 16 "PointingNotesModel" "page" "[I") (by decide +kernel)
  have fl_68 := hts (.fieldLink RX7 68 "PointingNotesModel" "thrown" "I") (by decide +kernel)
  rw [f_X7_move] at hf
  refine lv_aload_n hx hb dX7_move_0 rfl (lv_at hl 0 rfl) ?_
  refine lv_iconst (v := (0)) hx hb dX7_move_1 (by decide) ?_
  refine va_put (D := D) (ci := 6) (v := .int (0 : Int32)) (ty := .int) (C := RX7) (T := TX7) (N := 28) hx hb hts hinX7 tyX7 tyX7_ok nmX7 hown hK.1 hP (hD.addr rfl) hS 0 rfl rfl 0 (by decide) fl_68 (fun _ h9 => h9) rfl (by decide +kernel) rfl rfl (Nat.le_of_ble_eq_true rfl) dX7_move_2 (fun H locs (hP : va_P D vwCl [(a_t, .inr (6, [.int ((0 : Int32)), .ref a_t_text, .int v_t_textSize, .int v_t_place, .ref a_t_readPage, .ref a_t_page, .ref a_t_trial, .ref a_t_work, .ref a_t_book, .int v_t_doings, .ref a_t_kept, .ref a_t_isKept, .int v_t_seen, .ref a_t_seenWhat, .ref a_t_seenV, .ref a_t_seenIs, .long v_t_seed, .ref a_t_label, .ref a_t_finds, .ref a_t_reason, .ref a_t_caseFirst, .int v_t_cases, .ref a_t_brief, .ref a_t_printed, .int v_t_printedSize, .ref a_t_renamed, .ref a_t_worth, .int v_t_lastReason])), (a_t_book, .inl (cI, 3710, .inl r_t_book)), (a_t_caseFirst, .inl (cI, 32, .inl r_t_caseFirst)), (a_t_finds, .inl (cI, 32, .inl r_t_finds)), (a_t_label, .inl (cI, 32, .inl r_t_label)), (a_t_page, .inl (cI, 265, .inl r_t_page)), (a_t_reason, .inl (cI, 32, .inl r_t_reason)), (a_t_renamed, .inl (cI, 8, .inl r_t_renamed)), (a_t_work, .inl (cI, 265, .inl r_t_work))] H) _ hS => ?_)
  refine lv_iload_n hx hb dX7_move_5 rfl (lv_at hl 1 rfl) ?_
  refine lv_i2l hx hb dX7_move_6 rfl ?_
  refine lv_lconst (v := 0) hx hb dX7_move_7 (by decide) ?_
  refine lv_aload_n hx hb dX7_move_8 rfl (lv_at hl 0 rfl) ?_
  refine va_get (D := D) (ci := 6) (v := .ref a_t_page) (C := RX7) (T := TX7) (N := 28) hx hb hts hinX7 hown hK.1 hP 0 rfl rfl 5 (by decide) fl_16 (fun _ h9 => h9) rfl dX7_move_9 ?_
  refine lv_iconst (v := (0)) hx hb dX7_move_12 (by decide) ?_
  obtain ⟨hi2, w1, ew1, hf⟩ := pn_rd_at hf
  refine pn_ldI hx hb hK.1 hP 5 0 rfl rfl hi2 ew1 dX7_move_13 ?_
  refine lv_iconst (v := (1)) hx hb dX7_move_14 (by decide) ?_
  refine lv_isub hx hb dX7_move_15 ?_
  refine lv_i2l hx hb dX7_move_16 rfl ?_
  obtain ⟨ru3, hu3, hf⟩ := pn_bd1_at hf
  refine pn_calli [] (va_runS (As := [.long p1.toInt64, .long (0 : Int64), .long ((w1 - (1 : Int32)).toInt64)]) (rest := []) ⟨hx, hb, hml, hown, hts⟩ (c_X7_in l D cI cJ cZ H.size p1.toInt64 (0 : Int64) ((w1 - (1 : Int32)).toInt64) ru3 hu3) (va_cwS 3 hts gX7_move_X7_in rfl rfl rfl hdX7_in ⟨Nat.le_of_ble_eq_true rfl, Nat.le_of_ble_eq_true rfl⟩) (pn_preS [] hP (hD.addr rfl) hK rfl rfl) rfl rfl hl.1 rfl (lv_room (Nat.le_of_ble_eq_true rfl)) dX7_move_17 ⟨Nat.zero_le _, Nat.zero_le _⟩) hP (hD.addr rfl) hS hA rfl rfl rfl (fun H locs (hP : va_P D vwCl [(a_t, .inr (6, [.int ((0 : Int32)), .ref a_t_text, .int v_t_textSize, .int v_t_place, .ref a_t_readPage, .ref a_t_page, .ref a_t_trial, .ref a_t_work, .ref a_t_book, .int v_t_doings, .ref a_t_kept, .ref a_t_isKept, .int v_t_seen, .ref a_t_seenWhat, .ref a_t_seenV, .ref a_t_seenIs, .long v_t_seed, .ref a_t_label, .ref a_t_finds, .ref a_t_reason, .ref a_t_caseFirst, .int v_t_cases, .ref a_t_brief, .ref a_t_printed, .int v_t_printedSize, .ref a_t_renamed, .ref a_t_worth, .int v_t_lastReason])), (a_t_book, .inl (cI, 3710, .inl r_t_book)), (a_t_caseFirst, .inl (cI, 32, .inl r_t_caseFirst)), (a_t_finds, .inl (cI, 32, .inl r_t_finds)), (a_t_label, .inl (cI, 32, .inl r_t_label)), (a_t_page, .inl (cI, 265, .inl r_t_page)), (a_t_reason, .inl (cI, 32, .inl r_t_reason)), (a_t_renamed, .inl (cI, 8, .inl r_t_renamed)), (a_t_work, .inl (cI, 265, .inl r_t_work))] H) _ hS => ?_)
  refine lv_if_eq (tgt := 41) hx hb dX7_move_20 (by decide) (fun c4 => ?_) (fun c4 => ?_)
  · have hf := pn_ifp c4 hf
    refine lv_iconst (v := (-1)) hx hb dX7_move_41 (by decide) ?_
    cases hf
    rw [hQ]
    exact pn_reti hx hb hr hlocks hP hS rfl dX7_move_42
  · have hf := pn_ifn c4 hf
    refine lv_iload_n hx hb dX7_move_23 rfl (lv_at hl 2 rfl) ?_
    refine lv_i2l hx hb dX7_move_24 rfl ?_
    refine lv_lconst (v := 0) hx hb dX7_move_25 (by decide) ?_
    refine lv_aload_n hx hb dX7_move_26 rfl (lv_at hl 0 rfl) ?_
    refine va_get (D := D) (ci := 6) (v := .ref a_t_page) (C := RX7) (T := TX7) (N := 28) hx hb hts hinX7 hown hK.1 hP 0 rfl rfl 5 (by decide) fl_16 (fun _ h9 => h9) rfl dX7_move_27 ?_
    refine lv_iconst (v := (0)) hx hb dX7_move_30 (by decide) ?_
    obtain ⟨hi6, w5, ew5, hf⟩ := pn_rd_at hf
    refine pn_ldI hx hb hK.1 hP 5 0 rfl rfl hi6 ew5 dX7_move_31 ?_
    refine lv_iconst (v := (1)) hx hb dX7_move_32 (by decide) ?_
    refine lv_isub hx hb dX7_move_33 ?_
    refine lv_i2l hx hb dX7_move_34 rfl ?_
    obtain ⟨ru7, hu7, hf⟩ := pn_bd1_at hf
    refine pn_calli [] (va_runS (As := [.long p2.toInt64, .long (0 : Int64), .long ((w5 - (1 : Int32)).toInt64)]) (rest := []) ⟨hx, hb, hml, hown, hts⟩ (c_X7_in l D cI cJ cZ H.size p2.toInt64 (0 : Int64) ((w5 - (1 : Int32)).toInt64) ru7 hu7) (va_cwS 3 hts gX7_move_X7_in rfl rfl rfl hdX7_in ⟨Nat.le_of_ble_eq_true rfl, Nat.le_of_ble_eq_true rfl⟩) (pn_preS [] hP (hD.addr rfl) hK rfl rfl) rfl rfl hl.1 rfl (lv_room (Nat.le_of_ble_eq_true rfl)) dX7_move_35 ⟨Nat.zero_le _, Nat.zero_le _⟩) hP (hD.addr rfl) hS hA rfl rfl rfl (fun H locs (hP : va_P D vwCl [(a_t, .inr (6, [.int ((0 : Int32)), .ref a_t_text, .int v_t_textSize, .int v_t_place, .ref a_t_readPage, .ref a_t_page, .ref a_t_trial, .ref a_t_work, .ref a_t_book, .int v_t_doings, .ref a_t_kept, .ref a_t_isKept, .int v_t_seen, .ref a_t_seenWhat, .ref a_t_seenV, .ref a_t_seenIs, .long v_t_seed, .ref a_t_label, .ref a_t_finds, .ref a_t_reason, .ref a_t_caseFirst, .int v_t_cases, .ref a_t_brief, .ref a_t_printed, .int v_t_printedSize, .ref a_t_renamed, .ref a_t_worth, .int v_t_lastReason])), (a_t_book, .inl (cI, 3710, .inl r_t_book)), (a_t_caseFirst, .inl (cI, 32, .inl r_t_caseFirst)), (a_t_finds, .inl (cI, 32, .inl r_t_finds)), (a_t_label, .inl (cI, 32, .inl r_t_label)), (a_t_page, .inl (cI, 265, .inl r_t_page)), (a_t_reason, .inl (cI, 32, .inl r_t_reason)), (a_t_renamed, .inl (cI, 8, .inl r_t_renamed)), (a_t_work, .inl (cI, 265, .inl r_t_work))] H) _ hS => ?_)
    refine lv_if_ne (tgt := 43) hx hb dX7_move_38 (by decide) (fun c8 => ?_) (fun c8 => ?_)
    · have hf := pn_ifp c8 hf
      refine lv_iload_n hx hb dX7_move_43 rfl (lv_at hl 3 rfl) ?_
      refine lv_i2l hx hb dX7_move_44 rfl ?_
      refine lv_lconst (v := 0) hx hb dX7_move_45 (by decide) ?_
      refine lv_lconst (v := 1) hx hb dX7_move_46 (by decide) ?_
      obtain ⟨ru9, hu9, hf⟩ := pn_bd1_at hf
      refine pn_calli [] (va_runS (As := [.long p3.toInt64, .long (0 : Int64), .long (1 : Int64)]) (rest := []) ⟨hx, hb, hml, hown, hts⟩ (c_X7_in l D cI cJ cZ H.size p3.toInt64 (0 : Int64) (1 : Int64) ru9 hu9) (va_cwS 3 hts gX7_move_X7_in rfl rfl rfl hdX7_in ⟨Nat.le_of_ble_eq_true rfl, Nat.le_of_ble_eq_true rfl⟩) (pn_preS [] hP (hD.addr rfl) hK rfl rfl) rfl rfl hl.1 rfl (lv_room (Nat.le_of_ble_eq_true rfl)) dX7_move_47 ⟨Nat.zero_le _, Nat.zero_le _⟩) hP (hD.addr rfl) hS hA rfl rfl rfl (fun H locs (hP : va_P D vwCl [(a_t, .inr (6, [.int ((0 : Int32)), .ref a_t_text, .int v_t_textSize, .int v_t_place, .ref a_t_readPage, .ref a_t_page, .ref a_t_trial, .ref a_t_work, .ref a_t_book, .int v_t_doings, .ref a_t_kept, .ref a_t_isKept, .int v_t_seen, .ref a_t_seenWhat, .ref a_t_seenV, .ref a_t_seenIs, .long v_t_seed, .ref a_t_label, .ref a_t_finds, .ref a_t_reason, .ref a_t_caseFirst, .int v_t_cases, .ref a_t_brief, .ref a_t_printed, .int v_t_printedSize, .ref a_t_renamed, .ref a_t_worth, .int v_t_lastReason])), (a_t_book, .inl (cI, 3710, .inl r_t_book)), (a_t_caseFirst, .inl (cI, 32, .inl r_t_caseFirst)), (a_t_finds, .inl (cI, 32, .inl r_t_finds)), (a_t_label, .inl (cI, 32, .inl r_t_label)), (a_t_page, .inl (cI, 265, .inl r_t_page)), (a_t_reason, .inl (cI, 32, .inl r_t_reason)), (a_t_renamed, .inl (cI, 8, .inl r_t_renamed)), (a_t_work, .inl (cI, 265, .inl r_t_work))] H) _ hS => ?_)
      refine lv_if_ne (tgt := 56) hx hb dX7_move_50 (by decide) (fun c10 => ?_) (fun c10 => ?_)
      · have hf := pn_ifp c10 hf
        refine lv_aload_n hx hb dX7_move_56 rfl (lv_at hl 0 rfl) ?_
        obtain ⟨v_t_doings_u11, r_t_book_u11, hu11, hf⟩ := pn_bd2_at hf
        refine pn_callv [0, 1, 5] (va_runV (As := []) (rest := []) ⟨hx, hb, hml, hown, hts⟩ (c_X7_note l D cI cJ cZ a_t a_t_text a_t_readPage a_t_page a_t_trial a_t_work a_t_book a_t_kept a_t_isKept a_t_seenWhat a_t_seenV a_t_seenIs a_t_label a_t_finds a_t_reason a_t_caseFirst a_t_brief a_t_printed a_t_renamed a_t_worth H.size (0 : Int32) v_t_textSize v_t_place v_t_seen v_t_seed v_t_cases v_t_printedSize v_t_lastReason N v_t_doings r_t_book r_t_page v_t_doings_u11 r_t_book_u11 hu11) (cwV 0 hts gX7_move_X7_note rfl rfl rfl hdX7_note ⟨Nat.le_of_ble_eq_true rfl, Nat.le_of_ble_eq_true rfl⟩) (pn_preV [0, 1, 5] hP (hD.addr rfl) hK rfl rfl (q0 := 0) (ci := 6) rfl rfl) rfl rfl hl.1 rfl (lv_room (Nat.le_of_ble_eq_true rfl)) dX7_move_57 ⟨Nat.zero_le _, Nat.zero_le _⟩) hP (hD.addr rfl) hS hA rfl rfl rfl (fun H locs (hP : va_P D vwCl [(a_t, .inr (6, [.int ((0 : Int32)), .ref a_t_text, .int v_t_textSize, .int v_t_place, .ref a_t_readPage, .ref a_t_page, .ref a_t_trial, .ref a_t_work, .ref a_t_book, .int v_t_doings_u11, .ref a_t_kept, .ref a_t_isKept, .int v_t_seen, .ref a_t_seenWhat, .ref a_t_seenV, .ref a_t_seenIs, .long v_t_seed, .ref a_t_label, .ref a_t_finds, .ref a_t_reason, .ref a_t_caseFirst, .int v_t_cases, .ref a_t_brief, .ref a_t_printed, .int v_t_printedSize, .ref a_t_renamed, .ref a_t_worth, .int v_t_lastReason])), (a_t_book, .inl (cI, 3710, .inl r_t_book_u11)), (a_t_caseFirst, .inl (cI, 32, .inl r_t_caseFirst)), (a_t_finds, .inl (cI, 32, .inl r_t_finds)), (a_t_label, .inl (cI, 32, .inl r_t_label)), (a_t_page, .inl (cI, 265, .inl r_t_page)), (a_t_reason, .inl (cI, 32, .inl r_t_reason)), (a_t_renamed, .inl (cI, 8, .inl r_t_renamed)), (a_t_work, .inl (cI, 265, .inl r_t_work))] H) _ hS => ?_)
        refine lv_aload_n hx hb dX7_move_60 rfl (lv_at hl 0 rfl) ?_
        refine lv_aload_n hx hb dX7_move_61 rfl (lv_at hl 0 rfl) ?_
        refine va_get (D := D) (ci := 6) (v := .ref a_t_page) (C := RX7) (T := TX7) (N := 28) hx hb hts hinX7 hown hK.1 hP 0 rfl rfl 5 (by decide) fl_16 (fun _ h9 => h9) rfl dX7_move_62 ?_
        refine lv_iload_n hx hb dX7_move_65 rfl (lv_at hl 1 rfl) ?_
        refine lv_iload_n hx hb dX7_move_66 rfl (lv_at hl 2 rfl) ?_
        refine lv_iload_n hx hb dX7_move_67 rfl (lv_at hl 3 rfl) ?_
        obtain ⟨r_t_renamed_u12, r_t_work_u12, r_t_page_u12, hu12, hf⟩ := pn_bd3_at hf
        refine pn_callv [0, 7, 8, 5] (va_runV (As := [.ref a_t_page, .int p1, .int p2, .int p3]) (rest := []) ⟨hx, hb, hml, hown, hts⟩ (c_X7_moveOn l D cI cJ cZ a_t a_t_text a_t_readPage a_t_page a_t_trial a_t_work a_t_book a_t_kept a_t_isKept a_t_seenWhat a_t_seenV a_t_seenIs a_t_label a_t_finds a_t_reason a_t_caseFirst a_t_brief a_t_printed a_t_renamed a_t_worth a_t_page H.size (0 : Int32) v_t_textSize v_t_place v_t_doings_u11 v_t_seen v_t_seed v_t_cases v_t_printedSize v_t_lastReason N r_t_renamed r_t_work r_t_page p1 p2 p3 r_t_renamed_u12 r_t_work_u12 r_t_page_u12 hu12) (cwV 4 hts gX7_move_X7_moveOn rfl rfl rfl hdX7_moveOn ⟨Nat.le_of_ble_eq_true rfl, Nat.le_of_ble_eq_true rfl⟩) (pn_preV [0, 7, 8, 5] hP (hD.addr rfl) hK rfl rfl (q0 := 0) (ci := 6) rfl rfl) rfl rfl hl.1 rfl (lv_room (Nat.le_of_ble_eq_true rfl)) dX7_move_68 ⟨Nat.zero_le _, Nat.zero_le _⟩) hP (hD.addr rfl) hS hA rfl rfl rfl (fun H locs (hP : va_P D vwCl [(a_t, .inr (6, [.int ((0 : Int32)), .ref a_t_text, .int v_t_textSize, .int v_t_place, .ref a_t_readPage, .ref a_t_page, .ref a_t_trial, .ref a_t_work, .ref a_t_book, .int v_t_doings_u11, .ref a_t_kept, .ref a_t_isKept, .int v_t_seen, .ref a_t_seenWhat, .ref a_t_seenV, .ref a_t_seenIs, .long v_t_seed, .ref a_t_label, .ref a_t_finds, .ref a_t_reason, .ref a_t_caseFirst, .int v_t_cases, .ref a_t_brief, .ref a_t_printed, .int v_t_printedSize, .ref a_t_renamed, .ref a_t_worth, .int v_t_lastReason])), (a_t_book, .inl (cI, 3710, .inl r_t_book_u11)), (a_t_caseFirst, .inl (cI, 32, .inl r_t_caseFirst)), (a_t_finds, .inl (cI, 32, .inl r_t_finds)), (a_t_label, .inl (cI, 32, .inl r_t_label)), (a_t_page, .inl (cI, 265, .inl r_t_page_u12)), (a_t_reason, .inl (cI, 32, .inl r_t_reason)), (a_t_renamed, .inl (cI, 8, .inl r_t_renamed_u12)), (a_t_work, .inl (cI, 265, .inl r_t_work_u12))] H) _ hS => ?_)
        refine lv_aload_n hx hb dX7_move_71 rfl (lv_at hl 0 rfl) ?_
        refine lv_aload_n hx hb dX7_move_72 rfl (lv_at hl 0 rfl) ?_
        refine va_get (D := D) (ci := 6) (v := .ref a_t_page) (C := RX7) (T := TX7) (N := 28) hx hb hts hinX7 hown hK.1 hP 0 rfl rfl 5 (by decide) fl_16 (fun _ h9 => h9) rfl dX7_move_73 ?_
        obtain ⟨ru13, v_t_cases_u13, v_t_lastReason_u13, r_t_caseFirst_u13, r_t_finds_u13, r_t_label_u13, r_t_reason_u13, hu13, hf⟩ := pn_bd7_at hf
        refine pn_calli [0, 2, 3, 4, 6, 5] (va_runV (As := [.ref a_t_page]) (rest := []) ⟨hx, hb, hml, hown, hts⟩ (c_X7_dead l D cI cJ cZ a_t a_t_text a_t_readPage a_t_page a_t_trial a_t_work a_t_book a_t_kept a_t_isKept a_t_seenWhat a_t_seenV a_t_seenIs a_t_label a_t_finds a_t_reason a_t_caseFirst a_t_brief a_t_printed a_t_renamed a_t_worth a_t_page H.size (0 : Int32) v_t_textSize v_t_place v_t_doings_u11 v_t_seen v_t_seed v_t_printedSize N v_t_cases v_t_lastReason r_t_caseFirst r_t_finds r_t_label r_t_reason r_t_page_u12 ru13 v_t_cases_u13 v_t_lastReason_u13 r_t_caseFirst_u13 r_t_finds_u13 r_t_label_u13 r_t_reason_u13 hu13) (cwV 1 hts gX7_move_X7_dead rfl rfl rfl hdX7_dead ⟨Nat.le_of_ble_eq_true rfl, Nat.le_of_ble_eq_true rfl⟩) (pn_preV [0, 2, 3, 4, 6, 5] hP (hD.addr rfl) hK rfl rfl (q0 := 0) (ci := 6) rfl rfl) rfl rfl hl.1 rfl (lv_room (Nat.le_of_ble_eq_true rfl)) dX7_move_76 ⟨Nat.zero_le _, Nat.zero_le _⟩) hP (hD.addr rfl) hS hA rfl rfl rfl (fun H locs (hP : va_P D vwCl [(a_t, .inr (6, [.int ((0 : Int32)), .ref a_t_text, .int v_t_textSize, .int v_t_place, .ref a_t_readPage, .ref a_t_page, .ref a_t_trial, .ref a_t_work, .ref a_t_book, .int v_t_doings_u11, .ref a_t_kept, .ref a_t_isKept, .int v_t_seen, .ref a_t_seenWhat, .ref a_t_seenV, .ref a_t_seenIs, .long v_t_seed, .ref a_t_label, .ref a_t_finds, .ref a_t_reason, .ref a_t_caseFirst, .int v_t_cases_u13, .ref a_t_brief, .ref a_t_printed, .int v_t_printedSize, .ref a_t_renamed, .ref a_t_worth, .int v_t_lastReason_u13])), (a_t_book, .inl (cI, 3710, .inl r_t_book_u11)), (a_t_caseFirst, .inl (cI, 32, .inl r_t_caseFirst_u13)), (a_t_finds, .inl (cI, 32, .inl r_t_finds_u13)), (a_t_label, .inl (cI, 32, .inl r_t_label_u13)), (a_t_page, .inl (cI, 265, .inl r_t_page_u12)), (a_t_reason, .inl (cI, 32, .inl r_t_reason_u13)), (a_t_renamed, .inl (cI, 8, .inl r_t_renamed_u12)), (a_t_work, .inl (cI, 265, .inl r_t_work_u12))] H) _ hS => ?_)
        cases hf
        rw [hQ]
        exact pn_reti hx hb hr hlocks hP hS rfl dX7_move_79
      · have hf := pn_ifq c10 hf
        refine lv_bipush (v := (-2)) hx hb dX7_move_53 (by decide) ?_
        cases hf
        rw [hQ]
        exact pn_reti hx hb hr hlocks hP hS rfl dX7_move_55
    · have hf := pn_ifq c8 hf
      refine lv_iconst (v := (-1)) hx hb dX7_move_41 (by decide) ?_
      cases hf
      rw [hQ]
      exact pn_reti hx hb hr hlocks hP hS rfl dX7_move_42
