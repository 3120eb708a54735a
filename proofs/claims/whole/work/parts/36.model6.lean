theorem hdX7_putBrief : yX7_putBrief.cls = RX7 ∧ yX7_putBrief.cls ≠ "java/lang/invoke/MethodHandle" ∧ yX7_putBrief.cls ≠ "java/lang/invoke/VarHandle" ∧ (parseMethodDescriptor yX7_putBrief.desc).map (fun d => d.parameters.length) = some 2 := by decide +kernel
theorem hdX7_respell : yX7_respell.cls = RX7 ∧ yX7_respell.cls ≠ "java/lang/invoke/MethodHandle" ∧ yX7_respell.cls ≠ "java/lang/invoke/VarHandle" ∧ (parseMethodDescriptor yX7_respell.desc).map (fun d => d.parameters.length) = some 3 := by decide +kernel
theorem hdX7_undo : yX7_undo.cls = RX7 ∧ yX7_undo.cls ≠ "java/lang/invoke/MethodHandle" ∧ yX7_undo.cls ≠ "java/lang/invoke/VarHandle" ∧ (parseMethodDescriptor yX7_undo.desc).map (fun d => d.parameters.length) = some 0 := by decide +kernel
theorem hdX7_longPower : yX7_longPower.cls ≠ "java/lang/invoke/MethodHandle" ∧ yX7_longPower.cls ≠ "java/lang/invoke/VarHandle" ∧ (parseMethodDescriptor yX7_longPower.desc).map (fun d => d.parameters.length) = some 2 := by decide +kernel
theorem hdX7_does : yX7_does.cls = RX7 ∧ yX7_does.cls ≠ "java/lang/invoke/MethodHandle" ∧ yX7_does.cls ≠ "java/lang/invoke/VarHandle" ∧ (parseMethodDescriptor yX7_does.desc).map (fun d => d.parameters.length) = some 1 := by decide +kernel
theorem hdX7_judge : yX7_judge.cls = RX7 ∧ yX7_judge.cls ≠ "java/lang/invoke/MethodHandle" ∧ yX7_judge.cls ≠ "java/lang/invoke/VarHandle" ∧ (parseMethodDescriptor yX7_judge.desc).map (fun d => d.parameters.length) = some 2 := by decide +kernel
theorem hdX7_see : yX7_see.cls = RX7 ∧ yX7_see.cls ≠ "java/lang/invoke/MethodHandle" ∧ yX7_see.cls ≠ "java/lang/invoke/VarHandle" ∧ (parseMethodDescriptor yX7_see.desc).map (fun d => d.parameters.length) = some 3 := by decide +kernel
theorem hdX7_unsee : yX7_unsee.cls = RX7 ∧ yX7_unsee.cls ≠ "java/lang/invoke/MethodHandle" ∧ yX7_unsee.cls ≠ "java/lang/invoke/VarHandle" ∧ (parseMethodDescriptor yX7_unsee.desc).map (fun d => d.parameters.length) = some 0 := by decide +kernel
def lp_X7_putBrief_2 (r_t_brief : Nat → Int32) (p2 : Int32) : Nat → Int32 → (Nat → Int32) → Option ((Nat → Int32))
  | 0, _, _ => none
  | n + 1, x3, r_q1 =>
    if (8 : Int32) ≤ x3 then
  some r_q1
  else
  pn_rd 8 r_t_brief x3 fun w2 =>
  pn_wrI 265 r_q1 (((9 : Int32) + ((8 : Int32) * p2)) + x3) w2 fun g4 =>
  pn_nm (x3 + (1 : Int32)) fun z6 =>
  lp_X7_putBrief_2 r_t_brief p2 n z6 g4
def f_X7_putBrief (N : Nat) (r_t_brief : Nat → Int32) (r_q1 : Nat → Int32) (p2 : Int32) : Option ((Nat → Int32)) :=
  pn_bd1 (lp_X7_putBrief_2 r_t_brief p2 N (0 : Int32) r_q1) (fun X2 => (pn_u1 fun r_q1_w7 => some r_q1_w7) X2)
set_option maxHeartbeats 4000000 in
set_option maxRecDepth 100000 in
theorem c_X7_putBrief (l : Launch) (D : va_G) (cI cJ cZ : ClassId) (a_t a_t_text a_t_readPage a_t_page a_t_trial a_t_work a_t_book a_t_kept a_t_isKept a_t_seenWhat a_t_seenV a_t_seenIs a_t_label a_t_finds a_t_reason a_t_caseFirst a_t_brief a_t_printed a_t_renamed a_t_worth a_q1 : Nat) (sz : Nat) (v_t_thrown : Int32) (v_t_textSize : Int32) (v_t_place : Int32) (v_t_doings : Int32) (v_t_seen : Int32) (v_t_seed : Int64) (v_t_cases : Int32) (v_t_printedSize : Int32) (v_t_lastReason : Int32) (N : Nat) (r_t_brief : Nat → Int32) (r_q1 : Nat → Int32) (p2 : Int32) (o_q1 : Nat → Int32) (hf : f_X7_putBrief N r_t_brief r_q1 p2 = some o_q1) : Met l yX7_putBrief wsX7_putBrief { frames := 0, cells := 0, slots := 0, locals := 0 } (pn_Pc D cI cJ cZ [.ref a_t, .ref a_q1, .int p2] [(a_t, .inr (6, [.int v_t_thrown, .ref a_t_text, .int v_t_textSize, .int v_t_place, .ref a_t_readPage, .ref a_t_page, .ref a_t_trial, .ref a_t_work, .ref a_t_book, .int v_t_doings, .ref a_t_kept, .ref a_t_isKept, .int v_t_seen, .ref a_t_seenWhat, .ref a_t_seenV, .ref a_t_seenIs, .long v_t_seed, .ref a_t_label, .ref a_t_finds, .ref a_t_reason, .ref a_t_caseFirst, .int v_t_cases, .ref a_t_brief, .ref a_t_printed, .int v_t_printedSize, .ref a_t_renamed, .ref a_t_worth, .int v_t_lastReason])), (a_t_brief, .inl (cI, 8, .inl r_t_brief)), (a_q1, .inl (cI, 265, .inl r_q1))] sz) (pn_Qv D [(a_t, .inr (6, [.int v_t_thrown, .ref a_t_text, .int v_t_textSize, .int v_t_place, .ref a_t_readPage, .ref a_t_page, .ref a_t_trial, .ref a_t_work, .ref a_t_book, .int v_t_doings, .ref a_t_kept, .ref a_t_isKept, .int v_t_seen, .ref a_t_seenWhat, .ref a_t_seenV, .ref a_t_seenIs, .long v_t_seed, .ref a_t_label, .ref a_t_finds, .ref a_t_reason, .ref a_t_caseFirst, .int v_t_cases, .ref a_t_brief, .ref a_t_printed, .int v_t_printedSize, .ref a_t_renamed, .ref a_t_worth, .int v_t_lastReason])), (a_t_brief, .inl (cI, 8, .inl r_t_brief)), (a_q1, .inl (cI, 265, .inl o_q1))] (va_A [(a_t, .inr (6, [.int v_t_thrown, .ref a_t_text, .int v_t_textSize, .int v_t_place, .ref a_t_readPage, .ref a_t_page, .ref a_t_trial, .ref a_t_work, .ref a_t_book, .int v_t_doings, .ref a_t_kept, .ref a_t_isKept, .int v_t_seen, .ref a_t_seenWhat, .ref a_t_seenV, .ref a_t_seenIs, .long v_t_seed, .ref a_t_label, .ref a_t_finds, .ref a_t_reason, .ref a_t_caseFirst, .int v_t_cases, .ref a_t_brief, .ref a_t_printed, .int v_t_printedSize, .ref a_t_renamed, .ref a_t_worth, .int v_t_lastReason])), (a_t_brief, .inl (cI, 8, .inl r_t_brief)), (a_q1, .inl (cI, 265, .inl r_q1))] sz)) 0 0 (va_A [(a_t, .inr (6, [.int v_t_thrown, .ref a_t_text, .int v_t_textSize, .int v_t_place, .ref a_t_readPage, .ref a_t_page, .ref a_t_trial, .ref a_t_work, .ref a_t_book, .int v_t_doings, .ref a_t_kept, .ref a_t_isKept, .int v_t_seen, .ref a_t_seenWhat, .ref a_t_seenV, .ref a_t_seenIs, .long v_t_seed, .ref a_t_label, .ref a_t_finds, .ref a_t_reason, .ref a_t_caseFirst, .int v_t_cases, .ref a_t_brief, .ref a_t_printed, .int v_t_printedSize, .ref a_t_renamed, .ref a_t_worth, .int v_t_lastReason])), (a_t_brief, .inl (cI, 8, .inl r_t_brief)), (a_q1, .inl (cI, 265, .inl r_q1))] sz) := by
  refine pn_entry (cc := cX7_putBrief) (maxL := 4) (ret := none) (Qf := pn_Qv D [(a_t, .inr (6, [.int v_t_thrown, .ref a_t_text, .int v_t_textSize, .int v_t_place, .ref a_t_readPage, .ref a_t_page, .ref a_t_trial, .ref a_t_work, .ref a_t_book, .int v_t_doings, .ref a_t_kept, .ref a_t_isKept, .int v_t_seen, .ref a_t_seenWhat, .ref a_t_seenV, .ref a_t_seenIs, .long v_t_seed, .ref a_t_label, .ref a_t_finds, .ref a_t_reason, .ref a_t_caseFirst, .int v_t_cases, .ref a_t_brief, .ref a_t_printed, .int v_t_printedSize, .ref a_t_renamed, .ref a_t_worth, .int v_t_lastReason])), (a_t_brief, .inl (cI, 8, .inl r_t_brief)), (a_q1, .inl (cI, 265, .inl o_q1))]) (by decide) rfl (Nat.le_of_ble_eq_true rfl) ?_
  intro p e s m args below meth c A ls H locs Qm hQ hx hb hr hlocks hml hown hts hK hP hD hA hS hl
  have hl : lv_has ls 4 [(0, .ref a_t), (1, .ref a_q1), (2, .int p2)] := hl
  have hinX7 : ∀ w ∈ wsX70, w ∈ wsX7_putBrief := by decide +kernel
  have fl_56 := hts (.fieldLink RX7 56 "PointingNotesModel" "brief" "[I") (by decide +kernel)
  rw [f_X7_putBrief] at hf
  have lp2 : ∀ (n : Nat) (x3 : Int32) (r_q1 : Nat → Int32) (X : (Nat → Int32)) (H : Heap) (locs : List Loc) (ls : Array Slot), lp_X7_putBrief_2 r_t_brief p2 n x3 r_q1 = some X → va_P D vwCl [(a_t, .inr (6, [.int v_t_thrown, .ref a_t_text, .int v_t_textSize, .int v_t_place, .ref a_t_readPage, .ref a_t_page, .ref a_t_trial, .ref a_t_work, .ref a_t_book, .int v_t_doings, .ref a_t_kept, .ref a_t_isKept, .int v_t_seen, .ref a_t_seenWhat, .ref a_t_seenV, .ref a_t_seenIs, .long v_t_seed, .ref a_t_label, .ref a_t_finds, .ref a_t_reason, .ref a_t_caseFirst, .int v_t_cases, .ref a_t_brief, .ref a_t_printed, .int v_t_printedSize, .ref a_t_renamed, .ref a_t_worth, .int v_t_lastReason])), (a_t_brief, .inl (cI, 8, .inl r_t_brief)), (a_q1, .inl (cI, 265, .inl r_q1))] H → va_S A s.heap H locs → lv_has ls 4 [(0, .ref a_t), (1, .ref a_q1), (2, .int p2), (3, .int x3)] → (∀  (r_q1' : Nat → Int32) (H : Heap) (locs : List Loc) (ls : Array Slot), X = r_q1' → va_P D vwCl [(a_t, .inr (6, [.int v_t_thrown, .ref a_t_text, .int v_t_textSize, .int v_t_place, .ref a_t_readPage, .ref a_t_page, .ref a_t_trial, .ref a_t_work, .ref a_t_book, .int v_t_doings, .ref a_t_kept, .ref a_t_isKept, .int v_t_seen, .ref a_t_seenWhat, .ref a_t_seenV, .ref a_t_seenIs, .long v_t_seed, .ref a_t_label, .ref a_t_finds, .ref a_t_reason, .ref a_t_caseFirst, .int v_t_cases, .ref a_t_brief, .ref a_t_printed, .int v_t_printedSize, .ref a_t_renamed, .ref a_t_worth, .int v_t_lastReason])), (a_t_brief, .inl (cI, 8, .inl r_t_brief)), (a_q1, .inl (cI, 265, .inl (r_q1')))] H → va_S A s.heap H locs → lv_has ls 4 [] → W p l e { frames := 0, cells := 0, slots := 0, locals := 0 } s m args below meth c H locs 0 0 Qm (F0 m 31 ls [])) → W p l e { frames := 0, cells := 0, slots := 0, locals := 0 } s m args below meth c H locs 0 0 Qm (F0 m 2 ls []) := by
    intro n
    induction n with
    | zero => intro x3 r_q1 X H locs ls hf; cases hf
    | succ n ih =>
      intro x3 r_q1 X H locs ls hf hP hS hl kx31
      rw [lp_X7_putBrief_2] at hf
      refine lv_iload_n hx hb dX7_putBrief_2 rfl (lv_at hl 3 rfl) ?_
      refine lv_bipush (v := (8)) hx hb dX7_putBrief_3 (by decide) ?_
      refine lv_icmp_ge (tgt := 31) hx hb dX7_putBrief_5 (by decide) (fun c1 => ?_) (fun c1 => ?_)
      · have hf := pn_ifp c1 hf
        exact kx31 r_q1 H locs ls (Option.some.inj hf).symm hP hS (lv_sub hl [] rfl)
      · have hf := pn_ifn c1 hf
        refine lv_aload_n hx hb dX7_putBrief_8 rfl (lv_at hl 1 rfl) ?_
        refine lv_bipush (v := (9)) hx hb dX7_putBrief_9 (by decide) ?_
        refine lv_bipush (v := (8)) hx hb dX7_putBrief_11 (by decide) ?_
        refine lv_iload_n hx hb dX7_putBrief_13 rfl (lv_at hl 2 rfl) ?_
        refine lv_imul hx hb dX7_putBrief_14 ?_
        refine lv_iadd hx hb dX7_putBrief_15 ?_
        refine lv_iload_n hx hb dX7_putBrief_16 rfl (lv_at hl 3 rfl) ?_
        refine lv_iadd hx hb dX7_putBrief_17 ?_
        refine lv_aload_n hx hb dX7_putBrief_18 rfl (lv_at hl 0 rfl) ?_
        refine va_get (D := D) (ci := 6) (v := .ref a_t_brief) (C := RX7) (T := TX7) (N := 28) hx hb hts hinX7 hown hK.1 hP 0 rfl rfl 22 (by decide) fl_56 (fun _ h9 => h9) rfl dX7_putBrief_19 ?_
        refine lv_iload_n hx hb dX7_putBrief_22 rfl (lv_at hl 3 rfl) ?_
        obtain ⟨hi3, w2, ew2, hf⟩ := pn_rd_at hf
        refine pn_ldI hx hb hK.1 hP 1 0 rfl rfl hi3 ew2 dX7_putBrief_23 ?_
        obtain ⟨hi5, g4, eg4, hf⟩ := pn_wrI_at hf
        refine pn_stI hx hb hK.1 hP (hD.addr rfl) hS 2 0 rfl rfl hi5 eg4 dX7_putBrief_24 (fun H locs (hP : va_P D vwCl [(a_t, .inr (6, [.int v_t_thrown, .ref a_t_text, .int v_t_textSize, .int v_t_place, .ref a_t_readPage, .ref a_t_page, .ref a_t_trial, .ref a_t_work, .ref a_t_book, .int v_t_doings, .ref a_t_kept, .ref a_t_isKept, .int v_t_seen, .ref a_t_seenWhat, .ref a_t_seenV, .ref a_t_seenIs, .long v_t_seed, .ref a_t_label, .ref a_t_finds, .ref a_t_reason, .ref a_t_caseFirst, .int v_t_cases, .ref a_t_brief, .ref a_t_printed, .int v_t_printedSize, .ref a_t_renamed, .ref a_t_worth, .int v_t_lastReason])), (a_t_brief, .inl (cI, 8, .inl r_t_brief)), (a_q1, .inl (cI, 265, .inl g4))] H) _ hS => ?_)
        obtain ⟨z6, ez6⟩ : ∃ y : Int32, y = x3 + (1) := ⟨_, rfl⟩
        have hf := pn_nm_at ez6 hf
        refine lv_iinc (v := z6) (lv' := [(3, .int z6), (0, .ref a_t), (1, .ref a_q1), (2, .int p2)]) hx hb dX7_putBrief_25 hl (k := 3) rfl (by rw [ez6]; rfl) (by decide) rfl (fun ls hl => ?_)
        refine lv_goto (tgt := 2) hx hb dX7_putBrief_28 (by decide) ?_
        exact ih z6 g4 X H locs ls hf hP hS (lv_sub hl [1, 2, 3, 0] rfl) kx31
  refine lv_iconst (v := (0)) hx hb dX7_putBrief_0 (by decide) ?_
  refine lv_istore_n (lv' := [(3, .int (0 : Int32)), (0, .ref a_t), (1, .ref a_q1), (2, .int p2)]) hx hb dX7_putBrief_1 rfl hl (by decide) rfl (fun ls hl => ?_)
  obtain ⟨X2, hX2, hf⟩ := pn_bd1_at hf
  refine lp2 N (0 : Int32) r_q1 X2 H locs ls hX2 hP hS (lv_sub hl [1, 2, 3, 0] rfl) ?_
  · intro r_q1_w7 H locs ls eX hP hS hl
    rw [eX] at hf
    have hf := pn_u1_at hf
    cases hf
    rw [hQ]
    exact pn_retv hx hb hr hlocks hP hS dX7_putBrief_31
def f_X7_respell (N : Nat) (v_t_thrown : Int32) (v_t_doings : Int32) (v_t_cases : Int32) (v_t_lastReason : Int32) (r_t_book : Nat → Int32) (r_t_brief : Nat → Int32) (r_t_caseFirst : Nat → Int32) (r_t_finds : Nat → Int32) (r_t_label : Nat → Int32) (r_t_page : Nat → Int32) (r_t_reason : Nat → Int32) (p1 : Int32) (p2 : Int32) (p3 : Int32) : Option (Int32 × Int32 × Int32 × Int32 × Int32 × (Nat → Int32) × (Nat → Int32) × (Nat → Int32) × (Nat → Int32) × (Nat → Int32) × (Nat → Int32) × (Nat → Int32)) :=
  pn_bd1 (f_X7_isThere r_t_page p1 p2) fun ru1 =>
  if ¬ ru1 = 0 then
  pn_bd1 (f_X7_in p3.toInt64 (0 : Int64) (1 : Int64)) fun ru3 =>
  if ¬ ru3 = 0 then
  pn_nm (((4 : Int32) * p1) + p2) fun z5 =>
  pn_bd6 (f_X7_findAll N v_t_cases v_t_lastReason r_t_caseFirst r_t_finds r_t_label r_t_reason r_t_page) fun v_t_cases_u6 v_t_lastReason_u6 r_t_caseFirst_u6 r_t_finds_u6 r_t_label_u6 r_t_reason_u6 =>
  pn_rd 32 r_t_finds_u6 z5 fun w7 =>
  if ¬ w7 = (-9 : Int32) then
  pn_bd2 (f_X7_note N v_t_doings r_t_book r_t_page) fun v_t_doings_u10 r_t_book_u10 =>
  pn_bd2 (f_X7_shorten N v_t_cases_u6 v_t_lastReason_u6 r_t_brief r_t_caseFirst_u6 r_t_finds_u6 r_t_page z5) fun v_t_lastReason_u11 r_t_brief_u11 =>
  if ¬ p3 = (1 : Int32) then
  pn_bd1 (f_X7_putBrief N r_t_brief_u11 r_t_page z5) fun r_t_page_u13 =>
  pn_rd 8 r_t_brief_u11 (0 : Int32) fun w14 =>
  some (w14, (0 : Int32), v_t_doings_u10, v_t_cases_u6, v_t_lastReason_u11, r_t_book_u10, r_t_brief_u11, r_t_caseFirst_u6, r_t_finds_u6, r_t_label_u6, r_t_page_u13, r_t_reason_u6)
  else
  pn_rd 32 r_t_finds_u6 z5 fun w16 =>
  pn_bd1 (f_X7_laySpelled N r_t_brief_u11 r_t_caseFirst_u6 r_t_page w16) fun r_t_brief_u18 =>
  pn_bd1 (f_X7_putBrief N r_t_brief_u18 r_t_page z5) fun r_t_page_u19 =>
  pn_rd 8 r_t_brief_u18 (0 : Int32) fun w20 =>
  some (w20, (0 : Int32), v_t_doings_u10, v_t_cases_u6, v_t_lastReason_u11, r_t_book_u10, r_t_brief_u18, r_t_caseFirst_u6, r_t_finds_u6, r_t_label_u6, r_t_page_u19, r_t_reason_u6)
  else
  some ((-3 : Int32), (0 : Int32), v_t_doings, v_t_cases_u6, v_t_lastReason_u6, r_t_book, r_t_brief, r_t_caseFirst_u6, r_t_finds_u6, r_t_label_u6, r_t_page, r_t_reason_u6)
  else
  some ((-2 : Int32), (0 : Int32), v_t_doings, v_t_cases, v_t_lastReason, r_t_book, r_t_brief, r_t_caseFirst, r_t_finds, r_t_label, r_t_page, r_t_reason)
  else
  some ((-1 : Int32), (0 : Int32), v_t_doings, v_t_cases, v_t_lastReason, r_t_book, r_t_brief, r_t_caseFirst, r_t_finds, r_t_label, r_t_page, r_t_reason)
set_option maxHeartbeats 4000000 in
set_option maxRecDepth 100000 in
theorem c_X7_respell (l : Launch) (D : va_G) (cI cJ cZ : ClassId) (a_t a_t_text a_t_readPage a_t_page a_t_trial a_t_work a_t_book a_t_kept a_t_isKept a_t_seenWhat a_t_seenV a_t_seenIs a_t_label a_t_finds a_t_reason a_t_caseFirst a_t_brief a_t_printed a_t_renamed a_t_worth : Nat) (sz : Nat) (v_t_textSize : Int32) (v_t_place : Int32) (v_t_seen : Int32) (v_t_seed : Int64) (v_t_printedSize : Int32) (N : Nat) (v_t_thrown : Int32) (v_t_doings : Int32) (v_t_cases : Int32) (v_t_lastReason : Int32) (r_t_book : Nat → Int32) (r_t_brief : Nat → Int32) (r_t_caseFirst : Nat → Int32) (r_t_finds : Nat → Int32) (r_t_label : Nat → Int32) (r_t_page : Nat → Int32) (r_t_reason : Nat → Int32) (p1 : Int32) (p2 : Int32) (p3 : Int32) (rR : Int32) (o_t_thrown : Int32) (o_t_doings : Int32) (o_t_cases : Int32) (o_t_lastReason : Int32) (o_t_book : Nat → Int32) (o_t_brief : Nat → Int32) (o_t_caseFirst : Nat → Int32) (o_t_finds : Nat → Int32) (o_t_label : Nat → Int32) (o_t_page : Nat → Int32) (o_t_reason : Nat → Int32) (hf : f_X7_respell N v_t_thrown v_t_doings v_t_cases v_t_lastReason r_t_book r_t_brief r_t_caseFirst r_t_finds r_t_label r_t_page r_t_reason p1 p2 p3 = some (rR, o_t_thrown, o_t_doings, o_t_cases, o_t_lastReason, o_t_book, o_t_brief, o_t_caseFirst, o_t_finds, o_t_label, o_t_page, o_t_reason)) : Met l yX7_respell wsX7_respell { frames := 7, cells := 0, slots := 0, locals := 168 } (pn_Pc D cI cJ cZ [.ref a_t, .int p1, .int p2, .int p3] [(a_t, .inr (6, [.int v_t_thrown, .ref a_t_text, .int v_t_textSize, .int v_t_place, .ref a_t_readPage, .ref a_t_page, .ref a_t_trial, .ref a_t_work, .ref a_t_book, .int v_t_doings, .ref a_t_kept, .ref a_t_isKept, .int v_t_seen, .ref a_t_seenWhat, .ref a_t_seenV, .ref a_t_seenIs, .long v_t_seed, .ref a_t_label, .ref a_t_finds, .ref a_t_reason, .ref a_t_caseFirst, .int v_t_cases, .ref a_t_brief, .ref a_t_printed, .int v_t_printedSize, .ref a_t_renamed, .ref a_t_worth, .int v_t_lastReason])), (a_t_book, .inl (cI, 3710, .inl r_t_book)), (a_t_brief, .inl (cI, 8, .inl r_t_brief)), (a_t_caseFirst, .inl (cI, 32, .inl r_t_caseFirst)), (a_t_finds, .inl (cI, 32, .inl r_t_finds)), (a_t_label, .inl (cI, 32, .inl r_t_label)), (a_t_page, .inl (cI, 265, .inl r_t_page)), (a_t_reason, .inl (cI, 32, .inl r_t_reason))] sz) (pn_Qi D rR [(a_t, .inr (6, [.int o_t_thrown, .ref a_t_text, .int v_t_textSize, .int v_t_place, .ref a_t_readPage, .ref a_t_page, .ref a_t_trial, .ref a_t_work, .ref a_t_book, .int o_t_doings, .ref a_t_kept, .ref a_t_isKept, .int v_t_seen, .ref a_t_seenWhat, .ref a_t_seenV, .ref a_t_seenIs, .long v_t_seed, .ref a_t_label, .ref a_t_finds, .ref a_t_reason, .ref a_t_caseFirst, .int o_t_cases, .ref a_t_brief, .ref a_t_printed, .int v_t_printedSize, .ref a_t_renamed, .ref a_t_worth, .int o_t_lastReason])), (a_t_book, .inl (cI, 3710, .inl o_t_book)), (a_t_brief, .inl (cI, 8, .inl o_t_brief)), (a_t_caseFirst, .inl (cI, 32, .inl o_t_caseFirst)), (a_t_finds, .inl (cI, 32, .inl o_t_finds)), (a_t_label, .inl (cI, 32, .inl o_t_label)), (a_t_page, .inl (cI, 265, .inl o_t_page)), (a_t_reason, .inl (cI, 32, .inl o_t_reason))] (va_A [(a_t, .inr (6, [.int v_t_thrown, .ref a_t_text, .int v_t_textSize, .int v_t_place, .ref a_t_readPage, .ref a_t_page, .ref a_t_trial, .ref a_t_work, .ref a_t_book, .int v_t_doings, .ref a_t_kept, .ref a_t_isKept, .int v_t_seen, .ref a_t_seenWhat, .ref a_t_seenV, .ref a_t_seenIs, .long v_t_seed, .ref a_t_label, .ref a_t_finds, .ref a_t_reason, .ref a_t_caseFirst, .int v_t_cases, .ref a_t_brief, .ref a_t_printed, .int v_t_printedSize, .ref a_t_renamed, .ref a_t_worth, .int v_t_lastReason])), (a_t_book, .inl (cI, 3710, .inl r_t_book)), (a_t_brief, .inl (cI, 8, .inl r_t_brief)), (a_t_caseFirst, .inl (cI, 32, .inl r_t_caseFirst)), (a_t_finds, .inl (cI, 32, .inl r_t_finds)), (a_t_label, .inl (cI, 32, .inl r_t_label)), (a_t_page, .inl (cI, 265, .inl r_t_page)), (a_t_reason, .inl (cI, 32, .inl r_t_reason))] sz)) 0 0 (va_A [(a_t, .inr (6, [.int v_t_thrown, .ref a_t_text, .int v_t_textSize, .int v_t_place, .ref a_t_readPage, .ref a_t_page, .ref a_t_trial, .ref a_t_work, .ref a_t_book, .int v_t_doings, .ref a_t_kept, .ref a_t_isKept, .int v_t_seen, .ref a_t_seenWhat, .ref a_t_seenV, .ref a_t_seenIs, .long v_t_seed, .ref a_t_label, .ref a_t_finds, .ref a_t_reason, .ref a_t_caseFirst, .int v_t_cases, .ref a_t_brief, .ref a_t_printed, .int v_t_printedSize, .ref a_t_renamed, .ref a_t_worth, .int v_t_lastReason])), (a_t_book, .inl (cI, 3710, .inl r_t_book)), (a_t_brief, .inl (cI, 8, .inl r_t_brief)), (a_t_caseFirst, .inl (cI, 32, .inl r_t_caseFirst)), (a_t_finds, .inl (cI, 32, .inl r_t_finds)), (a_t_label, .inl (cI, 32, .inl r_t_label)), (a_t_page, .inl (cI, 265, .inl r_t_page)), (a_t_reason, .inl (cI, 32, .inl r_t_reason))] sz) := by
  refine pn_entry (cc := cX7_respell) (maxL := 5) (ret := (some .int)) (Qf := pn_Qi D rR [(a_t, .inr (6, [.int o_t_thrown, .ref a_t_text, .int v_t_textSize, .int v_t_place, .ref a_t_readPage, .ref a_t_page, .ref a_t_trial, .ref a_t_work, .ref a_t_book, .int o_t_doings, .ref a_t_kept, .ref a_t_isKept, .int v_t_seen, .ref a_t_seenWhat, .ref a_t_seenV, .ref a_t_seenIs, .long v_t_seed, .ref a_t_label, .ref a_t_finds, .ref a_t_reason, .ref a_t_caseFirst, .int o_t_cases, .ref a_t_brief, .ref a_t_printed, .int v_t_printedSize, .ref a_t_renamed, .ref a_t_worth, .int o_t_lastReason])), (a_t_book, .inl (cI, 3710, .inl o_t_book)), (a_t_brief, .inl (cI, 8, .inl o_t_brief)), (a_t_caseFirst, .inl (cI, 32, .inl o_t_caseFirst)), (a_t_finds, .inl (cI, 32, .inl o_t_finds)), (a_t_label, .inl (cI, 32, .inl o_t_label)), (a_t_page, .inl (cI, 265, .inl o_t_page)), (a_t_reason, .inl (cI, 32, .inl o_t_reason))]) (by decide) rfl (Nat.le_of_ble_eq_true rfl) ?_
  intro p e s m args below meth c A ls H locs Qm hQ hx hb hr hlocks hml hown hts hK hP hD hA hS hl
  have hl : lv_has ls 5 [(0, .ref a_t), (1, .int p1), (2, .int p2), (3, .int p3)] := hl
  have hinX7 : ∀ w ∈ wsX70, w ∈ wsX7_respell := by decide +kernel
  have fl_16 := hts (.fieldLink RX7 16 "PointingNotesModel" "page" "[I") (by decide +kernel)
  have fl_47 := hts (.fieldLink RX7 47 "PointingNotesModel" "finds" "[I") (by decide +kernel)
  have fl_56 := hts (.fieldLink RX7 56 "PointingNotesModel" "brief" "[I") (by decide +kernel)
  have fl_68 := hts (.fieldLink RX7 68 "PointingNotesModel" "thrown" "I") (by decide +kernel)
  rw [f_X7_respell] at hf
  refine lv_aload_n hx hb dX7_respell_0 rfl (lv_at hl 0 rfl) ?_
  refine lv_iconst (v := (0)) hx hb dX7_respell_1 (by decide) ?_
  refine va_put (D := D) (ci := 6) (v := .int (0 : Int32)) (ty := .int) (C := RX7) (T := TX7) (N := 28) hx hb hts hinX7 tyX7 tyX7_ok nmX7 hown hK.1 hP (hD.addr rfl) hS 0 rfl rfl 0 (by decide) fl_68 (fun _ h9 => h9) rfl (by decide +kernel) rfl rfl (Nat.le_of_ble_eq_true rfl) dX7_respell_2 (fun H locs (hP : va_P D vwCl [(a_t, .inr (6, [.int ((0 : Int32)), .ref a_t_text, .int v_t_textSize, .int v_t_place, .ref a_t_readPage, .ref a_t_page, .ref a_t_trial, .ref a_t_work, .ref a_t_book, .int v_t_doings, .ref a_t_kept, .ref a_t_isKept, .int v_t_seen, .ref a_t_seenWhat, .ref a_t_seenV, .ref a_t_seenIs, .long v_t_seed, .ref a_t_label, .ref a_t_finds, .ref a_t_reason, .ref a_t_caseFirst, .int v_t_cases, .ref a_t_brief, .ref a_t_printed, .int v_t_printedSize, .ref a_t_renamed, .ref a_t_worth, .int v_t_lastReason])), (a_t_book, .inl (cI, 3710, .inl r_t_book)), (a_t_brief, .inl (cI, 8, .inl r_t_brief)), (a_t_caseFirst, .inl (cI, 32, .inl r_t_caseFirst)), (a_t_finds, .inl (cI, 32, .inl r_t_finds)), (a_t_label, .inl (cI, 32, .inl r_t_label)), (a_t_page, .inl (cI, 265, .inl r_t_page)), (a_t_reason, .inl (cI, 32, .inl r_t_reason))] H) _ hS => ?_)
  refine lv_aload_n hx hb dX7_respell_5 rfl (lv_at hl 0 rfl) ?_
  refine va_get (D := D) (ci := 6) (v := .ref a_t_page) (C := RX7) (T := TX7) (N := 28) hx hb hts hinX7 hown hK.1 hP 0 rfl rfl 5 (by decide) fl_16 (fun _ h9 => h9) rfl dX7_respell_6 ?_
  refine lv_iload_n hx hb dX7_respell_9 rfl (lv_at hl 1 rfl) ?_
  refine lv_iload_n hx hb dX7_respell_10 rfl (lv_at hl 2 rfl) ?_
  obtain ⟨ru1, hu1, hf⟩ := pn_bd1_at hf
  refine pn_calli [6] (va_runS (As := [.ref a_t_page, .int p1, .int p2]) (rest := []) ⟨hx, hb, hml, hown, hts⟩ (c_X7_isThere l D cI cJ cZ a_t_page H.size r_t_page p1 p2 ru1 hu1) (va_cwS 3 hts gX7_respell_X7_isThere rfl rfl rfl hdX7_isThere ⟨Nat.le_of_ble_eq_true rfl, Nat.le_of_ble_eq_true rfl⟩) (pn_preS [6] hP (hD.addr rfl) hK rfl rfl) rfl rfl hl.1 rfl (lv_room (Nat.le_of_ble_eq_true rfl)) dX7_respell_11 ⟨Nat.zero_le _, Nat.zero_le _⟩) hP (hD.addr rfl) hS hA rfl rfl rfl (fun H locs (hP : va_P D vwCl [(a_t, .inr (6, [.int ((0 : Int32)), .ref a_t_text, .int v_t_textSize, .int v_t_place, .ref a_t_readPage, .ref a_t_page, .ref a_t_trial, .ref a_t_work, .ref a_t_book, .int v_t_doings, .ref a_t_kept, .ref a_t_isKept, .int v_t_seen, .ref a_t_seenWhat, .ref a_t_seenV, .ref a_t_seenIs, .long v_t_seed, .ref a_t_label, .ref a_t_finds, .ref a_t_reason, .ref a_t_caseFirst, .int v_t_cases, .ref a_t_brief, .ref a_t_printed, .int v_t_printedSize, .ref a_t_renamed, .ref a_t_worth, .int v_t_lastReason])), (a_t_book, .inl (cI, 3710, .inl r_t_book)), (a_t_brief, .inl (cI, 8, .inl r_t_brief)), (a_t_caseFirst, .inl (cI, 32, .inl r_t_caseFirst)), (a_t_finds, .inl (cI, 32, .inl r_t_finds)), (a_t_label, .inl (cI, 32, .inl r_t_label)), (a_t_page, .inl (cI, 265, .inl r_t_page)), (a_t_reason, .inl (cI, 32, .inl r_t_reason))] H) _ hS => ?_)
  refine lv_if_ne (tgt := 19) hx hb dX7_respell_14 (by decide) (fun c2 => ?_) (fun c2 => ?_)
  · have hf := pn_ifp c2 hf
    refine lv_iload_n hx hb dX7_respell_19 rfl (lv_at hl 3 rfl) ?_
    refine lv_i2l hx hb dX7_respell_20 rfl ?_
    refine lv_lconst (v := 0) hx hb dX7_respell_21 (by decide) ?_
    refine lv_lconst (v := 1) hx hb dX7_respell_22 (by decide) ?_
    obtain ⟨ru3, hu3, hf⟩ := pn_bd1_at hf
    refine pn_calli [] (va_runS (As := [.long p3.toInt64, .long (0 : Int64), .long (1 : Int64)]) (rest := []) ⟨hx, hb, hml, hown, hts⟩ (c_X7_in l D cI cJ cZ H.size p3.toInt64 (0 : Int64) (1 : Int64) ru3 hu3) (va_cwS 3 hts gX7_respell_X7_in rfl rfl rfl hdX7_in ⟨Nat.le_of_ble_eq_true rfl, Nat.le_of_ble_eq_true rfl⟩) (pn_preS [] hP (hD.addr rfl) hK rfl rfl) rfl rfl hl.1 rfl (lv_room (Nat.le_of_ble_eq_true rfl)) dX7_respell_23 ⟨Nat.zero_le _, Nat.zero_le _⟩) hP (hD.addr rfl) hS hA rfl rfl rfl (fun H locs (hP : va_P D vwCl [(a_t, .inr (6, [.int ((0 : Int32)), .ref a_t_text, .int v_t_textSize, .int v_t_place, .ref a_t_readPage, .ref a_t_page, .ref a_t_trial, .ref a_t_work, .ref a_t_book, .int v_t_doings, .ref a_t_kept, .ref a_t_isKept, .int v_t_seen, .ref a_t_seenWhat, .ref a_t_seenV, .ref a_t_seenIs, .long v_t_seed, .ref a_t_label, .ref a_t_finds, .ref a_t_reason, .ref a_t_caseFirst, .int v_t_cases, .ref a_t_brief, .ref a_t_printed, .int v_t_printedSize, .ref a_t_renamed, .ref a_t_worth, .int v_t_lastReason])), (a_t_book, .inl (cI, 3710, .inl r_t_book)), (a_t_brief, .inl (cI, 8, .inl r_t_brief)), (a_t_caseFirst, .inl (cI, 32, .inl r_t_caseFirst)), (a_t_finds, .inl (cI, 32, .inl r_t_finds)), (a_t_label, .inl (cI, 32, .inl r_t_label)), (a_t_page, .inl (cI, 265, .inl r_t_page)), (a_t_reason, .inl (cI, 32, .inl r_t_reason))] H) _ hS => ?_)
    refine lv_if_ne (tgt := 32) hx hb dX7_respell_26 (by decide) (fun c4 => ?_) (fun c4 => ?_)
    · have hf := pn_ifp c4 hf
      refine lv_iconst (v := (4)) hx hb dX7_respell_32 (by decide) ?_
      refine lv_iload_n hx hb dX7_respell_33 rfl (lv_at hl 1 rfl) ?_
      refine lv_imul hx hb dX7_respell_34 ?_
      refine lv_iload_n hx hb dX7_respell_35 rfl (lv_at hl 2 rfl) ?_
      refine lv_iadd hx hb dX7_respell_36 ?_
      refine lv_topi (fun z5 ez5 => ?_)
      have hf := pn_nm_at ez5 hf
      refine lv_istore (lv' := [(4, .int z5), (0, .ref a_t), (1, .int p1), (2, .int p2), (3, .int p3)]) hx hb dX7_respell_37 hl (by decide) rfl (fun ls hl => ?_)
      refine lv_aload_n hx hb dX7_respell_39 rfl (lv_at hl 1 rfl) ?_
      refine lv_aload_n hx hb dX7_respell_40 rfl (lv_at hl 1 rfl) ?_
      refine va_get (D := D) (ci := 6) (v := .ref a_t_page) (C := RX7) (T := TX7) (N := 28) hx hb hts hinX7 hown hK.1 hP 0 rfl rfl 5 (by decide) fl_16 (fun _ h9 => h9) rfl dX7_respell_41 ?_
      obtain ⟨v_t_cases_u6, v_t_lastReason_u6, r_t_caseFirst_u6, r_t_finds_u6, r_t_label_u6, r_t_reason_u6, hu6, hf⟩ := pn_bd6_at hf
      refine pn_callv [0, 3, 4, 5, 7, 6] (va_runV (As := [.ref a_t_page]) (rest := []) ⟨hx, hb, hml, hown, hts⟩ (c_X7_findAll l D cI cJ cZ a_t a_t_text a_t_readPage a_t_page a_t_trial a_t_work a_t_book a_t_kept a_t_isKept a_t_seenWhat a_t_seenV a_t_seenIs a_t_label a_t_finds a_t_reason a_t_caseFirst a_t_brief a_t_printed a_t_renamed a_t_worth a_t_page H.size (0 : Int32) v_t_textSize v_t_place v_t_doings v_t_seen v_t_seed v_t_printedSize N v_t_cases v_t_lastReason r_t_caseFirst r_t_finds r_t_label r_t_reason r_t_page v_t_cases_u6 v_t_lastReason_u6 r_t_caseFirst_u6 r_t_finds_u6 r_t_label_u6 r_t_reason_u6 hu6) (cwV 1 hts gX7_respell_X7_findAll rfl rfl rfl hdX7_findAll ⟨Nat.le_of_ble_eq_true rfl, Nat.le_of_ble_eq_true rfl⟩) (pn_preV [0, 3, 4, 5, 7, 6] hP (hD.addr rfl) hK rfl rfl (q0 := 0) (ci := 6) rfl rfl) rfl rfl hl.1 rfl (lv_room (Nat.le_of_ble_eq_true rfl)) dX7_respell_44 ⟨Nat.zero_le _, Nat.zero_le _⟩) hP (hD.addr rfl) hS hA rfl rfl rfl (fun H locs (hP : va_P D vwCl [(a_t, .inr (6, [.int ((0 : Int32)), .ref a_t_text, .int v_t_textSize, .int v_t_place, .ref a_t_readPage, .ref a_t_page, .ref a_t_trial, .ref a_t_work, .ref a_t_book, .int v_t_doings, .ref a_t_kept, .ref a_t_isKept, .int v_t_seen, .ref a_t_seenWhat, .ref a_t_seenV, .ref a_t_seenIs, .long v_t_seed, .ref a_t_label, .ref a_t_finds, .ref a_t_reason, .ref a_t_caseFirst, .int v_t_cases_u6, .ref a_t_brief, .ref a_t_printed, .int v_t_printedSize, .ref a_t_renamed, .ref a_t_worth, .int v_t_lastReason_u6])), (a_t_book, .inl (cI, 3710, .inl r_t_book)), (a_t_brief, .inl (cI, 8, .inl r_t_brief)), (a_t_caseFirst, .inl (cI, 32, .inl r_t_caseFirst_u6)), (a_t_finds, .inl (cI, 32, .inl r_t_finds_u6)), (a_t_label, .inl (cI, 32, .inl r_t_label_u6)), (a_t_page, .inl (cI, 265, .inl r_t_page)), (a_t_reason, .inl (cI, 32, .inl r_t_reason_u6))] H) _ hS => ?_)
      refine lv_aload_n hx hb dX7_respell_47 rfl (lv_at hl 1 rfl) ?_
      refine va_get (D := D) (ci := 6) (v := .ref a_t_finds) (C := RX7) (T := TX7) (N := 28) hx hb hts hinX7 hown hK.1 hP 0 rfl rfl 18 (by decide) fl_47 (fun _ h9 => h9) rfl dX7_respell_48 ?_
      refine lv_iload hx hb dX7_respell_51 (lv_at hl 0 rfl) ?_
      obtain ⟨hi8, w7, ew7, hf⟩ := pn_rd_at hf
      refine pn_ldI hx hb hK.1 hP 4 0 rfl rfl hi8 ew7 dX7_respell_53 ?_
      refine lv_bipush (v := (-9)) hx hb dX7_respell_54 (by decide) ?_
      refine lv_icmp_ne (tgt := 62) hx hb dX7_respell_56 (by decide) (fun c9 => ?_) (fun c9 => ?_)
      · have hf := pn_ifp c9 hf
        refine lv_aload_n hx hb dX7_respell_62 rfl (lv_at hl 1 rfl) ?_
        obtain ⟨v_t_doings_u10, r_t_book_u10, hu10, hf⟩ := pn_bd2_at hf
        refine pn_callv [0, 1, 6] (va_runV (As := []) (rest := []) ⟨hx, hb, hml, hown, hts⟩ (c_X7_note l D cI cJ cZ a_t a_t_text a_t_readPage a_t_page a_t_trial a_t_work a_t_book a_t_kept a_t_isKept a_t_seenWhat a_t_seenV a_t_seenIs a_t_label a_t_finds a_t_reason a_t_caseFirst a_t_brief a_t_printed a_t_renamed a_t_worth H.size (0 : Int32) v_t_textSize v_t_place v_t_seen v_t_seed v_t_cases_u6 v_t_printedSize v_t_lastReason_u6 N v_t_doings r_t_book r_t_page v_t_doings_u10 r_t_book_u10 hu10) (cwV 0 hts gX7_respell_X7_note rfl rfl rfl hdX7_note ⟨Nat.le_of_ble_eq_true rfl, Nat.le_of_ble_eq_true rfl⟩) (pn_preV [0, 1, 6] hP (hD.addr rfl) hK rfl rfl (q0 := 0) (ci := 6) rfl rfl) rfl rfl hl.1 rfl (lv_room (Nat.le_of_ble_eq_true rfl)) dX7_respell_63 ⟨Nat.zero_le _, Nat.zero_le _⟩) hP (hD.addr rfl) hS hA rfl rfl rfl (fun H locs (hP : va_P D vwCl [(a_t, .inr (6, [.int ((0 : Int32)), .ref a_t_text, .int v_t_textSize, .int v_t_place, .ref a_t_readPage, .ref a_t_page, .ref a_t_trial, .ref a_t_work, .ref a_t_book, .int v_t_doings_u10, .ref a_t_kept, .ref a_t_isKept, .int v_t_seen, .ref a_t_seenWhat, .ref a_t_seenV, .ref a_t_seenIs, .long v_t_seed, .ref a_t_label, .ref a_t_finds, .ref a_t_reason, .ref a_t_caseFirst, .int v_t_cases_u6, .ref a_t_brief, .ref a_t_printed, .int v_t_printedSize, .ref a_t_renamed, .ref a_t_worth, .int v_t_lastReason_u6])), (a_t_book, .inl (cI, 3710, .inl r_t_book_u10)), (a_t_brief, .inl (cI, 8, .inl r_t_brief)), (a_t_caseFirst, .inl (cI, 32, .inl r_t_caseFirst_u6)), (a_t_finds, .inl (cI, 32, .inl r_t_finds_u6)), (a_t_label, .inl (cI, 32, .inl r_t_label_u6)), (a_t_page, .inl (cI, 265, .inl r_t_page)), (a_t_reason, .inl (cI, 32, .inl r_t_reason_u6))] H) _ hS => ?_)
        refine lv_aload_n hx hb dX7_respell_66 rfl (lv_at hl 1 rfl) ?_
        refine lv_aload_n hx hb dX7_respell_67 rfl (lv_at hl 1 rfl) ?_
        refine va_get (D := D) (ci := 6) (v := .ref a_t_page) (C := RX7) (T := TX7) (N := 28) hx hb hts hinX7 hown hK.1 hP 0 rfl rfl 5 (by decide) fl_16 (fun _ h9 => h9) rfl dX7_respell_68 ?_
        refine lv_iload hx hb dX7_respell_71 (lv_at hl 0 rfl) ?_
        obtain ⟨v_t_lastReason_u11, r_t_brief_u11, hu11, hf⟩ := pn_bd2_at hf
        refine pn_callv [0, 2, 3, 4, 6] (va_runV (As := [.ref a_t_page, .int z5]) (rest := []) ⟨hx, hb, hml, hown, hts⟩ (c_X7_shorten l D cI cJ cZ a_t a_t_text a_t_readPage a_t_page a_t_trial a_t_work a_t_book a_t_kept a_t_isKept a_t_seenWhat a_t_seenV a_t_seenIs a_t_label a_t_finds a_t_reason a_t_caseFirst a_t_brief a_t_printed a_t_renamed a_t_worth a_t_page H.size (0 : Int32) v_t_textSize v_t_place v_t_doings_u10 v_t_seen v_t_seed v_t_printedSize N v_t_cases_u6 v_t_lastReason_u6 r_t_brief r_t_caseFirst_u6 r_t_finds_u6 r_t_page z5 v_t_lastReason_u11 r_t_brief_u11 hu11) (cwV 2 hts gX7_respell_X7_shorten rfl rfl rfl hdX7_shorten ⟨Nat.le_of_ble_eq_true rfl, Nat.le_of_ble_eq_true rfl⟩) (pn_preV [0, 2, 3, 4, 6] hP (hD.addr rfl) hK rfl rfl (q0 := 0) (ci := 6) rfl rfl) rfl rfl hl.1 rfl (lv_room (Nat.le_of_ble_eq_true rfl)) dX7_respell_73 ⟨Nat.zero_le _, Nat.zero_le _⟩) hP (hD.addr rfl) hS hA rfl rfl rfl (fun H locs (hP : va_P D vwCl [(a_t, .inr (6, [.int ((0 : Int32)), .ref a_t_text, .int v_t_textSize, .int v_t_place, .ref a_t_readPage, .ref a_t_page, .ref a_t_trial, .ref a_t_work, .ref a_t_book, .int v_t_doings_u10, .ref a_t_kept, .ref a_t_isKept, .int v_t_seen, .ref a_t_seenWhat, .ref a_t_seenV, .ref a_t_seenIs, .long v_t_seed, .ref a_t_label, .ref a_t_finds, .ref a_t_reason, .ref a_t_caseFirst, .int v_t_cases_u6, .ref a_t_brief, .ref a_t_printed, .int v_t_printedSize, .ref a_t_renamed, .ref a_t_worth, .int v_t_lastReason_u11])), (a_t_book, .inl (cI, 3710, .inl r_t_book_u10)), (a_t_brief, .inl (cI, 8, .inl r_t_brief_u11)), (a_t_caseFirst, .inl (cI, 32, .inl r_t_caseFirst_u6)), (a_t_finds, .inl (cI, 32, .inl r_t_finds_u6)), (a_t_label, .inl (cI, 32, .inl r_t_label_u6)), (a_t_page, .inl (cI, 265, .inl r_t_page)), (a_t_reason, .inl (cI, 32, .inl r_t_reason_u6))] H) _ hS => ?_)
        refine lv_iload_n hx hb dX7_respell_76 rfl (lv_at hl 4 rfl) ?_
        refine lv_iconst (v := (1)) hx hb dX7_respell_77 (by decide) ?_
        refine lv_icmp_ne (tgt := 96) hx hb dX7_respell_78 (by decide) (fun c12 => ?_) (fun c12 => ?_)
        · have hf := pn_ifp c12 hf
          refine lv_aload_n hx hb dX7_respell_96 rfl (lv_at hl 1 rfl) ?_
          refine lv_aload_n hx hb dX7_respell_97 rfl (lv_at hl 1 rfl) ?_
          refine va_get (D := D) (ci := 6) (v := .ref a_t_page) (C := RX7) (T := TX7) (N := 28) hx hb hts hinX7 hown hK.1 hP 0 rfl rfl 5 (by decide) fl_16 (fun _ h9 => h9) rfl dX7_respell_98 ?_
          refine lv_iload hx hb dX7_respell_101 (lv_at hl 0 rfl) ?_
          obtain ⟨r_t_page_u13, hu13, hf⟩ := pn_bd1_at hf
          refine pn_callv [0, 2, 6] (va_runV (As := [.ref a_t_page, .int z5]) (rest := []) ⟨hx, hb, hml, hown, hts⟩ (c_X7_putBrief l D cI cJ cZ a_t a_t_text a_t_readPage a_t_page a_t_trial a_t_work a_t_book a_t_kept a_t_isKept a_t_seenWhat a_t_seenV a_t_seenIs a_t_label a_t_finds a_t_reason a_t_caseFirst a_t_brief a_t_printed a_t_renamed a_t_worth a_t_page H.size (0 : Int32) v_t_textSize v_t_place v_t_doings_u10 v_t_seen v_t_seed v_t_cases_u6 v_t_printedSize v_t_lastReason_u11 N r_t_brief_u11 r_t_page z5 r_t_page_u13 hu13) (cwV 2 hts gX7_respell_X7_putBrief rfl rfl rfl hdX7_putBrief ⟨Nat.le_of_ble_eq_true rfl, Nat.le_of_ble_eq_true rfl⟩) (pn_preV [0, 2, 6] hP (hD.addr rfl) hK rfl rfl (q0 := 0) (ci := 6) rfl rfl) rfl rfl hl.1 rfl (lv_room (Nat.le_of_ble_eq_true rfl)) dX7_respell_103 ⟨Nat.zero_le _, Nat.zero_le _⟩) hP (hD.addr rfl) hS hA rfl rfl rfl (fun H locs (hP : va_P D vwCl [(a_t, .inr (6, [.int ((0 : Int32)), .ref a_t_text, .int v_t_textSize, .int v_t_place, .ref a_t_readPage, .ref a_t_page, .ref a_t_trial, .ref a_t_work, .ref a_t_book, .int v_t_doings_u10, .ref a_t_kept, .ref a_t_isKept, .int v_t_seen, .ref a_t_seenWhat, .ref a_t_seenV, .ref a_t_seenIs, .long v_t_seed, .ref a_t_label, .ref a_t_finds, .ref a_t_reason, .ref a_t_caseFirst, .int v_t_cases_u6, .ref a_t_brief, .ref a_t_printed, .int v_t_printedSize, .ref a_t_renamed, .ref a_t_worth, .int v_t_lastReason_u11])), (a_t_book, .inl (cI, 3710, .inl r_t_book_u10)), (a_t_brief, .inl (cI, 8, .inl r_t_brief_u11)), (a_t_caseFirst, .inl (cI, 32, .inl r_t_caseFirst_u6)), (a_t_finds, .inl (cI, 32, .inl r_t_finds_u6)), (a_t_label, .inl (cI, 32, .inl r_t_label_u6)), (a_t_page, .inl (cI, 265, .inl r_t_page_u13)), (a_t_reason, .inl (cI, 32, .inl r_t_reason_u6))] H) _ hS => ?_)
          refine lv_aload_n hx hb dX7_respell_106 rfl (lv_at hl 1 rfl) ?_
          refine va_get (D := D) (ci := 6) (v := .ref a_t_brief) (C := RX7) (T := TX7) (N := 28) hx hb hts hinX7 hown hK.1 hP 0 rfl rfl 22 (by decide) fl_56 (fun _ h9 => h9) rfl dX7_respell_107 ?_
          refine lv_iconst (v := (0)) hx hb dX7_respell_110 (by decide) ?_
          obtain ⟨hi15, w14, ew14, hf⟩ := pn_rd_at hf
          refine pn_ldI hx hb hK.1 hP 2 0 rfl rfl hi15 ew14 dX7_respell_111 ?_
          cases hf
          rw [hQ]
          exact pn_reti hx hb hr hlocks hP hS rfl dX7_respell_112
        · have hf := pn_ifq c12 hf
          refine lv_aload_n hx hb dX7_respell_81 rfl (lv_at hl 1 rfl) ?_
          refine lv_aload_n hx hb dX7_respell_82 rfl (lv_at hl 1 rfl) ?_
          refine va_get (D := D) (ci := 6) (v := .ref a_t_page) (C := RX7) (T := TX7) (N := 28) hx hb hts hinX7 hown hK.1 hP 0 rfl rfl 5 (by decide) fl_16 (fun _ h9 => h9) rfl dX7_respell_83 ?_
          refine lv_aload_n hx hb dX7_respell_86 rfl (lv_at hl 1 rfl) ?_
          refine va_get (D := D) (ci := 6) (v := .ref a_t_finds) (C := RX7) (T := TX7) (N := 28) hx hb hts hinX7 hown hK.1 hP 0 rfl rfl 18 (by decide) fl_47 (fun _ h9 => h9) rfl dX7_respell_87 ?_
          refine lv_iload hx hb dX7_respell_90 (lv_at hl 0 rfl) ?_
          obtain ⟨hi17, w16, ew16, hf⟩ := pn_rd_at hf
          refine pn_ldI hx hb hK.1 hP 4 0 rfl rfl hi17 ew16 dX7_respell_92 ?_
          obtain ⟨r_t_brief_u18, hu18, hf⟩ := pn_bd1_at hf
          refine pn_callv [0, 2, 3, 6] (va_runV (As := [.ref a_t_page, .int w16]) (rest := []) ⟨hx, hb, hml, hown, hts⟩ (c_X7_laySpelled l D cI cJ cZ a_t a_t_text a_t_readPage a_t_page a_t_trial a_t_work a_t_book a_t_kept a_t_isKept a_t_seenWhat a_t_seenV a_t_seenIs a_t_label a_t_finds a_t_reason a_t_caseFirst a_t_brief a_t_printed a_t_renamed a_t_worth a_t_page H.size (0 : Int32) v_t_textSize v_t_place v_t_doings_u10 v_t_seen v_t_seed v_t_cases_u6 v_t_printedSize v_t_lastReason_u11 N r_t_brief_u11 r_t_caseFirst_u6 r_t_page w16 r_t_brief_u18 hu18) (cwV 2 hts gX7_respell_X7_laySpelled rfl rfl rfl hdX7_laySpelled ⟨Nat.le_of_ble_eq_true rfl, Nat.le_of_ble_eq_true rfl⟩) (pn_preV [0, 2, 3, 6] hP (hD.addr rfl) hK rfl rfl (q0 := 0) (ci := 6) rfl rfl) rfl rfl hl.1 rfl (lv_room (Nat.le_of_ble_eq_true rfl)) dX7_respell_93 ⟨Nat.zero_le _, Nat.zero_le _⟩) hP (hD.addr rfl) hS hA rfl rfl rfl (fun H locs (hP : va_P D vwCl [(a_t, .inr (6, [.int ((0 : Int32)), .ref a_t_text, .int v_t_textSize, .int v_t_place, .ref a_t_readPage, .ref a_t_page, .ref a_t_trial, .ref a_t_work, .ref a_t_book, .int v_t_doings_u10, .ref a_t_kept, .ref a_t_isKept, .int v_t_seen, .ref a_t_seenWhat, .ref a_t_seenV, .ref a_t_seenIs, .long v_t_seed, .ref a_t_label, .ref a_t_finds, .ref a_t_reason, .ref a_t_caseFirst, .int v_t_cases_u6, .ref a_t_brief, .ref a_t_printed, .int v_t_printedSize, .ref a_t_renamed, .ref a_t_worth, .int v_t_lastReason_u11])), (a_t_book, .inl (cI, 3710, .inl r_t_book_u10)), (a_t_brief, .inl (cI, 8, .inl r_t_brief_u18)), (a_t_caseFirst, .inl (cI, 32, .inl r_t_caseFirst_u6)), (a_t_finds, .inl (cI, 32, .inl r_t_finds_u6)), (a_t_label, .inl (cI, 32, .inl r_t_label_u6)), (a_t_page, .inl (cI, 265, .inl r_t_page)), (a_t_reason, .inl (cI, 32, .inl r_t_reason_u6))] H) _ hS => ?_)
          refine lv_aload_n hx hb dX7_respell_96 rfl (lv_at hl 1 rfl) ?_
          refine lv_aload_n hx hb dX7_respell_97 rfl (lv_at hl 1 rfl) ?_
          refine va_get (D := D) (ci := 6) (v := .ref a_t_page) (C := RX7) (T := TX7) (N := 28) hx hb hts hinX7 hown hK.1 hP 0 rfl rfl 5 (by decide) fl_16 (fun _ h9 => h9) rfl dX7_respell_98 ?_
          refine lv_iload hx hb dX7_respell_101 (lv_at hl 0 rfl) ?_
          obtain ⟨r_t_page_u19, hu19, hf⟩ := pn_bd1_at hf
          refine pn_callv [0, 2, 6] (va_runV (As := [.ref a_t_page, .int z5]) (rest := []) ⟨hx, hb, hml, hown, hts⟩ (c_X7_putBrief l D cI cJ cZ a_t a_t_text a_t_readPage a_t_page a_t_trial a_t_work a_t_book a_t_kept a_t_isKept a_t_seenWhat a_t_seenV a_t_seenIs a_t_label a_t_finds a_t_reason a_t_caseFirst a_t_brief a_t_printed a_t_renamed a_t_worth a_t_page H.size (0 : Int32) v_t_textSize v_t_place v_t_doings_u10 v_t_seen v_t_seed v_t_cases_u6 v_t_printedSize v_t_lastReason_u11 N r_t_brief_u18 r_t_page z5 r_t_page_u19 hu19) (cwV 2 hts gX7_respell_X7_putBrief rfl rfl rfl hdX7_putBrief ⟨Nat.le_of_ble_eq_true rfl, Nat.le_of_ble_eq_true rfl⟩) (pn_preV [0, 2, 6] hP (hD.addr rfl) hK rfl rfl (q0 := 0) (ci := 6) rfl rfl) rfl rfl hl.1 rfl (lv_room (Nat.le_of_ble_eq_true rfl)) dX7_respell_103 ⟨Nat.zero_le _, Nat.zero_le _⟩) hP (hD.addr rfl) hS hA rfl rfl rfl (fun H locs (hP : va_P D vwCl [(a_t, .inr (6, [.int ((0 : Int32)), .ref a_t_text, .int v_t_textSize, .int v_t_place, .ref a_t_readPage, .ref a_t_page, .ref a_t_trial, .ref a_t_work, .ref a_t_book, .int v_t_doings_u10, .ref a_t_kept, .ref a_t_isKept, .int v_t_seen, .ref a_t_seenWhat, .ref a_t_seenV, .ref a_t_seenIs, .long v_t_seed, .ref a_t_label, .ref a_t_finds, .ref a_t_reason, .ref a_t_caseFirst, .int v_t_cases_u6, .ref a_t_brief, .ref a_t_printed, .int v_t_printedSize, .ref a_t_renamed, .ref a_t_worth, .int v_t_lastReason_u11])), (a_t_book, .inl (cI, 3710, .inl r_t_book_u10)), (a_t_brief, .inl (cI, 8, .inl r_t_brief_u18)), (a_t_caseFirst, .inl (cI, 32, .inl r_t_caseFirst_u6)), (a_t_finds, .inl (cI, 32, .inl r_t_finds_u6)), (a_t_label, .inl (cI, 32, .inl r_t_label_u6)), (a_t_page, .inl (cI, 265, .inl r_t_page_u19)), (a_t_reason, .inl (cI, 32, .inl r_t_reason_u6))] H) _ hS => ?_)
          refine lv_aload_n hx hb dX7_respell_106 rfl (lv_at hl 1 rfl) ?_
          refine va_get (D := D) (ci := 6) (v := .ref a_t_brief) (C := RX7) (T := TX7) (N := 28) hx hb hts hinX7 hown hK.1 hP 0 rfl rfl 22 (by decide) fl_56 (fun _ h9 => h9) rfl dX7_respell_107 ?_
          refine lv_iconst (v := (0)) hx hb dX7_respell_110 (by decide) ?_
          obtain ⟨hi21, w20, ew20, hf⟩ := pn_rd_at hf
          refine pn_ldI hx hb hK.1 hP 2 0 rfl rfl hi21 ew20 dX7_respell_111 ?_
          cases hf
          rw [hQ]
          exact pn_reti hx hb hr hlocks hP hS rfl dX7_respell_112
      · have hf := pn_ifq c9 hf
        refine lv_bipush (v := (-3)) hx hb dX7_respell_59 (by decide) ?_
        cases hf
        rw [hQ]
        exact pn_reti hx hb hr hlocks hP hS rfl dX7_respell_61
    · have hf := pn_ifq c4 hf
      refine lv_bipush (v := (-2)) hx hb dX7_respell_29 (by decide) ?_
      cases hf
      rw [hQ]
      exact pn_reti hx hb hr hlocks hP hS rfl dX7_respell_31
  · have hf := pn_ifq c2 hf
    refine lv_iconst (v := (-1)) hx hb dX7_respell_17 (by decide) ?_
    cases hf
    rw [hQ]
    exact pn_reti hx hb hr hlocks hP hS rfl dX7_respell_18
def lp_X7_undo_27 (r_t_book : Nat → Int32) (v_t_doings : Int32) : Nat → Int32 → (Nat → Int32) → Option ((Nat → Int32))
  | 0, _, _ => none
  | n + 1, x1, r_t_page =>
    if (265 : Int32) ≤ x1 then
  some r_t_page
  else
  pn_rd 3710 r_t_book (((265 : Int32) * v_t_doings) + x1) fun w2 =>
  pn_wrI 265 r_t_page x1 w2 fun g4 =>
  pn_nm (x1 + (1 : Int32)) fun z6 =>
  lp_X7_undo_27 r_t_book v_t_doings n z6 g4
def f_X7_undo (N : Nat) (v_t_thrown : Int32) (v_t_doings : Int32) (r_t_book : Nat → Int32) (r_t_page : Nat → Int32) : Option (Int32 × Int32 × Int32 × (Nat → Int32)) :=
  if ¬ v_t_doings = 0 then
  pn_nm (v_t_doings - (1 : Int32)) fun z8 =>
  pn_bd1 (lp_X7_undo_27 r_t_book z8 N (0 : Int32) r_t_page) (fun X27 => (pn_u1 fun r_t_page_w9 => some (z8, (0 : Int32), z8, r_t_page_w9)) X27)
  else
  some ((-3 : Int32), (0 : Int32), v_t_doings, r_t_page)
set_option maxHeartbeats 4000000 in
set_option maxRecDepth 100000 in
theorem c_X7_undo (l : Launch) (D : va_G) (cI cJ cZ : ClassId) (a_t a_t_text a_t_readPage a_t_page a_t_trial a_t_work a_t_book a_t_kept a_t_isKept a_t_seenWhat a_t_seenV a_t_seenIs a_t_label a_t_finds a_t_reason a_t_caseFirst a_t_brief a_t_printed a_t_renamed a_t_worth : Nat) (sz : Nat) (v_t_textSize : Int32) (v_t_place : Int32) (v_t_seen : Int32) (v_t_seed : Int64) (v_t_cases : Int32) (v_t_printedSize : Int32) (v_t_lastReason : Int32) (N : Nat) (v_t_thrown : Int32) (v_t_doings : Int32) (r_t_book : Nat → Int32) (r_t_page : Nat → Int32) (rR : Int32) (o_t_thrown : Int32) (o_t_doings : Int32) (o_t_page : Nat → Int32) (hf : f_X7_undo N v_t_thrown v_t_doings r_t_book r_t_page = some (rR, o_t_thrown, o_t_doings, o_t_page)) : Met l yX7_undo wsX7_undo { frames := 0, cells := 0, slots := 0, locals := 0 } (pn_Pc D cI cJ cZ [.ref a_t] [(a_t, .inr (6, [.int v_t_thrown, .ref a_t_text, .int v_t_textSize, .int v_t_place, .ref a_t_readPage, .ref a_t_page, .ref a_t_trial, .ref a_t_work, .ref a_t_book, .int v_t_doings, .ref a_t_kept, .ref a_t_isKept, .int v_t_seen, .ref a_t_seenWhat, .ref a_t_seenV, .ref a_t_seenIs, .long v_t_seed, .ref a_t_label, .ref a_t_finds, .ref a_t_reason, .ref a_t_caseFirst, .int v_t_cases, .ref a_t_brief, .ref a_t_printed, .int v_t_printedSize, .ref a_t_renamed, .ref a_t_worth, .int v_t_lastReason])), (a_t_book, .inl (cI, 3710, .inl r_t_book)), (a_t_page, .inl (cI, 265, .inl r_t_page))] sz) (pn_Qi D rR [(a_t, .inr (6, [.int o_t_thrown, .ref a_t_text, .int v_t_textSize, .int v_t_place, .ref a_t_readPage, .ref a_t_page, .ref a_t_trial, .ref a_t_work, .ref a_t_book, .int o_t_doings, .ref a_t_kept, .ref a_t_isKept, .int v_t_seen, .ref a_t_seenWhat, .ref a_t_seenV, .ref a_t_seenIs, .long v_t_seed, .ref a_t_label, .ref a_t_finds, .ref a_t_reason, .ref a_t_caseFirst, .int v_t_cases, .ref a_t_brief, .ref a_t_printed, .int v_t_printedSize, .ref a_t_renamed, .ref a_t_worth, .int v_t_lastReason])), (a_t_book, .inl (cI, 3710, .inl r_t_book)), (a_t_page, .inl (cI, 265, .inl o_t_page))] (va_A [(a_t, .inr (6, [.int v_t_thrown, .ref a_t_text, .int v_t_textSize, .int v_t_place, .ref a_t_readPage, .ref a_t_page, .ref a_t_trial, .ref a_t_work, .ref a_t_book, .int v_t_doings, .ref a_t_kept, .ref a_t_isKept, .int v_t_seen, .ref a_t_seenWhat, .ref a_t_seenV, .ref a_t_seenIs, .long v_t_seed, .ref a_t_label, .ref a_t_finds, .ref a_t_reason, .ref a_t_caseFirst, .int v_t_cases, .ref a_t_brief, .ref a_t_printed, .int v_t_printedSize, .ref a_t_renamed, .ref a_t_worth, .int v_t_lastReason])), (a_t_book, .inl (cI, 3710, .inl r_t_book)), (a_t_page, .inl (cI, 265, .inl r_t_page))] sz)) 0 0 (va_A [(a_t, .inr (6, [.int v_t_thrown, .ref a_t_text, .int v_t_textSize, .int v_t_place, .ref a_t_readPage, .ref a_t_page, .ref a_t_trial, .ref a_t_work, .ref a_t_book, .int v_t_doings, .ref a_t_kept, .ref a_t_isKept, .int v_t_seen, .ref a_t_seenWhat, .ref a_t_seenV, .ref a_t_seenIs, .long v_t_seed, .ref a_t_label, .ref a_t_finds, .ref a_t_reason, .ref a_t_caseFirst, .int v_t_cases, .ref a_t_brief, .ref a_t_printed, .int v_t_printedSize, .ref a_t_renamed, .ref a_t_worth, .int v_t_lastReason])), (a_t_book, .inl (cI, 3710, .inl r_t_book)), (a_t_page, .inl (cI, 265, .inl r_t_page))] sz) := by
  refine pn_entry (cc := cX7_undo) (maxL := 2) (ret := (some .int)) (Qf := pn_Qi D rR [(a_t, .inr (6, [.int o_t_thrown, .ref a_t_text, .int v_t_textSize, .int v_t_place, .ref a_t_readPage, .ref a_t_page, .ref a_t_trial, .ref a_t_work, .ref a_t_book, .int o_t_doings, .ref a_t_kept, .ref a_t_isKept, .int v_t_seen, .ref a_t_seenWhat, .ref a_t_seenV, .ref a_t_seenIs, .long v_t_seed, .ref a_t_label, .ref a_t_finds, .ref a_t_reason, .ref a_t_caseFirst, .int v_t_cases, .ref a_t_brief, .ref a_t_printed, .int v_t_printedSize, .ref a_t_renamed, .ref a_t_worth, .int v_t_lastReason])), (a_t_book, .inl (cI, 3710, .inl r_t_book)), (a_t_page, .inl (cI, 265, .inl o_t_page))]) (by decide) rfl (Nat.le_of_ble_eq_true rfl) ?_
  intro p e s m args below meth c A ls H locs Qm hQ hx hb hr hlocks hml hown hts hK hP hD hA hS hl
  have hl : lv_has ls 2 [(0, .ref a_t)] := hl
  have hinX7 : ∀ w ∈ wsX70, w ∈ wsX7_undo := by decide +kernel
  have fl_16 := hts (.fieldLink RX7 16 "PointingNotesModel" "page" "[I") (by decide +kernel)
  have fl_25 := hts (.fieldLink RX7 25 "PointingNotesModel" "book" "[I") (by decide +kernel)
  have fl_68 := hts (.fieldLink RX7 68 "PointingNotesModel" "thrown" "I") (by decide +kernel)
  have fl_131 := hts (.fieldLink RX7 131 "PointingNotesModel" "doings" "I") (by decide +kernel)
  rw [f_X7_undo] at hf
  have lp27 : ∀ (n : Nat) (x1 : Int32) (v_t_thrown : Int32) (v_t_doings : Int32) (r_t_page : Nat → Int32) (X : (Nat → Int32)) (H : Heap) (locs : List Loc) (ls : Array Slot), lp_X7_undo_27 r_t_book v_t_doings n x1 r_t_page = some X → va_P D vwCl [(a_t, .inr (6, [.int v_t_thrown, .ref a_t_text, .int v_t_textSize, .int v_t_place, .ref a_t_readPage, .ref a_t_page, .ref a_t_trial, .ref a_t_work, .ref a_t_book, .int v_t_doings, .ref a_t_kept, .ref a_t_isKept, .int v_t_seen, .ref a_t_seenWhat, .ref a_t_seenV, .ref a_t_seenIs, .long v_t_seed, .ref a_t_label, .ref a_t_finds, .ref a_t_reason, .ref a_t_caseFirst, .int v_t_cases, .ref a_t_brief, .ref a_t_printed, .int v_t_printedSize, .ref a_t_renamed, .ref a_t_worth, .int v_t_lastReason])), (a_t_book, .inl (cI, 3710, .inl r_t_book)), (a_t_page, .inl (cI, 265, .inl r_t_page))] H → va_S A s.heap H locs → lv_has ls 2 [(0, .ref a_t), (1, .int x1)] → (∀  (r_t_page' : Nat → Int32) (H : Heap) (locs : List Loc) (ls : Array Slot), X = r_t_page' → va_P D vwCl [(a_t, .inr (6, [.int v_t_thrown, .ref a_t_text, .int v_t_textSize, .int v_t_place, .ref a_t_readPage, .ref a_t_page, .ref a_t_trial, .ref a_t_work, .ref a_t_book, .int v_t_doings, .ref a_t_kept, .ref a_t_isKept, .int v_t_seen, .ref a_t_seenWhat, .ref a_t_seenV, .ref a_t_seenIs, .long v_t_seed, .ref a_t_label, .ref a_t_finds, .ref a_t_reason, .ref a_t_caseFirst, .int v_t_cases, .ref a_t_brief, .ref a_t_printed, .int v_t_printedSize, .ref a_t_renamed, .ref a_t_worth, .int v_t_lastReason])), (a_t_book, .inl (cI, 3710, .inl r_t_book)), (a_t_page, .inl (cI, 265, .inl (r_t_page')))] H → va_S A s.heap H locs → lv_has ls 2 [(0, .ref a_t)] → W p l e { frames := 0, cells := 0, slots := 0, locals := 0 } s m args below meth c H locs 0 0 Qm (F0 m 61 ls [])) → W p l e { frames := 0, cells := 0, slots := 0, locals := 0 } s m args below meth c H locs 0 0 Qm (F0 m 27 ls []) := by
    intro n
    induction n with
    | zero => intro x1 v_t_thrown v_t_doings r_t_page X H locs ls hf; cases hf
    | succ n ih =>
      intro x1 v_t_thrown v_t_doings r_t_page X H locs ls hf hP hS hl kx61
      rw [lp_X7_undo_27] at hf
      refine lv_iload_n hx hb dX7_undo_27 rfl (lv_at hl 1 rfl) ?_
      refine lv_sipush (v := (265)) hx hb dX7_undo_28 (by decide) ?_
      refine lv_icmp_ge (tgt := 61) hx hb dX7_undo_31 (by decide) (fun c1 => ?_) (fun c1 => ?_)
      · have hf := pn_ifp c1 hf
        exact kx61 r_t_page H locs ls (Option.some.inj hf).symm hP hS (lv_sub hl [0] rfl)
      · have hf := pn_ifn c1 hf
        refine lv_aload_n hx hb dX7_undo_34 rfl (lv_at hl 0 rfl) ?_
        refine va_get (D := D) (ci := 6) (v := .ref a_t_page) (C := RX7) (T := TX7) (N := 28) hx hb hts hinX7 hown hK.1 hP 0 rfl rfl 5 (by decide) fl_16 (fun _ h9 => h9) rfl dX7_undo_35 ?_
        refine lv_iload_n hx hb dX7_undo_38 rfl (lv_at hl 1 rfl) ?_
        refine lv_aload_n hx hb dX7_undo_39 rfl (lv_at hl 0 rfl) ?_
        refine va_get (D := D) (ci := 6) (v := .ref a_t_book) (C := RX7) (T := TX7) (N := 28) hx hb hts hinX7 hown hK.1 hP 0 rfl rfl 8 (by decide) fl_25 (fun _ h9 => h9) rfl dX7_undo_40 ?_
        refine lv_sipush (v := (265)) hx hb dX7_undo_43 (by decide) ?_
        refine lv_aload_n hx hb dX7_undo_46 rfl (lv_at hl 0 rfl) ?_
        refine va_get (D := D) (ci := 6) (v := .int v_t_doings) (C := RX7) (T := TX7) (N := 28) hx hb hts hinX7 hown hK.1 hP 0 rfl rfl 9 (by decide) fl_131 (fun _ h9 => h9) rfl dX7_undo_47 ?_
        refine lv_imul hx hb dX7_undo_50 ?_
        refine lv_iload_n hx hb dX7_undo_51 rfl (lv_at hl 1 rfl) ?_
        refine lv_iadd hx hb dX7_undo_52 ?_
        obtain ⟨hi3, w2, ew2, hf⟩ := pn_rd_at hf
        refine pn_ldI hx hb hK.1 hP 1 0 rfl rfl hi3 ew2 dX7_undo_53 ?_
        obtain ⟨hi5, g4, eg4, hf⟩ := pn_wrI_at hf
        refine pn_stI hx hb hK.1 hP (hD.addr rfl) hS 2 0 rfl rfl hi5 eg4 dX7_undo_54 (fun H locs (hP : va_P D vwCl [(a_t, .inr (6, [.int v_t_thrown, .ref a_t_text, .int v_t_textSize, .int v_t_place, .ref a_t_readPage, .ref a_t_page, .ref a_t_trial, .ref a_t_work, .ref a_t_book, .int v_t_doings, .ref a_t_kept, .ref a_t_isKept, .int v_t_seen, .ref a_t_seenWhat, .ref a_t_seenV, .ref a_t_seenIs, .long v_t_seed, .ref a_t_label, .ref a_t_finds, .ref a_t_reason, .ref a_t_caseFirst, .int v_t_cases, .ref a_t_brief, .ref a_t_printed, .int v_t_printedSize, .ref a_t_renamed, .ref a_t_worth, .int v_t_lastReason])), (a_t_book, .inl (cI, 3710, .inl r_t_book)), (a_t_page, .inl (cI, 265, .inl g4))] H) _ hS => ?_)
        obtain ⟨z6, ez6⟩ : ∃ y : Int32, y = x1 + (1) := ⟨_, rfl⟩
        have hf := pn_nm_at ez6 hf
        refine lv_iinc (v := z6) (lv' := [(1, .int z6), (0, .ref a_t)]) hx hb dX7_undo_55 hl (k := 1) rfl (by rw [ez6]; rfl) (by decide) rfl (fun ls hl => ?_)
        refine lv_goto (tgt := 27) hx hb dX7_undo_58 (by decide) ?_
        exact ih z6 v_t_thrown v_t_doings g4 X H locs ls hf hP hS (lv_sub hl [1, 0] rfl) kx61
  refine lv_aload_n hx hb dX7_undo_0 rfl (lv_at hl 0 rfl) ?_
  refine lv_iconst (v := (0)) hx hb dX7_undo_1 (by decide) ?_
  refine va_put (D := D) (ci := 6) (v := .int (0 : Int32)) (ty := .int) (C := RX7) (T := TX7) (N := 28) hx hb hts hinX7 tyX7 tyX7_ok nmX7 hown hK.1 hP (hD.addr rfl) hS 0 rfl rfl 0 (by decide) fl_68 (fun _ h9 => h9) rfl (by decide +kernel) rfl rfl (Nat.le_of_ble_eq_true rfl) dX7_undo_2 (fun H locs (hP : va_P D vwCl [(a_t, .inr (6, [.int ((0 : Int32)), .ref a_t_text, .int v_t_textSize, .int v_t_place, .ref a_t_readPage, .ref a_t_page, .ref a_t_trial, .ref a_t_work, .ref a_t_book, .int v_t_doings, .ref a_t_kept, .ref a_t_isKept, .int v_t_seen, .ref a_t_seenWhat, .ref a_t_seenV, .ref a_t_seenIs, .long v_t_seed, .ref a_t_label, .ref a_t_finds, .ref a_t_reason, .ref a_t_caseFirst, .int v_t_cases, .ref a_t_brief, .ref a_t_printed, .int v_t_printedSize, .ref a_t_renamed, .ref a_t_worth, .int v_t_lastReason])), (a_t_book, .inl (cI, 3710, .inl r_t_book)), (a_t_page, .inl (cI, 265, .inl r_t_page))] H) _ hS => ?_)
  refine lv_aload_n hx hb dX7_undo_5 rfl (lv_at hl 0 rfl) ?_
  refine va_get (D := D) (ci := 6) (v := .int v_t_doings) (C := RX7) (T := TX7) (N := 28) hx hb hts hinX7 hown hK.1 hP 0 rfl rfl 9 (by decide) fl_131 (fun _ h9 => h9) rfl dX7_undo_6 ?_
  refine lv_if_ne (tgt := 15) hx hb dX7_undo_9 (by decide) (fun c7 => ?_) (fun c7 => ?_)
  · have hf := pn_ifp c7 hf
    refine lv_aload_n hx hb dX7_undo_15 rfl (lv_at hl 0 rfl) ?_
    refine lv_dup hx hb dX7_undo_16 rfl ?_
    refine va_get (D := D) (ci := 6) (v := .int v_t_doings) (C := RX7) (T := TX7) (N := 28) hx hb hts hinX7 hown hK.1 hP 0 rfl rfl 9 (by decide) fl_131 (fun _ h9 => h9) rfl dX7_undo_17 ?_
    refine lv_iconst (v := (1)) hx hb dX7_undo_20 (by decide) ?_
    refine lv_isub hx hb dX7_undo_21 ?_
    refine lv_topi (fun z8 ez8 => ?_)
    have hf := pn_nm_at ez8 hf
    refine va_put (D := D) (ci := 6) (v := .int z8) (ty := .int) (C := RX7) (T := TX7) (N := 28) hx hb hts hinX7 tyX7 tyX7_ok nmX7 hown hK.1 hP (hD.addr rfl) hS 0 rfl rfl 9 (by decide) fl_131 (fun _ h9 => h9) rfl (by decide +kernel) rfl rfl (Nat.le_of_ble_eq_true rfl) dX7_undo_22 (fun H locs (hP : va_P D vwCl [(a_t, .inr (6, [.int ((0 : Int32)), .ref a_t_text, .int v_t_textSize, .int v_t_place, .ref a_t_readPage, .ref a_t_page, .ref a_t_trial, .ref a_t_work, .ref a_t_book, .int z8, .ref a_t_kept, .ref a_t_isKept, .int v_t_seen, .ref a_t_seenWhat, .ref a_t_seenV, .ref a_t_seenIs, .long v_t_seed, .ref a_t_label, .ref a_t_finds, .ref a_t_reason, .ref a_t_caseFirst, .int v_t_cases, .ref a_t_brief, .ref a_t_printed, .int v_t_printedSize, .ref a_t_renamed, .ref a_t_worth, .int v_t_lastReason])), (a_t_book, .inl (cI, 3710, .inl r_t_book)), (a_t_page, .inl (cI, 265, .inl r_t_page))] H) _ hS => ?_)
    refine lv_iconst (v := (0)) hx hb dX7_undo_25 (by decide) ?_
    refine lv_istore_n (lv' := [(1, .int (0 : Int32)), (0, .ref a_t)]) hx hb dX7_undo_26 rfl hl (by decide) rfl (fun ls hl => ?_)
    obtain ⟨X27, hX27, hf⟩ := pn_bd1_at hf
    refine lp27 N (0 : Int32) (0 : Int32) z8 r_t_page X27 H locs ls hX27 hP hS (lv_sub hl [1, 0] rfl) ?_
    · intro r_t_page_w9 H locs ls eX hP hS hl
      rw [eX] at hf
      have hf := pn_u1_at hf
      refine lv_aload_n hx hb dX7_undo_61 rfl (lv_at hl 0 rfl) ?_
      refine va_get (D := D) (ci := 6) (v := .int z8) (C := RX7) (T := TX7) (N := 28) hx hb hts hinX7 hown hK.1 hP 0 rfl rfl 9 (by decide) fl_131 (fun _ h9 => h9) rfl dX7_undo_62 ?_
      cases hf
      rw [hQ]
      exact pn_reti hx hb hr hlocks hP hS rfl dX7_undo_65
  · have hf := pn_ifq c7 hf
    refine lv_bipush (v := (-3)) hx hb dX7_undo_12 (by decide) ?_
    cases hf
    rw [hQ]
    exact pn_reti hx hb hr hlocks hP hS rfl dX7_undo_14
def lp_X7_longPower_5 (p0 : Int64) (p2 : Int32) : Nat → Int64 → Int32 → Option (Int64)
  | 0, _, _ => none
  | n + 1, x3, x5 =>
    if p2 ≤ x5 then
  some x3
  else
  pn_nm (x3 * p0) fun z2 =>
  pn_nm (x5 + (1 : Int32)) fun z3 =>
  lp_X7_longPower_5 p0 p2 n z2 z3
def f_X7_longPower (N : Nat) (p0 : Int64) (p2 : Int32) : Option (Int64) :=
  pn_bd1 (lp_X7_longPower_5 p0 p2 N (1 : Int64) (0 : Int32)) (fun X5 => (pn_u1 fun x3_w4 => some x3_w4) X5)
set_option maxHeartbeats 4000000 in
set_option maxRecDepth 100000 in
theorem c_X7_longPower (l : Launch) (D : va_G) (cI cJ cZ : ClassId) (sz : Nat) (N : Nat) (p0 : Int64) (p2 : Int32) (rR : Int64) (hf : f_X7_longPower N p0 p2 = some rR) : Met l yX7_longPower wsX7_longPower { frames := 0, cells := 0, slots := 0, locals := 0 } (pn_Pc D cI cJ cZ [.long p0, .int p2] [] sz) (pn_Ql D rR [] (va_A [] sz)) 0 0 (va_A [] sz) := by
  refine pn_entry (cc := cX7_longPower) (maxL := 6) (ret := (some .long)) (Qf := pn_Ql D rR []) (by decide) rfl (Nat.le_of_ble_eq_true rfl) ?_
  intro p e s m args below meth c A ls H locs Qm hQ hx hb hr hlocks hml hown hts hK hP hD hA hS hl
  have hl : lv_has ls 6 [(0, .long p0), (2, .int p2)] := hl
  rw [f_X7_longPower] at hf
  have lp5 : ∀ (n : Nat) (x3 : Int64) (x5 : Int32) (X : Int64) (H : Heap) (locs : List Loc) (ls : Array Slot), lp_X7_longPower_5 p0 p2 n x3 x5 = some X → va_P D vwCl [] H → va_S A s.heap H locs → lv_has ls 6 [(0, .long p0), (2, .int p2), (3, .long x3), (5, .int x5)] → (∀ (y3 : Int64)  (H : Heap) (locs : List Loc) (ls : Array Slot), X = y3 → va_P D vwCl [] H → va_S A s.heap H locs → lv_has ls 6 [(3, .long y3)] → W p l e { frames := 0, cells := 0, slots := 0, locals := 0 } s m args below meth c H locs 0 0 Qm (F0 m 21 ls [])) → W p l e { frames := 0, cells := 0, slots := 0, locals := 0 } s m args below meth c H locs 0 0 Qm (F0 m 5 ls []) := by
    intro n
    induction n with
    | zero => intro x3 x5 X H locs ls hf; cases hf
    | succ n ih =>
      intro x3 x5 X H locs ls hf hP hS hl kx21
      rw [lp_X7_longPower_5] at hf
      refine lv_iload hx hb dX7_longPower_5 (lv_at hl 3 rfl) ?_
      refine lv_iload_n hx hb dX7_longPower_7 rfl (lv_at hl 1 rfl) ?_
      refine lv_icmp_ge (tgt := 21) hx hb dX7_longPower_8 (by decide) (fun c1 => ?_) (fun c1 => ?_)
      · have hf := pn_ifp c1 hf
        exact kx21 x3 H locs ls (Option.some.inj hf).symm hP hS (lv_sub hl [2] rfl)
      · have hf := pn_ifn c1 hf
        refine lv_lload_n hx hb dX7_longPower_11 rfl (lv_at hl 2 rfl) ?_
        refine lv_lload_n hx hb dX7_longPower_12 rfl (lv_at hl 0 rfl) ?_
        refine lv_lmul hx hb dX7_longPower_13 ?_
        refine lv_topl (fun z2 ez2 => ?_)
        have hf := pn_nm_at ez2 hf
        refine lv_lstore_n (lv' := [(3, .long z2), (0, .long p0), (2, .int p2), (5, .int x5)]) hx hb dX7_longPower_14 rfl hl (by decide) rfl (fun ls hl => ?_)
        obtain ⟨z3, ez3⟩ : ∃ y : Int32, y = x5 + (1) := ⟨_, rfl⟩
        have hf := pn_nm_at ez3 hf
        refine lv_iinc (v := z3) (lv' := [(5, .int z3), (3, .long z2), (0, .long p0), (2, .int p2)]) hx hb dX7_longPower_15 hl (k := 3) rfl (by rw [ez3]; rfl) (by decide) rfl (fun ls hl => ?_)
        refine lv_goto (tgt := 5) hx hb dX7_longPower_18 (by decide) ?_
        exact ih z2 z3 X H locs ls hf hP hS (lv_sub hl [2, 3, 1, 0] rfl) kx21
  refine lv_lconst (v := 1) hx hb dX7_longPower_0 (by decide) ?_
  refine lv_lstore_n (lv' := [(3, .long (1 : Int64)), (0, .long p0), (2, .int p2)]) hx hb dX7_longPower_1 rfl hl (by decide) rfl (fun ls hl => ?_)
  refine lv_iconst (v := (0)) hx hb dX7_longPower_2 (by decide) ?_
  refine lv_istore (lv' := [(5, .int (0 : Int32)), (3, .long (1 : Int64)), (0, .long p0), (2, .int p2)]) hx hb dX7_longPower_3 hl (by decide) rfl (fun ls hl => ?_)
  obtain ⟨X5, hX5, hf⟩ := pn_bd1_at hf
  refine lp5 N (1 : Int64) (0 : Int32) X5 H locs ls hX5 hP hS (lv_sub hl [2, 3, 1, 0] rfl) ?_
  · intro x3_w4 H locs ls eX hP hS hl
    rw [eX] at hf
    have hf := pn_u1_at hf
    refine lv_lload_n hx hb dX7_longPower_21 rfl (lv_at hl 0 rfl) ?_
    cases hf
    rw [hQ]
    exact pn_retl hx hb hr hlocks hP hS rfl dX7_longPower_22
def j_X7_does_81 (N : Nat) (p1 : Int32) (x2 : Int32) (x3 : Int32) (x4 : Int32) (x5 : Int32) (x6 : Int32) (x7 : Int32) (s0 : Int32) (v_t_cases : Int32) (v_t_lastReason : Int32) (r_t_brief : Nat → Int32) (r_t_caseFirst : Nat → Int32) (r_t_finds : Nat → Int32) (r_t_label : Nat → Int32) (r_t_reason : Nat → Int32) (r_t_renamed : Nat → Int32) (r_t_trial : Nat → Int32) (r_t_work : Nat → Int32) : Option (Int32 × Int32 × Int32 × (Nat → Int32) × (Nat → Int32) × (Nat → Int32) × (Nat → Int32) × (Nat → Int32) × (Nat → Int32) × (Nat → Int32) × (Nat → Int32)) :=
  pn_bd6 (f_X7_findAll N v_t_cases v_t_lastReason r_t_caseFirst r_t_finds r_t_label r_t_reason r_t_trial) fun v_t_cases_u1 v_t_lastReason_u1 r_t_caseFirst_u1 r_t_finds_u1 r_t_label_u1 r_t_reason_u1 =>
  pn_nm (p1 / (1000 : Int32)) fun z2 =>
  if z2 = 1 then
  if x6 = 0 then
  if x6 = 0 then
  some ((0 : Int32), v_t_cases_u1, v_t_lastReason_u1, r_t_brief, r_t_caseFirst_u1, r_t_finds_u1, r_t_label_u1, r_t_reason_u1, r_t_renamed, r_t_trial, r_t_work)
  else
  if x7 = 0 then
  some ((0 : Int32), v_t_cases_u1, v_t_lastReason_u1, r_t_brief, r_t_caseFirst_u1, r_t_finds_u1, r_t_label_u1, r_t_reason_u1, r_t_renamed, r_t_trial, r_t_work)
  else
  if (2 : Int32) ≤ x4 then
  some ((0 : Int32), v_t_cases_u1, v_t_lastReason_u1, r_t_brief, r_t_caseFirst_u1, r_t_finds_u1, r_t_label_u1, r_t_reason_u1, r_t_renamed, r_t_trial, r_t_work)
  else
  some ((1 : Int32), v_t_cases_u1, v_t_lastReason_u1, r_t_brief, r_t_caseFirst_u1, r_t_finds_u1, r_t_label_u1, r_t_reason_u1, r_t_renamed, r_t_trial, r_t_work)
  else
  if x7 = 0 then
  if x6 = 0 then
  some ((0 : Int32), v_t_cases_u1, v_t_lastReason_u1, r_t_brief, r_t_caseFirst_u1, r_t_finds_u1, r_t_label_u1, r_t_reason_u1, r_t_renamed, r_t_trial, r_t_work)
  else
  if x7 = 0 then
  some ((0 : Int32), v_t_cases_u1, v_t_lastReason_u1, r_t_brief, r_t_caseFirst_u1, r_t_finds_u1, r_t_label_u1, r_t_reason_u1, r_t_renamed, r_t_trial, r_t_work)
  else
  if (2 : Int32) ≤ x4 then
  some ((0 : Int32), v_t_cases_u1, v_t_lastReason_u1, r_t_brief, r_t_caseFirst_u1, r_t_finds_u1, r_t_label_u1, r_t_reason_u1, r_t_renamed, r_t_trial, r_t_work)
  else
  some ((1 : Int32), v_t_cases_u1, v_t_lastReason_u1, r_t_brief, r_t_caseFirst_u1, r_t_finds_u1, r_t_label_u1, r_t_reason_u1, r_t_renamed, r_t_trial, r_t_work)
  else
  if (2 : Int32) ≤ x4 then
  if x6 = 0 then
  some ((0 : Int32), v_t_cases_u1, v_t_lastReason_u1, r_t_brief, r_t_caseFirst_u1, r_t_finds_u1, r_t_label_u1, r_t_reason_u1, r_t_renamed, r_t_trial, r_t_work)
  else
  if x7 = 0 then
  some ((0 : Int32), v_t_cases_u1, v_t_lastReason_u1, r_t_brief, r_t_caseFirst_u1, r_t_finds_u1, r_t_label_u1, r_t_reason_u1, r_t_renamed, r_t_trial, r_t_work)
  else
  if (2 : Int32) ≤ x4 then
  some ((0 : Int32), v_t_cases_u1, v_t_lastReason_u1, r_t_brief, r_t_caseFirst_u1, r_t_finds_u1, r_t_label_u1, r_t_reason_u1, r_t_renamed, r_t_trial, r_t_work)
  else
  some ((1 : Int32), v_t_cases_u1, v_t_lastReason_u1, r_t_brief, r_t_caseFirst_u1, r_t_finds_u1, r_t_label_u1, r_t_reason_u1, r_t_renamed, r_t_trial, r_t_work)
  else
  pn_bd3 (f_X7_moveOn N r_t_renamed r_t_work r_t_trial x2 x3 x4) fun r_t_renamed_u16 r_t_work_u16 r_t_trial_u16 =>
  if x6 = 0 then
  some ((0 : Int32), v_t_cases_u1, v_t_lastReason_u1, r_t_brief, r_t_caseFirst_u1, r_t_finds_u1, r_t_label_u1, r_t_reason_u1, r_t_renamed_u16, r_t_trial_u16, r_t_work_u16)
  else
  if x7 = 0 then
  some ((0 : Int32), v_t_cases_u1, v_t_lastReason_u1, r_t_brief, r_t_caseFirst_u1, r_t_finds_u1, r_t_label_u1, r_t_reason_u1, r_t_renamed_u16, r_t_trial_u16, r_t_work_u16)
  else
  if (2 : Int32) ≤ x4 then
  some ((0 : Int32), v_t_cases_u1, v_t_lastReason_u1, r_t_brief, r_t_caseFirst_u1, r_t_finds_u1, r_t_label_u1, r_t_reason_u1, r_t_renamed_u16, r_t_trial_u16, r_t_work_u16)
  else
  some ((1 : Int32), v_t_cases_u1, v_t_lastReason_u1, r_t_brief, r_t_caseFirst_u1, r_t_finds_u1, r_t_label_u1, r_t_reason_u1, r_t_renamed_u16, r_t_trial_u16, r_t_work_u16)
  else if z2 = 2 then
  if x6 = 0 then
  if x6 = 0 then
  some ((0 : Int32), v_t_cases_u1, v_t_lastReason_u1, r_t_brief, r_t_caseFirst_u1, r_t_finds_u1, r_t_label_u1, r_t_reason_u1, r_t_renamed, r_t_trial, r_t_work)
  else
  if (2 : Int32) ≤ x3 then
  some ((0 : Int32), v_t_cases_u1, v_t_lastReason_u1, r_t_brief, r_t_caseFirst_u1, r_t_finds_u1, r_t_label_u1, r_t_reason_u1, r_t_renamed, r_t_trial, r_t_work)
  else
  if ¬ x4 = 0 then
  some ((0 : Int32), v_t_cases_u1, v_t_lastReason_u1, r_t_brief, r_t_caseFirst_u1, r_t_finds_u1, r_t_label_u1, r_t_reason_u1, r_t_renamed, r_t_trial, r_t_work)
  else
  some ((1 : Int32), v_t_cases_u1, v_t_lastReason_u1, r_t_brief, r_t_caseFirst_u1, r_t_finds_u1, r_t_label_u1, r_t_reason_u1, r_t_renamed, r_t_trial, r_t_work)
  else
  if (2 : Int32) ≤ x3 then
  if x6 = 0 then
  some ((0 : Int32), v_t_cases_u1, v_t_lastReason_u1, r_t_brief, r_t_caseFirst_u1, r_t_finds_u1, r_t_label_u1, r_t_reason_u1, r_t_renamed, r_t_trial, r_t_work)
  else
  if (2 : Int32) ≤ x3 then
  some ((0 : Int32), v_t_cases_u1, v_t_lastReason_u1, r_t_brief, r_t_caseFirst_u1, r_t_finds_u1, r_t_label_u1, r_t_reason_u1, r_t_renamed, r_t_trial, r_t_work)
  else
  if ¬ x4 = 0 then
  some ((0 : Int32), v_t_cases_u1, v_t_lastReason_u1, r_t_brief, r_t_caseFirst_u1, r_t_finds_u1, r_t_label_u1, r_t_reason_u1, r_t_renamed, r_t_trial, r_t_work)
  else
  some ((1 : Int32), v_t_cases_u1, v_t_lastReason_u1, r_t_brief, r_t_caseFirst_u1, r_t_finds_u1, r_t_label_u1, r_t_reason_u1, r_t_renamed, r_t_trial, r_t_work)
  else
  if ¬ x4 = 0 then
  if x6 = 0 then
  some ((0 : Int32), v_t_cases_u1, v_t_lastReason_u1, r_t_brief, r_t_caseFirst_u1, r_t_finds_u1, r_t_label_u1, r_t_reason_u1, r_t_renamed, r_t_trial, r_t_work)
  else
  if (2 : Int32) ≤ x3 then
  some ((0 : Int32), v_t_cases_u1, v_t_lastReason_u1, r_t_brief, r_t_caseFirst_u1, r_t_finds_u1, r_t_label_u1, r_t_reason_u1, r_t_renamed, r_t_trial, r_t_work)
  else
  if ¬ x4 = 0 then
  some ((0 : Int32), v_t_cases_u1, v_t_lastReason_u1, r_t_brief, r_t_caseFirst_u1, r_t_finds_u1, r_t_label_u1, r_t_reason_u1, r_t_renamed, r_t_trial, r_t_work)
  else
  some ((1 : Int32), v_t_cases_u1, v_t_lastReason_u1, r_t_brief, r_t_caseFirst_u1, r_t_finds_u1, r_t_label_u1, r_t_reason_u1, r_t_renamed, r_t_trial, r_t_work)
  else
  pn_bd2 (f_X7_cutOn N r_t_renamed r_t_trial x2 x3) fun r_t_renamed_u33 r_t_trial_u33 =>
  if x6 = 0 then
  some ((0 : Int32), v_t_cases_u1, v_t_lastReason_u1, r_t_brief, r_t_caseFirst_u1, r_t_finds_u1, r_t_label_u1, r_t_reason_u1, r_t_renamed_u33, r_t_trial_u33, r_t_work)
  else
  if (2 : Int32) ≤ x3 then
  some ((0 : Int32), v_t_cases_u1, v_t_lastReason_u1, r_t_brief, r_t_caseFirst_u1, r_t_finds_u1, r_t_label_u1, r_t_reason_u1, r_t_renamed_u33, r_t_trial_u33, r_t_work)
  else
  if ¬ x4 = 0 then
  some ((0 : Int32), v_t_cases_u1, v_t_lastReason_u1, r_t_brief, r_t_caseFirst_u1, r_t_finds_u1, r_t_label_u1, r_t_reason_u1, r_t_renamed_u33, r_t_trial_u33, r_t_work)
  else
  some ((1 : Int32), v_t_cases_u1, v_t_lastReason_u1, r_t_brief, r_t_caseFirst_u1, r_t_finds_u1, r_t_label_u1, r_t_reason_u1, r_t_renamed_u33, r_t_trial_u33, r_t_work)
  else if z2 = 3 then
  if x5 = 0 then
  some ((0 : Int32), v_t_cases_u1, v_t_lastReason_u1, r_t_brief, r_t_caseFirst_u1, r_t_finds_u1, r_t_label_u1, r_t_reason_u1, r_t_renamed, r_t_trial, r_t_work)
  else
  pn_rd 32 r_t_finds_u1 s0 fun w39 =>
  if ¬ x4 = (9 : Int32) then
  if ¬ w39 = x4 then
  some ((0 : Int32), v_t_cases_u1, v_t_lastReason_u1, r_t_brief, r_t_caseFirst_u1, r_t_finds_u1, r_t_label_u1, r_t_reason_u1, r_t_renamed, r_t_trial, r_t_work)
  else
  some ((1 : Int32), v_t_cases_u1, v_t_lastReason_u1, r_t_brief, r_t_caseFirst_u1, r_t_finds_u1, r_t_label_u1, r_t_reason_u1, r_t_renamed, r_t_trial, r_t_work)
  else
  if ¬ w39 = (-9 : Int32) then
  some ((0 : Int32), v_t_cases_u1, v_t_lastReason_u1, r_t_brief, r_t_caseFirst_u1, r_t_finds_u1, r_t_label_u1, r_t_reason_u1, r_t_renamed, r_t_trial, r_t_work)
  else
  some ((1 : Int32), v_t_cases_u1, v_t_lastReason_u1, r_t_brief, r_t_caseFirst_u1, r_t_finds_u1, r_t_label_u1, r_t_reason_u1, r_t_renamed, r_t_trial, r_t_work)
  else if z2 = 4 then
  if x5 = 0 then
  some ((0 : Int32), v_t_cases_u1, v_t_lastReason_u1, r_t_brief, r_t_caseFirst_u1, r_t_finds_u1, r_t_label_u1, r_t_reason_u1, r_t_renamed, r_t_trial, r_t_work)
  else
  pn_rd 32 r_t_reason_u1 s0 fun w46 =>
  if ¬ w46 = x4 then
  some ((0 : Int32), v_t_cases_u1, v_t_lastReason_u1, r_t_brief, r_t_caseFirst_u1, r_t_finds_u1, r_t_label_u1, r_t_reason_u1, r_t_renamed, r_t_trial, r_t_work)
  else
  some ((1 : Int32), v_t_cases_u1, v_t_lastReason_u1, r_t_brief, r_t_caseFirst_u1, r_t_finds_u1, r_t_label_u1, r_t_reason_u1, r_t_renamed, r_t_trial, r_t_work)
  else if z2 = 5 then
  if ¬ x2 = 0 then
  some ((0 : Int32), v_t_cases_u1, v_t_lastReason_u1, r_t_brief, r_t_caseFirst_u1, r_t_finds_u1, r_t_label_u1, r_t_reason_u1, r_t_renamed, r_t_trial, r_t_work)
  else
  pn_bd1 (f_X7_manyFound N r_t_finds_u1) fun ru51 =>
  if ru51 < (((10 : Int32) * x3) + x4) then
  some ((0 : Int32), v_t_cases_u1, v_t_lastReason_u1, r_t_brief, r_t_caseFirst_u1, r_t_finds_u1, r_t_label_u1, r_t_reason_u1, r_t_renamed, r_t_trial, r_t_work)
  else
  some ((1 : Int32), v_t_cases_u1, v_t_lastReason_u1, r_t_brief, r_t_caseFirst_u1, r_t_finds_u1, r_t_label_u1, r_t_reason_u1, r_t_renamed, r_t_trial, r_t_work)
  else if z2 = 6 then
  if x5 = 0 then
  some ((0 : Int32), v_t_cases_u1, v_t_lastReason_u1, r_t_brief, r_t_caseFirst_u1, r_t_finds_u1, r_t_label_u1, r_t_reason_u1, r_t_renamed, r_t_trial, r_t_work)
  else
  if ¬ x4 = 0 then
  some ((0 : Int32), v_t_cases_u1, v_t_lastReason_u1, r_t_brief, r_t_caseFirst_u1, r_t_finds_u1, r_t_label_u1, r_t_reason_u1, r_t_renamed, r_t_trial, r_t_work)
  else
  pn_rd 32 r_t_finds_u1 s0 fun w56 =>
  if ¬ w56 = (-9 : Int32) then
  pn_bd2 (f_X7_shorten N v_t_cases_u1 v_t_lastReason_u1 r_t_brief r_t_caseFirst_u1 r_t_finds_u1 r_t_trial s0) fun v_t_lastReason_u59 r_t_brief_u59 =>
  pn_bd1 (f_X7_putBrief N r_t_brief_u59 r_t_trial s0) fun r_t_trial_u60 =>
  some ((1 : Int32), v_t_cases_u1, v_t_lastReason_u59, r_t_brief_u59, r_t_caseFirst_u1, r_t_finds_u1, r_t_label_u1, r_t_reason_u1, r_t_renamed, r_t_trial_u60, r_t_work)
  else
  some ((0 : Int32), v_t_cases_u1, v_t_lastReason_u1, r_t_brief, r_t_caseFirst_u1, r_t_finds_u1, r_t_label_u1, r_t_reason_u1, r_t_renamed, r_t_trial, r_t_work)
  else some ((0 : Int32), v_t_cases_u1, v_t_lastReason_u1, r_t_brief, r_t_caseFirst_u1, r_t_finds_u1, r_t_label_u1, r_t_reason_u1, r_t_renamed, r_t_trial, r_t_work)
def f_X7_does (N : Nat) (v_t_cases : Int32) (v_t_lastReason : Int32) (r_t_brief : Nat → Int32) (r_t_caseFirst : Nat → Int32) (r_t_finds : Nat → Int32) (r_t_label : Nat → Int32) (r_t_reason : Nat → Int32) (r_t_renamed : Nat → Int32) (r_t_trial : Nat → Int32) (r_t_work : Nat → Int32) (p1 : Int32) : Option (Int32 × Int32 × Int32 × (Nat → Int32) × (Nat → Int32) × (Nat → Int32) × (Nat → Int32) × (Nat → Int32) × (Nat → Int32) × (Nat → Int32) × (Nat → Int32)) :=
  pn_nm ((p1 / (100 : Int32)) - (p1 / (100 : Int32)) / (10 : Int32) * (10 : Int32)) fun z61 =>
  pn_nm ((p1 / (10 : Int32)) - (p1 / (10 : Int32)) / (10 : Int32) * (10 : Int32)) fun z62 =>
  pn_nm (p1 - p1 / (10 : Int32) * (10 : Int32)) fun z63 =>
  pn_bd1 (f_X7_isThere r_t_trial z61 z62) fun ru64 =>
  pn_rd 265 r_t_trial (0 : Int32) fun w65 =>
  pn_bd1 (f_X7_in z61.toInt64 (0 : Int64) ((w65 - (1 : Int32)).toInt64)) fun ru67 =>
  pn_rd 265 r_t_trial (0 : Int32) fun w68 =>
  pn_bd1 (f_X7_in z62.toInt64 (0 : Int64) ((w68 - (1 : Int32)).toInt64)) fun ru70 =>
  if ru64 = 0 then
  j_X7_does_81 N p1 z61 z62 z63 ru64 ru67 ru70 (0 : Int32) v_t_cases v_t_lastReason r_t_brief r_t_caseFirst r_t_finds r_t_label r_t_reason r_t_renamed r_t_trial r_t_work
  else
  j_X7_does_81 N p1 z61 z62 z63 ru64 ru67 ru70 (((4 : Int32) * z61) + z62) v_t_cases v_t_lastReason r_t_brief r_t_caseFirst r_t_finds r_t_label r_t_reason r_t_renamed r_t_trial r_t_work
set_option maxHeartbeats 4000000 in
set_option maxRecDepth 100000 in
theorem c_X7_does (l : Launch) (D : va_G) (cI cJ cZ : ClassId) (a_t a_t_text a_t_readPage a_t_page a_t_trial a_t_work a_t_book a_t_kept a_t_isKept a_t_seenWhat a_t_seenV a_t_seenIs a_t_label a_t_finds a_t_reason a_t_caseFirst a_t_brief a_t_printed a_t_renamed a_t_worth : Nat) (sz : Nat) (v_t_thrown : Int32) (v_t_textSize : Int32) (v_t_place : Int32) (v_t_doings : Int32) (v_t_seen : Int32) (v_t_seed : Int64) (v_t_printedSize : Int32) (N : Nat) (v_t_cases : Int32) (v_t_lastReason : Int32) (r_t_brief : Nat → Int32) (r_t_caseFirst : Nat → Int32) (r_t_finds : Nat → Int32) (r_t_label : Nat → Int32) (r_t_reason : Nat → Int32) (r_t_renamed : Nat → Int32) (r_t_trial : Nat → Int32) (r_t_work : Nat → Int32) (p1 : Int32) (rR : Int32) (o_t_cases : Int32) (o_t_lastReason : Int32) (o_t_brief : Nat → Int32) (o_t_caseFirst : Nat → Int32) (o_t_finds : Nat → Int32) (o_t_label : Nat → Int32) (o_t_reason : Nat → Int32) (o_t_renamed : Nat → Int32) (o_t_trial : Nat → Int32) (o_t_work : Nat → Int32) (hf : f_X7_does N v_t_cases v_t_lastReason r_t_brief r_t_caseFirst r_t_finds r_t_label r_t_reason r_t_renamed r_t_trial r_t_work p1 = some (rR, o_t_cases, o_t_lastReason, o_t_brief, o_t_caseFirst, o_t_finds, o_t_label, o_t_reason, o_t_renamed, o_t_trial, o_t_work)) : Met l yX7_does wsX7_does { frames := 7, cells := 0, slots := 0, locals := 168 } (pn_Pc D cI cJ cZ [.ref a_t, .int p1] [(a_t, .inr (6, [.int v_t_thrown, .ref a_t_text, .int v_t_textSize, .int v_t_place, .ref a_t_readPage, .ref a_t_page, .ref a_t_trial, .ref a_t_work, .ref a_t_book, .int v_t_doings, .ref a_t_kept, .ref a_t_isKept, .int v_t_seen, .ref a_t_seenWhat, .ref a_t_seenV, .ref a_t_seenIs, .long v_t_seed, .ref a_t_label, .ref a_t_finds, .ref a_t_reason, .ref a_t_caseFirst, .int v_t_cases, .ref a_t_brief, .ref a_t_printed, .int v_t_printedSize, .ref a_t_renamed, .ref a_t_worth, .int v_t_lastReason])), (a_t_brief, .inl (cI, 8, .inl r_t_brief)), (a_t_caseFirst, .inl (cI, 32, .inl r_t_caseFirst)), (a_t_finds, .inl (cI, 32, .inl r_t_finds)), (a_t_label, .inl (cI, 32, .inl r_t_label)), (a_t_reason, .inl (cI, 32, .inl r_t_reason)), (a_t_renamed, .inl (cI, 8, .inl r_t_renamed)), (a_t_trial, .inl (cI, 265, .inl r_t_trial)), (a_t_work, .inl (cI, 265, .inl r_t_work))] sz) (pn_Qi D rR [(a_t, .inr (6, [.int v_t_thrown, .ref a_t_text, .int v_t_textSize, .int v_t_place, .ref a_t_readPage, .ref a_t_page, .ref a_t_trial, .ref a_t_work, .ref a_t_book, .int v_t_doings, .ref a_t_kept, .ref a_t_isKept, .int v_t_seen, .ref a_t_seenWhat, .ref a_t_seenV, .ref a_t_seenIs, .long v_t_seed, .ref a_t_label, .ref a_t_finds, .ref a_t_reason, .ref a_t_caseFirst, .int o_t_cases, .ref a_t_brief, .ref a_t_printed, .int v_t_printedSize, .ref a_t_renamed, .ref a_t_worth, .int o_t_lastReason])), (a_t_brief, .inl (cI, 8, .inl o_t_brief)), (a_t_caseFirst, .inl (cI, 32, .inl o_t_caseFirst)), (a_t_finds, .inl (cI, 32, .inl o_t_finds)), (a_t_label, .inl (cI, 32, .inl o_t_label)), (a_t_reason, .inl (cI, 32, .inl o_t_reason)), (a_t_renamed, .inl (cI, 8, .inl o_t_renamed)), (a_t_trial, .inl (cI, 265, .inl o_t_trial)), (a_t_work, .inl (cI, 265, .inl o_t_work))] (va_A [(a_t, .inr (6, [.int v_t_thrown, .ref a_t_text, .int v_t_textSize, .int v_t_place, .ref a_t_readPage, .ref a_t_page, .ref a_t_trial, .ref a_t_work, .ref a_t_book, .int v_t_doings, .ref a_t_kept, .ref a_t_isKept, .int v_t_seen, .ref a_t_seenWhat, .ref a_t_seenV, .ref a_t_seenIs, .long v_t_seed, .ref a_t_label, .ref a_t_finds, .ref a_t_reason, .ref a_t_caseFirst, .int v_t_cases, .ref a_t_brief, .ref a_t_printed, .int v_t_printedSize, .ref a_t_renamed, .ref a_t_worth, .int v_t_lastReason])), (a_t_brief, .inl (cI, 8, .inl r_t_brief)), (a_t_caseFirst, .inl (cI, 32, .inl r_t_caseFirst)), (a_t_finds, .inl (cI, 32, .inl r_t_finds)), (a_t_label, .inl (cI, 32, .inl r_t_label)), (a_t_reason, .inl (cI, 32, .inl r_t_reason)), (a_t_renamed, .inl (cI, 8, .inl r_t_renamed)), (a_t_trial, .inl (cI, 265, .inl r_t_trial)), (a_t_work, .inl (cI, 265, .inl r_t_work))] sz)) 0 0 (va_A [(a_t, .inr (6, [.int v_t_thrown, .ref a_t_text, .int v_t_textSize, .int v_t_place, .ref a_t_readPage, .ref a_t_page, .ref a_t_trial, .ref a_t_work, .ref a_t_book, .int v_t_doings, .ref a_t_kept, .ref a_t_isKept, .int v_t_seen, .ref a_t_seenWhat, .ref a_t_seenV, .ref a_t_seenIs, .long v_t_seed, .ref a_t_label, .ref a_t_finds, .ref a_t_reason, .ref a_t_caseFirst, .int v_t_cases, .ref a_t_brief, .ref a_t_printed, .int v_t_printedSize, .ref a_t_renamed, .ref a_t_worth, .int v_t_lastReason])), (a_t_brief, .inl (cI, 8, .inl r_t_brief)), (a_t_caseFirst, .inl (cI, 32, .inl r_t_caseFirst)), (a_t_finds, .inl (cI, 32, .inl r_t_finds)), (a_t_label, .inl (cI, 32, .inl r_t_label)), (a_t_reason, .inl (cI, 32, .inl r_t_reason)), (a_t_renamed, .inl (cI, 8, .inl r_t_renamed)), (a_t_trial, .inl (cI, 265, .inl r_t_trial)), (a_t_work, .inl (cI, 265, .inl r_t_work))] sz) := by
  refine pn_entry (cc := cX7_does) (maxL := 9) (ret := (some .boolean)) (Qf := pn_Qi D rR [(a_t, .inr (6, [.int v_t_thrown, .ref a_t_text, .int v_t_textSize, .int v_t_place, .ref a_t_readPage, .ref a_t_page, .ref a_t_trial, .ref a_t_work, .ref a_t_book, .int v_t_doings, .ref a_t_kept, .ref a_t_isKept, .int v_t_seen, .ref a_t_seenWhat, .ref a_t_seenV, .ref a_t_seenIs, .long v_t_seed, .ref a_t_label, .ref a_t_finds, .ref a_t_reason, .ref a_t_caseFirst, .int o_t_cases, .ref a_t_brief, .ref a_t_printed, .int v_t_printedSize, .ref a_t_renamed, .ref a_t_worth, .int o_t_lastReason])), (a_t_brief, .inl (cI, 8, .inl o_t_brief)), (a_t_caseFirst, .inl (cI, 32, .inl o_t_caseFirst)), (a_t_finds, .inl (cI, 32, .inl o_t_finds)), (a_t_label, .inl (cI, 32, .inl o_t_label)), (a_t_reason, .inl (cI, 32, .inl o_t_reason)), (a_t_renamed, .inl (cI, 8, .inl o_t_renamed)), (a_t_trial, .inl (cI, 265, .inl o_t_trial)), (a_t_work, .inl (cI, 265, .inl o_t_work))]) (by decide) rfl (Nat.le_of_ble_eq_true rfl) ?_
  intro p e s m args below meth c A ls H locs Qm hQ hx hb hr hlocks hml hown hts hK hP hD hA hS hl
  have hl : lv_has ls 9 [(0, .ref a_t), (1, .int p1)] := hl
  have hinX7 : ∀ w ∈ wsX70, w ∈ wsX7_does := by decide +kernel
  have fl_19 := hts (.fieldLink RX7 19 "PointingNotesModel" "trial" "[I") (by decide +kernel)
  have fl_47 := hts (.fieldLink RX7 47 "PointingNotesModel" "finds" "[I") (by decide +kernel)
  have fl_50 := hts (.fieldLink RX7 50 "PointingNotesModel" "reason" "[I") (by decide +kernel)
  rw [f_X7_does] at hf
  have jn81 : ∀ (x2 : Int32) (x3 : Int32) (x4 : Int32) (x5 : Int32) (x6 : Int32) (x7 : Int32) (s0 : Int32) (v_t_cases : Int32) (v_t_lastReason : Int32) (r_t_brief : Nat → Int32) (r_t_caseFirst : Nat → Int32) (r_t_finds : Nat → Int32) (r_t_label : Nat → Int32) (r_t_reason : Nat → Int32) (r_t_renamed : Nat → Int32) (r_t_trial : Nat → Int32) (r_t_work : Nat → Int32) (H : Heap) (locs : List Loc) (ls : Array Slot), j_X7_does_81 N p1 x2 x3 x4 x5 x6 x7 s0 v_t_cases v_t_lastReason r_t_brief r_t_caseFirst r_t_finds r_t_label r_t_reason r_t_renamed r_t_trial r_t_work = some (rR, o_t_cases, o_t_lastReason, o_t_brief, o_t_caseFirst, o_t_finds, o_t_label, o_t_reason, o_t_renamed, o_t_trial, o_t_work) → va_P D vwCl [(a_t, .inr (6, [.int v_t_thrown, .ref a_t_text, .int v_t_textSize, .int v_t_place, .ref a_t_readPage, .ref a_t_page, .ref a_t_trial, .ref a_t_work, .ref a_t_book, .int v_t_doings, .ref a_t_kept, .ref a_t_isKept, .int v_t_seen, .ref a_t_seenWhat, .ref a_t_seenV, .ref a_t_seenIs, .long v_t_seed, .ref a_t_label, .ref a_t_finds, .ref a_t_reason, .ref a_t_caseFirst, .int v_t_cases, .ref a_t_brief, .ref a_t_printed, .int v_t_printedSize, .ref a_t_renamed, .ref a_t_worth, .int v_t_lastReason])), (a_t_brief, .inl (cI, 8, .inl r_t_brief)), (a_t_caseFirst, .inl (cI, 32, .inl r_t_caseFirst)), (a_t_finds, .inl (cI, 32, .inl r_t_finds)), (a_t_label, .inl (cI, 32, .inl r_t_label)), (a_t_reason, .inl (cI, 32, .inl r_t_reason)), (a_t_renamed, .inl (cI, 8, .inl r_t_renamed)), (a_t_trial, .inl (cI, 265, .inl r_t_trial)), (a_t_work, .inl (cI, 265, .inl r_t_work))] H → va_S A s.heap H locs → lv_has ls 9 [(0, .ref a_t), (1, .int p1), (2, .int x2), (3, .int x3), (4, .int x4), (5, .int x5), (6, .int x6), (7, .int x7)] → W p l e { frames := 7, cells := 0, slots := 0, locals := 168 } s m args below meth c H locs 0 0 Qm (F0 m 81 ls [.int s0]) := by
    intro x2 x3 x4 x5 x6 x7 s0 v_t_cases v_t_lastReason r_t_brief r_t_caseFirst r_t_finds r_t_label r_t_reason r_t_renamed r_t_trial r_t_work H locs ls hf hP hS hl
    rw [j_X7_does_81] at hf
    refine lv_istore (lv' := [(8, .int s0), (0, .ref a_t), (1, .int p1), (2, .int x2), (3, .int x3), (4, .int x4), (5, .int x5), (6, .int x6), (7, .int x7)]) hx hb dX7_does_81 hl (by decide) rfl (fun ls hl => ?_)
    refine lv_aload_n hx hb dX7_does_83 rfl (lv_at hl 1 rfl) ?_
    refine lv_aload_n hx hb dX7_does_84 rfl (lv_at hl 1 rfl) ?_
    refine va_get (D := D) (ci := 6) (v := .ref a_t_trial) (C := RX7) (T := TX7) (N := 28) hx hb hts hinX7 hown hK.1 hP 0 rfl rfl 6 (by decide) fl_19 (fun _ h9 => h9) rfl dX7_does_85 ?_
    obtain ⟨v_t_cases_u1, v_t_lastReason_u1, r_t_caseFirst_u1, r_t_finds_u1, r_t_label_u1, r_t_reason_u1, hu1, hf⟩ := pn_bd6_at hf
    refine pn_callv [0, 2, 3, 4, 5, 7] (va_runV (As := [.ref a_t_trial]) (rest := []) ⟨hx, hb, hml, hown, hts⟩ (c_X7_findAll l D cI cJ cZ a_t a_t_text a_t_readPage a_t_page a_t_trial a_t_work a_t_book a_t_kept a_t_isKept a_t_seenWhat a_t_seenV a_t_seenIs a_t_label a_t_finds a_t_reason a_t_caseFirst a_t_brief a_t_printed a_t_renamed a_t_worth a_t_trial H.size v_t_thrown v_t_textSize v_t_place v_t_doings v_t_seen v_t_seed v_t_printedSize N v_t_cases v_t_lastReason r_t_caseFirst r_t_finds r_t_label r_t_reason r_t_trial v_t_cases_u1 v_t_lastReason_u1 r_t_caseFirst_u1 r_t_finds_u1 r_t_label_u1 r_t_reason_u1 hu1) (cwV 1 hts gX7_does_X7_findAll rfl rfl rfl hdX7_findAll ⟨Nat.le_of_ble_eq_true rfl, Nat.le_of_ble_eq_true rfl⟩) (pn_preV [0, 2, 3, 4, 5, 7] hP (hD.addr rfl) hK rfl rfl (q0 := 0) (ci := 6) rfl rfl) rfl rfl hl.1 rfl (lv_room (Nat.le_of_ble_eq_true rfl)) dX7_does_88 ⟨Nat.zero_le _, Nat.zero_le _⟩) hP (hD.addr rfl) hS hA rfl rfl rfl (fun H locs (hP : va_P D vwCl [(a_t, .inr (6, [.int v_t_thrown, .ref a_t_text, .int v_t_textSize, .int v_t_place, .ref a_t_readPage, .ref a_t_page, .ref a_t_trial, .ref a_t_work, .ref a_t_book, .int v_t_doings, .ref a_t_kept, .ref a_t_isKept, .int v_t_seen, .ref a_t_seenWhat, .ref a_t_seenV, .ref a_t_seenIs, .long v_t_seed, .ref a_t_label, .ref a_t_finds, .ref a_t_reason, .ref a_t_caseFirst, .int v_t_cases_u1, .ref a_t_brief, .ref a_t_printed, .int v_t_printedSize, .ref a_t_renamed, .ref a_t_worth, .int v_t_lastReason_u1])), (a_t_brief, .inl (cI, 8, .inl r_t_brief)), (a_t_caseFirst, .inl (cI, 32, .inl r_t_caseFirst_u1)), (a_t_finds, .inl (cI, 32, .inl r_t_finds_u1)), (a_t_label, .inl (cI, 32, .inl r_t_label_u1)), (a_t_reason, .inl (cI, 32, .inl r_t_reason_u1)), (a_t_renamed, .inl (cI, 8, .inl r_t_renamed)), (a_t_trial, .inl (cI, 265, .inl r_t_trial)), (a_t_work, .inl (cI, 265, .inl r_t_work))] H) _ hS => ?_)
    refine lv_iload_n hx hb dX7_does_91 rfl (lv_at hl 2 rfl) ?_
    refine lv_sipush (v := (1000)) hx hb dX7_does_92 (by decide) ?_
    refine lv_idiv hx hb dX7_does_95 (by decide) ?_
    refine lv_topi (fun z2 ez2 => ?_)
    have hf := pn_nm_at ez2 hf
    by_cases c3 : z2 = 1
    · have hf := pn_ifp c3 hf
      refine lv_tableIn (tgt := 136) hx hb dX7_does_96 (by rw [c3]; decide) (by rw [c3]; decide) (by rw [c3]; rfl) (by decide) ?_
      refine lv_iload hx hb dX7_does_136 (lv_at hl 7 rfl) ?_
      refine lv_if_eq (tgt := 164) hx hb dX7_does_138 (by decide) (fun c4 => ?_) (fun c4 => ?_)
      · have hf := pn_ifp c4 hf
        refine lv_iload hx hb dX7_does_164 (lv_at hl 7 rfl) ?_
        refine lv_if_eq (tgt := 184) hx hb dX7_does_166 (by decide) (fun c5 => ?_) (fun c5 => ?_)
        · have hf := pn_ifp c5 hf
          refine lv_iconst (v := (0)) hx hb dX7_does_184 (by decide) ?_
          cases hf
          rw [hQ]
          exact pn_retz hx hb hr hlocks hP hS rfl rfl dX7_does_185
        · have hf := pn_ifn c5 hf
          refine lv_iload hx hb dX7_does_169 (lv_at hl 8 rfl) ?_
          refine lv_if_eq (tgt := 184) hx hb dX7_does_171 (by decide) (fun c6 => ?_) (fun c6 => ?_)
          · have hf := pn_ifp c6 hf
            refine lv_iconst (v := (0)) hx hb dX7_does_184 (by decide) ?_
            cases hf
            rw [hQ]
            exact pn_retz hx hb hr hlocks hP hS rfl rfl dX7_does_185
          · have hf := pn_ifn c6 hf
            refine lv_iload hx hb dX7_does_174 (lv_at hl 5 rfl) ?_
            refine lv_iconst (v := (2)) hx hb dX7_does_176 (by decide) ?_
            refine lv_icmp_ge (tgt := 184) hx hb dX7_does_177 (by decide) (fun c7 => ?_) (fun c7 => ?_)
            · have hf := pn_ifp c7 hf
              refine lv_iconst (v := (0)) hx hb dX7_does_184 (by decide) ?_
              cases hf
              rw [hQ]
              exact pn_retz hx hb hr hlocks hP hS rfl rfl dX7_does_185
            · have hf := pn_ifn c7 hf
              refine lv_iconst (v := (1)) hx hb dX7_does_180 (by decide) ?_
              refine lv_goto (tgt := 185) hx hb dX7_does_181 (by decide) ?_
              cases hf
              rw [hQ]
              exact pn_retz hx hb hr hlocks hP hS rfl rfl dX7_does_185
      · have hf := pn_ifn c4 hf
        refine lv_iload hx hb dX7_does_141 (lv_at hl 8 rfl) ?_
        refine lv_if_eq (tgt := 164) hx hb dX7_does_143 (by decide) (fun c8 => ?_) (fun c8 => ?_)
        · have hf := pn_ifp c8 hf
          refine lv_iload hx hb dX7_does_164 (lv_at hl 7 rfl) ?_
          refine lv_if_eq (tgt := 184) hx hb dX7_does_166 (by decide) (fun c9 => ?_) (fun c9 => ?_)
          · have hf := pn_ifp c9 hf
            refine lv_iconst (v := (0)) hx hb dX7_does_184 (by decide) ?_
            cases hf
            rw [hQ]
            exact pn_retz hx hb hr hlocks hP hS rfl rfl dX7_does_185
          · have hf := pn_ifn c9 hf
            refine lv_iload hx hb dX7_does_169 (lv_at hl 8 rfl) ?_
            refine lv_if_eq (tgt := 184) hx hb dX7_does_171 (by decide) (fun c10 => ?_) (fun c10 => ?_)
            · have hf := pn_ifp c10 hf
              refine lv_iconst (v := (0)) hx hb dX7_does_184 (by decide) ?_
              cases hf
              rw [hQ]
              exact pn_retz hx hb hr hlocks hP hS rfl rfl dX7_does_185
            · have hf := pn_ifn c10 hf
              refine lv_iload hx hb dX7_does_174 (lv_at hl 5 rfl) ?_
              refine lv_iconst (v := (2)) hx hb dX7_does_176 (by decide) ?_
              refine lv_icmp_ge (tgt := 184) hx hb dX7_does_177 (by decide) (fun c11 => ?_) (fun c11 => ?_)
              · have hf := pn_ifp c11 hf
                refine lv_iconst (v := (0)) hx hb dX7_does_184 (by decide) ?_
                cases hf
                rw [hQ]
                exact pn_retz hx hb hr hlocks hP hS rfl rfl dX7_does_185
              · have hf := pn_ifn c11 hf
                refine lv_iconst (v := (1)) hx hb dX7_does_180 (by decide) ?_
                refine lv_goto (tgt := 185) hx hb dX7_does_181 (by decide) ?_
                cases hf
                rw [hQ]
                exact pn_retz hx hb hr hlocks hP hS rfl rfl dX7_does_185
        · have hf := pn_ifn c8 hf
          refine lv_iload hx hb dX7_does_146 (lv_at hl 5 rfl) ?_
          refine lv_iconst (v := (2)) hx hb dX7_does_148 (by decide) ?_
          refine lv_icmp_ge (tgt := 164) hx hb dX7_does_149 (by decide) (fun c12 => ?_) (fun c12 => ?_)
          · have hf := pn_ifp c12 hf
            refine lv_iload hx hb dX7_does_164 (lv_at hl 7 rfl) ?_
            refine lv_if_eq (tgt := 184) hx hb dX7_does_166 (by decide) (fun c13 => ?_) (fun c13 => ?_)
            · have hf := pn_ifp c13 hf
              refine lv_iconst (v := (0)) hx hb dX7_does_184 (by decide) ?_
              cases hf
              rw [hQ]
              exact pn_retz hx hb hr hlocks hP hS rfl rfl dX7_does_185
            · have hf := pn_ifn c13 hf
              refine lv_iload hx hb dX7_does_169 (lv_at hl 8 rfl) ?_
              refine lv_if_eq (tgt := 184) hx hb dX7_does_171 (by decide) (fun c14 => ?_) (fun c14 => ?_)
              · have hf := pn_ifp c14 hf
                refine lv_iconst (v := (0)) hx hb dX7_does_184 (by decide) ?_
                cases hf
                rw [hQ]
                exact pn_retz hx hb hr hlocks hP hS rfl rfl dX7_does_185
              · have hf := pn_ifn c14 hf
                refine lv_iload hx hb dX7_does_174 (lv_at hl 5 rfl) ?_
                refine lv_iconst (v := (2)) hx hb dX7_does_176 (by decide) ?_
                refine lv_icmp_ge (tgt := 184) hx hb dX7_does_177 (by decide) (fun c15 => ?_) (fun c15 => ?_)
                · have hf := pn_ifp c15 hf
                  refine lv_iconst (v := (0)) hx hb dX7_does_184 (by decide) ?_
                  cases hf
                  rw [hQ]
                  exact pn_retz hx hb hr hlocks hP hS rfl rfl dX7_does_185
                · have hf := pn_ifn c15 hf
                  refine lv_iconst (v := (1)) hx hb dX7_does_180 (by decide) ?_
                  refine lv_goto (tgt := 185) hx hb dX7_does_181 (by decide) ?_
                  cases hf
                  rw [hQ]
                  exact pn_retz hx hb hr hlocks hP hS rfl rfl dX7_does_185
          · have hf := pn_ifn c12 hf
            refine lv_aload_n hx hb dX7_does_152 rfl (lv_at hl 1 rfl) ?_
            refine lv_aload_n hx hb dX7_does_153 rfl (lv_at hl 1 rfl) ?_
            refine va_get (D := D) (ci := 6) (v := .ref a_t_trial) (C := RX7) (T := TX7) (N := 28) hx hb hts hinX7 hown hK.1 hP 0 rfl rfl 6 (by decide) fl_19 (fun _ h9 => h9) rfl dX7_does_154 ?_
            refine lv_iload_n hx hb dX7_does_157 rfl (lv_at hl 3 rfl) ?_
            refine lv_iload_n hx hb dX7_does_158 rfl (lv_at hl 4 rfl) ?_
            refine lv_iload hx hb dX7_does_159 (lv_at hl 5 rfl) ?_
            obtain ⟨r_t_renamed_u16, r_t_work_u16, r_t_trial_u16, hu16, hf⟩ := pn_bd3_at hf
            refine pn_callv [0, 6, 8, 7] (va_runV (As := [.ref a_t_trial, .int x2, .int x3, .int x4]) (rest := []) ⟨hx, hb, hml, hown, hts⟩ (c_X7_moveOn l D cI cJ cZ a_t a_t_text a_t_readPage a_t_page a_t_trial a_t_work a_t_book a_t_kept a_t_isKept a_t_seenWhat a_t_seenV a_t_seenIs a_t_label a_t_finds a_t_reason a_t_caseFirst a_t_brief a_t_printed a_t_renamed a_t_worth a_t_trial H.size v_t_thrown v_t_textSize v_t_place v_t_doings v_t_seen v_t_seed v_t_cases_u1 v_t_printedSize v_t_lastReason_u1 N r_t_renamed r_t_work r_t_trial x2 x3 x4 r_t_renamed_u16 r_t_work_u16 r_t_trial_u16 hu16) (cwV 4 hts gX7_does_X7_moveOn rfl rfl rfl hdX7_moveOn ⟨Nat.le_of_ble_eq_true rfl, Nat.le_of_ble_eq_true rfl⟩) (pn_preV [0, 6, 8, 7] hP (hD.addr rfl) hK rfl rfl (q0 := 0) (ci := 6) rfl rfl) rfl rfl hl.1 rfl (lv_room (Nat.le_of_ble_eq_true rfl)) dX7_does_161 ⟨Nat.zero_le _, Nat.zero_le _⟩) hP (hD.addr rfl) hS hA rfl rfl rfl (fun H locs (hP : va_P D vwCl [(a_t, .inr (6, [.int v_t_thrown, .ref a_t_text, .int v_t_textSize, .int v_t_place, .ref a_t_readPage, .ref a_t_page, .ref a_t_trial, .ref a_t_work, .ref a_t_book, .int v_t_doings, .ref a_t_kept, .ref a_t_isKept, .int v_t_seen, .ref a_t_seenWhat, .ref a_t_seenV, .ref a_t_seenIs, .long v_t_seed, .ref a_t_label, .ref a_t_finds, .ref a_t_reason, .ref a_t_caseFirst, .int v_t_cases_u1, .ref a_t_brief, .ref a_t_printed, .int v_t_printedSize, .ref a_t_renamed, .ref a_t_worth, .int v_t_lastReason_u1])), (a_t_brief, .inl (cI, 8, .inl r_t_brief)), (a_t_caseFirst, .inl (cI, 32, .inl r_t_caseFirst_u1)), (a_t_finds, .inl (cI, 32, .inl r_t_finds_u1)), (a_t_label, .inl (cI, 32, .inl r_t_label_u1)), (a_t_reason, .inl (cI, 32, .inl r_t_reason_u1)), (a_t_renamed, .inl (cI, 8, .inl r_t_renamed_u16)), (a_t_trial, .inl (cI, 265, .inl r_t_trial_u16)), (a_t_work, .inl (cI, 265, .inl r_t_work_u16))] H) _ hS => ?_)
            refine lv_iload hx hb dX7_does_164 (lv_at hl 7 rfl) ?_
            refine lv_if_eq (tgt := 184) hx hb dX7_does_166 (by decide) (fun c17 => ?_) (fun c17 => ?_)
            · have hf := pn_ifp c17 hf
              refine lv_iconst (v := (0)) hx hb dX7_does_184 (by decide) ?_
              cases hf
              rw [hQ]
              exact pn_retz hx hb hr hlocks hP hS rfl rfl dX7_does_185
            · have hf := pn_ifn c17 hf
              refine lv_iload hx hb dX7_does_169 (lv_at hl 8 rfl) ?_
              refine lv_if_eq (tgt := 184) hx hb dX7_does_171 (by decide) (fun c18 => ?_) (fun c18 => ?_)
              · have hf := pn_ifp c18 hf
                refine lv_iconst (v := (0)) hx hb dX7_does_184 (by decide) ?_
                cases hf
                rw [hQ]
                exact pn_retz hx hb hr hlocks hP hS rfl rfl dX7_does_185
              · have hf := pn_ifn c18 hf
                refine lv_iload hx hb dX7_does_174 (lv_at hl 5 rfl) ?_
                refine lv_iconst (v := (2)) hx hb dX7_does_176 (by decide) ?_
                refine lv_icmp_ge (tgt := 184) hx hb dX7_does_177 (by decide) (fun c19 => ?_) (fun c19 => ?_)
                · have hf := pn_ifp c19 hf
                  refine lv_iconst (v := (0)) hx hb dX7_does_184 (by decide) ?_
                  cases hf
                  rw [hQ]
                  exact pn_retz hx hb hr hlocks hP hS rfl rfl dX7_does_185
                · have hf := pn_ifn c19 hf
                  refine lv_iconst (v := (1)) hx hb dX7_does_180 (by decide) ?_
                  refine lv_goto (tgt := 185) hx hb dX7_does_181 (by decide) ?_
                  cases hf
                  rw [hQ]
                  exact pn_retz hx hb hr hlocks hP hS rfl rfl dX7_does_185
    · have hf := pn_ifn c3 hf
      by_cases c20 : z2 = 2
      · have hf := pn_ifp c20 hf
        refine lv_tableIn (tgt := 186) hx hb dX7_does_96 (by rw [c20]; decide) (by rw [c20]; decide) (by rw [c20]; rfl) (by decide) ?_
        refine lv_iload hx hb dX7_does_186 (lv_at hl 7 rfl) ?_
        refine lv_if_eq (tgt := 211) hx hb dX7_does_188 (by decide) (fun c21 => ?_) (fun c21 => ?_)
        · have hf := pn_ifp c21 hf
          refine lv_iload hx hb dX7_does_211 (lv_at hl 7 rfl) ?_
          refine lv_if_eq (tgt := 230) hx hb dX7_does_213 (by decide) (fun c22 => ?_) (fun c22 => ?_)
          · have hf := pn_ifp c22 hf
            refine lv_iconst (v := (0)) hx hb dX7_does_230 (by decide) ?_
            cases hf
            rw [hQ]
            exact pn_retz hx hb hr hlocks hP hS rfl rfl dX7_does_231
          · have hf := pn_ifn c22 hf
            refine lv_iload_n hx hb dX7_does_216 rfl (lv_at hl 4 rfl) ?_
            refine lv_iconst (v := (2)) hx hb dX7_does_217 (by decide) ?_
            refine lv_icmp_ge (tgt := 230) hx hb dX7_does_218 (by decide) (fun c23 => ?_) (fun c23 => ?_)
            · have hf := pn_ifp c23 hf
              refine lv_iconst (v := (0)) hx hb dX7_does_230 (by decide) ?_
              cases hf
              rw [hQ]
              exact pn_retz hx hb hr hlocks hP hS rfl rfl dX7_does_231
            · have hf := pn_ifn c23 hf
              refine lv_iload hx hb dX7_does_221 (lv_at hl 5 rfl) ?_
              refine lv_if_ne (tgt := 230) hx hb dX7_does_223 (by decide) (fun c24 => ?_) (fun c24 => ?_)
              · have hf := pn_ifp c24 hf
                refine lv_iconst (v := (0)) hx hb dX7_does_230 (by decide) ?_
                cases hf
                rw [hQ]
                exact pn_retz hx hb hr hlocks hP hS rfl rfl dX7_does_231
              · have hf := pn_ifq c24 hf
                refine lv_iconst (v := (1)) hx hb dX7_does_226 (by decide) ?_
                refine lv_goto (tgt := 231) hx hb dX7_does_227 (by decide) ?_
                cases hf
                rw [hQ]
                exact pn_retz hx hb hr hlocks hP hS rfl rfl dX7_does_231
        · have hf := pn_ifn c21 hf
          refine lv_iload_n hx hb dX7_does_191 rfl (lv_at hl 4 rfl) ?_
          refine lv_iconst (v := (2)) hx hb dX7_does_192 (by decide) ?_
          refine lv_icmp_ge (tgt := 211) hx hb dX7_does_193 (by decide) (fun c25 => ?_) (fun c25 => ?_)
          · have hf := pn_ifp c25 hf
            refine lv_iload hx hb dX7_does_211 (lv_at hl 7 rfl) ?_
            refine lv_if_eq (tgt := 230) hx hb dX7_does_213 (by decide) (fun c26 => ?_) (fun c26 => ?_)
            · have hf := pn_ifp c26 hf
              refine lv_iconst (v := (0)) hx hb dX7_does_230 (by decide) ?_
              cases hf
              rw [hQ]
              exact pn_retz hx hb hr hlocks hP hS rfl rfl dX7_does_231
            · have hf := pn_ifn c26 hf
              refine lv_iload_n hx hb dX7_does_216 rfl (lv_at hl 4 rfl) ?_
              refine lv_iconst (v := (2)) hx hb dX7_does_217 (by decide) ?_
              refine lv_icmp_ge (tgt := 230) hx hb dX7_does_218 (by decide) (fun c27 => ?_) (fun c27 => ?_)
              · have hf := pn_ifp c27 hf
                refine lv_iconst (v := (0)) hx hb dX7_does_230 (by decide) ?_
                cases hf
                rw [hQ]
                exact pn_retz hx hb hr hlocks hP hS rfl rfl dX7_does_231
              · have hf := pn_ifn c27 hf
                refine lv_iload hx hb dX7_does_221 (lv_at hl 5 rfl) ?_
                refine lv_if_ne (tgt := 230) hx hb dX7_does_223 (by decide) (fun c28 => ?_) (fun c28 => ?_)
                · have hf := pn_ifp c28 hf
                  refine lv_iconst (v := (0)) hx hb dX7_does_230 (by decide) ?_
                  cases hf
                  rw [hQ]
                  exact pn_retz hx hb hr hlocks hP hS rfl rfl dX7_does_231
                · have hf := pn_ifq c28 hf
                  refine lv_iconst (v := (1)) hx hb dX7_does_226 (by decide) ?_
                  refine lv_goto (tgt := 231) hx hb dX7_does_227 (by decide) ?_
                  cases hf
                  rw [hQ]
                  exact pn_retz hx hb hr hlocks hP hS rfl rfl dX7_does_231
          · have hf := pn_ifn c25 hf
            refine lv_iload hx hb dX7_does_196 (lv_at hl 5 rfl) ?_
            refine lv_if_ne (tgt := 211) hx hb dX7_does_198 (by decide) (fun c29 => ?_) (fun c29 => ?_)
            · have hf := pn_ifp c29 hf
              refine lv_iload hx hb dX7_does_211 (lv_at hl 7 rfl) ?_
              refine lv_if_eq (tgt := 230) hx hb dX7_does_213 (by decide) (fun c30 => ?_) (fun c30 => ?_)
              · have hf := pn_ifp c30 hf
                refine lv_iconst (v := (0)) hx hb dX7_does_230 (by decide) ?_
                cases hf
                rw [hQ]
                exact pn_retz hx hb hr hlocks hP hS rfl rfl dX7_does_231
              · have hf := pn_ifn c30 hf
                refine lv_iload_n hx hb dX7_does_216 rfl (lv_at hl 4 rfl) ?_
                refine lv_iconst (v := (2)) hx hb dX7_does_217 (by decide) ?_
                refine lv_icmp_ge (tgt := 230) hx hb dX7_does_218 (by decide) (fun c31 => ?_) (fun c31 => ?_)
                · have hf := pn_ifp c31 hf
                  refine lv_iconst (v := (0)) hx hb dX7_does_230 (by decide) ?_
                  cases hf
                  rw [hQ]
                  exact pn_retz hx hb hr hlocks hP hS rfl rfl dX7_does_231
                · have hf := pn_ifn c31 hf
                  refine lv_iload hx hb dX7_does_221 (lv_at hl 5 rfl) ?_
                  refine lv_if_ne (tgt := 230) hx hb dX7_does_223 (by decide) (fun c32 => ?_) (fun c32 => ?_)
                  · have hf := pn_ifp c32 hf
                    refine lv_iconst (v := (0)) hx hb dX7_does_230 (by decide) ?_
                    cases hf
                    rw [hQ]
                    exact pn_retz hx hb hr hlocks hP hS rfl rfl dX7_does_231
                  · have hf := pn_ifq c32 hf
                    refine lv_iconst (v := (1)) hx hb dX7_does_226 (by decide) ?_
                    refine lv_goto (tgt := 231) hx hb dX7_does_227 (by decide) ?_
                    cases hf
                    rw [hQ]
                    exact pn_retz hx hb hr hlocks hP hS rfl rfl dX7_does_231
            · have hf := pn_ifq c29 hf
              refine lv_aload_n hx hb dX7_does_201 rfl (lv_at hl 1 rfl) ?_
              refine lv_aload_n hx hb dX7_does_202 rfl (lv_at hl 1 rfl) ?_
              refine va_get (D := D) (ci := 6) (v := .ref a_t_trial) (C := RX7) (T := TX7) (N := 28) hx hb hts hinX7 hown hK.1 hP 0 rfl rfl 6 (by decide) fl_19 (fun _ h9 => h9) rfl dX7_does_203 ?_
              refine lv_iload_n hx hb dX7_does_206 rfl (lv_at hl 3 rfl) ?_
              refine lv_iload_n hx hb dX7_does_207 rfl (lv_at hl 4 rfl) ?_
              obtain ⟨r_t_renamed_u33, r_t_trial_u33, hu33, hf⟩ := pn_bd2_at hf
              refine pn_callv [0, 6, 7] (va_runV (As := [.ref a_t_trial, .int x2, .int x3]) (rest := []) ⟨hx, hb, hml, hown, hts⟩ (c_X7_cutOn l D cI cJ cZ a_t a_t_text a_t_readPage a_t_page a_t_trial a_t_work a_t_book a_t_kept a_t_isKept a_t_seenWhat a_t_seenV a_t_seenIs a_t_label a_t_finds a_t_reason a_t_caseFirst a_t_brief a_t_printed a_t_renamed a_t_worth a_t_trial H.size v_t_thrown v_t_textSize v_t_place v_t_doings v_t_seen v_t_seed v_t_cases_u1 v_t_printedSize v_t_lastReason_u1 N r_t_renamed r_t_trial x2 x3 r_t_renamed_u33 r_t_trial_u33 hu33) (cwV 3 hts gX7_does_X7_cutOn rfl rfl rfl hdX7_cutOn ⟨Nat.le_of_ble_eq_true rfl, Nat.le_of_ble_eq_true rfl⟩) (pn_preV [0, 6, 7] hP (hD.addr rfl) hK rfl rfl (q0 := 0) (ci := 6) rfl rfl) rfl rfl hl.1 rfl (lv_room (Nat.le_of_ble_eq_true rfl)) dX7_does_208 ⟨Nat.zero_le _, Nat.zero_le _⟩) hP (hD.addr rfl) hS hA rfl rfl rfl (fun H locs (hP : va_P D vwCl [(a_t, .inr (6, [.int v_t_thrown, .ref a_t_text, .int v_t_textSize, .int v_t_place, .ref a_t_readPage, .ref a_t_page, .ref a_t_trial, .ref a_t_work, .ref a_t_book, .int v_t_doings, .ref a_t_kept, .ref a_t_isKept, .int v_t_seen, .ref a_t_seenWhat, .ref a_t_seenV, .ref a_t_seenIs, .long v_t_seed, .ref a_t_label, .ref a_t_finds, .ref a_t_reason, .ref a_t_caseFirst, .int v_t_cases_u1, .ref a_t_brief, .ref a_t_printed, .int v_t_printedSize, .ref a_t_renamed, .ref a_t_worth, .int v_t_lastReason_u1])), (a_t_brief, .inl (cI, 8, .inl r_t_brief)), (a_t_caseFirst, .inl (cI, 32, .inl r_t_caseFirst_u1)), (a_t_finds, .inl (cI, 32, .inl r_t_finds_u1)), (a_t_label, .inl (cI, 32, .inl r_t_label_u1)), (a_t_reason, .inl (cI, 32, .inl r_t_reason_u1)), (a_t_renamed, .inl (cI, 8, .inl r_t_renamed_u33)), (a_t_trial, .inl (cI, 265, .inl r_t_trial_u33)), (a_t_work, .inl (cI, 265, .inl r_t_work))] H) _ hS => ?_)
              refine lv_iload hx hb dX7_does_211 (lv_at hl 7 rfl) ?_
              refine lv_if_eq (tgt := 230) hx hb dX7_does_213 (by decide) (fun c34 => ?_) (fun c34 => ?_)
              · have hf := pn_ifp c34 hf
                refine lv_iconst (v := (0)) hx hb dX7_does_230 (by decide) ?_
                cases hf
                rw [hQ]
                exact pn_retz hx hb hr hlocks hP hS rfl rfl dX7_does_231
              · have hf := pn_ifn c34 hf
                refine lv_iload_n hx hb dX7_does_216 rfl (lv_at hl 4 rfl) ?_
                refine lv_iconst (v := (2)) hx hb dX7_does_217 (by decide) ?_
                refine lv_icmp_ge (tgt := 230) hx hb dX7_does_218 (by decide) (fun c35 => ?_) (fun c35 => ?_)
                · have hf := pn_ifp c35 hf
                  refine lv_iconst (v := (0)) hx hb dX7_does_230 (by decide) ?_
                  cases hf
                  rw [hQ]
                  exact pn_retz hx hb hr hlocks hP hS rfl rfl dX7_does_231
                · have hf := pn_ifn c35 hf
                  refine lv_iload hx hb dX7_does_221 (lv_at hl 5 rfl) ?_
                  refine lv_if_ne (tgt := 230) hx hb dX7_does_223 (by decide) (fun c36 => ?_) (fun c36 => ?_)
                  · have hf := pn_ifp c36 hf
                    refine lv_iconst (v := (0)) hx hb dX7_does_230 (by decide) ?_
                    cases hf
                    rw [hQ]
                    exact pn_retz hx hb hr hlocks hP hS rfl rfl dX7_does_231
                  · have hf := pn_ifq c36 hf
                    refine lv_iconst (v := (1)) hx hb dX7_does_226 (by decide) ?_
                    refine lv_goto (tgt := 231) hx hb dX7_does_227 (by decide) ?_
                    cases hf
                    rw [hQ]
                    exact pn_retz hx hb hr hlocks hP hS rfl rfl dX7_does_231
      · have hf := pn_ifn c20 hf
        by_cases c37 : z2 = 3
        · have hf := pn_ifp c37 hf
          refine lv_tableIn (tgt := 232) hx hb dX7_does_96 (by rw [c37]; decide) (by rw [c37]; decide) (by rw [c37]; rfl) (by decide) ?_
          refine lv_iload hx hb dX7_does_232 (lv_at hl 6 rfl) ?_
          refine lv_if_eq (tgt := 265) hx hb dX7_does_234 (by decide) (fun c38 => ?_) (fun c38 => ?_)
          · have hf := pn_ifp c38 hf
            refine lv_iconst (v := (0)) hx hb dX7_does_265 (by decide) ?_
            cases hf
            rw [hQ]
            exact pn_retz hx hb hr hlocks hP hS rfl rfl dX7_does_266
          · have hf := pn_ifn c38 hf
            refine lv_aload_n hx hb dX7_does_237 rfl (lv_at hl 1 rfl) ?_
            refine va_get (D := D) (ci := 6) (v := .ref a_t_finds) (C := RX7) (T := TX7) (N := 28) hx hb hts hinX7 hown hK.1 hP 0 rfl rfl 18 (by decide) fl_47 (fun _ h9 => h9) rfl dX7_does_238 ?_
            refine lv_iload hx hb dX7_does_241 (lv_at hl 0 rfl) ?_
            obtain ⟨hi40, w39, ew39, hf⟩ := pn_rd_at hf
            refine pn_ldI hx hb hK.1 hP 3 0 rfl rfl hi40 ew39 dX7_does_243 ?_
            refine lv_iload hx hb dX7_does_244 (lv_at hl 5 rfl) ?_
            refine lv_bipush (v := (9)) hx hb dX7_does_246 (by decide) ?_
            refine lv_icmp_ne (tgt := 256) hx hb dX7_does_248 (by decide) (fun c41 => ?_) (fun c41 => ?_)
            · have hf := pn_ifp c41 hf
              refine lv_iload hx hb dX7_does_256 (lv_at hl 5 rfl) ?_
              refine lv_icmp_ne (tgt := 265) hx hb dX7_does_258 (by decide) (fun c42 => ?_) (fun c42 => ?_)
              · have hf := pn_ifp c42 hf
                refine lv_iconst (v := (0)) hx hb dX7_does_265 (by decide) ?_
                cases hf
                rw [hQ]
                exact pn_retz hx hb hr hlocks hP hS rfl rfl dX7_does_266
              · have hf := pn_ifq c42 hf
                refine lv_iconst (v := (1)) hx hb dX7_does_261 (by decide) ?_
                refine lv_goto (tgt := 266) hx hb dX7_does_262 (by decide) ?_
                cases hf
                rw [hQ]
                exact pn_retz hx hb hr hlocks hP hS rfl rfl dX7_does_266
            · have hf := pn_ifq c41 hf
              refine lv_bipush (v := (-9)) hx hb dX7_does_251 (by decide) ?_
              refine lv_goto (tgt := 258) hx hb dX7_does_253 (by decide) ?_
              refine lv_icmp_ne (tgt := 265) hx hb dX7_does_258 (by decide) (fun c43 => ?_) (fun c43 => ?_)
              · have hf := pn_ifp c43 hf
                refine lv_iconst (v := (0)) hx hb dX7_does_265 (by decide) ?_
                cases hf
                rw [hQ]
                exact pn_retz hx hb hr hlocks hP hS rfl rfl dX7_does_266
              · have hf := pn_ifq c43 hf
                refine lv_iconst (v := (1)) hx hb dX7_does_261 (by decide) ?_
                refine lv_goto (tgt := 266) hx hb dX7_does_262 (by decide) ?_
                cases hf
                rw [hQ]
                exact pn_retz hx hb hr hlocks hP hS rfl rfl dX7_does_266
        · have hf := pn_ifn c37 hf
          by_cases c44 : z2 = 4
          · have hf := pn_ifp c44 hf
            refine lv_tableIn (tgt := 267) hx hb dX7_does_96 (by rw [c44]; decide) (by rw [c44]; decide) (by rw [c44]; rfl) (by decide) ?_
            refine lv_iload hx hb dX7_does_267 (lv_at hl 6 rfl) ?_
            refine lv_if_eq (tgt := 288) hx hb dX7_does_269 (by decide) (fun c45 => ?_) (fun c45 => ?_)
            · have hf := pn_ifp c45 hf
              refine lv_iconst (v := (0)) hx hb dX7_does_288 (by decide) ?_
              cases hf
              rw [hQ]
              exact pn_retz hx hb hr hlocks hP hS rfl rfl dX7_does_289
            · have hf := pn_ifn c45 hf
              refine lv_aload_n hx hb dX7_does_272 rfl (lv_at hl 1 rfl) ?_
              refine va_get (D := D) (ci := 6) (v := .ref a_t_reason) (C := RX7) (T := TX7) (N := 28) hx hb hts hinX7 hown hK.1 hP 0 rfl rfl 19 (by decide) fl_50 (fun _ h9 => h9) rfl dX7_does_273 ?_
              refine lv_iload hx hb dX7_does_276 (lv_at hl 0 rfl) ?_
              obtain ⟨hi47, w46, ew46, hf⟩ := pn_rd_at hf
              refine pn_ldI hx hb hK.1 hP 5 0 rfl rfl hi47 ew46 dX7_does_278 ?_
              refine lv_iload hx hb dX7_does_279 (lv_at hl 5 rfl) ?_
              refine lv_icmp_ne (tgt := 288) hx hb dX7_does_281 (by decide) (fun c48 => ?_) (fun c48 => ?_)
              · have hf := pn_ifp c48 hf
                refine lv_iconst (v := (0)) hx hb dX7_does_288 (by decide) ?_
                cases hf
                rw [hQ]
                exact pn_retz hx hb hr hlocks hP hS rfl rfl dX7_does_289
              · have hf := pn_ifq c48 hf
                refine lv_iconst (v := (1)) hx hb dX7_does_284 (by decide) ?_
                refine lv_goto (tgt := 289) hx hb dX7_does_285 (by decide) ?_
                cases hf
                rw [hQ]
                exact pn_retz hx hb hr hlocks hP hS rfl rfl dX7_does_289
          · have hf := pn_ifn c44 hf
            by_cases c49 : z2 = 5
            · have hf := pn_ifp c49 hf
              refine lv_tableIn (tgt := 290) hx hb dX7_does_96 (by rw [c49]; decide) (by rw [c49]; decide) (by rw [c49]; rfl) (by decide) ?_
              refine lv_iload_n hx hb dX7_does_290 rfl (lv_at hl 3 rfl) ?_
              refine lv_if_ne (tgt := 312) hx hb dX7_does_291 (by decide) (fun c50 => ?_) (fun c50 => ?_)
              · have hf := pn_ifp c50 hf
                refine lv_iconst (v := (0)) hx hb dX7_does_312 (by decide) ?_
                cases hf
                rw [hQ]
                exact pn_retz hx hb hr hlocks hP hS rfl rfl dX7_does_313
              · have hf := pn_ifq c50 hf
                refine lv_aload_n hx hb dX7_does_294 rfl (lv_at hl 1 rfl) ?_
                obtain ⟨ru51, hu51, hf⟩ := pn_bd1_at hf
                refine pn_calli [0, 3] (va_runV (As := []) (rest := []) ⟨hx, hb, hml, hown, hts⟩ (c_X7_manyFound l D cI cJ cZ a_t a_t_text a_t_readPage a_t_page a_t_trial a_t_work a_t_book a_t_kept a_t_isKept a_t_seenWhat a_t_seenV a_t_seenIs a_t_label a_t_finds a_t_reason a_t_caseFirst a_t_brief a_t_printed a_t_renamed a_t_worth H.size v_t_thrown v_t_textSize v_t_place v_t_doings v_t_seen v_t_seed v_t_cases_u1 v_t_printedSize v_t_lastReason_u1 N r_t_finds_u1 ru51 hu51) (cwV 0 hts gX7_does_X7_manyFound rfl rfl rfl hdX7_manyFound ⟨Nat.le_of_ble_eq_true rfl, Nat.le_of_ble_eq_true rfl⟩) (pn_preV [0, 3] hP (hD.addr rfl) hK rfl rfl (q0 := 0) (ci := 6) rfl rfl) rfl rfl hl.1 rfl (lv_room (Nat.le_of_ble_eq_true rfl)) dX7_does_295 ⟨Nat.zero_le _, Nat.zero_le _⟩) hP (hD.addr rfl) hS hA rfl rfl rfl (fun H locs (hP : va_P D vwCl [(a_t, .inr (6, [.int v_t_thrown, .ref a_t_text, .int v_t_textSize, .int v_t_place, .ref a_t_readPage, .ref a_t_page, .ref a_t_trial, .ref a_t_work, .ref a_t_book, .int v_t_doings, .ref a_t_kept, .ref a_t_isKept, .int v_t_seen, .ref a_t_seenWhat, .ref a_t_seenV, .ref a_t_seenIs, .long v_t_seed, .ref a_t_label, .ref a_t_finds, .ref a_t_reason, .ref a_t_caseFirst, .int v_t_cases_u1, .ref a_t_brief, .ref a_t_printed, .int v_t_printedSize, .ref a_t_renamed, .ref a_t_worth, .int v_t_lastReason_u1])), (a_t_brief, .inl (cI, 8, .inl r_t_brief)), (a_t_caseFirst, .inl (cI, 32, .inl r_t_caseFirst_u1)), (a_t_finds, .inl (cI, 32, .inl r_t_finds_u1)), (a_t_label, .inl (cI, 32, .inl r_t_label_u1)), (a_t_reason, .inl (cI, 32, .inl r_t_reason_u1)), (a_t_renamed, .inl (cI, 8, .inl r_t_renamed)), (a_t_trial, .inl (cI, 265, .inl r_t_trial)), (a_t_work, .inl (cI, 265, .inl r_t_work))] H) _ hS => ?_)
                refine lv_bipush (v := (10)) hx hb dX7_does_298 (by decide) ?_
                refine lv_iload_n hx hb dX7_does_300 rfl (lv_at hl 4 rfl) ?_
                refine lv_imul hx hb dX7_does_301 ?_
                refine lv_iload hx hb dX7_does_302 (lv_at hl 5 rfl) ?_
                refine lv_iadd hx hb dX7_does_304 ?_
                refine lv_icmp_lt (tgt := 312) hx hb dX7_does_305 (by decide) (fun c52 => ?_) (fun c52 => ?_)
                · have hf := pn_ifp c52 hf
                  refine lv_iconst (v := (0)) hx hb dX7_does_312 (by decide) ?_
                  cases hf
                  rw [hQ]
                  exact pn_retz hx hb hr hlocks hP hS rfl rfl dX7_does_313
                · have hf := pn_ifn c52 hf
                  refine lv_iconst (v := (1)) hx hb dX7_does_308 (by decide) ?_
                  refine lv_goto (tgt := 313) hx hb dX7_does_309 (by decide) ?_
                  cases hf
                  rw [hQ]
                  exact pn_retz hx hb hr hlocks hP hS rfl rfl dX7_does_313
            · have hf := pn_ifn c49 hf
              by_cases c53 : z2 = 6
              · have hf := pn_ifp c53 hf
                refine lv_tableIn (tgt := 314) hx hb dX7_does_96 (by rw [c53]; decide) (by rw [c53]; decide) (by rw [c53]; rfl) (by decide) ?_
                refine lv_iload hx hb dX7_does_314 (lv_at hl 6 rfl) ?_
                refine lv_if_eq (tgt := 336) hx hb dX7_does_316 (by decide) (fun c54 => ?_) (fun c54 => ?_)
                · have hf := pn_ifp c54 hf
                  refine lv_iconst (v := (0)) hx hb dX7_does_336 (by decide) ?_
                  cases hf
                  rw [hQ]
                  exact pn_retz hx hb hr hlocks hP hS rfl rfl dX7_does_337
                · have hf := pn_ifn c54 hf
                  refine lv_iload hx hb dX7_does_319 (lv_at hl 5 rfl) ?_
                  refine lv_if_ne (tgt := 336) hx hb dX7_does_321 (by decide) (fun c55 => ?_) (fun c55 => ?_)
                  · have hf := pn_ifp c55 hf
                    refine lv_iconst (v := (0)) hx hb dX7_does_336 (by decide) ?_
                    cases hf
                    rw [hQ]
                    exact pn_retz hx hb hr hlocks hP hS rfl rfl dX7_does_337
                  · have hf := pn_ifq c55 hf
                    refine lv_aload_n hx hb dX7_does_324 rfl (lv_at hl 1 rfl) ?_
                    refine va_get (D := D) (ci := 6) (v := .ref a_t_finds) (C := RX7) (T := TX7) (N := 28) hx hb hts hinX7 hown hK.1 hP 0 rfl rfl 18 (by decide) fl_47 (fun _ h9 => h9) rfl dX7_does_325 ?_
                    refine lv_iload hx hb dX7_does_328 (lv_at hl 0 rfl) ?_
                    obtain ⟨hi57, w56, ew56, hf⟩ := pn_rd_at hf
                    refine pn_ldI hx hb hK.1 hP 3 0 rfl rfl hi57 ew56 dX7_does_330 ?_
                    refine lv_bipush (v := (-9)) hx hb dX7_does_331 (by decide) ?_
                    refine lv_icmp_ne (tgt := 338) hx hb dX7_does_333 (by decide) (fun c58 => ?_) (fun c58 => ?_)
                    · have hf := pn_ifp c58 hf
                      refine lv_aload_n hx hb dX7_does_338 rfl (lv_at hl 1 rfl) ?_
                      refine lv_aload_n hx hb dX7_does_339 rfl (lv_at hl 1 rfl) ?_
                      refine va_get (D := D) (ci := 6) (v := .ref a_t_trial) (C := RX7) (T := TX7) (N := 28) hx hb hts hinX7 hown hK.1 hP 0 rfl rfl 6 (by decide) fl_19 (fun _ h9 => h9) rfl dX7_does_340 ?_
                      refine lv_iload hx hb dX7_does_343 (lv_at hl 0 rfl) ?_
                      obtain ⟨v_t_lastReason_u59, r_t_brief_u59, hu59, hf⟩ := pn_bd2_at hf
                      refine pn_callv [0, 1, 2, 3, 7] (va_runV (As := [.ref a_t_trial, .int s0]) (rest := []) ⟨hx, hb, hml, hown, hts⟩ (c_X7_shorten l D cI cJ cZ a_t a_t_text a_t_readPage a_t_page a_t_trial a_t_work a_t_book a_t_kept a_t_isKept a_t_seenWhat a_t_seenV a_t_seenIs a_t_label a_t_finds a_t_reason a_t_caseFirst a_t_brief a_t_printed a_t_renamed a_t_worth a_t_trial H.size v_t_thrown v_t_textSize v_t_place v_t_doings v_t_seen v_t_seed v_t_printedSize N v_t_cases_u1 v_t_lastReason_u1 r_t_brief r_t_caseFirst_u1 r_t_finds_u1 r_t_trial s0 v_t_lastReason_u59 r_t_brief_u59 hu59) (cwV 2 hts gX7_does_X7_shorten rfl rfl rfl hdX7_shorten ⟨Nat.le_of_ble_eq_true rfl, Nat.le_of_ble_eq_true rfl⟩) (pn_preV [0, 1, 2, 3, 7] hP (hD.addr rfl) hK rfl rfl (q0 := 0) (ci := 6) rfl rfl) rfl rfl hl.1 rfl (lv_room (Nat.le_of_ble_eq_true rfl)) dX7_does_345 ⟨Nat.zero_le _, Nat.zero_le _⟩) hP (hD.addr rfl) hS hA rfl rfl rfl (fun H locs (hP : va_P D vwCl [(a_t, .inr (6, [.int v_t_thrown, .ref a_t_text, .int v_t_textSize, .int v_t_place, .ref a_t_readPage, .ref a_t_page, .ref a_t_trial, .ref a_t_work, .ref a_t_book, .int v_t_doings, .ref a_t_kept, .ref a_t_isKept, .int v_t_seen, .ref a_t_seenWhat, .ref a_t_seenV, .ref a_t_seenIs, .long v_t_seed, .ref a_t_label, .ref a_t_finds, .ref a_t_reason, .ref a_t_caseFirst, .int v_t_cases_u1, .ref a_t_brief, .ref a_t_printed, .int v_t_printedSize, .ref a_t_renamed, .ref a_t_worth, .int v_t_lastReason_u59])), (a_t_brief, .inl (cI, 8, .inl r_t_brief_u59)), (a_t_caseFirst, .inl (cI, 32, .inl r_t_caseFirst_u1)), (a_t_finds, .inl (cI, 32, .inl r_t_finds_u1)), (a_t_label, .inl (cI, 32, .inl r_t_label_u1)), (a_t_reason, .inl (cI, 32, .inl r_t_reason_u1)), (a_t_renamed, .inl (cI, 8, .inl r_t_renamed)), (a_t_trial, .inl (cI, 265, .inl r_t_trial)), (a_t_work, .inl (cI, 265, .inl r_t_work))] H) _ hS => ?_)
                      refine lv_aload_n hx hb dX7_does_348 rfl (lv_at hl 1 rfl) ?_
                      refine lv_aload_n hx hb dX7_does_349 rfl (lv_at hl 1 rfl) ?_
                      refine va_get (D := D) (ci := 6) (v := .ref a_t_trial) (C := RX7) (T := TX7) (N := 28) hx hb hts hinX7 hown hK.1 hP 0 rfl rfl 6 (by decide) fl_19 (fun _ h9 => h9) rfl dX7_does_350 ?_
                      refine lv_iload hx hb dX7_does_353 (lv_at hl 0 rfl) ?_
                      obtain ⟨r_t_trial_u60, hu60, hf⟩ := pn_bd1_at hf
                      refine pn_callv [0, 1, 7] (va_runV (As := [.ref a_t_trial, .int s0]) (rest := []) ⟨hx, hb, hml, hown, hts⟩ (c_X7_putBrief l D cI cJ cZ a_t a_t_text a_t_readPage a_t_page a_t_trial a_t_work a_t_book a_t_kept a_t_isKept a_t_seenWhat a_t_seenV a_t_seenIs a_t_label a_t_finds a_t_reason a_t_caseFirst a_t_brief a_t_printed a_t_renamed a_t_worth a_t_trial H.size v_t_thrown v_t_textSize v_t_place v_t_doings v_t_seen v_t_seed v_t_cases_u1 v_t_printedSize v_t_lastReason_u59 N r_t_brief_u59 r_t_trial s0 r_t_trial_u60 hu60) (cwV 2 hts gX7_does_X7_putBrief rfl rfl rfl hdX7_putBrief ⟨Nat.le_of_ble_eq_true rfl, Nat.le_of_ble_eq_true rfl⟩) (pn_preV [0, 1, 7] hP (hD.addr rfl) hK rfl rfl (q0 := 0) (ci := 6) rfl rfl) rfl rfl hl.1 rfl (lv_room (Nat.le_of_ble_eq_true rfl)) dX7_does_355 ⟨Nat.zero_le _, Nat.zero_le _⟩) hP (hD.addr rfl) hS hA rfl rfl rfl (fun H locs (hP : va_P D vwCl [(a_t, .inr (6, [.int v_t_thrown, .ref a_t_text, .int v_t_textSize, .int v_t_place, .ref a_t_readPage, .ref a_t_page, .ref a_t_trial, .ref a_t_work, .ref a_t_book, .int v_t_doings, .ref a_t_kept, .ref a_t_isKept, .int v_t_seen, .ref a_t_seenWhat, .ref a_t_seenV, .ref a_t_seenIs, .long v_t_seed, .ref a_t_label, .ref a_t_finds, .ref a_t_reason, .ref a_t_caseFirst, .int v_t_cases_u1, .ref a_t_brief, .ref a_t_printed, .int v_t_printedSize, .ref a_t_renamed, .ref a_t_worth, .int v_t_lastReason_u59])), (a_t_brief, .inl (cI, 8, .inl r_t_brief_u59)), (a_t_caseFirst, .inl (cI, 32, .inl r_t_caseFirst_u1)), (a_t_finds, .inl (cI, 32, .inl r_t_finds_u1)), (a_t_label, .inl (cI, 32, .inl r_t_label_u1)), (a_t_reason, .inl (cI, 32, .inl r_t_reason_u1)), (a_t_renamed, .inl (cI, 8, .inl r_t_renamed)), (a_t_trial, .inl (cI, 265, .inl r_t_trial_u60)), (a_t_work, .inl (cI, 265, .inl r_t_work))] H) _ hS => ?_)
                      refine lv_iconst (v := (1)) hx hb dX7_does_358 (by decide) ?_
                      cases hf
                      rw [hQ]
                      exact pn_retz hx hb hr hlocks hP hS rfl rfl dX7_does_359
                    · have hf := pn_ifq c58 hf
                      refine lv_iconst (v := (0)) hx hb dX7_does_336 (by decide) ?_
                      cases hf
                      rw [hQ]
                      exact pn_retz hx hb hr hlocks hP hS rfl rfl dX7_does_337
              · have hf := pn_ifn c53 hf
                refine lv_tableOut (tgt := 360) hx hb dX7_does_96 (by have := lv_neT (a := 1) c3 (by decide); have := lv_neT (a := 2) c20 (by decide); have := lv_neT (a := 3) c37 (by decide); have := lv_neT (a := 4) c44 (by decide); have := lv_neT (a := 5) c49 (by decide); have := lv_neT (a := 6) c53 (by decide); omega) (by decide) ?_
                refine lv_iconst (v := (0)) hx hb dX7_does_360 (by decide) ?_
                cases hf
                rw [hQ]
                exact pn_retz hx hb hr hlocks hP hS rfl rfl dX7_does_361
  refine lv_iload_n hx hb dX7_does_0 rfl (lv_at hl 1 rfl) ?_
  refine lv_bipush (v := (100)) hx hb dX7_does_1 (by decide) ?_
  refine lv_idiv hx hb dX7_does_3 (by decide) ?_
  refine lv_bipush (v := (10)) hx hb dX7_does_4 (by decide) ?_
  refine lv_irem hx hb dX7_does_6 (by decide) ?_
  refine lv_topi (fun z61 ez61 => ?_)
  have hf := pn_nm_at ez61 hf
  refine lv_istore_n (lv' := [(2, .int z61), (0, .ref a_t), (1, .int p1)]) hx hb dX7_does_7 rfl hl (by decide) rfl (fun ls hl => ?_)
  refine lv_iload_n hx hb dX7_does_8 rfl (lv_at hl 2 rfl) ?_
  refine lv_bipush (v := (10)) hx hb dX7_does_9 (by decide) ?_
  refine lv_idiv hx hb dX7_does_11 (by decide) ?_
  refine lv_bipush (v := (10)) hx hb dX7_does_12 (by decide) ?_
  refine lv_irem hx hb dX7_does_14 (by decide) ?_
  refine lv_topi (fun z62 ez62 => ?_)
  have hf := pn_nm_at ez62 hf
  refine lv_istore_n (lv' := [(3, .int z62), (2, .int z61), (0, .ref a_t), (1, .int p1)]) hx hb dX7_does_15 rfl hl (by decide) rfl (fun ls hl => ?_)
  refine lv_iload_n hx hb dX7_does_16 rfl (lv_at hl 3 rfl) ?_
  refine lv_bipush (v := (10)) hx hb dX7_does_17 (by decide) ?_
  refine lv_irem hx hb dX7_does_19 (by decide) ?_
  refine lv_topi (fun z63 ez63 => ?_)
  have hf := pn_nm_at ez63 hf
  refine lv_istore (lv' := [(4, .int z63), (3, .int z62), (2, .int z61), (0, .ref a_t), (1, .int p1)]) hx hb dX7_does_20 hl (by decide) rfl (fun ls hl => ?_)
  refine lv_aload_n hx hb dX7_does_22 rfl (lv_at hl 3 rfl) ?_
  refine va_get (D := D) (ci := 6) (v := .ref a_t_trial) (C := RX7) (T := TX7) (N := 28) hx hb hts hinX7 hown hK.1 hP 0 rfl rfl 6 (by decide) fl_19 (fun _ h9 => h9) rfl dX7_does_23 ?_
  refine lv_iload_n hx hb dX7_does_26 rfl (lv_at hl 2 rfl) ?_
  refine lv_iload_n hx hb dX7_does_27 rfl (lv_at hl 1 rfl) ?_
  obtain ⟨ru64, hu64, hf⟩ := pn_bd1_at hf
  refine pn_calli [7] (va_runS (As := [.ref a_t_trial, .int z61, .int z62]) (rest := []) ⟨hx, hb, hml, hown, hts⟩ (c_X7_isThere l D cI cJ cZ a_t_trial H.size r_t_trial z61 z62 ru64 hu64) (va_cwS 3 hts gX7_does_X7_isThere rfl rfl rfl hdX7_isThere ⟨Nat.le_of_ble_eq_true rfl, Nat.le_of_ble_eq_true rfl⟩) (pn_preS [7] hP (hD.addr rfl) hK rfl rfl) rfl rfl hl.1 rfl (lv_room (Nat.le_of_ble_eq_true rfl)) dX7_does_28 ⟨Nat.zero_le _, Nat.zero_le _⟩) hP (hD.addr rfl) hS hA rfl rfl rfl (fun H locs (hP : va_P D vwCl [(a_t, .inr (6, [.int v_t_thrown, .ref a_t_text, .int v_t_textSize, .int v_t_place, .ref a_t_readPage, .ref a_t_page, .ref a_t_trial, .ref a_t_work, .ref a_t_book, .int v_t_doings, .ref a_t_kept, .ref a_t_isKept, .int v_t_seen, .ref a_t_seenWhat, .ref a_t_seenV, .ref a_t_seenIs, .long v_t_seed, .ref a_t_label, .ref a_t_finds, .ref a_t_reason, .ref a_t_caseFirst, .int v_t_cases, .ref a_t_brief, .ref a_t_printed, .int v_t_printedSize, .ref a_t_renamed, .ref a_t_worth, .int v_t_lastReason])), (a_t_brief, .inl (cI, 8, .inl r_t_brief)), (a_t_caseFirst, .inl (cI, 32, .inl r_t_caseFirst)), (a_t_finds, .inl (cI, 32, .inl r_t_finds)), (a_t_label, .inl (cI, 32, .inl r_t_label)), (a_t_reason, .inl (cI, 32, .inl r_t_reason)), (a_t_renamed, .inl (cI, 8, .inl r_t_renamed)), (a_t_trial, .inl (cI, 265, .inl r_t_trial)), (a_t_work, .inl (cI, 265, .inl r_t_work))] H) _ hS => ?_)
  refine lv_istore (lv' := [(5, .int ru64), (4, .int z63), (3, .int z62), (2, .int z61), (0, .ref a_t), (1, .int p1)]) hx hb dX7_does_31 hl (by decide) rfl (fun ls hl => ?_)
  refine lv_iload_n hx hb dX7_does_33 rfl (lv_at hl 3 rfl) ?_
  refine lv_i2l hx hb dX7_does_34 rfl ?_
  refine lv_lconst (v := 0) hx hb dX7_does_35 (by decide) ?_
  refine lv_aload_n hx hb dX7_does_36 rfl (lv_at hl 4 rfl) ?_
  refine va_get (D := D) (ci := 6) (v := .ref a_t_trial) (C := RX7) (T := TX7) (N := 28) hx hb hts hinX7 hown hK.1 hP 0 rfl rfl 6 (by decide) fl_19 (fun _ h9 => h9) rfl dX7_does_37 ?_
  refine lv_iconst (v := (0)) hx hb dX7_does_40 (by decide) ?_
  obtain ⟨hi66, w65, ew65, hf⟩ := pn_rd_at hf
  refine pn_ldI hx hb hK.1 hP 7 0 rfl rfl hi66 ew65 dX7_does_41 ?_
  refine lv_iconst (v := (1)) hx hb dX7_does_42 (by decide) ?_
  refine lv_isub hx hb dX7_does_43 ?_
  refine lv_i2l hx hb dX7_does_44 rfl ?_
  obtain ⟨ru67, hu67, hf⟩ := pn_bd1_at hf
  refine pn_calli [] (va_runS (As := [.long z61.toInt64, .long (0 : Int64), .long ((w65 - (1 : Int32)).toInt64)]) (rest := []) ⟨hx, hb, hml, hown, hts⟩ (c_X7_in l D cI cJ cZ H.size z61.toInt64 (0 : Int64) ((w65 - (1 : Int32)).toInt64) ru67 hu67) (va_cwS 3 hts gX7_does_X7_in rfl rfl rfl hdX7_in ⟨Nat.le_of_ble_eq_true rfl, Nat.le_of_ble_eq_true rfl⟩) (pn_preS [] hP (hD.addr rfl) hK rfl rfl) rfl rfl hl.1 rfl (lv_room (Nat.le_of_ble_eq_true rfl)) dX7_does_45 ⟨Nat.zero_le _, Nat.zero_le _⟩) hP (hD.addr rfl) hS hA rfl rfl rfl (fun H locs (hP : va_P D vwCl [(a_t, .inr (6, [.int v_t_thrown, .ref a_t_text, .int v_t_textSize, .int v_t_place, .ref a_t_readPage, .ref a_t_page, .ref a_t_trial, .ref a_t_work, .ref a_t_book, .int v_t_doings, .ref a_t_kept, .ref a_t_isKept, .int v_t_seen, .ref a_t_seenWhat, .ref a_t_seenV, .ref a_t_seenIs, .long v_t_seed, .ref a_t_label, .ref a_t_finds, .ref a_t_reason, .ref a_t_caseFirst, .int v_t_cases, .ref a_t_brief, .ref a_t_printed, .int v_t_printedSize, .ref a_t_renamed, .ref a_t_worth, .int v_t_lastReason])), (a_t_brief, .inl (cI, 8, .inl r_t_brief)), (a_t_caseFirst, .inl (cI, 32, .inl r_t_caseFirst)), (a_t_finds, .inl (cI, 32, .inl r_t_finds)), (a_t_label, .inl (cI, 32, .inl r_t_label)), (a_t_reason, .inl (cI, 32, .inl r_t_reason)), (a_t_renamed, .inl (cI, 8, .inl r_t_renamed)), (a_t_trial, .inl (cI, 265, .inl r_t_trial)), (a_t_work, .inl (cI, 265, .inl r_t_work))] H) _ hS => ?_)
  refine lv_istore (lv' := [(6, .int ru67), (5, .int ru64), (4, .int z63), (3, .int z62), (2, .int z61), (0, .ref a_t), (1, .int p1)]) hx hb dX7_does_48 hl (by decide) rfl (fun ls hl => ?_)
  refine lv_iload_n hx hb dX7_does_50 rfl (lv_at hl 3 rfl) ?_
  refine lv_i2l hx hb dX7_does_51 rfl ?_
  refine lv_lconst (v := 0) hx hb dX7_does_52 (by decide) ?_
  refine lv_aload_n hx hb dX7_does_53 rfl (lv_at hl 5 rfl) ?_
  refine va_get (D := D) (ci := 6) (v := .ref a_t_trial) (C := RX7) (T := TX7) (N := 28) hx hb hts hinX7 hown hK.1 hP 0 rfl rfl 6 (by decide) fl_19 (fun _ h9 => h9) rfl dX7_does_54 ?_
  refine lv_iconst (v := (0)) hx hb dX7_does_57 (by decide) ?_
  obtain ⟨hi69, w68, ew68, hf⟩ := pn_rd_at hf
  refine pn_ldI hx hb hK.1 hP 7 0 rfl rfl hi69 ew68 dX7_does_58 ?_
  refine lv_iconst (v := (1)) hx hb dX7_does_59 (by decide) ?_
  refine lv_isub hx hb dX7_does_60 ?_
  refine lv_i2l hx hb dX7_does_61 rfl ?_
  obtain ⟨ru70, hu70, hf⟩ := pn_bd1_at hf
  refine pn_calli [] (va_runS (As := [.long z62.toInt64, .long (0 : Int64), .long ((w68 - (1 : Int32)).toInt64)]) (rest := []) ⟨hx, hb, hml, hown, hts⟩ (c_X7_in l D cI cJ cZ H.size z62.toInt64 (0 : Int64) ((w68 - (1 : Int32)).toInt64) ru70 hu70) (va_cwS 3 hts gX7_does_X7_in rfl rfl rfl hdX7_in ⟨Nat.le_of_ble_eq_true rfl, Nat.le_of_ble_eq_true rfl⟩) (pn_preS [] hP (hD.addr rfl) hK rfl rfl) rfl rfl hl.1 rfl (lv_room (Nat.le_of_ble_eq_true rfl)) dX7_does_62 ⟨Nat.zero_le _, Nat.zero_le _⟩) hP (hD.addr rfl) hS hA rfl rfl rfl (fun H locs (hP : va_P D vwCl [(a_t, .inr (6, [.int v_t_thrown, .ref a_t_text, .int v_t_textSize, .int v_t_place, .ref a_t_readPage, .ref a_t_page, .ref a_t_trial, .ref a_t_work, .ref a_t_book, .int v_t_doings, .ref a_t_kept, .ref a_t_isKept, .int v_t_seen, .ref a_t_seenWhat, .ref a_t_seenV, .ref a_t_seenIs, .long v_t_seed, .ref a_t_label, .ref a_t_finds, .ref a_t_reason, .ref a_t_caseFirst, .int v_t_cases, .ref a_t_brief, .ref a_t_printed, .int v_t_printedSize, .ref a_t_renamed, .ref a_t_worth, .int v_t_lastReason])), (a_t_brief, .inl (cI, 8, .inl r_t_brief)), (a_t_caseFirst, .inl (cI, 32, .inl r_t_caseFirst)), (a_t_finds, .inl (cI, 32, .inl r_t_finds)), (a_t_label, .inl (cI, 32, .inl r_t_label)), (a_t_reason, .inl (cI, 32, .inl r_t_reason)), (a_t_renamed, .inl (cI, 8, .inl r_t_renamed)), (a_t_trial, .inl (cI, 265, .inl r_t_trial)), (a_t_work, .inl (cI, 265, .inl r_t_work))] H) _ hS => ?_)
  refine lv_istore (lv' := [(7, .int ru70), (6, .int ru67), (5, .int ru64), (4, .int z63), (3, .int z62), (2, .int z61), (0, .ref a_t), (1, .int p1)]) hx hb dX7_does_65 hl (by decide) rfl (fun ls hl => ?_)
  refine lv_iload hx hb dX7_does_67 (lv_at hl 2 rfl) ?_
  refine lv_if_eq (tgt := 80) hx hb dX7_does_69 (by decide) (fun c71 => ?_) (fun c71 => ?_)
  · have hf := pn_ifp c71 hf
    refine lv_iconst (v := (0)) hx hb dX7_does_80 (by decide) ?_
    exact jn81 z61 z62 z63 ru64 ru67 ru70 (0 : Int32) v_t_cases v_t_lastReason r_t_brief r_t_caseFirst r_t_finds r_t_label r_t_reason r_t_renamed r_t_trial r_t_work H locs ls hf hP hS (lv_sub hl [6, 7, 5, 4, 3, 2, 1, 0] rfl)
  · have hf := pn_ifn c71 hf
    refine lv_iconst (v := (4)) hx hb dX7_does_72 (by decide) ?_
    refine lv_iload_n hx hb dX7_does_73 rfl (lv_at hl 5 rfl) ?_
    refine lv_imul hx hb dX7_does_74 ?_
    refine lv_iload_n hx hb dX7_does_75 rfl (lv_at hl 4 rfl) ?_
    refine lv_iadd hx hb dX7_does_76 ?_
    refine lv_goto (tgt := 81) hx hb dX7_does_77 (by decide) ?_
    exact jn81 z61 z62 z63 ru64 ru67 ru70 (((4 : Int32) * z61) + z62) v_t_cases v_t_lastReason r_t_brief r_t_caseFirst r_t_finds r_t_label r_t_reason r_t_renamed r_t_trial r_t_work H locs ls hf hP hS (lv_sub hl [6, 7, 5, 4, 3, 2, 1, 0] rfl)
def lp_X7_judge_51 (N : Nat) (p1 : Int32) (p2 : Int64) : Nat → Int32 → Int32 → Int32 → (Nat → Int32) → (Nat → Int32) → (Nat → Int32) → (Nat → Int32) → (Nat → Int32) → (Nat → Int32) → (Nat → Int32) → (Nat → Int32) → Option ((Int32 × Int32 × Int32 × (Nat → Int32) × (Nat → Int32) × (Nat → Int32) × (Nat → Int32) × (Nat → Int32) × (Nat → Int32) × (Nat → Int32) × (Nat → Int32)) ⊕ (Int32 × Int32 × (Nat → Int32) × (Nat → Int32) × (Nat → Int32) × (Nat → Int32) × (Nat → Int32) × (Nat → Int32) × (Nat → Int32) × (Nat → Int32)))
  | 0, _, _, _, _, _, _, _, _, _, _, _ => none
  | n + 1, x4, v_t_cases, v_t_lastReason, r_t_brief, r_t_caseFirst, r_t_finds, r_t_label, r_t_reason, r_t_renamed, r_t_trial, r_t_work =>
    if p1 ≤ x4 then
  some (.inr (v_t_cases, v_t_lastReason, r_t_brief, r_t_caseFirst, r_t_finds, r_t_label, r_t_reason, r_t_renamed, r_t_trial, r_t_work))
  else
  pn_bd1 (f_X7_longPower N (10000 : Int64) ((p1 - (1 : Int32)) - x4)) fun ru2 =>
  pn_nzL ru2 <|
  pn_bd11 (f_X7_does N v_t_cases v_t_lastReason r_t_brief r_t_caseFirst r_t_finds r_t_label r_t_reason r_t_renamed r_t_trial r_t_work (((p2 / ru2) - (p2 / ru2) / (10000 : Int64) * (10000 : Int64)).toInt32)) fun ru4 v_t_cases_u4 v_t_lastReason_u4 r_t_brief_u4 r_t_caseFirst_u4 r_t_finds_u4 r_t_label_u4 r_t_reason_u4 r_t_renamed_u4 r_t_trial_u4 r_t_work_u4 =>
  if ¬ ru4 = 0 then
  pn_nm (x4 + (1 : Int32)) fun z6 =>
  lp_X7_judge_51 N p1 p2 n z6 v_t_cases_u4 v_t_lastReason_u4 r_t_brief_u4 r_t_caseFirst_u4 r_t_finds_u4 r_t_label_u4 r_t_reason_u4 r_t_renamed_u4 r_t_trial_u4 r_t_work_u4
  else
  some (.inl (x4, v_t_cases_u4, v_t_lastReason_u4, r_t_brief_u4, r_t_caseFirst_u4, r_t_finds_u4, r_t_label_u4, r_t_reason_u4, r_t_renamed_u4, r_t_trial_u4, r_t_work_u4))
def f_X7_judge (N : Nat) (v_t_thrown : Int32) (v_t_cases : Int32) (v_t_lastReason : Int32) (r_t_brief : Nat → Int32) (r_t_caseFirst : Nat → Int32) (r_t_finds : Nat → Int32) (r_t_label : Nat → Int32) (r_t_page : Nat → Int32) (r_t_reason : Nat → Int32) (r_t_renamed : Nat → Int32) (r_t_trial : Nat → Int32) (r_t_work : Nat → Int32) (p1 : Int32) (p2 : Int64) : Option (Int32 × Int32 × Int32 × Int32 × (Nat → Int32) × (Nat → Int32) × (Nat → Int32) × (Nat → Int32) × (Nat → Int32) × (Nat → Int32) × (Nat → Int32) × (Nat → Int32)) :=
  pn_bd1 (f_X7_in p1.toInt64 (1 : Int64) (4 : Int64)) fun ru7 =>
  if ru7 = 0 then
  some ((-2 : Int32), (0 : Int32), v_t_cases, v_t_lastReason, r_t_brief, r_t_caseFirst, r_t_finds, r_t_label, r_t_reason, r_t_renamed, r_t_trial, r_t_work)
  else
  pn_bd1 (f_X7_longPower N (10000 : Int64) p1) fun ru9 =>
  pn_bd1 (f_X7_in p2 (0 : Int64) (ru9 - (1 : Int64))) fun ru10 =>
  if ¬ ru10 = 0 then
  pn_bd1 (f_X7_lay N r_t_trial r_t_page) fun r_t_trial_u12 =>
  pn_bd1 (lp_X7_judge_51 N p1 p2 N (0 : Int32) v_t_cases v_t_lastReason r_t_brief r_t_caseFirst r_t_finds r_t_label r_t_reason r_t_renamed r_t_trial_u12 r_t_work) (fun X51 => pn_s2 X51 (pn_u11 fun x4_w13 v_t_cases_w13 v_t_lastReason_w13 r_t_brief_w13 r_t_caseFirst_w13 r_t_finds_w13 r_t_label_w13 r_t_reason_w13 r_t_renamed_w13 r_t_trial_w13 r_t_work_w13 => some (x4_w13, (0 : Int32), v_t_cases_w13, v_t_lastReason_w13, r_t_brief_w13, r_t_caseFirst_w13, r_t_finds_w13, r_t_label_w13, r_t_reason_w13, r_t_renamed_w13, r_t_trial_w13, r_t_work_w13)) (fun Y51_0 => (pn_u10 fun v_t_cases_w14 v_t_lastReason_w14 r_t_brief_w14 r_t_caseFirst_w14 r_t_finds_w14 r_t_label_w14 r_t_reason_w14 r_t_renamed_w14 r_t_trial_w14 r_t_work_w14 => some ((-9 : Int32), (0 : Int32), v_t_cases_w14, v_t_lastReason_w14, r_t_brief_w14, r_t_caseFirst_w14, r_t_finds_w14, r_t_label_w14, r_t_reason_w14, r_t_renamed_w14, r_t_trial_w14, r_t_work_w14)) Y51_0))
  else
  some ((-2 : Int32), (0 : Int32), v_t_cases, v_t_lastReason, r_t_brief, r_t_caseFirst, r_t_finds, r_t_label, r_t_reason, r_t_renamed, r_t_trial, r_t_work)
set_option maxHeartbeats 4000000 in
set_option maxRecDepth 100000 in
theorem c_X7_judge (l : Launch) (D : va_G) (cI cJ cZ : ClassId) (a_t a_t_text a_t_readPage a_t_page a_t_trial a_t_work a_t_book a_t_kept a_t_isKept a_t_seenWhat a_t_seenV a_t_seenIs a_t_label a_t_finds a_t_reason a_t_caseFirst a_t_brief a_t_printed a_t_renamed a_t_worth : Nat) (sz : Nat) (v_t_textSize : Int32) (v_t_place : Int32) (v_t_doings : Int32) (v_t_seen : Int32) (v_t_seed : Int64) (v_t_printedSize : Int32) (N : Nat) (v_t_thrown : Int32) (v_t_cases : Int32) (v_t_lastReason : Int32) (r_t_brief : Nat → Int32) (r_t_caseFirst : Nat → Int32) (r_t_finds : Nat → Int32) (r_t_label : Nat → Int32) (r_t_page : Nat → Int32) (r_t_reason : Nat → Int32) (r_t_renamed : Nat → Int32) (r_t_trial : Nat → Int32) (r_t_work : Nat → Int32) (p1 : Int32) (p2 : Int64) (rR : Int32) (o_t_thrown : Int32) (o_t_cases : Int32) (o_t_lastReason : Int32) (o_t_brief : Nat → Int32) (o_t_caseFirst : Nat → Int32) (o_t_finds : Nat → Int32) (o_t_label : Nat → Int32) (o_t_reason : Nat → Int32) (o_t_renamed : Nat → Int32) (o_t_trial : Nat → Int32) (o_t_work : Nat → Int32) (hf : f_X7_judge N v_t_thrown v_t_cases v_t_lastReason r_t_brief r_t_caseFirst r_t_finds r_t_label r_t_page r_t_reason r_t_renamed r_t_trial r_t_work p1 p2 = some (rR, o_t_thrown, o_t_cases, o_t_lastReason, o_t_brief, o_t_caseFirst, o_t_finds, o_t_label, o_t_reason, o_t_renamed, o_t_trial, o_t_work)) : Met l yX7_judge wsX7_judge { frames := 8, cells := 0, slots := 0, locals := 196 } (pn_Pc D cI cJ cZ [.ref a_t, .int p1, .long p2] [(a_t, .inr (6, [.int v_t_thrown, .ref a_t_text, .int v_t_textSize, .int v_t_place, .ref a_t_readPage, .ref a_t_page, .ref a_t_trial, .ref a_t_work, .ref a_t_book, .int v_t_doings, .ref a_t_kept, .ref a_t_isKept, .int v_t_seen, .ref a_t_seenWhat, .ref a_t_seenV, .ref a_t_seenIs, .long v_t_seed, .ref a_t_label, .ref a_t_finds, .ref a_t_reason, .ref a_t_caseFirst, .int v_t_cases, .ref a_t_brief, .ref a_t_printed, .int v_t_printedSize, .ref a_t_renamed, .ref a_t_worth, .int v_t_lastReason])), (a_t_brief, .inl (cI, 8, .inl r_t_brief)), (a_t_caseFirst, .inl (cI, 32, .inl r_t_caseFirst)), (a_t_finds, .inl (cI, 32, .inl r_t_finds)), (a_t_label, .inl (cI, 32, .inl r_t_label)), (a_t_page, .inl (cI, 265, .inl r_t_page)), (a_t_reason, .inl (cI, 32, .inl r_t_reason)), (a_t_renamed, .inl (cI, 8, .inl r_t_renamed)), (a_t_trial, .inl (cI, 265, .inl r_t_trial)), (a_t_work, .inl (cI, 265, .inl r_t_work))] sz) (pn_Qi D rR [(a_t, .inr (6, [.int o_t_thrown, .ref a_t_text, .int v_t_textSize, .int v_t_place, .ref a_t_readPage, .ref a_t_page, .ref a_t_trial, .ref a_t_work, .ref a_t_book, .int v_t_doings, .ref a_t_kept, .ref a_t_isKept, .int v_t_seen, .ref a_t_seenWhat, .ref a_t_seenV, .ref a_t_seenIs, .long v_t_seed, .ref a_t_label, .ref a_t_finds, .ref a_t_reason, .ref a_t_caseFirst, .int o_t_cases, .ref a_t_brief, .ref a_t_printed, .int v_t_printedSize, .ref a_t_renamed, .ref a_t_worth, .int o_t_lastReason])), (a_t_brief, .inl (cI, 8, .inl o_t_brief)), (a_t_caseFirst, .inl (cI, 32, .inl o_t_caseFirst)), (a_t_finds, .inl (cI, 32, .inl o_t_finds)), (a_t_label, .inl (cI, 32, .inl o_t_label)), (a_t_page, .inl (cI, 265, .inl r_t_page)), (a_t_reason, .inl (cI, 32, .inl o_t_reason)), (a_t_renamed, .inl (cI, 8, .inl o_t_renamed)), (a_t_trial, .inl (cI, 265, .inl o_t_trial)), (a_t_work, .inl (cI, 265, .inl o_t_work))] (va_A [(a_t, .inr (6, [.int v_t_thrown, .ref a_t_text, .int v_t_textSize, .int v_t_place, .ref a_t_readPage, .ref a_t_page, .ref a_t_trial, .ref a_t_work, .ref a_t_book, .int v_t_doings, .ref a_t_kept, .ref a_t_isKept, .int v_t_seen, .ref a_t_seenWhat, .ref a_t_seenV, .ref a_t_seenIs, .long v_t_seed, .ref a_t_label, .ref a_t_finds, .ref a_t_reason, .ref a_t_caseFirst, .int v_t_cases, .ref a_t_brief, .ref a_t_printed, .int v_t_printedSize, .ref a_t_renamed, .ref a_t_worth, .int v_t_lastReason])), (a_t_brief, .inl (cI, 8, .inl r_t_brief)), (a_t_caseFirst, .inl (cI, 32, .inl r_t_caseFirst)), (a_t_finds, .inl (cI, 32, .inl r_t_finds)), (a_t_label, .inl (cI, 32, .inl r_t_label)), (a_t_page, .inl (cI, 265, .inl r_t_page)), (a_t_reason, .inl (cI, 32, .inl r_t_reason)), (a_t_renamed, .inl (cI, 8, .inl r_t_renamed)), (a_t_trial, .inl (cI, 265, .inl r_t_trial)), (a_t_work, .inl (cI, 265, .inl r_t_work))] sz)) 0 0 (va_A [(a_t, .inr (6, [.int v_t_thrown, .ref a_t_text, .int v_t_textSize, .int v_t_place, .ref a_t_readPage, .ref a_t_page, .ref a_t_trial, .ref a_t_work, .ref a_t_book, .int v_t_doings, .ref a_t_kept, .ref a_t_isKept, .int v_t_seen, .ref a_t_seenWhat, .ref a_t_seenV, .ref a_t_seenIs, .long v_t_seed, .ref a_t_label, .ref a_t_finds, .ref a_t_reason, .ref a_t_caseFirst, .int v_t_cases, .ref a_t_brief, .ref a_t_printed, .int v_t_printedSize, .ref a_t_renamed, .ref a_t_worth, .int v_t_lastReason])), (a_t_brief, .inl (cI, 8, .inl r_t_brief)), (a_t_caseFirst, .inl (cI, 32, .inl r_t_caseFirst)), (a_t_finds, .inl (cI, 32, .inl r_t_finds)), (a_t_label, .inl (cI, 32, .inl r_t_label)), (a_t_page, .inl (cI, 265, .inl r_t_page)), (a_t_reason, .inl (cI, 32, .inl r_t_reason)), (a_t_renamed, .inl (cI, 8, .inl r_t_renamed)), (a_t_trial, .inl (cI, 265, .inl r_t_trial)), (a_t_work, .inl (cI, 265, .inl r_t_work))] sz) := by
  refine pn_entry (cc := cX7_judge) (maxL := 5) (ret := (some .int)) (Qf := pn_Qi D rR [(a_t, .inr (6, [.int o_t_thrown, .ref a_t_text, .int v_t_textSize, .int v_t_place, .ref a_t_readPage, .ref a_t_page, .ref a_t_trial, .ref a_t_work, .ref a_t_book, .int v_t_doings, .ref a_t_kept, .ref a_t_isKept, .int v_t_seen, .ref a_t_seenWhat, .ref a_t_seenV, .ref a_t_seenIs, .long v_t_seed, .ref a_t_label, .ref a_t_finds, .ref a_t_reason, .ref a_t_caseFirst, .int o_t_cases, .ref a_t_brief, .ref a_t_printed, .int v_t_printedSize, .ref a_t_renamed, .ref a_t_worth, .int o_t_lastReason])), (a_t_brief, .inl (cI, 8, .inl o_t_brief)), (a_t_caseFirst, .inl (cI, 32, .inl o_t_caseFirst)), (a_t_finds, .inl (cI, 32, .inl o_t_finds)), (a_t_label, .inl (cI, 32, .inl o_t_label)), (a_t_page, .inl (cI, 265, .inl r_t_page)), (a_t_reason, .inl (cI, 32, .inl o_t_reason)), (a_t_renamed, .inl (cI, 8, .inl o_t_renamed)), (a_t_trial, .inl (cI, 265, .inl o_t_trial)), (a_t_work, .inl (cI, 265, .inl o_t_work))]) (by decide) rfl (Nat.le_of_ble_eq_true rfl) ?_
  intro p e s m args below meth c A ls H locs Qm hQ hx hb hr hlocks hml hown hts hK hP hD hA hS hl
  have hl : lv_has ls 5 [(0, .ref a_t), (1, .int p1), (2, .long p2)] := hl
  have hinX7 : ∀ w ∈ wsX70, w ∈ wsX7_judge := by decide +kernel
  have fl_16 := hts (.fieldLink RX7 16 "PointingNotesModel" "page" "[I") (by decide +kernel)
  have fl_19 := hts (.fieldLink RX7 19 "PointingNotesModel" "trial" "[I") (by decide +kernel)
  have fl_68 := hts (.fieldLink RX7 68 "PointingNotesModel" "thrown" "I") (by decide +kernel)
  have kl_291 := hts (.constantLong RX7 291 (4)) (by decide +kernel)
  have kl_293 := hts (.constantLong RX7 293 (10000)) (by decide +kernel)
  rw [f_X7_judge] at hf
  have lp51 : ∀ (n : Nat) (x4 : Int32) (v_t_thrown : Int32) (v_t_cases : Int32) (v_t_lastReason : Int32) (r_t_brief : Nat → Int32) (r_t_caseFirst : Nat → Int32) (r_t_finds : Nat → Int32) (r_t_label : Nat → Int32) (r_t_reason : Nat → Int32) (r_t_renamed : Nat → Int32) (r_t_trial : Nat → Int32) (r_t_work : Nat → Int32) (X : (Int32 × Int32 × Int32 × (Nat → Int32) × (Nat → Int32) × (Nat → Int32) × (Nat → Int32) × (Nat → Int32) × (Nat → Int32) × (Nat → Int32) × (Nat → Int32)) ⊕ (Int32 × Int32 × (Nat → Int32) × (Nat → Int32) × (Nat → Int32) × (Nat → Int32) × (Nat → Int32) × (Nat → Int32) × (Nat → Int32) × (Nat → Int32))) (H : Heap) (locs : List Loc) (ls : Array Slot), lp_X7_judge_51 N p1 p2 n x4 v_t_cases v_t_lastReason r_t_brief r_t_caseFirst r_t_finds r_t_label r_t_reason r_t_renamed r_t_trial r_t_work = some X → va_P D vwCl [(a_t, .inr (6, [.int v_t_thrown, .ref a_t_text, .int v_t_textSize, .int v_t_place, .ref a_t_readPage, .ref a_t_page, .ref a_t_trial, .ref a_t_work, .ref a_t_book, .int v_t_doings, .ref a_t_kept, .ref a_t_isKept, .int v_t_seen, .ref a_t_seenWhat, .ref a_t_seenV, .ref a_t_seenIs, .long v_t_seed, .ref a_t_label, .ref a_t_finds, .ref a_t_reason, .ref a_t_caseFirst, .int v_t_cases, .ref a_t_brief, .ref a_t_printed, .int v_t_printedSize, .ref a_t_renamed, .ref a_t_worth, .int v_t_lastReason])), (a_t_brief, .inl (cI, 8, .inl r_t_brief)), (a_t_caseFirst, .inl (cI, 32, .inl r_t_caseFirst)), (a_t_finds, .inl (cI, 32, .inl r_t_finds)), (a_t_label, .inl (cI, 32, .inl r_t_label)), (a_t_page, .inl (cI, 265, .inl r_t_page)), (a_t_reason, .inl (cI, 32, .inl r_t_reason)), (a_t_renamed, .inl (cI, 8, .inl r_t_renamed)), (a_t_trial, .inl (cI, 265, .inl r_t_trial)), (a_t_work, .inl (cI, 265, .inl r_t_work))] H → va_S A s.heap H locs → lv_has ls 5 [(0, .ref a_t), (1, .int p1), (2, .long p2), (4, .int x4)] → (∀ (y4 : Int32) (v_t_cases' : Int32) (v_t_lastReason' : Int32) (r_t_brief' : Nat → Int32) (r_t_caseFirst' : Nat → Int32) (r_t_finds' : Nat → Int32) (r_t_label' : Nat → Int32) (r_t_reason' : Nat → Int32) (r_t_renamed' : Nat → Int32) (r_t_trial' : Nat → Int32) (r_t_work' : Nat → Int32) (H : Heap) (locs : List Loc) (ls : Array Slot), X = .inl (y4, v_t_cases', v_t_lastReason', r_t_brief', r_t_caseFirst', r_t_finds', r_t_label', r_t_reason', r_t_renamed', r_t_trial', r_t_work') → va_P D vwCl [(a_t, .inr (6, [.int v_t_thrown, .ref a_t_text, .int v_t_textSize, .int v_t_place, .ref a_t_readPage, .ref a_t_page, .ref a_t_trial, .ref a_t_work, .ref a_t_book, .int v_t_doings, .ref a_t_kept, .ref a_t_isKept, .int v_t_seen, .ref a_t_seenWhat, .ref a_t_seenV, .ref a_t_seenIs, .long v_t_seed, .ref a_t_label, .ref a_t_finds, .ref a_t_reason, .ref a_t_caseFirst, .int (v_t_cases'), .ref a_t_brief, .ref a_t_printed, .int v_t_printedSize, .ref a_t_renamed, .ref a_t_worth, .int (v_t_lastReason')])), (a_t_brief, .inl (cI, 8, .inl (r_t_brief'))), (a_t_caseFirst, .inl (cI, 32, .inl (r_t_caseFirst'))), (a_t_finds, .inl (cI, 32, .inl (r_t_finds'))), (a_t_label, .inl (cI, 32, .inl (r_t_label'))), (a_t_page, .inl (cI, 265, .inl r_t_page)), (a_t_reason, .inl (cI, 32, .inl (r_t_reason'))), (a_t_renamed, .inl (cI, 8, .inl (r_t_renamed'))), (a_t_trial, .inl (cI, 265, .inl (r_t_trial'))), (a_t_work, .inl (cI, 265, .inl (r_t_work')))] H → va_S A s.heap H locs → lv_has ls 5 [(4, .int y4)] → W p l e { frames := 8, cells := 0, slots := 0, locals := 196 } s m args below meth c H locs 0 0 Qm (F0 m 83 ls [])) → (∀  (v_t_cases' : Int32) (v_t_lastReason' : Int32) (r_t_brief' : Nat → Int32) (r_t_caseFirst' : Nat → Int32) (r_t_finds' : Nat → Int32) (r_t_label' : Nat → Int32) (r_t_reason' : Nat → Int32) (r_t_renamed' : Nat → Int32) (r_t_trial' : Nat → Int32) (r_t_work' : Nat → Int32) (H : Heap) (locs : List Loc) (ls : Array Slot), X = .inr (v_t_cases', v_t_lastReason', r_t_brief', r_t_caseFirst', r_t_finds', r_t_label', r_t_reason', r_t_renamed', r_t_trial', r_t_work') → va_P D vwCl [(a_t, .inr (6, [.int v_t_thrown, .ref a_t_text, .int v_t_textSize, .int v_t_place, .ref a_t_readPage, .ref a_t_page, .ref a_t_trial, .ref a_t_work, .ref a_t_book, .int v_t_doings, .ref a_t_kept, .ref a_t_isKept, .int v_t_seen, .ref a_t_seenWhat, .ref a_t_seenV, .ref a_t_seenIs, .long v_t_seed, .ref a_t_label, .ref a_t_finds, .ref a_t_reason, .ref a_t_caseFirst, .int (v_t_cases'), .ref a_t_brief, .ref a_t_printed, .int v_t_printedSize, .ref a_t_renamed, .ref a_t_worth, .int (v_t_lastReason')])), (a_t_brief, .inl (cI, 8, .inl (r_t_brief'))), (a_t_caseFirst, .inl (cI, 32, .inl (r_t_caseFirst'))), (a_t_finds, .inl (cI, 32, .inl (r_t_finds'))), (a_t_label, .inl (cI, 32, .inl (r_t_label'))), (a_t_page, .inl (cI, 265, .inl r_t_page)), (a_t_reason, .inl (cI, 32, .inl (r_t_reason'))), (a_t_renamed, .inl (cI, 8, .inl (r_t_renamed'))), (a_t_trial, .inl (cI, 265, .inl (r_t_trial'))), (a_t_work, .inl (cI, 265, .inl (r_t_work')))] H → va_S A s.heap H locs → lv_has ls 5 [] → W p l e { frames := 8, cells := 0, slots := 0, locals := 196 } s m args below meth c H locs 0 0 Qm (F0 m 92 ls [])) → W p l e { frames := 8, cells := 0, slots := 0, locals := 196 } s m args below meth c H locs 0 0 Qm (F0 m 51 ls []) := by
    intro n
    induction n with
    | zero => intro x4 v_t_thrown v_t_cases v_t_lastReason r_t_brief r_t_caseFirst r_t_finds r_t_label r_t_reason r_t_renamed r_t_trial r_t_work X H locs ls hf; cases hf
    | succ n ih =>
      intro x4 v_t_thrown v_t_cases v_t_lastReason r_t_brief r_t_caseFirst r_t_finds r_t_label r_t_reason r_t_renamed r_t_trial r_t_work X H locs ls hf hP hS hl kx83 kx92
      rw [lp_X7_judge_51] at hf
      refine lv_iload hx hb dX7_judge_51 (lv_at hl 3 rfl) ?_
      refine lv_iload_n hx hb dX7_judge_53 rfl (lv_at hl 1 rfl) ?_
      refine lv_icmp_ge (tgt := 92) hx hb dX7_judge_54 (by decide) (fun c1 => ?_) (fun c1 => ?_)
      · have hf := pn_ifp c1 hf
        exact kx92 v_t_cases v_t_lastReason r_t_brief r_t_caseFirst r_t_finds r_t_label r_t_reason r_t_renamed r_t_trial r_t_work H locs ls (Option.some.inj hf).symm hP hS (lv_sub hl [] rfl)
      · have hf := pn_ifn c1 hf
        refine lv_aload_n hx hb dX7_judge_57 rfl (lv_at hl 0 rfl) ?_
        refine lv_lload_n hx hb dX7_judge_58 rfl (lv_at hl 2 rfl) ?_
        refine lv_ldc2 hx hb hown kl_293 dX7_judge_59 ?_
        refine lv_iload_n hx hb dX7_judge_62 rfl (lv_at hl 1 rfl) ?_
        refine lv_iconst (v := (1)) hx hb dX7_judge_63 (by decide) ?_
        refine lv_isub hx hb dX7_judge_64 ?_
        refine lv_iload hx hb dX7_judge_65 (lv_at hl 3 rfl) ?_
        refine lv_isub hx hb dX7_judge_67 ?_
        obtain ⟨ru2, hu2, hf⟩ := pn_bd1_at hf
        refine pn_calll [] (va_runS (As := [.long (10000 : Int64), .int ((p1 - (1 : Int32)) - x4)]) (rest := [.long p2, .ref a_t]) ⟨hx, hb, hml, hown, hts⟩ (c_X7_longPower l D cI cJ cZ H.size N (10000 : Int64) ((p1 - (1 : Int32)) - x4) ru2 hu2) (va_cwS 2 hts gX7_judge_X7_longPower rfl rfl rfl hdX7_longPower ⟨Nat.le_of_ble_eq_true rfl, Nat.le_of_ble_eq_true rfl⟩) (pn_preS [] hP (hD.addr rfl) hK rfl rfl) rfl rfl hl.1 rfl (lv_room (Nat.le_of_ble_eq_true rfl)) dX7_judge_68 ⟨Nat.zero_le _, Nat.zero_le _⟩) hP (hD.addr rfl) hS hA rfl rfl rfl (fun H locs (hP : va_P D vwCl [(a_t, .inr (6, [.int v_t_thrown, .ref a_t_text, .int v_t_textSize, .int v_t_place, .ref a_t_readPage, .ref a_t_page, .ref a_t_trial, .ref a_t_work, .ref a_t_book, .int v_t_doings, .ref a_t_kept, .ref a_t_isKept, .int v_t_seen, .ref a_t_seenWhat, .ref a_t_seenV, .ref a_t_seenIs, .long v_t_seed, .ref a_t_label, .ref a_t_finds, .ref a_t_reason, .ref a_t_caseFirst, .int v_t_cases, .ref a_t_brief, .ref a_t_printed, .int v_t_printedSize, .ref a_t_renamed, .ref a_t_worth, .int v_t_lastReason])), (a_t_brief, .inl (cI, 8, .inl r_t_brief)), (a_t_caseFirst, .inl (cI, 32, .inl r_t_caseFirst)), (a_t_finds, .inl (cI, 32, .inl r_t_finds)), (a_t_label, .inl (cI, 32, .inl r_t_label)), (a_t_page, .inl (cI, 265, .inl r_t_page)), (a_t_reason, .inl (cI, 32, .inl r_t_reason)), (a_t_renamed, .inl (cI, 8, .inl r_t_renamed)), (a_t_trial, .inl (cI, 265, .inl r_t_trial)), (a_t_work, .inl (cI, 265, .inl r_t_work))] H) _ hS => ?_)
        obtain ⟨hz3, hf⟩ := pn_nzL_at hf
        refine lv_ldiv hx hb dX7_judge_71 hz3 ?_
        refine lv_ldc2 hx hb hown kl_293 dX7_judge_72 ?_
        refine lv_lrem hx hb dX7_judge_75 (by decide) ?_
        refine lv_l2i hx hb dX7_judge_76 rfl ?_
        obtain ⟨ru4, v_t_cases_u4, v_t_lastReason_u4, r_t_brief_u4, r_t_caseFirst_u4, r_t_finds_u4, r_t_label_u4, r_t_reason_u4, r_t_renamed_u4, r_t_trial_u4, r_t_work_u4, hu4, hf⟩ := pn_bd11_at hf
        refine pn_calli [0, 1, 2, 3, 4, 6, 7, 8, 9] (va_runV (As := [.int (((p2 / ru2) - (p2 / ru2) / (10000 : Int64) * (10000 : Int64)).toInt32)]) (rest := []) ⟨hx, hb, hml, hown, hts⟩ (c_X7_does l D cI cJ cZ a_t a_t_text a_t_readPage a_t_page a_t_trial a_t_work a_t_book a_t_kept a_t_isKept a_t_seenWhat a_t_seenV a_t_seenIs a_t_label a_t_finds a_t_reason a_t_caseFirst a_t_brief a_t_printed a_t_renamed a_t_worth H.size v_t_thrown v_t_textSize v_t_place v_t_doings v_t_seen v_t_seed v_t_printedSize N v_t_cases v_t_lastReason r_t_brief r_t_caseFirst r_t_finds r_t_label r_t_reason r_t_renamed r_t_trial r_t_work (((p2 / ru2) - (p2 / ru2) / (10000 : Int64) * (10000 : Int64)).toInt32) ru4 v_t_cases_u4 v_t_lastReason_u4 r_t_brief_u4 r_t_caseFirst_u4 r_t_finds_u4 r_t_label_u4 r_t_reason_u4 r_t_renamed_u4 r_t_trial_u4 r_t_work_u4 hu4) (cwV 1 hts gX7_judge_X7_does rfl rfl rfl hdX7_does ⟨Nat.le_of_ble_eq_true rfl, Nat.le_of_ble_eq_true rfl⟩) (pn_preV [0, 1, 2, 3, 4, 6, 7, 8, 9] hP (hD.addr rfl) hK rfl rfl (q0 := 0) (ci := 6) rfl rfl) rfl rfl hl.1 rfl (lv_room (Nat.le_of_ble_eq_true rfl)) dX7_judge_77 ⟨Nat.zero_le _, Nat.zero_le _⟩) hP (hD.addr rfl) hS hA rfl rfl rfl (fun H locs (hP : va_P D vwCl [(a_t, .inr (6, [.int v_t_thrown, .ref a_t_text, .int v_t_textSize, .int v_t_place, .ref a_t_readPage, .ref a_t_page, .ref a_t_trial, .ref a_t_work, .ref a_t_book, .int v_t_doings, .ref a_t_kept, .ref a_t_isKept, .int v_t_seen, .ref a_t_seenWhat, .ref a_t_seenV, .ref a_t_seenIs, .long v_t_seed, .ref a_t_label, .ref a_t_finds, .ref a_t_reason, .ref a_t_caseFirst, .int v_t_cases_u4, .ref a_t_brief, .ref a_t_printed, .int v_t_printedSize, .ref a_t_renamed, .ref a_t_worth, .int v_t_lastReason_u4])), (a_t_brief, .inl (cI, 8, .inl r_t_brief_u4)), (a_t_caseFirst, .inl (cI, 32, .inl r_t_caseFirst_u4)), (a_t_finds, .inl (cI, 32, .inl r_t_finds_u4)), (a_t_label, .inl (cI, 32, .inl r_t_label_u4)), (a_t_page, .inl (cI, 265, .inl r_t_page)), (a_t_reason, .inl (cI, 32, .inl r_t_reason_u4)), (a_t_renamed, .inl (cI, 8, .inl r_t_renamed_u4)), (a_t_trial, .inl (cI, 265, .inl r_t_trial_u4)), (a_t_work, .inl (cI, 265, .inl r_t_work_u4))] H) _ hS => ?_)
        refine lv_if_ne (tgt := 86) hx hb dX7_judge_80 (by decide) (fun c5 => ?_) (fun c5 => ?_)
        · have hf := pn_ifp c5 hf
          obtain ⟨z6, ez6⟩ : ∃ y : Int32, y = x4 + (1) := ⟨_, rfl⟩
          have hf := pn_nm_at ez6 hf
          refine lv_iinc (v := z6) (lv' := [(4, .int z6), (0, .ref a_t), (1, .int p1), (2, .long p2)]) hx hb dX7_judge_86 hl (k := 3) rfl (by rw [ez6]; rfl) (by decide) rfl (fun ls hl => ?_)
          refine lv_goto (tgt := 51) hx hb dX7_judge_89 (by decide) ?_
          exact ih z6 v_t_thrown v_t_cases_u4 v_t_lastReason_u4 r_t_brief_u4 r_t_caseFirst_u4 r_t_finds_u4 r_t_label_u4 r_t_reason_u4 r_t_renamed_u4 r_t_trial_u4 r_t_work_u4 X H locs ls hf hP hS (lv_sub hl [1, 2, 3, 0] rfl) kx83 kx92
        · have hf := pn_ifq c5 hf
          exact kx83 x4 v_t_cases_u4 v_t_lastReason_u4 r_t_brief_u4 r_t_caseFirst_u4 r_t_finds_u4 r_t_label_u4 r_t_reason_u4 r_t_renamed_u4 r_t_trial_u4 r_t_work_u4 H locs ls (Option.some.inj hf).symm hP hS (lv_sub hl [3] rfl)
  refine lv_aload_n hx hb dX7_judge_0 rfl (lv_at hl 0 rfl) ?_
  refine lv_iconst (v := (0)) hx hb dX7_judge_1 (by decide) ?_
  refine va_put (D := D) (ci := 6) (v := .int (0 : Int32)) (ty := .int) (C := RX7) (T := TX7) (N := 28) hx hb hts hinX7 tyX7 tyX7_ok nmX7 hown hK.1 hP (hD.addr rfl) hS 0 rfl rfl 0 (by decide) fl_68 (fun _ h9 => h9) rfl (by decide +kernel) rfl rfl (Nat.le_of_ble_eq_true rfl) dX7_judge_2 (fun H locs (hP : va_P D vwCl [(a_t, .inr (6, [.int ((0 : Int32)), .ref a_t_text, .int v_t_textSize, .int v_t_place, .ref a_t_readPage, .ref a_t_page, .ref a_t_trial, .ref a_t_work, .ref a_t_book, .int v_t_doings, .ref a_t_kept, .ref a_t_isKept, .int v_t_seen, .ref a_t_seenWhat, .ref a_t_seenV, .ref a_t_seenIs, .long v_t_seed, .ref a_t_label, .ref a_t_finds, .ref a_t_reason, .ref a_t_caseFirst, .int v_t_cases, .ref a_t_brief, .ref a_t_printed, .int v_t_printedSize, .ref a_t_renamed, .ref a_t_worth, .int v_t_lastReason])), (a_t_brief, .inl (cI, 8, .inl r_t_brief)), (a_t_caseFirst, .inl (cI, 32, .inl r_t_caseFirst)), (a_t_finds, .inl (cI, 32, .inl r_t_finds)), (a_t_label, .inl (cI, 32, .inl r_t_label)), (a_t_page, .inl (cI, 265, .inl r_t_page)), (a_t_reason, .inl (cI, 32, .inl r_t_reason)), (a_t_renamed, .inl (cI, 8, .inl r_t_renamed)), (a_t_trial, .inl (cI, 265, .inl r_t_trial)), (a_t_work, .inl (cI, 265, .inl r_t_work))] H) _ hS => ?_)
  refine lv_iload_n hx hb dX7_judge_5 rfl (lv_at hl 1 rfl) ?_
  refine lv_i2l hx hb dX7_judge_6 rfl ?_
  refine lv_lconst (v := 1) hx hb dX7_judge_7 (by decide) ?_
  refine lv_ldc2 hx hb hown kl_291 dX7_judge_8 ?_
  obtain ⟨ru7, hu7, hf⟩ := pn_bd1_at hf
  refine pn_calli [] (va_runS (As := [.long p1.toInt64, .long (1 : Int64), .long (4 : Int64)]) (rest := []) ⟨hx, hb, hml, hown, hts⟩ (c_X7_in l D cI cJ cZ H.size p1.toInt64 (1 : Int64) (4 : Int64) ru7 hu7) (va_cwS 3 hts gX7_judge_X7_in rfl rfl rfl hdX7_in ⟨Nat.le_of_ble_eq_true rfl, Nat.le_of_ble_eq_true rfl⟩) (pn_preS [] hP (hD.addr rfl) hK rfl rfl) rfl rfl hl.1 rfl (lv_room (Nat.le_of_ble_eq_true rfl)) dX7_judge_11 ⟨Nat.zero_le _, Nat.zero_le _⟩) hP (hD.addr rfl) hS hA rfl rfl rfl (fun H locs (hP : va_P D vwCl [(a_t, .inr (6, [.int ((0 : Int32)), .ref a_t_text, .int v_t_textSize, .int v_t_place, .ref a_t_readPage, .ref a_t_page, .ref a_t_trial, .ref a_t_work, .ref a_t_book, .int v_t_doings, .ref a_t_kept, .ref a_t_isKept, .int v_t_seen, .ref a_t_seenWhat, .ref a_t_seenV, .ref a_t_seenIs, .long v_t_seed, .ref a_t_label, .ref a_t_finds, .ref a_t_reason, .ref a_t_caseFirst, .int v_t_cases, .ref a_t_brief, .ref a_t_printed, .int v_t_printedSize, .ref a_t_renamed, .ref a_t_worth, .int v_t_lastReason])), (a_t_brief, .inl (cI, 8, .inl r_t_brief)), (a_t_caseFirst, .inl (cI, 32, .inl r_t_caseFirst)), (a_t_finds, .inl (cI, 32, .inl r_t_finds)), (a_t_label, .inl (cI, 32, .inl r_t_label)), (a_t_page, .inl (cI, 265, .inl r_t_page)), (a_t_reason, .inl (cI, 32, .inl r_t_reason)), (a_t_renamed, .inl (cI, 8, .inl r_t_renamed)), (a_t_trial, .inl (cI, 265, .inl r_t_trial)), (a_t_work, .inl (cI, 265, .inl r_t_work))] H) _ hS => ?_)
  refine lv_if_eq (tgt := 34) hx hb dX7_judge_14 (by decide) (fun c8 => ?_) (fun c8 => ?_)
  · have hf := pn_ifp c8 hf
    refine lv_bipush (v := (-2)) hx hb dX7_judge_34 (by decide) ?_
    cases hf
    rw [hQ]
    exact pn_reti hx hb hr hlocks hP hS rfl dX7_judge_36
  · have hf := pn_ifn c8 hf
    refine lv_lload_n hx hb dX7_judge_17 rfl (lv_at hl 2 rfl) ?_
    refine lv_lconst (v := 0) hx hb dX7_judge_18 (by decide) ?_
    refine lv_ldc2 hx hb hown kl_293 dX7_judge_19 ?_
    refine lv_iload_n hx hb dX7_judge_22 rfl (lv_at hl 1 rfl) ?_
    obtain ⟨ru9, hu9, hf⟩ := pn_bd1_at hf
    refine pn_calll [] (va_runS (As := [.long (10000 : Int64), .int p1]) (rest := [.long (0 : Int64), .long p2]) ⟨hx, hb, hml, hown, hts⟩ (c_X7_longPower l D cI cJ cZ H.size N (10000 : Int64) p1 ru9 hu9) (va_cwS 2 hts gX7_judge_X7_longPower rfl rfl rfl hdX7_longPower ⟨Nat.le_of_ble_eq_true rfl, Nat.le_of_ble_eq_true rfl⟩) (pn_preS [] hP (hD.addr rfl) hK rfl rfl) rfl rfl hl.1 rfl (lv_room (Nat.le_of_ble_eq_true rfl)) dX7_judge_23 ⟨Nat.zero_le _, Nat.zero_le _⟩) hP (hD.addr rfl) hS hA rfl rfl rfl (fun H locs (hP : va_P D vwCl [(a_t, .inr (6, [.int ((0 : Int32)), .ref a_t_text, .int v_t_textSize, .int v_t_place, .ref a_t_readPage, .ref a_t_page, .ref a_t_trial, .ref a_t_work, .ref a_t_book, .int v_t_doings, .ref a_t_kept, .ref a_t_isKept, .int v_t_seen, .ref a_t_seenWhat, .ref a_t_seenV, .ref a_t_seenIs, .long v_t_seed, .ref a_t_label, .ref a_t_finds, .ref a_t_reason, .ref a_t_caseFirst, .int v_t_cases, .ref a_t_brief, .ref a_t_printed, .int v_t_printedSize, .ref a_t_renamed, .ref a_t_worth, .int v_t_lastReason])), (a_t_brief, .inl (cI, 8, .inl r_t_brief)), (a_t_caseFirst, .inl (cI, 32, .inl r_t_caseFirst)), (a_t_finds, .inl (cI, 32, .inl r_t_finds)), (a_t_label, .inl (cI, 32, .inl r_t_label)), (a_t_page, .inl (cI, 265, .inl r_t_page)), (a_t_reason, .inl (cI, 32, .inl r_t_reason)), (a_t_renamed, .inl (cI, 8, .inl r_t_renamed)), (a_t_trial, .inl (cI, 265, .inl r_t_trial)), (a_t_work, .inl (cI, 265, .inl r_t_work))] H) _ hS => ?_)
    refine lv_lconst (v := 1) hx hb dX7_judge_26 (by decide) ?_
    refine lv_lsub hx hb dX7_judge_27 ?_
    obtain ⟨ru10, hu10, hf⟩ := pn_bd1_at hf
    refine pn_calli [] (va_runS (As := [.long p2, .long (0 : Int64), .long (ru9 - (1 : Int64))]) (rest := []) ⟨hx, hb, hml, hown, hts⟩ (c_X7_in l D cI cJ cZ H.size p2 (0 : Int64) (ru9 - (1 : Int64)) ru10 hu10) (va_cwS 3 hts gX7_judge_X7_in rfl rfl rfl hdX7_in ⟨Nat.le_of_ble_eq_true rfl, Nat.le_of_ble_eq_true rfl⟩) (pn_preS [] hP (hD.addr rfl) hK rfl rfl) rfl rfl hl.1 rfl (lv_room (Nat.le_of_ble_eq_true rfl)) dX7_judge_28 ⟨Nat.zero_le _, Nat.zero_le _⟩) hP (hD.addr rfl) hS hA rfl rfl rfl (fun H locs (hP : va_P D vwCl [(a_t, .inr (6, [.int ((0 : Int32)), .ref a_t_text, .int v_t_textSize, .int v_t_place, .ref a_t_readPage, .ref a_t_page, .ref a_t_trial, .ref a_t_work, .ref a_t_book, .int v_t_doings, .ref a_t_kept, .ref a_t_isKept, .int v_t_seen, .ref a_t_seenWhat, .ref a_t_seenV, .ref a_t_seenIs, .long v_t_seed, .ref a_t_label, .ref a_t_finds, .ref a_t_reason, .ref a_t_caseFirst, .int v_t_cases, .ref a_t_brief, .ref a_t_printed, .int v_t_printedSize, .ref a_t_renamed, .ref a_t_worth, .int v_t_lastReason])), (a_t_brief, .inl (cI, 8, .inl r_t_brief)), (a_t_caseFirst, .inl (cI, 32, .inl r_t_caseFirst)), (a_t_finds, .inl (cI, 32, .inl r_t_finds)), (a_t_label, .inl (cI, 32, .inl r_t_label)), (a_t_page, .inl (cI, 265, .inl r_t_page)), (a_t_reason, .inl (cI, 32, .inl r_t_reason)), (a_t_renamed, .inl (cI, 8, .inl r_t_renamed)), (a_t_trial, .inl (cI, 265, .inl r_t_trial)), (a_t_work, .inl (cI, 265, .inl r_t_work))] H) _ hS => ?_)
    refine lv_if_ne (tgt := 37) hx hb dX7_judge_31 (by decide) (fun c11 => ?_) (fun c11 => ?_)
    · have hf := pn_ifp c11 hf
      refine lv_aload_n hx hb dX7_judge_37 rfl (lv_at hl 0 rfl) ?_
      refine va_get (D := D) (ci := 6) (v := .ref a_t_trial) (C := RX7) (T := TX7) (N := 28) hx hb hts hinX7 hown hK.1 hP 0 rfl rfl 6 (by decide) fl_19 (fun _ h9 => h9) rfl dX7_judge_38 ?_
      refine lv_aload_n hx hb dX7_judge_41 rfl (lv_at hl 0 rfl) ?_
      refine va_get (D := D) (ci := 6) (v := .ref a_t_page) (C := RX7) (T := TX7) (N := 28) hx hb hts hinX7 hown hK.1 hP 0 rfl rfl 5 (by decide) fl_16 (fun _ h9 => h9) rfl dX7_judge_42 ?_
      obtain ⟨r_t_trial_u12, hu12, hf⟩ := pn_bd1_at hf
      refine pn_callv [8, 5] (va_runS (As := [.ref a_t_trial, .ref a_t_page]) (rest := []) ⟨hx, hb, hml, hown, hts⟩ (c_X7_lay l D cI cJ cZ a_t_trial a_t_page H.size N r_t_trial r_t_page r_t_trial_u12 hu12) (va_cwS 2 hts gX7_judge_X7_lay rfl rfl rfl hdX7_lay ⟨Nat.le_of_ble_eq_true rfl, Nat.le_of_ble_eq_true rfl⟩) (pn_preS [8, 5] hP (hD.addr rfl) hK rfl rfl) rfl rfl hl.1 rfl (lv_room (Nat.le_of_ble_eq_true rfl)) dX7_judge_45 ⟨Nat.zero_le _, Nat.zero_le _⟩) hP (hD.addr rfl) hS hA rfl rfl rfl (fun H locs (hP : va_P D vwCl [(a_t, .inr (6, [.int ((0 : Int32)), .ref a_t_text, .int v_t_textSize, .int v_t_place, .ref a_t_readPage, .ref a_t_page, .ref a_t_trial, .ref a_t_work, .ref a_t_book, .int v_t_doings, .ref a_t_kept, .ref a_t_isKept, .int v_t_seen, .ref a_t_seenWhat, .ref a_t_seenV, .ref a_t_seenIs, .long v_t_seed, .ref a_t_label, .ref a_t_finds, .ref a_t_reason, .ref a_t_caseFirst, .int v_t_cases, .ref a_t_brief, .ref a_t_printed, .int v_t_printedSize, .ref a_t_renamed, .ref a_t_worth, .int v_t_lastReason])), (a_t_brief, .inl (cI, 8, .inl r_t_brief)), (a_t_caseFirst, .inl (cI, 32, .inl r_t_caseFirst)), (a_t_finds, .inl (cI, 32, .inl r_t_finds)), (a_t_label, .inl (cI, 32, .inl r_t_label)), (a_t_page, .inl (cI, 265, .inl r_t_page)), (a_t_reason, .inl (cI, 32, .inl r_t_reason)), (a_t_renamed, .inl (cI, 8, .inl r_t_renamed)), (a_t_trial, .inl (cI, 265, .inl r_t_trial_u12)), (a_t_work, .inl (cI, 265, .inl r_t_work))] H) _ hS => ?_)
      refine lv_iconst (v := (0)) hx hb dX7_judge_48 (by decide) ?_
      refine lv_istore (lv' := [(4, .int (0 : Int32)), (0, .ref a_t), (1, .int p1), (2, .long p2)]) hx hb dX7_judge_49 hl (by decide) rfl (fun ls hl => ?_)
      obtain ⟨X51, hX51, hf⟩ := pn_bd1_at hf
      refine lp51 N (0 : Int32) (0 : Int32) v_t_cases v_t_lastReason r_t_brief r_t_caseFirst r_t_finds r_t_label r_t_reason r_t_renamed r_t_trial_u12 r_t_work X51 H locs ls hX51 hP hS (lv_sub hl [1, 2, 3, 0] rfl) ?_ ?_
      · intro x4_w13 v_t_cases_w13 v_t_lastReason_w13 r_t_brief_w13 r_t_caseFirst_w13 r_t_finds_w13 r_t_label_w13 r_t_reason_w13 r_t_renamed_w13 r_t_trial_w13 r_t_work_w13 H locs ls eX hP hS hl
        rw [eX] at hf
        have hf := pn_s2_l hf
        have hf := pn_u11_at hf
        refine lv_iload hx hb dX7_judge_83 (lv_at hl 0 rfl) ?_
        cases hf
        rw [hQ]
        exact pn_reti hx hb hr hlocks hP hS rfl dX7_judge_85
      · intro v_t_cases_w14 v_t_lastReason_w14 r_t_brief_w14 r_t_caseFirst_w14 r_t_finds_w14 r_t_label_w14 r_t_reason_w14 r_t_renamed_w14 r_t_trial_w14 r_t_work_w14 H locs ls eX hP hS hl
        rw [eX] at hf
        have hf := pn_s2_r hf
        have hf := pn_u10_at hf
        refine lv_bipush (v := (-9)) hx hb dX7_judge_92 (by decide) ?_
        cases hf
        rw [hQ]
        exact pn_reti hx hb hr hlocks hP hS rfl dX7_judge_94
    · have hf := pn_ifq c11 hf
      refine lv_bipush (v := (-2)) hx hb dX7_judge_34 (by decide) ?_
      cases hf
      rw [hQ]
      exact pn_reti hx hb hr hlocks hP hS rfl dX7_judge_36
def f_X7_see (v_t_thrown : Int32) (v_t_seen : Int32) (r_t_seenIs : Nat → Int32) (r_t_seenV : Nat → Int32) (r_t_seenWhat : Nat → Int32) (p1 : Int32) (p2 : Int32) (p3 : Int32) : Option (Int32 × Int32 × Int32 × (Nat → Int32) × (Nat → Int32) × (Nat → Int32)) :=
  pn_bd1 (f_X7_in p1.toInt64 (0 : Int64) (4 : Int64)) fun ru1 =>
  if ru1 = 0 then
  some ((-2 : Int32), (0 : Int32), v_t_seen, r_t_seenIs, r_t_seenV, r_t_seenWhat)
  else
  pn_bd1 (f_X7_in p2.toInt64 (0 : Int64) (9 : Int64)) fun ru3 =>
  if ru3 = 0 then
  some ((-2 : Int32), (0 : Int32), v_t_seen, r_t_seenIs, r_t_seenV, r_t_seenWhat)
  else
  pn_bd1 (f_X7_in p3.toInt64 (0 : Int64) (1 : Int64)) fun ru5 =>
  if ¬ ru5 = 0 then
  if ¬ v_t_seen = (6 : Int32) then
  pn_wrI 6 r_t_seenWhat v_t_seen p1 fun g8 =>
  pn_wrI 6 r_t_seenV v_t_seen p2 fun g10 =>
  pn_wrI 6 r_t_seenIs v_t_seen p3 fun g12 =>
  pn_nm (v_t_seen + (1 : Int32)) fun z14 =>
  some (z14, (0 : Int32), z14, g12, g10, g8)
  else
  some ((-4 : Int32), (0 : Int32), v_t_seen, r_t_seenIs, r_t_seenV, r_t_seenWhat)
  else
  some ((-2 : Int32), (0 : Int32), v_t_seen, r_t_seenIs, r_t_seenV, r_t_seenWhat)
set_option maxHeartbeats 4000000 in
set_option maxRecDepth 100000 in
theorem c_X7_see (l : Launch) (D : va_G) (cI cJ cZ : ClassId) (a_t a_t_text a_t_readPage a_t_page a_t_trial a_t_work a_t_book a_t_kept a_t_isKept a_t_seenWhat a_t_seenV a_t_seenIs a_t_label a_t_finds a_t_reason a_t_caseFirst a_t_brief a_t_printed a_t_renamed a_t_worth : Nat) (sz : Nat) (v_t_textSize : Int32) (v_t_place : Int32) (v_t_doings : Int32) (v_t_seed : Int64) (v_t_cases : Int32) (v_t_printedSize : Int32) (v_t_lastReason : Int32) (v_t_thrown : Int32) (v_t_seen : Int32) (r_t_seenIs : Nat → Int32) (r_t_seenV : Nat → Int32) (r_t_seenWhat : Nat → Int32) (p1 : Int32) (p2 : Int32) (p3 : Int32) (rR : Int32) (o_t_thrown : Int32) (o_t_seen : Int32) (o_t_seenIs : Nat → Int32) (o_t_seenV : Nat → Int32) (o_t_seenWhat : Nat → Int32) (hf : f_X7_see v_t_thrown v_t_seen r_t_seenIs r_t_seenV r_t_seenWhat p1 p2 p3 = some (rR, o_t_thrown, o_t_seen, o_t_seenIs, o_t_seenV, o_t_seenWhat)) : Met l yX7_see wsX7_see { frames := 1, cells := 0, slots := 0, locals := 25 } (pn_Pc D cI cJ cZ [.ref a_t, .int p1, .int p2, .int p3] [(a_t, .inr (6, [.int v_t_thrown, .ref a_t_text, .int v_t_textSize, .int v_t_place, .ref a_t_readPage, .ref a_t_page, .ref a_t_trial, .ref a_t_work, .ref a_t_book, .int v_t_doings, .ref a_t_kept, .ref a_t_isKept, .int v_t_seen, .ref a_t_seenWhat, .ref a_t_seenV, .ref a_t_seenIs, .long v_t_seed, .ref a_t_label, .ref a_t_finds, .ref a_t_reason, .ref a_t_caseFirst, .int v_t_cases, .ref a_t_brief, .ref a_t_printed, .int v_t_printedSize, .ref a_t_renamed, .ref a_t_worth, .int v_t_lastReason])), (a_t_seenIs, .inl (cI, 6, .inl r_t_seenIs)), (a_t_seenV, .inl (cI, 6, .inl r_t_seenV)), (a_t_seenWhat, .inl (cI, 6, .inl r_t_seenWhat))] sz) (pn_Qi D rR [(a_t, .inr (6, [.int o_t_thrown, .ref a_t_text, .int v_t_textSize, .int v_t_place, .ref a_t_readPage, .ref a_t_page, .ref a_t_trial, .ref a_t_work, .ref a_t_book, .int v_t_doings, .ref a_t_kept, .ref a_t_isKept, .int o_t_seen, .ref a_t_seenWhat, .ref a_t_seenV, .ref a_t_seenIs, .long v_t_seed, .ref a_t_label, .ref a_t_finds, .ref a_t_reason, .ref a_t_caseFirst, .int v_t_cases, .ref a_t_brief, .ref a_t_printed, .int v_t_printedSize, .ref a_t_renamed, .ref a_t_worth, .int v_t_lastReason])), (a_t_seenIs, .inl (cI, 6, .inl o_t_seenIs)), (a_t_seenV, .inl (cI, 6, .inl o_t_seenV)), (a_t_seenWhat, .inl (cI, 6, .inl o_t_seenWhat))] (va_A [(a_t, .inr (6, [.int v_t_thrown, .ref a_t_text, .int v_t_textSize, .int v_t_place, .ref a_t_readPage, .ref a_t_page, .ref a_t_trial, .ref a_t_work, .ref a_t_book, .int v_t_doings, .ref a_t_kept, .ref a_t_isKept, .int v_t_seen, .ref a_t_seenWhat, .ref a_t_seenV, .ref a_t_seenIs, .long v_t_seed, .ref a_t_label, .ref a_t_finds, .ref a_t_reason, .ref a_t_caseFirst, .int v_t_cases, .ref a_t_brief, .ref a_t_printed, .int v_t_printedSize, .ref a_t_renamed, .ref a_t_worth, .int v_t_lastReason])), (a_t_seenIs, .inl (cI, 6, .inl r_t_seenIs)), (a_t_seenV, .inl (cI, 6, .inl r_t_seenV)), (a_t_seenWhat, .inl (cI, 6, .inl r_t_seenWhat))] sz)) 0 0 (va_A [(a_t, .inr (6, [.int v_t_thrown, .ref a_t_text, .int v_t_textSize, .int v_t_place, .ref a_t_readPage, .ref a_t_page, .ref a_t_trial, .ref a_t_work, .ref a_t_book, .int v_t_doings, .ref a_t_kept, .ref a_t_isKept, .int v_t_seen, .ref a_t_seenWhat, .ref a_t_seenV, .ref a_t_seenIs, .long v_t_seed, .ref a_t_label, .ref a_t_finds, .ref a_t_reason, .ref a_t_caseFirst, .int v_t_cases, .ref a_t_brief, .ref a_t_printed, .int v_t_printedSize, .ref a_t_renamed, .ref a_t_worth, .int v_t_lastReason])), (a_t_seenIs, .inl (cI, 6, .inl r_t_seenIs)), (a_t_seenV, .inl (cI, 6, .inl r_t_seenV)), (a_t_seenWhat, .inl (cI, 6, .inl r_t_seenWhat))] sz) := by
  refine pn_entry (cc := cX7_see) (maxL := 4) (ret := (some .int)) (Qf := pn_Qi D rR [(a_t, .inr (6, [.int o_t_thrown, .ref a_t_text, .int v_t_textSize, .int v_t_place, .ref a_t_readPage, .ref a_t_page, .ref a_t_trial, .ref a_t_work, .ref a_t_book, .int v_t_doings, .ref a_t_kept, .ref a_t_isKept, .int o_t_seen, .ref a_t_seenWhat, .ref a_t_seenV, .ref a_t_seenIs, .long v_t_seed, .ref a_t_label, .ref a_t_finds, .ref a_t_reason, .ref a_t_caseFirst, .int v_t_cases, .ref a_t_brief, .ref a_t_printed, .int v_t_printedSize, .ref a_t_renamed, .ref a_t_worth, .int v_t_lastReason])), (a_t_seenIs, .inl (cI, 6, .inl o_t_seenIs)), (a_t_seenV, .inl (cI, 6, .inl o_t_seenV)), (a_t_seenWhat, .inl (cI, 6, .inl o_t_seenWhat))]) (by decide) rfl (Nat.le_of_ble_eq_true rfl) ?_
  intro p e s m args below meth c A ls H locs Qm hQ hx hb hr hlocks hml hown hts hK hP hD hA hS hl
  have hl : lv_has ls 4 [(0, .ref a_t), (1, .int p1), (2, .int p2), (3, .int p3)] := hl
  have hinX7 : ∀ w ∈ wsX70, w ∈ wsX7_see := by decide +kernel
  have fl_35 := hts (.fieldLink RX7 35 "PointingNotesModel" "seenWhat" "[I") (by decide +kernel)
  have fl_38 := hts (.fieldLink RX7 38 "PointingNotesModel" "seenV" "[I") (by decide +kernel)
  have fl_41 := hts (.fieldLink RX7 41 "PointingNotesModel" "seenIs" "[I") (by decide +kernel)
  have fl_68 := hts (.fieldLink RX7 68 "PointingNotesModel" "thrown" "I") (by decide +kernel)
  have fl_304 := hts (.fieldLink RX7 304 "PointingNotesModel" "seen" "I") (by decide +kernel)
  have kl_291 := hts (.constantLong RX7 291 (4)) (by decide +kernel)
  have kl_302 := hts (.constantLong RX7 302 (9)) (by decide +kernel)
  rw [f_X7_see] at hf
  refine lv_aload_n hx hb dX7_see_0 rfl (lv_at hl 0 rfl) ?_
  refine lv_iconst (v := (0)) hx hb dX7_see_1 (by decide) ?_
  refine va_put (D := D) (ci := 6) (v := .int (0 : Int32)) (ty := .int) (C := RX7) (T := TX7) (N := 28) hx hb hts hinX7 tyX7 tyX7_ok nmX7 hown hK.1 hP (hD.addr rfl) hS 0 rfl rfl 0 (by decide) fl_68 (fun _ h9 => h9) rfl (by decide +kernel) rfl rfl (Nat.le_of_ble_eq_true rfl) dX7_see_2 (fun H locs (hP : va_P D vwCl [(a_t, .inr (6, [.int ((0 : Int32)), .ref a_t_text, .int v_t_textSize, .int v_t_place, .ref a_t_readPage, .ref a_t_page, .ref a_t_trial, .ref a_t_work, .ref a_t_book, .int v_t_doings, .ref a_t_kept, .ref a_t_isKept, .int v_t_seen, .ref a_t_seenWhat, .ref a_t_seenV, .ref a_t_seenIs, .long v_t_seed, .ref a_t_label, .ref a_t_finds, .ref a_t_reason, .ref a_t_caseFirst, .int v_t_cases, .ref a_t_brief, .ref a_t_printed, .int v_t_printedSize, .ref a_t_renamed, .ref a_t_worth, .int v_t_lastReason])), (a_t_seenIs, .inl (cI, 6, .inl r_t_seenIs)), (a_t_seenV, .inl (cI, 6, .inl r_t_seenV)), (a_t_seenWhat, .inl (cI, 6, .inl r_t_seenWhat))] H) _ hS => ?_)
  refine lv_iload_n hx hb dX7_see_5 rfl (lv_at hl 1 rfl) ?_
  refine lv_i2l hx hb dX7_see_6 rfl ?_
  refine lv_lconst (v := 0) hx hb dX7_see_7 (by decide) ?_
  refine lv_ldc2 hx hb hown kl_291 dX7_see_8 ?_
  obtain ⟨ru1, hu1, hf⟩ := pn_bd1_at hf
  refine pn_calli [] (va_runS (As := [.long p1.toInt64, .long (0 : Int64), .long (4 : Int64)]) (rest := []) ⟨hx, hb, hml, hown, hts⟩ (c_X7_in l D cI cJ cZ H.size p1.toInt64 (0 : Int64) (4 : Int64) ru1 hu1) (va_cwS 3 hts gX7_see_X7_in rfl rfl rfl hdX7_in ⟨Nat.le_of_ble_eq_true rfl, Nat.le_of_ble_eq_true rfl⟩) (pn_preS [] hP (hD.addr rfl) hK rfl rfl) rfl rfl hl.1 rfl (lv_room (Nat.le_of_ble_eq_true rfl)) dX7_see_11 ⟨Nat.zero_le _, Nat.zero_le _⟩) hP (hD.addr rfl) hS hA rfl rfl rfl (fun H locs (hP : va_P D vwCl [(a_t, .inr (6, [.int ((0 : Int32)), .ref a_t_text, .int v_t_textSize, .int v_t_place, .ref a_t_readPage, .ref a_t_page, .ref a_t_trial, .ref a_t_work, .ref a_t_book, .int v_t_doings, .ref a_t_kept, .ref a_t_isKept, .int v_t_seen, .ref a_t_seenWhat, .ref a_t_seenV, .ref a_t_seenIs, .long v_t_seed, .ref a_t_label, .ref a_t_finds, .ref a_t_reason, .ref a_t_caseFirst, .int v_t_cases, .ref a_t_brief, .ref a_t_printed, .int v_t_printedSize, .ref a_t_renamed, .ref a_t_worth, .int v_t_lastReason])), (a_t_seenIs, .inl (cI, 6, .inl r_t_seenIs)), (a_t_seenV, .inl (cI, 6, .inl r_t_seenV)), (a_t_seenWhat, .inl (cI, 6, .inl r_t_seenWhat))] H) _ hS => ?_)
  refine lv_if_eq (tgt := 39) hx hb dX7_see_14 (by decide) (fun c2 => ?_) (fun c2 => ?_)
  · have hf := pn_ifp c2 hf
    refine lv_bipush (v := (-2)) hx hb dX7_see_39 (by decide) ?_
    cases hf
    rw [hQ]
    exact pn_reti hx hb hr hlocks hP hS rfl dX7_see_41
  · have hf := pn_ifn c2 hf
    refine lv_iload_n hx hb dX7_see_17 rfl (lv_at hl 2 rfl) ?_
    refine lv_i2l hx hb dX7_see_18 rfl ?_
    refine lv_lconst (v := 0) hx hb dX7_see_19 (by decide) ?_
    refine lv_ldc2 hx hb hown kl_302 dX7_see_20 ?_
    obtain ⟨ru3, hu3, hf⟩ := pn_bd1_at hf
    refine pn_calli [] (va_runS (As := [.long p2.toInt64, .long (0 : Int64), .long (9 : Int64)]) (rest := []) ⟨hx, hb, hml, hown, hts⟩ (c_X7_in l D cI cJ cZ H.size p2.toInt64 (0 : Int64) (9 : Int64) ru3 hu3) (va_cwS 3 hts gX7_see_X7_in rfl rfl rfl hdX7_in ⟨Nat.le_of_ble_eq_true rfl, Nat.le_of_ble_eq_true rfl⟩) (pn_preS [] hP (hD.addr rfl) hK rfl rfl) rfl rfl hl.1 rfl (lv_room (Nat.le_of_ble_eq_true rfl)) dX7_see_23 ⟨Nat.zero_le _, Nat.zero_le _⟩) hP (hD.addr rfl) hS hA rfl rfl rfl (fun H locs (hP : va_P D vwCl [(a_t, .inr (6, [.int ((0 : Int32)), .ref a_t_text, .int v_t_textSize, .int v_t_place, .ref a_t_readPage, .ref a_t_page, .ref a_t_trial, .ref a_t_work, .ref a_t_book, .int v_t_doings, .ref a_t_kept, .ref a_t_isKept, .int v_t_seen, .ref a_t_seenWhat, .ref a_t_seenV, .ref a_t_seenIs, .long v_t_seed, .ref a_t_label, .ref a_t_finds, .ref a_t_reason, .ref a_t_caseFirst, .int v_t_cases, .ref a_t_brief, .ref a_t_printed, .int v_t_printedSize, .ref a_t_renamed, .ref a_t_worth, .int v_t_lastReason])), (a_t_seenIs, .inl (cI, 6, .inl r_t_seenIs)), (a_t_seenV, .inl (cI, 6, .inl r_t_seenV)), (a_t_seenWhat, .inl (cI, 6, .inl r_t_seenWhat))] H) _ hS => ?_)
    refine lv_if_eq (tgt := 39) hx hb dX7_see_26 (by decide) (fun c4 => ?_) (fun c4 => ?_)
    · have hf := pn_ifp c4 hf
      refine lv_bipush (v := (-2)) hx hb dX7_see_39 (by decide) ?_
      cases hf
      rw [hQ]
      exact pn_reti hx hb hr hlocks hP hS rfl dX7_see_41
    · have hf := pn_ifn c4 hf
      refine lv_iload_n hx hb dX7_see_29 rfl (lv_at hl 3 rfl) ?_
      refine lv_i2l hx hb dX7_see_30 rfl ?_
      refine lv_lconst (v := 0) hx hb dX7_see_31 (by decide) ?_
      refine lv_lconst (v := 1) hx hb dX7_see_32 (by decide) ?_
      obtain ⟨ru5, hu5, hf⟩ := pn_bd1_at hf
      refine pn_calli [] (va_runS (As := [.long p3.toInt64, .long (0 : Int64), .long (1 : Int64)]) (rest := []) ⟨hx, hb, hml, hown, hts⟩ (c_X7_in l D cI cJ cZ H.size p3.toInt64 (0 : Int64) (1 : Int64) ru5 hu5) (va_cwS 3 hts gX7_see_X7_in rfl rfl rfl hdX7_in ⟨Nat.le_of_ble_eq_true rfl, Nat.le_of_ble_eq_true rfl⟩) (pn_preS [] hP (hD.addr rfl) hK rfl rfl) rfl rfl hl.1 rfl (lv_room (Nat.le_of_ble_eq_true rfl)) dX7_see_33 ⟨Nat.zero_le _, Nat.zero_le _⟩) hP (hD.addr rfl) hS hA rfl rfl rfl (fun H locs (hP : va_P D vwCl [(a_t, .inr (6, [.int ((0 : Int32)), .ref a_t_text, .int v_t_textSize, .int v_t_place, .ref a_t_readPage, .ref a_t_page, .ref a_t_trial, .ref a_t_work, .ref a_t_book, .int v_t_doings, .ref a_t_kept, .ref a_t_isKept, .int v_t_seen, .ref a_t_seenWhat, .ref a_t_seenV, .ref a_t_seenIs, .long v_t_seed, .ref a_t_label, .ref a_t_finds, .ref a_t_reason, .ref a_t_caseFirst, .int v_t_cases, .ref a_t_brief, .ref a_t_printed, .int v_t_printedSize, .ref a_t_renamed, .ref a_t_worth, .int v_t_lastReason])), (a_t_seenIs, .inl (cI, 6, .inl r_t_seenIs)), (a_t_seenV, .inl (cI, 6, .inl r_t_seenV)), (a_t_seenWhat, .inl (cI, 6, .inl r_t_seenWhat))] H) _ hS => ?_)
      refine lv_if_ne (tgt := 42) hx hb dX7_see_36 (by decide) (fun c6 => ?_) (fun c6 => ?_)
      · have hf := pn_ifp c6 hf
        refine lv_aload_n hx hb dX7_see_42 rfl (lv_at hl 0 rfl) ?_
        refine va_get (D := D) (ci := 6) (v := .int v_t_seen) (C := RX7) (T := TX7) (N := 28) hx hb hts hinX7 hown hK.1 hP 0 rfl rfl 12 (by decide) fl_304 (fun _ h9 => h9) rfl dX7_see_43 ?_
        refine lv_bipush (v := (6)) hx hb dX7_see_46 (by decide) ?_
        refine lv_icmp_ne (tgt := 54) hx hb dX7_see_48 (by decide) (fun c7 => ?_) (fun c7 => ?_)
        · have hf := pn_ifp c7 hf
          refine lv_aload_n hx hb dX7_see_54 rfl (lv_at hl 0 rfl) ?_
          refine va_get (D := D) (ci := 6) (v := .ref a_t_seenWhat) (C := RX7) (T := TX7) (N := 28) hx hb hts hinX7 hown hK.1 hP 0 rfl rfl 13 (by decide) fl_35 (fun _ h9 => h9) rfl dX7_see_55 ?_
          refine lv_aload_n hx hb dX7_see_58 rfl (lv_at hl 0 rfl) ?_
          refine va_get (D := D) (ci := 6) (v := .int v_t_seen) (C := RX7) (T := TX7) (N := 28) hx hb hts hinX7 hown hK.1 hP 0 rfl rfl 12 (by decide) fl_304 (fun _ h9 => h9) rfl dX7_see_59 ?_
          refine lv_iload_n hx hb dX7_see_62 rfl (lv_at hl 1 rfl) ?_
          obtain ⟨hi9, g8, eg8, hf⟩ := pn_wrI_at hf
          refine pn_stI hx hb hK.1 hP (hD.addr rfl) hS 3 0 rfl rfl hi9 eg8 dX7_see_63 (fun H locs (hP : va_P D vwCl [(a_t, .inr (6, [.int ((0 : Int32)), .ref a_t_text, .int v_t_textSize, .int v_t_place, .ref a_t_readPage, .ref a_t_page, .ref a_t_trial, .ref a_t_work, .ref a_t_book, .int v_t_doings, .ref a_t_kept, .ref a_t_isKept, .int v_t_seen, .ref a_t_seenWhat, .ref a_t_seenV, .ref a_t_seenIs, .long v_t_seed, .ref a_t_label, .ref a_t_finds, .ref a_t_reason, .ref a_t_caseFirst, .int v_t_cases, .ref a_t_brief, .ref a_t_printed, .int v_t_printedSize, .ref a_t_renamed, .ref a_t_worth, .int v_t_lastReason])), (a_t_seenIs, .inl (cI, 6, .inl r_t_seenIs)), (a_t_seenV, .inl (cI, 6, .inl r_t_seenV)), (a_t_seenWhat, .inl (cI, 6, .inl g8))] H) _ hS => ?_)
          refine lv_aload_n hx hb dX7_see_64 rfl (lv_at hl 0 rfl) ?_
          refine va_get (D := D) (ci := 6) (v := .ref a_t_seenV) (C := RX7) (T := TX7) (N := 28) hx hb hts hinX7 hown hK.1 hP 0 rfl rfl 14 (by decide) fl_38 (fun _ h9 => h9) rfl dX7_see_65 ?_
          refine lv_aload_n hx hb dX7_see_68 rfl (lv_at hl 0 rfl) ?_
          refine va_get (D := D) (ci := 6) (v := .int v_t_seen) (C := RX7) (T := TX7) (N := 28) hx hb hts hinX7 hown hK.1 hP 0 rfl rfl 12 (by decide) fl_304 (fun _ h9 => h9) rfl dX7_see_69 ?_
          refine lv_iload_n hx hb dX7_see_72 rfl (lv_at hl 2 rfl) ?_
          obtain ⟨hi11, g10, eg10, hf⟩ := pn_wrI_at hf
          refine pn_stI hx hb hK.1 hP (hD.addr rfl) hS 2 0 rfl rfl hi11 eg10 dX7_see_73 (fun H locs (hP : va_P D vwCl [(a_t, .inr (6, [.int ((0 : Int32)), .ref a_t_text, .int v_t_textSize, .int v_t_place, .ref a_t_readPage, .ref a_t_page, .ref a_t_trial, .ref a_t_work, .ref a_t_book, .int v_t_doings, .ref a_t_kept, .ref a_t_isKept, .int v_t_seen, .ref a_t_seenWhat, .ref a_t_seenV, .ref a_t_seenIs, .long v_t_seed, .ref a_t_label, .ref a_t_finds, .ref a_t_reason, .ref a_t_caseFirst, .int v_t_cases, .ref a_t_brief, .ref a_t_printed, .int v_t_printedSize, .ref a_t_renamed, .ref a_t_worth, .int v_t_lastReason])), (a_t_seenIs, .inl (cI, 6, .inl r_t_seenIs)), (a_t_seenV, .inl (cI, 6, .inl g10)), (a_t_seenWhat, .inl (cI, 6, .inl g8))] H) _ hS => ?_)
          refine lv_aload_n hx hb dX7_see_74 rfl (lv_at hl 0 rfl) ?_
          refine va_get (D := D) (ci := 6) (v := .ref a_t_seenIs) (C := RX7) (T := TX7) (N := 28) hx hb hts hinX7 hown hK.1 hP 0 rfl rfl 15 (by decide) fl_41 (fun _ h9 => h9) rfl dX7_see_75 ?_
          refine lv_aload_n hx hb dX7_see_78 rfl (lv_at hl 0 rfl) ?_
          refine va_get (D := D) (ci := 6) (v := .int v_t_seen) (C := RX7) (T := TX7) (N := 28) hx hb hts hinX7 hown hK.1 hP 0 rfl rfl 12 (by decide) fl_304 (fun _ h9 => h9) rfl dX7_see_79 ?_
          refine lv_iload_n hx hb dX7_see_82 rfl (lv_at hl 3 rfl) ?_
          obtain ⟨hi13, g12, eg12, hf⟩ := pn_wrI_at hf
          refine pn_stI hx hb hK.1 hP (hD.addr rfl) hS 1 0 rfl rfl hi13 eg12 dX7_see_83 (fun H locs (hP : va_P D vwCl [(a_t, .inr (6, [.int ((0 : Int32)), .ref a_t_text, .int v_t_textSize, .int v_t_place, .ref a_t_readPage, .ref a_t_page, .ref a_t_trial, .ref a_t_work, .ref a_t_book, .int v_t_doings, .ref a_t_kept, .ref a_t_isKept, .int v_t_seen, .ref a_t_seenWhat, .ref a_t_seenV, .ref a_t_seenIs, .long v_t_seed, .ref a_t_label, .ref a_t_finds, .ref a_t_reason, .ref a_t_caseFirst, .int v_t_cases, .ref a_t_brief, .ref a_t_printed, .int v_t_printedSize, .ref a_t_renamed, .ref a_t_worth, .int v_t_lastReason])), (a_t_seenIs, .inl (cI, 6, .inl g12)), (a_t_seenV, .inl (cI, 6, .inl g10)), (a_t_seenWhat, .inl (cI, 6, .inl g8))] H) _ hS => ?_)
          refine lv_aload_n hx hb dX7_see_84 rfl (lv_at hl 0 rfl) ?_
          refine lv_dup hx hb dX7_see_85 rfl ?_
          refine va_get (D := D) (ci := 6) (v := .int v_t_seen) (C := RX7) (T := TX7) (N := 28) hx hb hts hinX7 hown hK.1 hP 0 rfl rfl 12 (by decide) fl_304 (fun _ h9 => h9) rfl dX7_see_86 ?_
          refine lv_iconst (v := (1)) hx hb dX7_see_89 (by decide) ?_
          refine lv_iadd hx hb dX7_see_90 ?_
          refine lv_topi (fun z14 ez14 => ?_)
          have hf := pn_nm_at ez14 hf
          refine va_put (D := D) (ci := 6) (v := .int z14) (ty := .int) (C := RX7) (T := TX7) (N := 28) hx hb hts hinX7 tyX7 tyX7_ok nmX7 hown hK.1 hP (hD.addr rfl) hS 0 rfl rfl 12 (by decide) fl_304 (fun _ h9 => h9) rfl (by decide +kernel) rfl rfl (Nat.le_of_ble_eq_true rfl) dX7_see_91 (fun H locs (hP : va_P D vwCl [(a_t, .inr (6, [.int ((0 : Int32)), .ref a_t_text, .int v_t_textSize, .int v_t_place, .ref a_t_readPage, .ref a_t_page, .ref a_t_trial, .ref a_t_work, .ref a_t_book, .int v_t_doings, .ref a_t_kept, .ref a_t_isKept, .int z14, .ref a_t_seenWhat, .ref a_t_seenV, .ref a_t_seenIs, .long v_t_seed, .ref a_t_label, .ref a_t_finds, .ref a_t_reason, .ref a_t_caseFirst, .int v_t_cases, .ref a_t_brief, .ref a_t_printed, .int v_t_printedSize, .ref a_t_renamed, .ref a_t_worth, .int v_t_lastReason])), (a_t_seenIs, .inl (cI, 6, .inl g12)), (a_t_seenV, .inl (cI, 6, .inl g10)), (a_t_seenWhat, .inl (cI, 6, .inl g8))] H) _ hS => ?_)
          refine lv_aload_n hx hb dX7_see_94 rfl (lv_at hl 0 rfl) ?_
          refine va_get (D := D) (ci := 6) (v := .int z14) (C := RX7) (T := TX7) (N := 28) hx hb hts hinX7 hown hK.1 hP 0 rfl rfl 12 (by decide) fl_304 (fun _ h9 => h9) rfl dX7_see_95 ?_
          cases hf
          rw [hQ]
          exact pn_reti hx hb hr hlocks hP hS rfl dX7_see_98
        · have hf := pn_ifq c7 hf
          refine lv_bipush (v := (-4)) hx hb dX7_see_51 (by decide) ?_
          cases hf
          rw [hQ]
          exact pn_reti hx hb hr hlocks hP hS rfl dX7_see_53
      · have hf := pn_ifq c6 hf
        refine lv_bipush (v := (-2)) hx hb dX7_see_39 (by decide) ?_
        cases hf
        rw [hQ]
        exact pn_reti hx hb hr hlocks hP hS rfl dX7_see_41
def f_X7_unsee (v_t_thrown : Int32) (v_t_seen : Int32) : Option (Int32 × Int32 × Int32) :=
  some (v_t_seen, (0 : Int32), (0 : Int32))
set_option maxHeartbeats 4000000 in
set_option maxRecDepth 100000 in
theorem c_X7_unsee (l : Launch) (D : va_G) (cI cJ cZ : ClassId) (a_t a_t_text a_t_readPage a_t_page a_t_trial a_t_work a_t_book a_t_kept a_t_isKept a_t_seenWhat a_t_seenV a_t_seenIs a_t_label a_t_finds a_t_reason a_t_caseFirst a_t_brief a_t_printed a_t_renamed a_t_worth : Nat) (sz : Nat) (v_t_textSize : Int32) (v_t_place : Int32) (v_t_doings : Int32) (v_t_seed : Int64) (v_t_cases : Int32) (v_t_printedSize : Int32) (v_t_lastReason : Int32) (v_t_thrown : Int32) (v_t_seen : Int32) (rR : Int32) (o_t_thrown : Int32) (o_t_seen : Int32) (hf : f_X7_unsee v_t_thrown v_t_seen = some (rR, o_t_thrown, o_t_seen)) : Met l yX7_unsee wsX7_unsee { frames := 0, cells := 0, slots := 0, locals := 0 } (pn_Pc D cI cJ cZ [.ref a_t] [(a_t, .inr (6, [.int v_t_thrown, .ref a_t_text, .int v_t_textSize, .int v_t_place, .ref a_t_readPage, .ref a_t_page, .ref a_t_trial, .ref a_t_work, .ref a_t_book, .int v_t_doings, .ref a_t_kept, .ref a_t_isKept, .int v_t_seen, .ref a_t_seenWhat, .ref a_t_seenV, .ref a_t_seenIs, .long v_t_seed, .ref a_t_label, .ref a_t_finds, .ref a_t_reason, .ref a_t_caseFirst, .int v_t_cases, .ref a_t_brief, .ref a_t_printed, .int v_t_printedSize, .ref a_t_renamed, .ref a_t_worth, .int v_t_lastReason]))] sz) (pn_Qi D rR [(a_t, .inr (6, [.int o_t_thrown, .ref a_t_text, .int v_t_textSize, .int v_t_place, .ref a_t_readPage, .ref a_t_page, .ref a_t_trial, .ref a_t_work, .ref a_t_book, .int v_t_doings, .ref a_t_kept, .ref a_t_isKept, .int o_t_seen, .ref a_t_seenWhat, .ref a_t_seenV, .ref a_t_seenIs, .long v_t_seed, .ref a_t_label, .ref a_t_finds, .ref a_t_reason, .ref a_t_caseFirst, .int v_t_cases, .ref a_t_brief, .ref a_t_printed, .int v_t_printedSize, .ref a_t_renamed, .ref a_t_worth, .int v_t_lastReason]))] (va_A [(a_t, .inr (6, [.int v_t_thrown, .ref a_t_text, .int v_t_textSize, .int v_t_place, .ref a_t_readPage, .ref a_t_page, .ref a_t_trial, .ref a_t_work, .ref a_t_book, .int v_t_doings, .ref a_t_kept, .ref a_t_isKept, .int v_t_seen, .ref a_t_seenWhat, .ref a_t_seenV, .ref a_t_seenIs, .long v_t_seed, .ref a_t_label, .ref a_t_finds, .ref a_t_reason, .ref a_t_caseFirst, .int v_t_cases, .ref a_t_brief, .ref a_t_printed, .int v_t_printedSize, .ref a_t_renamed, .ref a_t_worth, .int v_t_lastReason]))] sz)) 0 0 (va_A [(a_t, .inr (6, [.int v_t_thrown, .ref a_t_text, .int v_t_textSize, .int v_t_place, .ref a_t_readPage, .ref a_t_page, .ref a_t_trial, .ref a_t_work, .ref a_t_book, .int v_t_doings, .ref a_t_kept, .ref a_t_isKept, .int v_t_seen, .ref a_t_seenWhat, .ref a_t_seenV, .ref a_t_seenIs, .long v_t_seed, .ref a_t_label, .ref a_t_finds, .ref a_t_reason, .ref a_t_caseFirst, .int v_t_cases, .ref a_t_brief, .ref a_t_printed, .int v_t_printedSize, .ref a_t_renamed, .ref a_t_worth, .int v_t_lastReason]))] sz) := by
  refine pn_entry (cc := cX7_unsee) (maxL := 2) (ret := (some .int)) (Qf := pn_Qi D rR [(a_t, .inr (6, [.int o_t_thrown, .ref a_t_text, .int v_t_textSize, .int v_t_place, .ref a_t_readPage, .ref a_t_page, .ref a_t_trial, .ref a_t_work, .ref a_t_book, .int v_t_doings, .ref a_t_kept, .ref a_t_isKept, .int o_t_seen, .ref a_t_seenWhat, .ref a_t_seenV, .ref a_t_seenIs, .long v_t_seed, .ref a_t_label, .ref a_t_finds, .ref a_t_reason, .ref a_t_caseFirst, .int v_t_cases, .ref a_t_brief, .ref a_t_printed, .int v_t_printedSize, .ref a_t_renamed, .ref a_t_worth, .int v_t_lastReason]))]) (by decide) rfl (Nat.le_of_ble_eq_true rfl) ?_
  intro p e s m args below meth c A ls H locs Qm hQ hx hb hr hlocks hml hown hts hK hP hD hA hS hl
  have hl : lv_has ls 2 [(0, .ref a_t)] := hl
  have hinX7 : ∀ w ∈ wsX70, w ∈ wsX7_unsee := by decide +kernel
  have fl_68 := hts (.fieldLink RX7 68 "PointingNotesModel" "thrown" "I") (by decide +kernel)
  have fl_304 := hts (.fieldLink RX7 304 "PointingNotesModel" "seen" "I") (by decide +kernel)
  rw [f_X7_unsee] at hf
  refine lv_aload_n hx hb dX7_unsee_0 rfl (lv_at hl 0 rfl) ?_
  refine lv_iconst (v := (0)) hx hb dX7_unsee_1 (by decide) ?_
  refine va_put (D := D) (ci := 6) (v := .int (0 : Int32)) (ty := .int) (C := RX7) (T := TX7) (N := 28) hx hb hts hinX7 tyX7 tyX7_ok nmX7 hown hK.1 hP (hD.addr rfl) hS 0 rfl rfl 0 (by decide) fl_68 (fun _ h9 => h9) rfl (by decide +kernel) rfl rfl (Nat.le_of_ble_eq_true rfl) dX7_unsee_2 (fun H locs (hP : va_P D vwCl [(a_t, .inr (6, [.int ((0 : Int32)), .ref a_t_text, .int v_t_textSize, .int v_t_place, .ref a_t_readPage, .ref a_t_page, .ref a_t_trial, .ref a_t_work, .ref a_t_book, .int v_t_doings, .ref a_t_kept, .ref a_t_isKept, .int v_t_seen, .ref a_t_seenWhat, .ref a_t_seenV, .ref a_t_seenIs, .long v_t_seed, .ref a_t_label, .ref a_t_finds, .ref a_t_reason, .ref a_t_caseFirst, .int v_t_cases, .ref a_t_brief, .ref a_t_printed, .int v_t_printedSize, .ref a_t_renamed, .ref a_t_worth, .int v_t_lastReason]))] H) _ hS => ?_)
  refine lv_aload_n hx hb dX7_unsee_5 rfl (lv_at hl 0 rfl) ?_
  refine va_get (D := D) (ci := 6) (v := .int v_t_seen) (C := RX7) (T := TX7) (N := 28) hx hb hts hinX7 hown hK.1 hP 0 rfl rfl 12 (by decide) fl_304 (fun _ h9 => h9) rfl dX7_unsee_6 ?_
  refine lv_istore_n (lv' := [(1, .int v_t_seen), (0, .ref a_t)]) hx hb dX7_unsee_9 rfl hl (by decide) rfl (fun ls hl => ?_)
  refine lv_aload_n hx hb dX7_unsee_10 rfl (lv_at hl 1 rfl) ?_
  refine lv_iconst (v := (0)) hx hb dX7_unsee_11 (by decide) ?_
  refine va_put (D := D) (ci := 6) (v := .int (0 : Int32)) (ty := .int) (C := RX7) (T := TX7) (N := 28) hx hb hts hinX7 tyX7 tyX7_ok nmX7 hown hK.1 hP (hD.addr rfl) hS 0 rfl rfl 12 (by decide) fl_304 (fun _ h9 => h9) rfl (by decide +kernel) rfl rfl (Nat.le_of_ble_eq_true rfl) dX7_unsee_12 (fun H locs (hP : va_P D vwCl [(a_t, .inr (6, [.int ((0 : Int32)), .ref a_t_text, .int v_t_textSize, .int v_t_place, .ref a_t_readPage, .ref a_t_page, .ref a_t_trial, .ref a_t_work, .ref a_t_book, .int v_t_doings, .ref a_t_kept, .ref a_t_isKept, .int ((0 : Int32)), .ref a_t_seenWhat, .ref a_t_seenV, .ref a_t_seenIs, .long v_t_seed, .ref a_t_label, .ref a_t_finds, .ref a_t_reason, .ref a_t_caseFirst, .int v_t_cases, .ref a_t_brief, .ref a_t_printed, .int v_t_printedSize, .ref a_t_renamed, .ref a_t_worth, .int v_t_lastReason]))] H) _ hS => ?_)
  refine lv_iload_n hx hb dX7_unsee_15 rfl (lv_at hl 0 rfl) ?_
  cases hf
  rw [hQ]
  exact pn_reti hx hb hr hlocks hP hS rfl dX7_unsee_16
