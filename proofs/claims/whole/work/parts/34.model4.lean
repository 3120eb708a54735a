theorem hdX7_shorten : yX7_shorten.cls = RX7 ∧ yX7_shorten.cls ≠ "java/lang/invoke/MethodHandle" ∧ yX7_shorten.cls ≠ "java/lang/invoke/VarHandle" ∧ (parseMethodDescriptor yX7_shorten.desc).map (fun d => d.parameters.length) = some 2 := by decide +kernel
theorem hdX7_briefLetters : yX7_briefLetters.cls = RX7 ∧ yX7_briefLetters.cls ≠ "java/lang/invoke/MethodHandle" ∧ yX7_briefLetters.cls ≠ "java/lang/invoke/VarHandle" ∧ (parseMethodDescriptor yX7_briefLetters.desc).map (fun d => d.parameters.length) = some 0 := by decide +kernel
theorem hdX7_shorter : yX7_shorter.cls = RX7 ∧ yX7_shorter.cls ≠ "java/lang/invoke/MethodHandle" ∧ yX7_shorter.cls ≠ "java/lang/invoke/VarHandle" ∧ (parseMethodDescriptor yX7_shorter.desc).map (fun d => d.parameters.length) = some 3 := by decide +kernel
theorem hdX7_out : yX7_out.cls = RX7 ∧ yX7_out.cls ≠ "java/lang/invoke/MethodHandle" ∧ yX7_out.cls ≠ "java/lang/invoke/VarHandle" ∧ (parseMethodDescriptor yX7_out.desc).map (fun d => d.parameters.length) = some 1 := by decide +kernel
theorem hdX7_outPage : yX7_outPage.cls = RX7 ∧ yX7_outPage.cls ≠ "java/lang/invoke/MethodHandle" ∧ yX7_outPage.cls ≠ "java/lang/invoke/VarHandle" ∧ (parseMethodDescriptor yX7_outPage.desc).map (fun d => d.parameters.length) = some 1 := by decide +kernel
theorem hdX7_outReport : yX7_outReport.cls = RX7 ∧ yX7_outReport.cls ≠ "java/lang/invoke/MethodHandle" ∧ yX7_outReport.cls ≠ "java/lang/invoke/VarHandle" ∧ (parseMethodDescriptor yX7_outReport.desc).map (fun d => d.parameters.length) = some 1 := by decide +kernel
theorem hdX7_outBrief : yX7_outBrief.cls = RX7 ∧ yX7_outBrief.cls ≠ "java/lang/invoke/MethodHandle" ∧ yX7_outBrief.cls ≠ "java/lang/invoke/VarHandle" ∧ (parseMethodDescriptor yX7_outBrief.desc).map (fun d => d.parameters.length) = some 0 := by decide +kernel
theorem hdX7_layPrinted : yX7_layPrinted.cls = RX7 ∧ yX7_layPrinted.cls ≠ "java/lang/invoke/MethodHandle" ∧ yX7_layPrinted.cls ≠ "java/lang/invoke/VarHandle" ∧ (parseMethodDescriptor yX7_layPrinted.desc).map (fun d => d.parameters.length) = some 1 := by decide +kernel
theorem hdX7_print : yX7_print.cls = RX7 ∧ yX7_print.cls ≠ "java/lang/invoke/MethodHandle" ∧ yX7_print.cls ≠ "java/lang/invoke/VarHandle" ∧ (parseMethodDescriptor yX7_print.desc).map (fun d => d.parameters.length) = some 2 := by decide +kernel
def lp_X7_shorten_2 (r_q1 : Nat → Int32) (p2 : Int32) : Nat → Int32 → (Nat → Int32) → Option ((Nat → Int32))
  | 0, _, _ => none
  | n + 1, x3, r_t_brief =>
    if (8 : Int32) ≤ x3 then
  some r_t_brief
  else
  pn_bd1 (f_X7_ref r_q1 p2 x3) fun ru2 =>
  pn_wrI 8 r_t_brief x3 ru2 fun g3 =>
  pn_nm (x3 + (1 : Int32)) fun z5 =>
  lp_X7_shorten_2 r_q1 p2 n z5 g3
def lp_X7_shorten_113 (N : Nat) (v_t_cases : Int32) (r_t_caseFirst : Nat → Int32) (r_t_finds : Nat → Int32) (r_q1 : Nat → Int32) (p2 : Int32) (x3 : Int32) (x4 : Int32) (x5 : Int32) : Nat → Int32 → Int32 → Option ((Int32 × Int32) ⊕ Int32)
  | 0, _, _ => none
  | n + 1, x6, v_t_lastReason =>
    if (p2 / (4 : Int32)) ≤ x6 then
  some (.inr v_t_lastReason)
  else
  pn_bd2 (f_X7_told N v_t_cases v_t_lastReason r_t_caseFirst r_t_finds r_q1 x4 p2 (3 : Int32) x5 x6) fun ru7 v_t_lastReason_u7 =>
  if ¬ ru7 = x3 then
  pn_nm (x6 + (1 : Int32)) fun z9 =>
  lp_X7_shorten_113 N v_t_cases r_t_caseFirst r_t_finds r_q1 p2 x3 x4 x5 n z9 v_t_lastReason_u7
  else
  some (.inl (x6, v_t_lastReason_u7))
def f_X7_shorten (N : Nat) (v_t_cases : Int32) (v_t_lastReason : Int32) (r_t_brief : Nat → Int32) (r_t_caseFirst : Nat → Int32) (r_t_finds : Nat → Int32) (r_q1 : Nat → Int32) (p2 : Int32) : Option (Int32 × (Nat → Int32)) :=
  pn_bd1 (lp_X7_shorten_2 r_q1 p2 N (0 : Int32) r_t_brief) (fun X2 => (pn_u1 fun r_t_brief_w10 => pn_rd 32 r_t_finds p2 fun w11 =>
  if w11 = (-9 : Int32) then
  some (v_t_lastReason, r_t_brief_w10)
  else
  pn_bd1 (f_X7_stays N r_q1 p2) fun ru14 =>
  if ru14 = 0 then
  pn_bd1 (f_X7_allNotes r_q1) fun ru16 =>
  pn_bd1 (f_X7_initial r_t_caseFirst r_q1 w11) fun ru17 =>
  pn_bd2 (f_X7_told N v_t_cases v_t_lastReason r_t_caseFirst r_t_finds r_q1 ru16 p2 (2 : Int32) (0 : Int32) (0 : Int32)) fun ru18 v_t_lastReason_u18 =>
  if ¬ ru18 = w11 then
  pn_bd2 (f_X7_told N v_t_cases v_t_lastReason_u18 r_t_caseFirst r_t_finds r_q1 ru16 p2 (1 : Int32) ru17 (0 : Int32)) fun ru20 v_t_lastReason_u20 =>
  if ¬ ru20 = w11 then
  pn_bd1 (lp_X7_shorten_113 N v_t_cases r_t_caseFirst r_t_finds r_q1 p2 w11 ru16 ru17 N (0 : Int32) v_t_lastReason_u20) (fun X113 => pn_s2 X113 (pn_u2 fun x6_w22 v_t_lastReason_w22 => pn_bd1 (f_X7_layBrief r_t_brief_w10 (3 : Int32) ru17 x6_w22) fun r_t_brief_u23 =>
  some (v_t_lastReason_w22, r_t_brief_u23)) (fun Y113_0 => (pn_u1 fun v_t_lastReason_w24 => pn_bd1 (f_X7_laySpelled N r_t_brief_w10 r_t_caseFirst r_q1 w11) fun r_t_brief_u25 =>
  some (v_t_lastReason_w24, r_t_brief_u25)) Y113_0))
  else
  pn_bd1 (f_X7_layBrief r_t_brief_w10 (1 : Int32) ru17 (0 : Int32)) fun r_t_brief_u26 =>
  some (v_t_lastReason_u20, r_t_brief_u26)
  else
  pn_bd1 (f_X7_layBrief r_t_brief_w10 (2 : Int32) (0 : Int32) (0 : Int32)) fun r_t_brief_u27 =>
  some (v_t_lastReason_u18, r_t_brief_u27)
  else
  some (v_t_lastReason, r_t_brief_w10)) X2)
set_option maxHeartbeats 4000000 in
set_option maxRecDepth 100000 in
theorem c_X7_shorten (l : Launch) (D : va_G) (cI cJ cZ : ClassId) (a_t a_t_text a_t_readPage a_t_page a_t_trial a_t_work a_t_book a_t_kept a_t_isKept a_t_seenWhat a_t_seenV a_t_seenIs a_t_label a_t_finds a_t_reason a_t_caseFirst a_t_brief a_t_printed a_t_renamed a_t_worth a_q1 : Nat) (sz : Nat) (v_t_thrown : Int32) (v_t_textSize : Int32) (v_t_place : Int32) (v_t_doings : Int32) (v_t_seen : Int32) (v_t_seed : Int64) (v_t_printedSize : Int32) (N : Nat) (v_t_cases : Int32) (v_t_lastReason : Int32) (r_t_brief : Nat → Int32) (r_t_caseFirst : Nat → Int32) (r_t_finds : Nat → Int32) (r_q1 : Nat → Int32) (p2 : Int32) (o_t_lastReason : Int32) (o_t_brief : Nat → Int32) (hf : f_X7_shorten N v_t_cases v_t_lastReason r_t_brief r_t_caseFirst r_t_finds r_q1 p2 = some (o_t_lastReason, o_t_brief)) : Met l yX7_shorten wsX7_shorten { frames := 5, cells := 0, slots := 0, locals := 124 } (pn_Pc D cI cJ cZ [.ref a_t, .ref a_q1, .int p2] [(a_t, .inr (6, [.int v_t_thrown, .ref a_t_text, .int v_t_textSize, .int v_t_place, .ref a_t_readPage, .ref a_t_page, .ref a_t_trial, .ref a_t_work, .ref a_t_book, .int v_t_doings, .ref a_t_kept, .ref a_t_isKept, .int v_t_seen, .ref a_t_seenWhat, .ref a_t_seenV, .ref a_t_seenIs, .long v_t_seed, .ref a_t_label, .ref a_t_finds, .ref a_t_reason, .ref a_t_caseFirst, .int v_t_cases, .ref a_t_brief, .ref a_t_printed, .int v_t_printedSize, .ref a_t_renamed, .ref a_t_worth, .int v_t_lastReason])), (a_t_brief, .inl (cI, 8, .inl r_t_brief)), (a_t_caseFirst, .inl (cI, 32, .inl r_t_caseFirst)), (a_t_finds, .inl (cI, 32, .inl r_t_finds)), (a_q1, .inl (cI, 265, .inl r_q1))] sz) (pn_Qv D [(a_t, .inr (6, [.int v_t_thrown, .ref a_t_text, .int v_t_textSize, .int v_t_place, .ref a_t_readPage, .ref a_t_page, .ref a_t_trial, .ref a_t_work, .ref a_t_book, .int v_t_doings, .ref a_t_kept, .ref a_t_isKept, .int v_t_seen, .ref a_t_seenWhat, .ref a_t_seenV, .ref a_t_seenIs, .long v_t_seed, .ref a_t_label, .ref a_t_finds, .ref a_t_reason, .ref a_t_caseFirst, .int v_t_cases, .ref a_t_brief, .ref a_t_printed, .int v_t_printedSize, .ref a_t_renamed, .ref a_t_worth, .int o_t_lastReason])), (a_t_brief, .inl (cI, 8, .inl o_t_brief)), (a_t_caseFirst, .inl (cI, 32, .inl r_t_caseFirst)), (a_t_finds, .inl (cI, 32, .inl r_t_finds)), (a_q1, .inl (cI, 265, .inl r_q1))] (va_A [(a_t, .inr (6, [.int v_t_thrown, .ref a_t_text, .int v_t_textSize, .int v_t_place, .ref a_t_readPage, .ref a_t_page, .ref a_t_trial, .ref a_t_work, .ref a_t_book, .int v_t_doings, .ref a_t_kept, .ref a_t_isKept, .int v_t_seen, .ref a_t_seenWhat, .ref a_t_seenV, .ref a_t_seenIs, .long v_t_seed, .ref a_t_label, .ref a_t_finds, .ref a_t_reason, .ref a_t_caseFirst, .int v_t_cases, .ref a_t_brief, .ref a_t_printed, .int v_t_printedSize, .ref a_t_renamed, .ref a_t_worth, .int v_t_lastReason])), (a_t_brief, .inl (cI, 8, .inl r_t_brief)), (a_t_caseFirst, .inl (cI, 32, .inl r_t_caseFirst)), (a_t_finds, .inl (cI, 32, .inl r_t_finds)), (a_q1, .inl (cI, 265, .inl r_q1))] sz)) 0 0 (va_A [(a_t, .inr (6, [.int v_t_thrown, .ref a_t_text, .int v_t_textSize, .int v_t_place, .ref a_t_readPage, .ref a_t_page, .ref a_t_trial, .ref a_t_work, .ref a_t_book, .int v_t_doings, .ref a_t_kept, .ref a_t_isKept, .int v_t_seen, .ref a_t_seenWhat, .ref a_t_seenV, .ref a_t_seenIs, .long v_t_seed, .ref a_t_label, .ref a_t_finds, .ref a_t_reason, .ref a_t_caseFirst, .int v_t_cases, .ref a_t_brief, .ref a_t_printed, .int v_t_printedSize, .ref a_t_renamed, .ref a_t_worth, .int v_t_lastReason])), (a_t_brief, .inl (cI, 8, .inl r_t_brief)), (a_t_caseFirst, .inl (cI, 32, .inl r_t_caseFirst)), (a_t_finds, .inl (cI, 32, .inl r_t_finds)), (a_q1, .inl (cI, 265, .inl r_q1))] sz) := by
  refine pn_entry (cc := cX7_shorten) (maxL := 7) (ret := none) (Qf := pn_Qv D [(a_t, .inr (6, [.int v_t_thrown, .ref a_t_text, .int v_t_textSize, .int v_t_place, .ref a_t_readPage, .ref a_t_page, .ref a_t_trial, .ref a_t_work, .ref a_t_book, .int v_t_doings, .ref a_t_kept, .ref a_t_isKept, .int v_t_seen, .ref a_t_seenWhat, .ref a_t_seenV, .ref a_t_seenIs, .long v_t_seed, .ref a_t_label, .ref a_t_finds, .ref a_t_reason, .ref a_t_caseFirst, .int v_t_cases, .ref a_t_brief, .ref a_t_printed, .int v_t_printedSize, .ref a_t_renamed, .ref a_t_worth, .int o_t_lastReason])), (a_t_brief, .inl (cI, 8, .inl o_t_brief)), (a_t_caseFirst, .inl (cI, 32, .inl r_t_caseFirst)), (a_t_finds, .inl (cI, 32, .inl r_t_finds)), (a_q1, .inl (cI, 265, .inl r_q1))]) (by decide) rfl (Nat.le_of_ble_eq_true rfl) ?_
  intro p e s m args below meth c A ls H locs Qm hQ hx hb hr hlocks hml hown hts hK hP hD hA hS hl
  have hl : lv_has ls 7 [(0, .ref a_t), (1, .ref a_q1), (2, .int p2)] := hl
  have hinX7 : ∀ w ∈ wsX70, w ∈ wsX7_shorten := by decide +kernel
  have fl_47 := hts (.fieldLink RX7 47 "PointingNotesModel" "finds" "[I") (by decide +kernel)
  have fl_56 := hts (.fieldLink RX7 56 "PointingNotesModel" "brief" "[I") (by decide +kernel)
  rw [f_X7_shorten] at hf
  have lp2 : ∀ (n : Nat) (x3 : Int32) (v_t_lastReason : Int32) (r_t_brief : Nat → Int32) (X : (Nat → Int32)) (H : Heap) (locs : List Loc) (ls : Array Slot), lp_X7_shorten_2 r_q1 p2 n x3 r_t_brief = some X → va_P D vwCl [(a_t, .inr (6, [.int v_t_thrown, .ref a_t_text, .int v_t_textSize, .int v_t_place, .ref a_t_readPage, .ref a_t_page, .ref a_t_trial, .ref a_t_work, .ref a_t_book, .int v_t_doings, .ref a_t_kept, .ref a_t_isKept, .int v_t_seen, .ref a_t_seenWhat, .ref a_t_seenV, .ref a_t_seenIs, .long v_t_seed, .ref a_t_label, .ref a_t_finds, .ref a_t_reason, .ref a_t_caseFirst, .int v_t_cases, .ref a_t_brief, .ref a_t_printed, .int v_t_printedSize, .ref a_t_renamed, .ref a_t_worth, .int v_t_lastReason])), (a_t_brief, .inl (cI, 8, .inl r_t_brief)), (a_t_caseFirst, .inl (cI, 32, .inl r_t_caseFirst)), (a_t_finds, .inl (cI, 32, .inl r_t_finds)), (a_q1, .inl (cI, 265, .inl r_q1))] H → va_S A s.heap H locs → lv_has ls 7 [(0, .ref a_t), (1, .ref a_q1), (2, .int p2), (3, .int x3)] → (∀  (r_t_brief' : Nat → Int32) (H : Heap) (locs : List Loc) (ls : Array Slot), X = r_t_brief' → va_P D vwCl [(a_t, .inr (6, [.int v_t_thrown, .ref a_t_text, .int v_t_textSize, .int v_t_place, .ref a_t_readPage, .ref a_t_page, .ref a_t_trial, .ref a_t_work, .ref a_t_book, .int v_t_doings, .ref a_t_kept, .ref a_t_isKept, .int v_t_seen, .ref a_t_seenWhat, .ref a_t_seenV, .ref a_t_seenIs, .long v_t_seed, .ref a_t_label, .ref a_t_finds, .ref a_t_reason, .ref a_t_caseFirst, .int v_t_cases, .ref a_t_brief, .ref a_t_printed, .int v_t_printedSize, .ref a_t_renamed, .ref a_t_worth, .int v_t_lastReason])), (a_t_brief, .inl (cI, 8, .inl (r_t_brief'))), (a_t_caseFirst, .inl (cI, 32, .inl r_t_caseFirst)), (a_t_finds, .inl (cI, 32, .inl r_t_finds)), (a_q1, .inl (cI, 265, .inl r_q1))] H → va_S A s.heap H locs → lv_has ls 7 [(0, .ref a_t), (1, .ref a_q1), (2, .int p2)] → W p l e { frames := 5, cells := 0, slots := 0, locals := 124 } s m args below meth c H locs 0 0 Qm (F0 m 26 ls [])) → W p l e { frames := 5, cells := 0, slots := 0, locals := 124 } s m args below meth c H locs 0 0 Qm (F0 m 2 ls []) := by
    intro n
    induction n with
    | zero => intro x3 v_t_lastReason r_t_brief X H locs ls hf; cases hf
    | succ n ih =>
      intro x3 v_t_lastReason r_t_brief X H locs ls hf hP hS hl kx26
      rw [lp_X7_shorten_2] at hf
      refine lv_iload_n hx hb dX7_shorten_2 rfl (lv_at hl 3 rfl) ?_
      refine lv_bipush (v := (8)) hx hb dX7_shorten_3 (by decide) ?_
      refine lv_icmp_ge (tgt := 26) hx hb dX7_shorten_5 (by decide) (fun c1 => ?_) (fun c1 => ?_)
      · have hf := pn_ifp c1 hf
        exact kx26 r_t_brief H locs ls (Option.some.inj hf).symm hP hS (lv_sub hl [0, 1, 2] rfl)
      · have hf := pn_ifn c1 hf
        refine lv_aload_n hx hb dX7_shorten_8 rfl (lv_at hl 0 rfl) ?_
        refine va_get (D := D) (ci := 6) (v := .ref a_t_brief) (C := RX7) (T := TX7) (N := 28) hx hb hts hinX7 hown hK.1 hP 0 rfl rfl 22 (by decide) fl_56 (fun _ h9 => h9) rfl dX7_shorten_9 ?_
        refine lv_iload_n hx hb dX7_shorten_12 rfl (lv_at hl 3 rfl) ?_
        refine lv_aload_n hx hb dX7_shorten_13 rfl (lv_at hl 1 rfl) ?_
        refine lv_iload_n hx hb dX7_shorten_14 rfl (lv_at hl 2 rfl) ?_
        refine lv_iload_n hx hb dX7_shorten_15 rfl (lv_at hl 3 rfl) ?_
        obtain ⟨ru2, hu2, hf⟩ := pn_bd1_at hf
        refine pn_calli [4] (va_runS (As := [.ref a_q1, .int p2, .int x3]) (rest := [.int x3, .ref a_t_brief]) ⟨hx, hb, hml, hown, hts⟩ (c_X7_ref l D cI cJ cZ a_q1 H.size r_q1 p2 x3 ru2 hu2) (va_cwS 3 hts gX7_shorten_X7_ref rfl rfl rfl hdX7_ref ⟨Nat.le_of_ble_eq_true rfl, Nat.le_of_ble_eq_true rfl⟩) (pn_preS [4] hP (hD.addr rfl) hK rfl rfl) rfl rfl hl.1 rfl (lv_room (Nat.le_of_ble_eq_true rfl)) dX7_shorten_16 ⟨Nat.zero_le _, Nat.zero_le _⟩) hP (hD.addr rfl) hS hA rfl rfl rfl (fun H locs (hP : va_P D vwCl [(a_t, .inr (6, [.int v_t_thrown, .ref a_t_text, .int v_t_textSize, .int v_t_place, .ref a_t_readPage, .ref a_t_page, .ref a_t_trial, .ref a_t_work, .ref a_t_book, .int v_t_doings, .ref a_t_kept, .ref a_t_isKept, .int v_t_seen, .ref a_t_seenWhat, .ref a_t_seenV, .ref a_t_seenIs, .long v_t_seed, .ref a_t_label, .ref a_t_finds, .ref a_t_reason, .ref a_t_caseFirst, .int v_t_cases, .ref a_t_brief, .ref a_t_printed, .int v_t_printedSize, .ref a_t_renamed, .ref a_t_worth, .int v_t_lastReason])), (a_t_brief, .inl (cI, 8, .inl r_t_brief)), (a_t_caseFirst, .inl (cI, 32, .inl r_t_caseFirst)), (a_t_finds, .inl (cI, 32, .inl r_t_finds)), (a_q1, .inl (cI, 265, .inl r_q1))] H) _ hS => ?_)
        obtain ⟨hi4, g3, eg3, hf⟩ := pn_wrI_at hf
        refine pn_stI hx hb hK.1 hP (hD.addr rfl) hS 1 0 rfl rfl hi4 eg3 dX7_shorten_19 (fun H locs (hP : va_P D vwCl [(a_t, .inr (6, [.int v_t_thrown, .ref a_t_text, .int v_t_textSize, .int v_t_place, .ref a_t_readPage, .ref a_t_page, .ref a_t_trial, .ref a_t_work, .ref a_t_book, .int v_t_doings, .ref a_t_kept, .ref a_t_isKept, .int v_t_seen, .ref a_t_seenWhat, .ref a_t_seenV, .ref a_t_seenIs, .long v_t_seed, .ref a_t_label, .ref a_t_finds, .ref a_t_reason, .ref a_t_caseFirst, .int v_t_cases, .ref a_t_brief, .ref a_t_printed, .int v_t_printedSize, .ref a_t_renamed, .ref a_t_worth, .int v_t_lastReason])), (a_t_brief, .inl (cI, 8, .inl g3)), (a_t_caseFirst, .inl (cI, 32, .inl r_t_caseFirst)), (a_t_finds, .inl (cI, 32, .inl r_t_finds)), (a_q1, .inl (cI, 265, .inl r_q1))] H) _ hS => ?_)
        obtain ⟨z5, ez5⟩ : ∃ y : Int32, y = x3 + (1) := ⟨_, rfl⟩
        have hf := pn_nm_at ez5 hf
        refine lv_iinc (v := z5) (lv' := [(3, .int z5), (0, .ref a_t), (1, .ref a_q1), (2, .int p2)]) hx hb dX7_shorten_20 hl (k := 3) rfl (by rw [ez5]; rfl) (by decide) rfl (fun ls hl => ?_)
        refine lv_goto (tgt := 2) hx hb dX7_shorten_23 (by decide) ?_
        exact ih z5 v_t_lastReason g3 X H locs ls hf hP hS (lv_sub hl [1, 2, 3, 0] rfl) kx26
  have lp113 : ∀ (n : Nat) (x3 : Int32) (x4 : Int32) (x5 : Int32) (x6 : Int32) (v_t_lastReason : Int32) (r_t_brief : Nat → Int32) (X : (Int32 × Int32) ⊕ Int32) (H : Heap) (locs : List Loc) (ls : Array Slot), lp_X7_shorten_113 N v_t_cases r_t_caseFirst r_t_finds r_q1 p2 x3 x4 x5 n x6 v_t_lastReason = some X → va_P D vwCl [(a_t, .inr (6, [.int v_t_thrown, .ref a_t_text, .int v_t_textSize, .int v_t_place, .ref a_t_readPage, .ref a_t_page, .ref a_t_trial, .ref a_t_work, .ref a_t_book, .int v_t_doings, .ref a_t_kept, .ref a_t_isKept, .int v_t_seen, .ref a_t_seenWhat, .ref a_t_seenV, .ref a_t_seenIs, .long v_t_seed, .ref a_t_label, .ref a_t_finds, .ref a_t_reason, .ref a_t_caseFirst, .int v_t_cases, .ref a_t_brief, .ref a_t_printed, .int v_t_printedSize, .ref a_t_renamed, .ref a_t_worth, .int v_t_lastReason])), (a_t_brief, .inl (cI, 8, .inl r_t_brief)), (a_t_caseFirst, .inl (cI, 32, .inl r_t_caseFirst)), (a_t_finds, .inl (cI, 32, .inl r_t_finds)), (a_q1, .inl (cI, 265, .inl r_q1))] H → va_S A s.heap H locs → lv_has ls 7 [(0, .ref a_t), (1, .ref a_q1), (2, .int p2), (3, .int x3), (4, .int x4), (5, .int x5), (6, .int x6)] → (∀ (y6 : Int32) (v_t_lastReason' : Int32) (H : Heap) (locs : List Loc) (ls : Array Slot), X = .inl (y6, v_t_lastReason') → va_P D vwCl [(a_t, .inr (6, [.int v_t_thrown, .ref a_t_text, .int v_t_textSize, .int v_t_place, .ref a_t_readPage, .ref a_t_page, .ref a_t_trial, .ref a_t_work, .ref a_t_book, .int v_t_doings, .ref a_t_kept, .ref a_t_isKept, .int v_t_seen, .ref a_t_seenWhat, .ref a_t_seenV, .ref a_t_seenIs, .long v_t_seed, .ref a_t_label, .ref a_t_finds, .ref a_t_reason, .ref a_t_caseFirst, .int v_t_cases, .ref a_t_brief, .ref a_t_printed, .int v_t_printedSize, .ref a_t_renamed, .ref a_t_worth, .int (v_t_lastReason')])), (a_t_brief, .inl (cI, 8, .inl r_t_brief)), (a_t_caseFirst, .inl (cI, 32, .inl r_t_caseFirst)), (a_t_finds, .inl (cI, 32, .inl r_t_finds)), (a_q1, .inl (cI, 265, .inl r_q1))] H → va_S A s.heap H locs → lv_has ls 7 [(0, .ref a_t), (5, .int x5), (6, .int y6)] → W p l e { frames := 5, cells := 0, slots := 0, locals := 124 } s m args below meth c H locs 0 0 Qm (F0 m 138 ls [])) → (∀  (v_t_lastReason' : Int32) (H : Heap) (locs : List Loc) (ls : Array Slot), X = .inr v_t_lastReason' → va_P D vwCl [(a_t, .inr (6, [.int v_t_thrown, .ref a_t_text, .int v_t_textSize, .int v_t_place, .ref a_t_readPage, .ref a_t_page, .ref a_t_trial, .ref a_t_work, .ref a_t_book, .int v_t_doings, .ref a_t_kept, .ref a_t_isKept, .int v_t_seen, .ref a_t_seenWhat, .ref a_t_seenV, .ref a_t_seenIs, .long v_t_seed, .ref a_t_label, .ref a_t_finds, .ref a_t_reason, .ref a_t_caseFirst, .int v_t_cases, .ref a_t_brief, .ref a_t_printed, .int v_t_printedSize, .ref a_t_renamed, .ref a_t_worth, .int (v_t_lastReason')])), (a_t_brief, .inl (cI, 8, .inl r_t_brief)), (a_t_caseFirst, .inl (cI, 32, .inl r_t_caseFirst)), (a_t_finds, .inl (cI, 32, .inl r_t_finds)), (a_q1, .inl (cI, 265, .inl r_q1))] H → va_S A s.heap H locs → lv_has ls 7 [(0, .ref a_t), (1, .ref a_q1), (3, .int x3)] → W p l e { frames := 5, cells := 0, slots := 0, locals := 124 } s m args below meth c H locs 0 0 Qm (F0 m 154 ls [])) → W p l e { frames := 5, cells := 0, slots := 0, locals := 124 } s m args below meth c H locs 0 0 Qm (F0 m 113 ls []) := by
    intro n
    induction n with
    | zero => intro x3 x4 x5 x6 v_t_lastReason r_t_brief X H locs ls hf; cases hf
    | succ n ih =>
      intro x3 x4 x5 x6 v_t_lastReason r_t_brief X H locs ls hf hP hS hl kx138 kx154
      rw [lp_X7_shorten_113] at hf
      refine lv_iload hx hb dX7_shorten_113 (lv_at hl 6 rfl) ?_
      refine lv_iload_n hx hb dX7_shorten_115 rfl (lv_at hl 2 rfl) ?_
      refine lv_iconst (v := (4)) hx hb dX7_shorten_116 (by decide) ?_
      refine lv_idiv hx hb dX7_shorten_117 (by decide) ?_
      refine lv_icmp_ge (tgt := 154) hx hb dX7_shorten_118 (by decide) (fun c6 => ?_) (fun c6 => ?_)
      · have hf := pn_ifp c6 hf
        exact kx154 v_t_lastReason H locs ls (Option.some.inj hf).symm hP hS (lv_sub hl [0, 1, 3] rfl)
      · have hf := pn_ifn c6 hf
        refine lv_aload_n hx hb dX7_shorten_121 rfl (lv_at hl 0 rfl) ?_
        refine lv_aload_n hx hb dX7_shorten_122 rfl (lv_at hl 1 rfl) ?_
        refine lv_iload hx hb dX7_shorten_123 (lv_at hl 4 rfl) ?_
        refine lv_iload_n hx hb dX7_shorten_125 rfl (lv_at hl 2 rfl) ?_
        refine lv_iconst (v := (3)) hx hb dX7_shorten_126 (by decide) ?_
        refine lv_iload hx hb dX7_shorten_127 (lv_at hl 5 rfl) ?_
        refine lv_iload hx hb dX7_shorten_129 (lv_at hl 6 rfl) ?_
        obtain ⟨ru7, v_t_lastReason_u7, hu7, hf⟩ := pn_bd2_at hf
        refine pn_calli [0, 2, 3, 4] (va_runV (As := [.ref a_q1, .int x4, .int p2, .int (3 : Int32), .int x5, .int x6]) (rest := []) ⟨hx, hb, hml, hown, hts⟩ (c_X7_told l D cI cJ cZ a_t a_t_text a_t_readPage a_t_page a_t_trial a_t_work a_t_book a_t_kept a_t_isKept a_t_seenWhat a_t_seenV a_t_seenIs a_t_label a_t_finds a_t_reason a_t_caseFirst a_t_brief a_t_printed a_t_renamed a_t_worth a_q1 H.size v_t_thrown v_t_textSize v_t_place v_t_doings v_t_seen v_t_seed v_t_printedSize N v_t_cases v_t_lastReason r_t_caseFirst r_t_finds r_q1 x4 p2 (3 : Int32) x5 x6 ru7 v_t_lastReason_u7 hu7) (cwV 6 hts gX7_shorten_X7_told rfl rfl rfl hdX7_told ⟨Nat.le_of_ble_eq_true rfl, Nat.le_of_ble_eq_true rfl⟩) (pn_preV [0, 2, 3, 4] hP (hD.addr rfl) hK rfl rfl (q0 := 0) (ci := 6) rfl rfl) rfl rfl hl.1 rfl (lv_room (Nat.le_of_ble_eq_true rfl)) dX7_shorten_131 ⟨Nat.zero_le _, Nat.zero_le _⟩) hP (hD.addr rfl) hS hA rfl rfl rfl (fun H locs (hP : va_P D vwCl [(a_t, .inr (6, [.int v_t_thrown, .ref a_t_text, .int v_t_textSize, .int v_t_place, .ref a_t_readPage, .ref a_t_page, .ref a_t_trial, .ref a_t_work, .ref a_t_book, .int v_t_doings, .ref a_t_kept, .ref a_t_isKept, .int v_t_seen, .ref a_t_seenWhat, .ref a_t_seenV, .ref a_t_seenIs, .long v_t_seed, .ref a_t_label, .ref a_t_finds, .ref a_t_reason, .ref a_t_caseFirst, .int v_t_cases, .ref a_t_brief, .ref a_t_printed, .int v_t_printedSize, .ref a_t_renamed, .ref a_t_worth, .int v_t_lastReason_u7])), (a_t_brief, .inl (cI, 8, .inl r_t_brief)), (a_t_caseFirst, .inl (cI, 32, .inl r_t_caseFirst)), (a_t_finds, .inl (cI, 32, .inl r_t_finds)), (a_q1, .inl (cI, 265, .inl r_q1))] H) _ hS => ?_)
        refine lv_iload_n hx hb dX7_shorten_134 rfl (lv_at hl 3 rfl) ?_
        refine lv_icmp_ne (tgt := 148) hx hb dX7_shorten_135 (by decide) (fun c8 => ?_) (fun c8 => ?_)
        · have hf := pn_ifp c8 hf
          obtain ⟨z9, ez9⟩ : ∃ y : Int32, y = x6 + (1) := ⟨_, rfl⟩
          have hf := pn_nm_at ez9 hf
          refine lv_iinc (v := z9) (lv' := [(6, .int z9), (0, .ref a_t), (1, .ref a_q1), (2, .int p2), (3, .int x3), (4, .int x4), (5, .int x5)]) hx hb dX7_shorten_148 hl (k := 6) rfl (by rw [ez9]; rfl) (by decide) rfl (fun ls hl => ?_)
          refine lv_goto (tgt := 113) hx hb dX7_shorten_151 (by decide) ?_
          exact ih x3 x4 x5 z9 v_t_lastReason_u7 r_t_brief X H locs ls hf hP hS (lv_sub hl [1, 2, 3, 4, 5, 6, 0] rfl) kx138 kx154
        · have hf := pn_ifq c8 hf
          exact kx138 x6 v_t_lastReason_u7 H locs ls (Option.some.inj hf).symm hP hS (lv_sub hl [0, 5, 6] rfl)
  refine lv_iconst (v := (0)) hx hb dX7_shorten_0 (by decide) ?_
  refine lv_istore_n (lv' := [(3, .int (0 : Int32)), (0, .ref a_t), (1, .ref a_q1), (2, .int p2)]) hx hb dX7_shorten_1 rfl hl (by decide) rfl (fun ls hl => ?_)
  obtain ⟨X2, hX2, hf⟩ := pn_bd1_at hf
  refine lp2 N (0 : Int32) v_t_lastReason r_t_brief X2 H locs ls hX2 hP hS (lv_sub hl [1, 2, 3, 0] rfl) ?_
  · intro r_t_brief_w10 H locs ls eX hP hS hl
    rw [eX] at hf
    have hf := pn_u1_at hf
    refine lv_aload_n hx hb dX7_shorten_26 rfl (lv_at hl 0 rfl) ?_
    refine va_get (D := D) (ci := 6) (v := .ref a_t_finds) (C := RX7) (T := TX7) (N := 28) hx hb hts hinX7 hown hK.1 hP 0 rfl rfl 18 (by decide) fl_47 (fun _ h9 => h9) rfl dX7_shorten_27 ?_
    refine lv_iload_n hx hb dX7_shorten_30 rfl (lv_at hl 2 rfl) ?_
    obtain ⟨hi12, w11, ew11, hf⟩ := pn_rd_at hf
    refine pn_ldI hx hb hK.1 hP 3 0 rfl rfl hi12 ew11 dX7_shorten_31 ?_
    refine lv_istore_n (lv' := [(3, .int w11), (0, .ref a_t), (1, .ref a_q1), (2, .int p2)]) hx hb dX7_shorten_32 rfl hl (by decide) rfl (fun ls hl => ?_)
    refine lv_iload_n hx hb dX7_shorten_33 rfl (lv_at hl 0 rfl) ?_
    refine lv_bipush (v := (-9)) hx hb dX7_shorten_34 (by decide) ?_
    refine lv_icmp_eq (tgt := 47) hx hb dX7_shorten_36 (by decide) (fun c13 => ?_) (fun c13 => ?_)
    · have hf := pn_ifp c13 hf
      cases hf
      rw [hQ]
      exact pn_retv hx hb hr hlocks hP hS dX7_shorten_47
    · have hf := pn_ifn c13 hf
      refine lv_aload_n hx hb dX7_shorten_39 rfl (lv_at hl 2 rfl) ?_
      refine lv_iload_n hx hb dX7_shorten_40 rfl (lv_at hl 3 rfl) ?_
      obtain ⟨ru14, hu14, hf⟩ := pn_bd1_at hf
      refine pn_calli [4] (va_runS (As := [.ref a_q1, .int p2]) (rest := []) ⟨hx, hb, hml, hown, hts⟩ (c_X7_stays l D cI cJ cZ a_q1 H.size N r_q1 p2 ru14 hu14) (va_cwS 2 hts gX7_shorten_X7_stays rfl rfl rfl hdX7_stays ⟨Nat.le_of_ble_eq_true rfl, Nat.le_of_ble_eq_true rfl⟩) (pn_preS [4] hP (hD.addr rfl) hK rfl rfl) rfl rfl hl.1 rfl (lv_room (Nat.le_of_ble_eq_true rfl)) dX7_shorten_41 ⟨Nat.zero_le _, Nat.zero_le _⟩) hP (hD.addr rfl) hS hA rfl rfl rfl (fun H locs (hP : va_P D vwCl [(a_t, .inr (6, [.int v_t_thrown, .ref a_t_text, .int v_t_textSize, .int v_t_place, .ref a_t_readPage, .ref a_t_page, .ref a_t_trial, .ref a_t_work, .ref a_t_book, .int v_t_doings, .ref a_t_kept, .ref a_t_isKept, .int v_t_seen, .ref a_t_seenWhat, .ref a_t_seenV, .ref a_t_seenIs, .long v_t_seed, .ref a_t_label, .ref a_t_finds, .ref a_t_reason, .ref a_t_caseFirst, .int v_t_cases, .ref a_t_brief, .ref a_t_printed, .int v_t_printedSize, .ref a_t_renamed, .ref a_t_worth, .int v_t_lastReason])), (a_t_brief, .inl (cI, 8, .inl r_t_brief_w10)), (a_t_caseFirst, .inl (cI, 32, .inl r_t_caseFirst)), (a_t_finds, .inl (cI, 32, .inl r_t_finds)), (a_q1, .inl (cI, 265, .inl r_q1))] H) _ hS => ?_)
      refine lv_if_eq (tgt := 48) hx hb dX7_shorten_44 (by decide) (fun c15 => ?_) (fun c15 => ?_)
      · have hf := pn_ifp c15 hf
        refine lv_aload_n hx hb dX7_shorten_48 rfl (lv_at hl 2 rfl) ?_
        obtain ⟨ru16, hu16, hf⟩ := pn_bd1_at hf
        refine pn_calli [4] (va_runS (As := [.ref a_q1]) (rest := []) ⟨hx, hb, hml, hown, hts⟩ (c_X7_allNotes l D cI cJ cZ a_q1 H.size r_q1 ru16 hu16) (va_cwS 1 hts gX7_shorten_X7_allNotes rfl rfl rfl hdX7_allNotes ⟨Nat.le_of_ble_eq_true rfl, Nat.le_of_ble_eq_true rfl⟩) (pn_preS [4] hP (hD.addr rfl) hK rfl rfl) rfl rfl hl.1 rfl (lv_room (Nat.le_of_ble_eq_true rfl)) dX7_shorten_49 ⟨Nat.zero_le _, Nat.zero_le _⟩) hP (hD.addr rfl) hS hA rfl rfl rfl (fun H locs (hP : va_P D vwCl [(a_t, .inr (6, [.int v_t_thrown, .ref a_t_text, .int v_t_textSize, .int v_t_place, .ref a_t_readPage, .ref a_t_page, .ref a_t_trial, .ref a_t_work, .ref a_t_book, .int v_t_doings, .ref a_t_kept, .ref a_t_isKept, .int v_t_seen, .ref a_t_seenWhat, .ref a_t_seenV, .ref a_t_seenIs, .long v_t_seed, .ref a_t_label, .ref a_t_finds, .ref a_t_reason, .ref a_t_caseFirst, .int v_t_cases, .ref a_t_brief, .ref a_t_printed, .int v_t_printedSize, .ref a_t_renamed, .ref a_t_worth, .int v_t_lastReason])), (a_t_brief, .inl (cI, 8, .inl r_t_brief_w10)), (a_t_caseFirst, .inl (cI, 32, .inl r_t_caseFirst)), (a_t_finds, .inl (cI, 32, .inl r_t_finds)), (a_q1, .inl (cI, 265, .inl r_q1))] H) _ hS => ?_)
        refine lv_istore (lv' := [(4, .int ru16), (3, .int w11), (0, .ref a_t), (1, .ref a_q1), (2, .int p2)]) hx hb dX7_shorten_52 hl (by decide) rfl (fun ls hl => ?_)
        refine lv_aload_n hx hb dX7_shorten_54 rfl (lv_at hl 2 rfl) ?_
        refine lv_aload_n hx hb dX7_shorten_55 rfl (lv_at hl 3 rfl) ?_
        refine lv_iload_n hx hb dX7_shorten_56 rfl (lv_at hl 1 rfl) ?_
        obtain ⟨ru17, hu17, hf⟩ := pn_bd1_at hf
        refine pn_calli [0, 2, 4] (va_runV (As := [.ref a_q1, .int w11]) (rest := []) ⟨hx, hb, hml, hown, hts⟩ (c_X7_initial l D cI cJ cZ a_t a_t_text a_t_readPage a_t_page a_t_trial a_t_work a_t_book a_t_kept a_t_isKept a_t_seenWhat a_t_seenV a_t_seenIs a_t_label a_t_finds a_t_reason a_t_caseFirst a_t_brief a_t_printed a_t_renamed a_t_worth a_q1 H.size v_t_thrown v_t_textSize v_t_place v_t_doings v_t_seen v_t_seed v_t_cases v_t_printedSize v_t_lastReason r_t_caseFirst r_q1 w11 ru17 hu17) (cwV 2 hts gX7_shorten_X7_initial rfl rfl rfl hdX7_initial ⟨Nat.le_of_ble_eq_true rfl, Nat.le_of_ble_eq_true rfl⟩) (pn_preV [0, 2, 4] hP (hD.addr rfl) hK rfl rfl (q0 := 0) (ci := 6) rfl rfl) rfl rfl hl.1 rfl (lv_room (Nat.le_of_ble_eq_true rfl)) dX7_shorten_57 ⟨Nat.zero_le _, Nat.zero_le _⟩) hP (hD.addr rfl) hS hA rfl rfl rfl (fun H locs (hP : va_P D vwCl [(a_t, .inr (6, [.int v_t_thrown, .ref a_t_text, .int v_t_textSize, .int v_t_place, .ref a_t_readPage, .ref a_t_page, .ref a_t_trial, .ref a_t_work, .ref a_t_book, .int v_t_doings, .ref a_t_kept, .ref a_t_isKept, .int v_t_seen, .ref a_t_seenWhat, .ref a_t_seenV, .ref a_t_seenIs, .long v_t_seed, .ref a_t_label, .ref a_t_finds, .ref a_t_reason, .ref a_t_caseFirst, .int v_t_cases, .ref a_t_brief, .ref a_t_printed, .int v_t_printedSize, .ref a_t_renamed, .ref a_t_worth, .int v_t_lastReason])), (a_t_brief, .inl (cI, 8, .inl r_t_brief_w10)), (a_t_caseFirst, .inl (cI, 32, .inl r_t_caseFirst)), (a_t_finds, .inl (cI, 32, .inl r_t_finds)), (a_q1, .inl (cI, 265, .inl r_q1))] H) _ hS => ?_)
        refine lv_istore (lv' := [(5, .int ru17), (4, .int ru16), (3, .int w11), (0, .ref a_t), (1, .ref a_q1), (2, .int p2)]) hx hb dX7_shorten_60 hl (by decide) rfl (fun ls hl => ?_)
        refine lv_aload_n hx hb dX7_shorten_62 rfl (lv_at hl 3 rfl) ?_
        refine lv_aload_n hx hb dX7_shorten_63 rfl (lv_at hl 4 rfl) ?_
        refine lv_iload hx hb dX7_shorten_64 (lv_at hl 1 rfl) ?_
        refine lv_iload_n hx hb dX7_shorten_66 rfl (lv_at hl 5 rfl) ?_
        refine lv_iconst (v := (2)) hx hb dX7_shorten_67 (by decide) ?_
        refine lv_iconst (v := (0)) hx hb dX7_shorten_68 (by decide) ?_
        refine lv_iconst (v := (0)) hx hb dX7_shorten_69 (by decide) ?_
        obtain ⟨ru18, v_t_lastReason_u18, hu18, hf⟩ := pn_bd2_at hf
        refine pn_calli [0, 2, 3, 4] (va_runV (As := [.ref a_q1, .int ru16, .int p2, .int (2 : Int32), .int (0 : Int32), .int (0 : Int32)]) (rest := []) ⟨hx, hb, hml, hown, hts⟩ (c_X7_told l D cI cJ cZ a_t a_t_text a_t_readPage a_t_page a_t_trial a_t_work a_t_book a_t_kept a_t_isKept a_t_seenWhat a_t_seenV a_t_seenIs a_t_label a_t_finds a_t_reason a_t_caseFirst a_t_brief a_t_printed a_t_renamed a_t_worth a_q1 H.size v_t_thrown v_t_textSize v_t_place v_t_doings v_t_seen v_t_seed v_t_printedSize N v_t_cases v_t_lastReason r_t_caseFirst r_t_finds r_q1 ru16 p2 (2 : Int32) (0 : Int32) (0 : Int32) ru18 v_t_lastReason_u18 hu18) (cwV 6 hts gX7_shorten_X7_told rfl rfl rfl hdX7_told ⟨Nat.le_of_ble_eq_true rfl, Nat.le_of_ble_eq_true rfl⟩) (pn_preV [0, 2, 3, 4] hP (hD.addr rfl) hK rfl rfl (q0 := 0) (ci := 6) rfl rfl) rfl rfl hl.1 rfl (lv_room (Nat.le_of_ble_eq_true rfl)) dX7_shorten_70 ⟨Nat.zero_le _, Nat.zero_le _⟩) hP (hD.addr rfl) hS hA rfl rfl rfl (fun H locs (hP : va_P D vwCl [(a_t, .inr (6, [.int v_t_thrown, .ref a_t_text, .int v_t_textSize, .int v_t_place, .ref a_t_readPage, .ref a_t_page, .ref a_t_trial, .ref a_t_work, .ref a_t_book, .int v_t_doings, .ref a_t_kept, .ref a_t_isKept, .int v_t_seen, .ref a_t_seenWhat, .ref a_t_seenV, .ref a_t_seenIs, .long v_t_seed, .ref a_t_label, .ref a_t_finds, .ref a_t_reason, .ref a_t_caseFirst, .int v_t_cases, .ref a_t_brief, .ref a_t_printed, .int v_t_printedSize, .ref a_t_renamed, .ref a_t_worth, .int v_t_lastReason_u18])), (a_t_brief, .inl (cI, 8, .inl r_t_brief_w10)), (a_t_caseFirst, .inl (cI, 32, .inl r_t_caseFirst)), (a_t_finds, .inl (cI, 32, .inl r_t_finds)), (a_q1, .inl (cI, 265, .inl r_q1))] H) _ hS => ?_)
        refine lv_iload_n hx hb dX7_shorten_73 rfl (lv_at hl 2 rfl) ?_
        refine lv_icmp_ne (tgt := 85) hx hb dX7_shorten_74 (by decide) (fun c19 => ?_) (fun c19 => ?_)
        · have hf := pn_ifp c19 hf
          refine lv_aload_n hx hb dX7_shorten_85 rfl (lv_at hl 3 rfl) ?_
          refine lv_aload_n hx hb dX7_shorten_86 rfl (lv_at hl 4 rfl) ?_
          refine lv_iload hx hb dX7_shorten_87 (lv_at hl 1 rfl) ?_
          refine lv_iload_n hx hb dX7_shorten_89 rfl (lv_at hl 5 rfl) ?_
          refine lv_iconst (v := (1)) hx hb dX7_shorten_90 (by decide) ?_
          refine lv_iload hx hb dX7_shorten_91 (lv_at hl 0 rfl) ?_
          refine lv_iconst (v := (0)) hx hb dX7_shorten_93 (by decide) ?_
          obtain ⟨ru20, v_t_lastReason_u20, hu20, hf⟩ := pn_bd2_at hf
          refine pn_calli [0, 2, 3, 4] (va_runV (As := [.ref a_q1, .int ru16, .int p2, .int (1 : Int32), .int ru17, .int (0 : Int32)]) (rest := []) ⟨hx, hb, hml, hown, hts⟩ (c_X7_told l D cI cJ cZ a_t a_t_text a_t_readPage a_t_page a_t_trial a_t_work a_t_book a_t_kept a_t_isKept a_t_seenWhat a_t_seenV a_t_seenIs a_t_label a_t_finds a_t_reason a_t_caseFirst a_t_brief a_t_printed a_t_renamed a_t_worth a_q1 H.size v_t_thrown v_t_textSize v_t_place v_t_doings v_t_seen v_t_seed v_t_printedSize N v_t_cases v_t_lastReason_u18 r_t_caseFirst r_t_finds r_q1 ru16 p2 (1 : Int32) ru17 (0 : Int32) ru20 v_t_lastReason_u20 hu20) (cwV 6 hts gX7_shorten_X7_told rfl rfl rfl hdX7_told ⟨Nat.le_of_ble_eq_true rfl, Nat.le_of_ble_eq_true rfl⟩) (pn_preV [0, 2, 3, 4] hP (hD.addr rfl) hK rfl rfl (q0 := 0) (ci := 6) rfl rfl) rfl rfl hl.1 rfl (lv_room (Nat.le_of_ble_eq_true rfl)) dX7_shorten_94 ⟨Nat.zero_le _, Nat.zero_le _⟩) hP (hD.addr rfl) hS hA rfl rfl rfl (fun H locs (hP : va_P D vwCl [(a_t, .inr (6, [.int v_t_thrown, .ref a_t_text, .int v_t_textSize, .int v_t_place, .ref a_t_readPage, .ref a_t_page, .ref a_t_trial, .ref a_t_work, .ref a_t_book, .int v_t_doings, .ref a_t_kept, .ref a_t_isKept, .int v_t_seen, .ref a_t_seenWhat, .ref a_t_seenV, .ref a_t_seenIs, .long v_t_seed, .ref a_t_label, .ref a_t_finds, .ref a_t_reason, .ref a_t_caseFirst, .int v_t_cases, .ref a_t_brief, .ref a_t_printed, .int v_t_printedSize, .ref a_t_renamed, .ref a_t_worth, .int v_t_lastReason_u20])), (a_t_brief, .inl (cI, 8, .inl r_t_brief_w10)), (a_t_caseFirst, .inl (cI, 32, .inl r_t_caseFirst)), (a_t_finds, .inl (cI, 32, .inl r_t_finds)), (a_q1, .inl (cI, 265, .inl r_q1))] H) _ hS => ?_)
          refine lv_iload_n hx hb dX7_shorten_97 rfl (lv_at hl 2 rfl) ?_
          refine lv_icmp_ne (tgt := 110) hx hb dX7_shorten_98 (by decide) (fun c21 => ?_) (fun c21 => ?_)
          · have hf := pn_ifp c21 hf
            refine lv_iconst (v := (0)) hx hb dX7_shorten_110 (by decide) ?_
            refine lv_istore (lv' := [(6, .int (0 : Int32)), (5, .int ru17), (4, .int ru16), (3, .int w11), (0, .ref a_t), (1, .ref a_q1), (2, .int p2)]) hx hb dX7_shorten_111 hl (by decide) rfl (fun ls hl => ?_)
            obtain ⟨X113, hX113, hf⟩ := pn_bd1_at hf
            refine lp113 N w11 ru16 ru17 (0 : Int32) v_t_lastReason_u20 r_t_brief_w10 X113 H locs ls hX113 hP hS (lv_sub hl [4, 5, 6, 3, 2, 1, 0] rfl) ?_ ?_
            · intro x6_w22 v_t_lastReason_w22 H locs ls eX hP hS hl
              rw [eX] at hf
              have hf := pn_s2_l hf
              have hf := pn_u2_at hf
              refine lv_aload_n hx hb dX7_shorten_138 rfl (lv_at hl 0 rfl) ?_
              refine lv_iconst (v := (3)) hx hb dX7_shorten_139 (by decide) ?_
              refine lv_iload hx hb dX7_shorten_140 (lv_at hl 1 rfl) ?_
              refine lv_iload hx hb dX7_shorten_142 (lv_at hl 2 rfl) ?_
              obtain ⟨r_t_brief_u23, hu23, hf⟩ := pn_bd1_at hf
              refine pn_callv [0, 1] (va_runV (As := [.int (3 : Int32), .int ru17, .int x6_w22]) (rest := []) ⟨hx, hb, hml, hown, hts⟩ (c_X7_layBrief l D cI cJ cZ a_t a_t_text a_t_readPage a_t_page a_t_trial a_t_work a_t_book a_t_kept a_t_isKept a_t_seenWhat a_t_seenV a_t_seenIs a_t_label a_t_finds a_t_reason a_t_caseFirst a_t_brief a_t_printed a_t_renamed a_t_worth H.size v_t_thrown v_t_textSize v_t_place v_t_doings v_t_seen v_t_seed v_t_cases v_t_printedSize v_t_lastReason_w22 r_t_brief_w10 (3 : Int32) ru17 x6_w22 r_t_brief_u23 hu23) (cwV 3 hts gX7_shorten_X7_layBrief rfl rfl rfl hdX7_layBrief ⟨Nat.le_of_ble_eq_true rfl, Nat.le_of_ble_eq_true rfl⟩) (pn_preV [0, 1] hP (hD.addr rfl) hK rfl rfl (q0 := 0) (ci := 6) rfl rfl) rfl rfl hl.1 rfl (lv_room (Nat.le_of_ble_eq_true rfl)) dX7_shorten_144 ⟨Nat.zero_le _, Nat.zero_le _⟩) hP (hD.addr rfl) hS hA rfl rfl rfl (fun H locs (hP : va_P D vwCl [(a_t, .inr (6, [.int v_t_thrown, .ref a_t_text, .int v_t_textSize, .int v_t_place, .ref a_t_readPage, .ref a_t_page, .ref a_t_trial, .ref a_t_work, .ref a_t_book, .int v_t_doings, .ref a_t_kept, .ref a_t_isKept, .int v_t_seen, .ref a_t_seenWhat, .ref a_t_seenV, .ref a_t_seenIs, .long v_t_seed, .ref a_t_label, .ref a_t_finds, .ref a_t_reason, .ref a_t_caseFirst, .int v_t_cases, .ref a_t_brief, .ref a_t_printed, .int v_t_printedSize, .ref a_t_renamed, .ref a_t_worth, .int v_t_lastReason_w22])), (a_t_brief, .inl (cI, 8, .inl r_t_brief_u23)), (a_t_caseFirst, .inl (cI, 32, .inl r_t_caseFirst)), (a_t_finds, .inl (cI, 32, .inl r_t_finds)), (a_q1, .inl (cI, 265, .inl r_q1))] H) _ hS => ?_)
              cases hf
              rw [hQ]
              exact pn_retv hx hb hr hlocks hP hS dX7_shorten_147
            · intro v_t_lastReason_w24 H locs ls eX hP hS hl
              rw [eX] at hf
              have hf := pn_s2_r hf
              have hf := pn_u1_at hf
              refine lv_aload_n hx hb dX7_shorten_154 rfl (lv_at hl 0 rfl) ?_
              refine lv_aload_n hx hb dX7_shorten_155 rfl (lv_at hl 1 rfl) ?_
              refine lv_iload_n hx hb dX7_shorten_156 rfl (lv_at hl 2 rfl) ?_
              obtain ⟨r_t_brief_u25, hu25, hf⟩ := pn_bd1_at hf
              refine pn_callv [0, 1, 2, 4] (va_runV (As := [.ref a_q1, .int w11]) (rest := []) ⟨hx, hb, hml, hown, hts⟩ (c_X7_laySpelled l D cI cJ cZ a_t a_t_text a_t_readPage a_t_page a_t_trial a_t_work a_t_book a_t_kept a_t_isKept a_t_seenWhat a_t_seenV a_t_seenIs a_t_label a_t_finds a_t_reason a_t_caseFirst a_t_brief a_t_printed a_t_renamed a_t_worth a_q1 H.size v_t_thrown v_t_textSize v_t_place v_t_doings v_t_seen v_t_seed v_t_cases v_t_printedSize v_t_lastReason_w24 N r_t_brief_w10 r_t_caseFirst r_q1 w11 r_t_brief_u25 hu25) (cwV 2 hts gX7_shorten_X7_laySpelled rfl rfl rfl hdX7_laySpelled ⟨Nat.le_of_ble_eq_true rfl, Nat.le_of_ble_eq_true rfl⟩) (pn_preV [0, 1, 2, 4] hP (hD.addr rfl) hK rfl rfl (q0 := 0) (ci := 6) rfl rfl) rfl rfl hl.1 rfl (lv_room (Nat.le_of_ble_eq_true rfl)) dX7_shorten_157 ⟨Nat.zero_le _, Nat.zero_le _⟩) hP (hD.addr rfl) hS hA rfl rfl rfl (fun H locs (hP : va_P D vwCl [(a_t, .inr (6, [.int v_t_thrown, .ref a_t_text, .int v_t_textSize, .int v_t_place, .ref a_t_readPage, .ref a_t_page, .ref a_t_trial, .ref a_t_work, .ref a_t_book, .int v_t_doings, .ref a_t_kept, .ref a_t_isKept, .int v_t_seen, .ref a_t_seenWhat, .ref a_t_seenV, .ref a_t_seenIs, .long v_t_seed, .ref a_t_label, .ref a_t_finds, .ref a_t_reason, .ref a_t_caseFirst, .int v_t_cases, .ref a_t_brief, .ref a_t_printed, .int v_t_printedSize, .ref a_t_renamed, .ref a_t_worth, .int v_t_lastReason_w24])), (a_t_brief, .inl (cI, 8, .inl r_t_brief_u25)), (a_t_caseFirst, .inl (cI, 32, .inl r_t_caseFirst)), (a_t_finds, .inl (cI, 32, .inl r_t_finds)), (a_q1, .inl (cI, 265, .inl r_q1))] H) _ hS => ?_)
              cases hf
              rw [hQ]
              exact pn_retv hx hb hr hlocks hP hS dX7_shorten_160
          · have hf := pn_ifq c21 hf
            refine lv_aload_n hx hb dX7_shorten_101 rfl (lv_at hl 3 rfl) ?_
            refine lv_iconst (v := (1)) hx hb dX7_shorten_102 (by decide) ?_
            refine lv_iload hx hb dX7_shorten_103 (lv_at hl 0 rfl) ?_
            refine lv_iconst (v := (0)) hx hb dX7_shorten_105 (by decide) ?_
            obtain ⟨r_t_brief_u26, hu26, hf⟩ := pn_bd1_at hf
            refine pn_callv [0, 1] (va_runV (As := [.int (1 : Int32), .int ru17, .int (0 : Int32)]) (rest := []) ⟨hx, hb, hml, hown, hts⟩ (c_X7_layBrief l D cI cJ cZ a_t a_t_text a_t_readPage a_t_page a_t_trial a_t_work a_t_book a_t_kept a_t_isKept a_t_seenWhat a_t_seenV a_t_seenIs a_t_label a_t_finds a_t_reason a_t_caseFirst a_t_brief a_t_printed a_t_renamed a_t_worth H.size v_t_thrown v_t_textSize v_t_place v_t_doings v_t_seen v_t_seed v_t_cases v_t_printedSize v_t_lastReason_u20 r_t_brief_w10 (1 : Int32) ru17 (0 : Int32) r_t_brief_u26 hu26) (cwV 3 hts gX7_shorten_X7_layBrief rfl rfl rfl hdX7_layBrief ⟨Nat.le_of_ble_eq_true rfl, Nat.le_of_ble_eq_true rfl⟩) (pn_preV [0, 1] hP (hD.addr rfl) hK rfl rfl (q0 := 0) (ci := 6) rfl rfl) rfl rfl hl.1 rfl (lv_room (Nat.le_of_ble_eq_true rfl)) dX7_shorten_106 ⟨Nat.zero_le _, Nat.zero_le _⟩) hP (hD.addr rfl) hS hA rfl rfl rfl (fun H locs (hP : va_P D vwCl [(a_t, .inr (6, [.int v_t_thrown, .ref a_t_text, .int v_t_textSize, .int v_t_place, .ref a_t_readPage, .ref a_t_page, .ref a_t_trial, .ref a_t_work, .ref a_t_book, .int v_t_doings, .ref a_t_kept, .ref a_t_isKept, .int v_t_seen, .ref a_t_seenWhat, .ref a_t_seenV, .ref a_t_seenIs, .long v_t_seed, .ref a_t_label, .ref a_t_finds, .ref a_t_reason, .ref a_t_caseFirst, .int v_t_cases, .ref a_t_brief, .ref a_t_printed, .int v_t_printedSize, .ref a_t_renamed, .ref a_t_worth, .int v_t_lastReason_u20])), (a_t_brief, .inl (cI, 8, .inl r_t_brief_u26)), (a_t_caseFirst, .inl (cI, 32, .inl r_t_caseFirst)), (a_t_finds, .inl (cI, 32, .inl r_t_finds)), (a_q1, .inl (cI, 265, .inl r_q1))] H) _ hS => ?_)
            cases hf
            rw [hQ]
            exact pn_retv hx hb hr hlocks hP hS dX7_shorten_109
        · have hf := pn_ifq c19 hf
          refine lv_aload_n hx hb dX7_shorten_77 rfl (lv_at hl 3 rfl) ?_
          refine lv_iconst (v := (2)) hx hb dX7_shorten_78 (by decide) ?_
          refine lv_iconst (v := (0)) hx hb dX7_shorten_79 (by decide) ?_
          refine lv_iconst (v := (0)) hx hb dX7_shorten_80 (by decide) ?_
          obtain ⟨r_t_brief_u27, hu27, hf⟩ := pn_bd1_at hf
          refine pn_callv [0, 1] (va_runV (As := [.int (2 : Int32), .int (0 : Int32), .int (0 : Int32)]) (rest := []) ⟨hx, hb, hml, hown, hts⟩ (c_X7_layBrief l D cI cJ cZ a_t a_t_text a_t_readPage a_t_page a_t_trial a_t_work a_t_book a_t_kept a_t_isKept a_t_seenWhat a_t_seenV a_t_seenIs a_t_label a_t_finds a_t_reason a_t_caseFirst a_t_brief a_t_printed a_t_renamed a_t_worth H.size v_t_thrown v_t_textSize v_t_place v_t_doings v_t_seen v_t_seed v_t_cases v_t_printedSize v_t_lastReason_u18 r_t_brief_w10 (2 : Int32) (0 : Int32) (0 : Int32) r_t_brief_u27 hu27) (cwV 3 hts gX7_shorten_X7_layBrief rfl rfl rfl hdX7_layBrief ⟨Nat.le_of_ble_eq_true rfl, Nat.le_of_ble_eq_true rfl⟩) (pn_preV [0, 1] hP (hD.addr rfl) hK rfl rfl (q0 := 0) (ci := 6) rfl rfl) rfl rfl hl.1 rfl (lv_room (Nat.le_of_ble_eq_true rfl)) dX7_shorten_81 ⟨Nat.zero_le _, Nat.zero_le _⟩) hP (hD.addr rfl) hS hA rfl rfl rfl (fun H locs (hP : va_P D vwCl [(a_t, .inr (6, [.int v_t_thrown, .ref a_t_text, .int v_t_textSize, .int v_t_place, .ref a_t_readPage, .ref a_t_page, .ref a_t_trial, .ref a_t_work, .ref a_t_book, .int v_t_doings, .ref a_t_kept, .ref a_t_isKept, .int v_t_seen, .ref a_t_seenWhat, .ref a_t_seenV, .ref a_t_seenIs, .long v_t_seed, .ref a_t_label, .ref a_t_finds, .ref a_t_reason, .ref a_t_caseFirst, .int v_t_cases, .ref a_t_brief, .ref a_t_printed, .int v_t_printedSize, .ref a_t_renamed, .ref a_t_worth, .int v_t_lastReason_u18])), (a_t_brief, .inl (cI, 8, .inl r_t_brief_u27)), (a_t_caseFirst, .inl (cI, 32, .inl r_t_caseFirst)), (a_t_finds, .inl (cI, 32, .inl r_t_finds)), (a_q1, .inl (cI, 265, .inl r_q1))] H) _ hS => ?_)
          cases hf
          rw [hQ]
          exact pn_retv hx hb hr hlocks hP hS dX7_shorten_84
      · have hf := pn_ifn c15 hf
        cases hf
        rw [hQ]
        exact pn_retv hx hb hr hlocks hP hS dX7_shorten_47
def f_X7_briefLetters (r_t_brief : Nat → Int32) : Option (Int32) :=
  pn_rd 8 r_t_brief (0 : Int32) fun w1 =>
  if ¬ w1 = 0 then
  pn_rd 8 r_t_brief (0 : Int32) fun w4 =>
  if ¬ w4 = (3 : Int32) then
  pn_rd 8 r_t_brief (7 : Int32) fun w7 =>
  if ¬ w7 = 0 then
  some ((1 : Int32) + (3 : Int32))
  else
  some (1 : Int32)
  else
  pn_rd 8 r_t_brief (7 : Int32) fun w10 =>
  if ¬ w10 = 0 then
  some ((3 : Int32) + (3 : Int32))
  else
  some (3 : Int32)
  else
  pn_rd 8 r_t_brief (4 : Int32) fun w13 =>
  if ¬ w13 = 0 then
  pn_rd 8 r_t_brief (7 : Int32) fun w16 =>
  if ¬ w16 = 0 then
  some ((11 : Int32) + (3 : Int32))
  else
  some (11 : Int32)
  else
  pn_rd 8 r_t_brief (7 : Int32) fun w19 =>
  if ¬ w19 = 0 then
  some ((6 : Int32) + (3 : Int32))
  else
  some (6 : Int32)
set_option maxHeartbeats 4000000 in
set_option maxRecDepth 100000 in
theorem c_X7_briefLetters (l : Launch) (D : va_G) (cI cJ cZ : ClassId) (a_t a_t_text a_t_readPage a_t_page a_t_trial a_t_work a_t_book a_t_kept a_t_isKept a_t_seenWhat a_t_seenV a_t_seenIs a_t_label a_t_finds a_t_reason a_t_caseFirst a_t_brief a_t_printed a_t_renamed a_t_worth : Nat) (sz : Nat) (v_t_thrown : Int32) (v_t_textSize : Int32) (v_t_place : Int32) (v_t_doings : Int32) (v_t_seen : Int32) (v_t_seed : Int64) (v_t_cases : Int32) (v_t_printedSize : Int32) (v_t_lastReason : Int32) (r_t_brief : Nat → Int32) (rR : Int32) (hf : f_X7_briefLetters r_t_brief = some rR) : Met l yX7_briefLetters wsX7_briefLetters { frames := 0, cells := 0, slots := 0, locals := 0 } (pn_Pc D cI cJ cZ [.ref a_t] [(a_t, .inr (6, [.int v_t_thrown, .ref a_t_text, .int v_t_textSize, .int v_t_place, .ref a_t_readPage, .ref a_t_page, .ref a_t_trial, .ref a_t_work, .ref a_t_book, .int v_t_doings, .ref a_t_kept, .ref a_t_isKept, .int v_t_seen, .ref a_t_seenWhat, .ref a_t_seenV, .ref a_t_seenIs, .long v_t_seed, .ref a_t_label, .ref a_t_finds, .ref a_t_reason, .ref a_t_caseFirst, .int v_t_cases, .ref a_t_brief, .ref a_t_printed, .int v_t_printedSize, .ref a_t_renamed, .ref a_t_worth, .int v_t_lastReason])), (a_t_brief, .inl (cI, 8, .inl r_t_brief))] sz) (pn_Qi D rR [(a_t, .inr (6, [.int v_t_thrown, .ref a_t_text, .int v_t_textSize, .int v_t_place, .ref a_t_readPage, .ref a_t_page, .ref a_t_trial, .ref a_t_work, .ref a_t_book, .int v_t_doings, .ref a_t_kept, .ref a_t_isKept, .int v_t_seen, .ref a_t_seenWhat, .ref a_t_seenV, .ref a_t_seenIs, .long v_t_seed, .ref a_t_label, .ref a_t_finds, .ref a_t_reason, .ref a_t_caseFirst, .int v_t_cases, .ref a_t_brief, .ref a_t_printed, .int v_t_printedSize, .ref a_t_renamed, .ref a_t_worth, .int v_t_lastReason])), (a_t_brief, .inl (cI, 8, .inl r_t_brief))] (va_A [(a_t, .inr (6, [.int v_t_thrown, .ref a_t_text, .int v_t_textSize, .int v_t_place, .ref a_t_readPage, .ref a_t_page, .ref a_t_trial, .ref a_t_work, .ref a_t_book, .int v_t_doings, .ref a_t_kept, .ref a_t_isKept, .int v_t_seen, .ref a_t_seenWhat, .ref a_t_seenV, .ref a_t_seenIs, .long v_t_seed, .ref a_t_label, .ref a_t_finds, .ref a_t_reason, .ref a_t_caseFirst, .int v_t_cases, .ref a_t_brief, .ref a_t_printed, .int v_t_printedSize, .ref a_t_renamed, .ref a_t_worth, .int v_t_lastReason])), (a_t_brief, .inl (cI, 8, .inl r_t_brief))] sz)) 0 0 (va_A [(a_t, .inr (6, [.int v_t_thrown, .ref a_t_text, .int v_t_textSize, .int v_t_place, .ref a_t_readPage, .ref a_t_page, .ref a_t_trial, .ref a_t_work, .ref a_t_book, .int v_t_doings, .ref a_t_kept, .ref a_t_isKept, .int v_t_seen, .ref a_t_seenWhat, .ref a_t_seenV, .ref a_t_seenIs, .long v_t_seed, .ref a_t_label, .ref a_t_finds, .ref a_t_reason, .ref a_t_caseFirst, .int v_t_cases, .ref a_t_brief, .ref a_t_printed, .int v_t_printedSize, .ref a_t_renamed, .ref a_t_worth, .int v_t_lastReason])), (a_t_brief, .inl (cI, 8, .inl r_t_brief))] sz) := by
  refine pn_entry (cc := cX7_briefLetters) (maxL := 2) (ret := (some .int)) (Qf := pn_Qi D rR [(a_t, .inr (6, [.int v_t_thrown, .ref a_t_text, .int v_t_textSize, .int v_t_place, .ref a_t_readPage, .ref a_t_page, .ref a_t_trial, .ref a_t_work, .ref a_t_book, .int v_t_doings, .ref a_t_kept, .ref a_t_isKept, .int v_t_seen, .ref a_t_seenWhat, .ref a_t_seenV, .ref a_t_seenIs, .long v_t_seed, .ref a_t_label, .ref a_t_finds, .ref a_t_reason, .ref a_t_caseFirst, .int v_t_cases, .ref a_t_brief, .ref a_t_printed, .int v_t_printedSize, .ref a_t_renamed, .ref a_t_worth, .int v_t_lastReason])), (a_t_brief, .inl (cI, 8, .inl r_t_brief))]) (by decide) rfl (Nat.le_of_ble_eq_true rfl) ?_
  intro p e s m args below meth c A ls H locs Qm hQ hx hb hr hlocks hml hown hts hK hP hD hA hS hl
  have hl : lv_has ls 2 [(0, .ref a_t)] := hl
  have hinX7 : ∀ w ∈ wsX70, w ∈ wsX7_briefLetters := by decide +kernel
  have fl_56 := hts (.fieldLink RX7 56 "PointingNotesModel" "brief" "[I") (by decide +kernel)
  rw [f_X7_briefLetters] at hf
  refine lv_aload_n hx hb dX7_briefLetters_0 rfl (lv_at hl 0 rfl) ?_
  refine va_get (D := D) (ci := 6) (v := .ref a_t_brief) (C := RX7) (T := TX7) (N := 28) hx hb hts hinX7 hown hK.1 hP 0 rfl rfl 22 (by decide) fl_56 (fun _ h9 => h9) rfl dX7_briefLetters_1 ?_
  refine lv_iconst (v := (0)) hx hb dX7_briefLetters_4 (by decide) ?_
  obtain ⟨hi2, w1, ew1, hf⟩ := pn_rd_at hf
  refine pn_ldI hx hb hK.1 hP 1 0 rfl rfl hi2 ew1 dX7_briefLetters_5 ?_
  refine lv_if_ne (tgt := 28) hx hb dX7_briefLetters_6 (by decide) (fun c3 => ?_) (fun c3 => ?_)
  · have hf := pn_ifp c3 hf
    refine lv_aload_n hx hb dX7_briefLetters_28 rfl (lv_at hl 0 rfl) ?_
    refine va_get (D := D) (ci := 6) (v := .ref a_t_brief) (C := RX7) (T := TX7) (N := 28) hx hb hts hinX7 hown hK.1 hP 0 rfl rfl 22 (by decide) fl_56 (fun _ h9 => h9) rfl dX7_briefLetters_29 ?_
    refine lv_iconst (v := (0)) hx hb dX7_briefLetters_32 (by decide) ?_
    obtain ⟨hi5, w4, ew4, hf⟩ := pn_rd_at hf
    refine pn_ldI hx hb hK.1 hP 1 0 rfl rfl hi5 ew4 dX7_briefLetters_33 ?_
    refine lv_iconst (v := (3)) hx hb dX7_briefLetters_34 (by decide) ?_
    refine lv_icmp_ne (tgt := 42) hx hb dX7_briefLetters_35 (by decide) (fun c6 => ?_) (fun c6 => ?_)
    · have hf := pn_ifp c6 hf
      refine lv_iconst (v := (1)) hx hb dX7_briefLetters_42 (by decide) ?_
      refine lv_istore_n (lv' := [(1, .int (1 : Int32)), (0, .ref a_t)]) hx hb dX7_briefLetters_43 rfl hl (by decide) rfl (fun ls hl => ?_)
      refine lv_aload_n hx hb dX7_briefLetters_44 rfl (lv_at hl 1 rfl) ?_
      refine va_get (D := D) (ci := 6) (v := .ref a_t_brief) (C := RX7) (T := TX7) (N := 28) hx hb hts hinX7 hown hK.1 hP 0 rfl rfl 22 (by decide) fl_56 (fun _ h9 => h9) rfl dX7_briefLetters_45 ?_
      refine lv_bipush (v := (7)) hx hb dX7_briefLetters_48 (by decide) ?_
      obtain ⟨hi8, w7, ew7, hf⟩ := pn_rd_at hf
      refine pn_ldI hx hb hK.1 hP 1 0 rfl rfl hi8 ew7 dX7_briefLetters_50 ?_
      refine lv_if_ne (tgt := 58) hx hb dX7_briefLetters_51 (by decide) (fun c9 => ?_) (fun c9 => ?_)
      · have hf := pn_ifp c9 hf
        refine lv_iload_n hx hb dX7_briefLetters_58 rfl (lv_at hl 0 rfl) ?_
        refine lv_iconst (v := (3)) hx hb dX7_briefLetters_59 (by decide) ?_
        refine lv_iadd hx hb dX7_briefLetters_60 ?_
        cases hf
        rw [hQ]
        exact pn_reti hx hb hr hlocks hP hS rfl dX7_briefLetters_61
      · have hf := pn_ifq c9 hf
        refine lv_iload_n hx hb dX7_briefLetters_54 rfl (lv_at hl 0 rfl) ?_
        refine lv_goto (tgt := 61) hx hb dX7_briefLetters_55 (by decide) ?_
        cases hf
        rw [hQ]
        exact pn_reti hx hb hr hlocks hP hS rfl dX7_briefLetters_61
    · have hf := pn_ifq c6 hf
      refine lv_iconst (v := (3)) hx hb dX7_briefLetters_38 (by decide) ?_
      refine lv_goto (tgt := 43) hx hb dX7_briefLetters_39 (by decide) ?_
      refine lv_istore_n (lv' := [(1, .int (3 : Int32)), (0, .ref a_t)]) hx hb dX7_briefLetters_43 rfl hl (by decide) rfl (fun ls hl => ?_)
      refine lv_aload_n hx hb dX7_briefLetters_44 rfl (lv_at hl 1 rfl) ?_
      refine va_get (D := D) (ci := 6) (v := .ref a_t_brief) (C := RX7) (T := TX7) (N := 28) hx hb hts hinX7 hown hK.1 hP 0 rfl rfl 22 (by decide) fl_56 (fun _ h9 => h9) rfl dX7_briefLetters_45 ?_
      refine lv_bipush (v := (7)) hx hb dX7_briefLetters_48 (by decide) ?_
      obtain ⟨hi11, w10, ew10, hf⟩ := pn_rd_at hf
      refine pn_ldI hx hb hK.1 hP 1 0 rfl rfl hi11 ew10 dX7_briefLetters_50 ?_
      refine lv_if_ne (tgt := 58) hx hb dX7_briefLetters_51 (by decide) (fun c12 => ?_) (fun c12 => ?_)
      · have hf := pn_ifp c12 hf
        refine lv_iload_n hx hb dX7_briefLetters_58 rfl (lv_at hl 0 rfl) ?_
        refine lv_iconst (v := (3)) hx hb dX7_briefLetters_59 (by decide) ?_
        refine lv_iadd hx hb dX7_briefLetters_60 ?_
        cases hf
        rw [hQ]
        exact pn_reti hx hb hr hlocks hP hS rfl dX7_briefLetters_61
      · have hf := pn_ifq c12 hf
        refine lv_iload_n hx hb dX7_briefLetters_54 rfl (lv_at hl 0 rfl) ?_
        refine lv_goto (tgt := 61) hx hb dX7_briefLetters_55 (by decide) ?_
        cases hf
        rw [hQ]
        exact pn_reti hx hb hr hlocks hP hS rfl dX7_briefLetters_61
  · have hf := pn_ifq c3 hf
    refine lv_aload_n hx hb dX7_briefLetters_9 rfl (lv_at hl 0 rfl) ?_
    refine va_get (D := D) (ci := 6) (v := .ref a_t_brief) (C := RX7) (T := TX7) (N := 28) hx hb hts hinX7 hown hK.1 hP 0 rfl rfl 22 (by decide) fl_56 (fun _ h9 => h9) rfl dX7_briefLetters_10 ?_
    refine lv_iconst (v := (4)) hx hb dX7_briefLetters_13 (by decide) ?_
    obtain ⟨hi14, w13, ew13, hf⟩ := pn_rd_at hf
    refine pn_ldI hx hb hK.1 hP 1 0 rfl rfl hi14 ew13 dX7_briefLetters_14 ?_
    refine lv_if_ne (tgt := 23) hx hb dX7_briefLetters_15 (by decide) (fun c15 => ?_) (fun c15 => ?_)
    · have hf := pn_ifp c15 hf
      refine lv_bipush (v := (11)) hx hb dX7_briefLetters_23 (by decide) ?_
      refine lv_goto (tgt := 43) hx hb dX7_briefLetters_25 (by decide) ?_
      refine lv_istore_n (lv' := [(1, .int (11 : Int32)), (0, .ref a_t)]) hx hb dX7_briefLetters_43 rfl hl (by decide) rfl (fun ls hl => ?_)
      refine lv_aload_n hx hb dX7_briefLetters_44 rfl (lv_at hl 1 rfl) ?_
      refine va_get (D := D) (ci := 6) (v := .ref a_t_brief) (C := RX7) (T := TX7) (N := 28) hx hb hts hinX7 hown hK.1 hP 0 rfl rfl 22 (by decide) fl_56 (fun _ h9 => h9) rfl dX7_briefLetters_45 ?_
      refine lv_bipush (v := (7)) hx hb dX7_briefLetters_48 (by decide) ?_
      obtain ⟨hi17, w16, ew16, hf⟩ := pn_rd_at hf
      refine pn_ldI hx hb hK.1 hP 1 0 rfl rfl hi17 ew16 dX7_briefLetters_50 ?_
      refine lv_if_ne (tgt := 58) hx hb dX7_briefLetters_51 (by decide) (fun c18 => ?_) (fun c18 => ?_)
      · have hf := pn_ifp c18 hf
        refine lv_iload_n hx hb dX7_briefLetters_58 rfl (lv_at hl 0 rfl) ?_
        refine lv_iconst (v := (3)) hx hb dX7_briefLetters_59 (by decide) ?_
        refine lv_iadd hx hb dX7_briefLetters_60 ?_
        cases hf
        rw [hQ]
        exact pn_reti hx hb hr hlocks hP hS rfl dX7_briefLetters_61
      · have hf := pn_ifq c18 hf
        refine lv_iload_n hx hb dX7_briefLetters_54 rfl (lv_at hl 0 rfl) ?_
        refine lv_goto (tgt := 61) hx hb dX7_briefLetters_55 (by decide) ?_
        cases hf
        rw [hQ]
        exact pn_reti hx hb hr hlocks hP hS rfl dX7_briefLetters_61
    · have hf := pn_ifq c15 hf
      refine lv_bipush (v := (6)) hx hb dX7_briefLetters_18 (by decide) ?_
      refine lv_goto (tgt := 43) hx hb dX7_briefLetters_20 (by decide) ?_
      refine lv_istore_n (lv' := [(1, .int (6 : Int32)), (0, .ref a_t)]) hx hb dX7_briefLetters_43 rfl hl (by decide) rfl (fun ls hl => ?_)
      refine lv_aload_n hx hb dX7_briefLetters_44 rfl (lv_at hl 1 rfl) ?_
      refine va_get (D := D) (ci := 6) (v := .ref a_t_brief) (C := RX7) (T := TX7) (N := 28) hx hb hts hinX7 hown hK.1 hP 0 rfl rfl 22 (by decide) fl_56 (fun _ h9 => h9) rfl dX7_briefLetters_45 ?_
      refine lv_bipush (v := (7)) hx hb dX7_briefLetters_48 (by decide) ?_
      obtain ⟨hi20, w19, ew19, hf⟩ := pn_rd_at hf
      refine pn_ldI hx hb hK.1 hP 1 0 rfl rfl hi20 ew19 dX7_briefLetters_50 ?_
      refine lv_if_ne (tgt := 58) hx hb dX7_briefLetters_51 (by decide) (fun c21 => ?_) (fun c21 => ?_)
      · have hf := pn_ifp c21 hf
        refine lv_iload_n hx hb dX7_briefLetters_58 rfl (lv_at hl 0 rfl) ?_
        refine lv_iconst (v := (3)) hx hb dX7_briefLetters_59 (by decide) ?_
        refine lv_iadd hx hb dX7_briefLetters_60 ?_
        cases hf
        rw [hQ]
        exact pn_reti hx hb hr hlocks hP hS rfl dX7_briefLetters_61
      · have hf := pn_ifq c21 hf
        refine lv_iload_n hx hb dX7_briefLetters_54 rfl (lv_at hl 0 rfl) ?_
        refine lv_goto (tgt := 61) hx hb dX7_briefLetters_55 (by decide) ?_
        cases hf
        rw [hQ]
        exact pn_reti hx hb hr hlocks hP hS rfl dX7_briefLetters_61
def f_X7_shorter (N : Nat) (v_t_thrown : Int32) (v_t_cases : Int32) (v_t_lastReason : Int32) (r_t_brief : Nat → Int32) (r_t_caseFirst : Nat → Int32) (r_t_finds : Nat → Int32) (r_t_label : Nat → Int32) (r_t_page : Nat → Int32) (r_t_reason : Nat → Int32) (p1 : Int32) (p2 : Int32) (p3 : Int32) : Option (Int32 × Int32 × Int32 × Int32 × (Nat → Int32) × (Nat → Int32) × (Nat → Int32) × (Nat → Int32) × (Nat → Int32)) :=
  pn_bd1 (f_X7_isThere r_t_page p1 p2) fun ru1 =>
  if ¬ ru1 = 0 then
  pn_bd1 (f_X7_in p3.toInt64 (0 : Int64) (1 : Int64)) fun ru3 =>
  if ¬ ru3 = 0 then
  pn_bd6 (f_X7_findAll N v_t_cases v_t_lastReason r_t_caseFirst r_t_finds r_t_label r_t_reason r_t_page) fun v_t_cases_u5 v_t_lastReason_u5 r_t_caseFirst_u5 r_t_finds_u5 r_t_label_u5 r_t_reason_u5 =>
  pn_bd2 (f_X7_shorten N v_t_cases_u5 v_t_lastReason_u5 r_t_brief r_t_caseFirst_u5 r_t_finds_u5 r_t_page (((4 : Int32) * p1) + p2)) fun v_t_lastReason_u6 r_t_brief_u6 =>
  if ¬ p3 = 0 then
  pn_bd1 (f_X7_briefLetters r_t_brief_u6) fun ru8 =>
  some (ru8, (0 : Int32), v_t_cases_u5, v_t_lastReason_u6, r_t_brief_u6, r_t_caseFirst_u5, r_t_finds_u5, r_t_label_u5, r_t_reason_u5)
  else
  pn_rd 8 r_t_brief_u6 (0 : Int32) fun w9 =>
  some (w9, (0 : Int32), v_t_cases_u5, v_t_lastReason_u6, r_t_brief_u6, r_t_caseFirst_u5, r_t_finds_u5, r_t_label_u5, r_t_reason_u5)
  else
  some ((-2 : Int32), (0 : Int32), v_t_cases, v_t_lastReason, r_t_brief, r_t_caseFirst, r_t_finds, r_t_label, r_t_reason)
  else
  some ((-1 : Int32), (0 : Int32), v_t_cases, v_t_lastReason, r_t_brief, r_t_caseFirst, r_t_finds, r_t_label, r_t_reason)
set_option maxHeartbeats 4000000 in
set_option maxRecDepth 100000 in
theorem c_X7_shorter (l : Launch) (D : va_G) (cI cJ cZ : ClassId) (a_t a_t_text a_t_readPage a_t_page a_t_trial a_t_work a_t_book a_t_kept a_t_isKept a_t_seenWhat a_t_seenV a_t_seenIs a_t_label a_t_finds a_t_reason a_t_caseFirst a_t_brief a_t_printed a_t_renamed a_t_worth : Nat) (sz : Nat) (v_t_textSize : Int32) (v_t_place : Int32) (v_t_doings : Int32) (v_t_seen : Int32) (v_t_seed : Int64) (v_t_printedSize : Int32) (N : Nat) (v_t_thrown : Int32) (v_t_cases : Int32) (v_t_lastReason : Int32) (r_t_brief : Nat → Int32) (r_t_caseFirst : Nat → Int32) (r_t_finds : Nat → Int32) (r_t_label : Nat → Int32) (r_t_page : Nat → Int32) (r_t_reason : Nat → Int32) (p1 : Int32) (p2 : Int32) (p3 : Int32) (rR : Int32) (o_t_thrown : Int32) (o_t_cases : Int32) (o_t_lastReason : Int32) (o_t_brief : Nat → Int32) (o_t_caseFirst : Nat → Int32) (o_t_finds : Nat → Int32) (o_t_label : Nat → Int32) (o_t_reason : Nat → Int32) (hf : f_X7_shorter N v_t_thrown v_t_cases v_t_lastReason r_t_brief r_t_caseFirst r_t_finds r_t_label r_t_page r_t_reason p1 p2 p3 = some (rR, o_t_thrown, o_t_cases, o_t_lastReason, o_t_brief, o_t_caseFirst, o_t_finds, o_t_label, o_t_reason)) : Met l yX7_shorter wsX7_shorter { frames := 7, cells := 0, slots := 0, locals := 168 } (pn_Pc D cI cJ cZ [.ref a_t, .int p1, .int p2, .int p3] [(a_t, .inr (6, [.int v_t_thrown, .ref a_t_text, .int v_t_textSize, .int v_t_place, .ref a_t_readPage, .ref a_t_page, .ref a_t_trial, .ref a_t_work, .ref a_t_book, .int v_t_doings, .ref a_t_kept, .ref a_t_isKept, .int v_t_seen, .ref a_t_seenWhat, .ref a_t_seenV, .ref a_t_seenIs, .long v_t_seed, .ref a_t_label, .ref a_t_finds, .ref a_t_reason, .ref a_t_caseFirst, .int v_t_cases, .ref a_t_brief, .ref a_t_printed, .int v_t_printedSize, .ref a_t_renamed, .ref a_t_worth, .int v_t_lastReason])), (a_t_brief, .inl (cI, 8, .inl r_t_brief)), (a_t_caseFirst, .inl (cI, 32, .inl r_t_caseFirst)), (a_t_finds, .inl (cI, 32, .inl r_t_finds)), (a_t_label, .inl (cI, 32, .inl r_t_label)), (a_t_page, .inl (cI, 265, .inl r_t_page)), (a_t_reason, .inl (cI, 32, .inl r_t_reason))] sz) (pn_Qi D rR [(a_t, .inr (6, [.int o_t_thrown, .ref a_t_text, .int v_t_textSize, .int v_t_place, .ref a_t_readPage, .ref a_t_page, .ref a_t_trial, .ref a_t_work, .ref a_t_book, .int v_t_doings, .ref a_t_kept, .ref a_t_isKept, .int v_t_seen, .ref a_t_seenWhat, .ref a_t_seenV, .ref a_t_seenIs, .long v_t_seed, .ref a_t_label, .ref a_t_finds, .ref a_t_reason, .ref a_t_caseFirst, .int o_t_cases, .ref a_t_brief, .ref a_t_printed, .int v_t_printedSize, .ref a_t_renamed, .ref a_t_worth, .int o_t_lastReason])), (a_t_brief, .inl (cI, 8, .inl o_t_brief)), (a_t_caseFirst, .inl (cI, 32, .inl o_t_caseFirst)), (a_t_finds, .inl (cI, 32, .inl o_t_finds)), (a_t_label, .inl (cI, 32, .inl o_t_label)), (a_t_page, .inl (cI, 265, .inl r_t_page)), (a_t_reason, .inl (cI, 32, .inl o_t_reason))] (va_A [(a_t, .inr (6, [.int v_t_thrown, .ref a_t_text, .int v_t_textSize, .int v_t_place, .ref a_t_readPage, .ref a_t_page, .ref a_t_trial, .ref a_t_work, .ref a_t_book, .int v_t_doings, .ref a_t_kept, .ref a_t_isKept, .int v_t_seen, .ref a_t_seenWhat, .ref a_t_seenV, .ref a_t_seenIs, .long v_t_seed, .ref a_t_label, .ref a_t_finds, .ref a_t_reason, .ref a_t_caseFirst, .int v_t_cases, .ref a_t_brief, .ref a_t_printed, .int v_t_printedSize, .ref a_t_renamed, .ref a_t_worth, .int v_t_lastReason])), (a_t_brief, .inl (cI, 8, .inl r_t_brief)), (a_t_caseFirst, .inl (cI, 32, .inl r_t_caseFirst)), (a_t_finds, .inl (cI, 32, .inl r_t_finds)), (a_t_label, .inl (cI, 32, .inl r_t_label)), (a_t_page, .inl (cI, 265, .inl r_t_page)), (a_t_reason, .inl (cI, 32, .inl r_t_reason))] sz)) 0 0 (va_A [(a_t, .inr (6, [.int v_t_thrown, .ref a_t_text, .int v_t_textSize, .int v_t_place, .ref a_t_readPage, .ref a_t_page, .ref a_t_trial, .ref a_t_work, .ref a_t_book, .int v_t_doings, .ref a_t_kept, .ref a_t_isKept, .int v_t_seen, .ref a_t_seenWhat, .ref a_t_seenV, .ref a_t_seenIs, .long v_t_seed, .ref a_t_label, .ref a_t_finds, .ref a_t_reason, .ref a_t_caseFirst, .int v_t_cases, .ref a_t_brief, .ref a_t_printed, .int v_t_printedSize, .ref a_t_renamed, .ref a_t_worth, .int v_t_lastReason])), (a_t_brief, .inl (cI, 8, .inl r_t_brief)), (a_t_caseFirst, .inl (cI, 32, .inl r_t_caseFirst)), (a_t_finds, .inl (cI, 32, .inl r_t_finds)), (a_t_label, .inl (cI, 32, .inl r_t_label)), (a_t_page, .inl (cI, 265, .inl r_t_page)), (a_t_reason, .inl (cI, 32, .inl r_t_reason))] sz) := by
  refine pn_entry (cc := cX7_shorter) (maxL := 4) (ret := (some .int)) (Qf := pn_Qi D rR [(a_t, .inr (6, [.int o_t_thrown, .ref a_t_text, .int v_t_textSize, .int v_t_place, .ref a_t_readPage, .ref a_t_page, .ref a_t_trial, .ref a_t_work, .ref a_t_book, .int v_t_doings, .ref a_t_kept, .ref a_t_isKept, .int v_t_seen, .ref a_t_seenWhat, .ref a_t_seenV, .ref a_t_seenIs, .long v_t_seed, .ref a_t_label, .ref a_t_finds, .ref a_t_reason, .ref a_t_caseFirst, .int o_t_cases, .ref a_t_brief, .ref a_t_printed, .int v_t_printedSize, .ref a_t_renamed, .ref a_t_worth, .int o_t_lastReason])), (a_t_brief, .inl (cI, 8, .inl o_t_brief)), (a_t_caseFirst, .inl (cI, 32, .inl o_t_caseFirst)), (a_t_finds, .inl (cI, 32, .inl o_t_finds)), (a_t_label, .inl (cI, 32, .inl o_t_label)), (a_t_page, .inl (cI, 265, .inl r_t_page)), (a_t_reason, .inl (cI, 32, .inl o_t_reason))]) (by decide) rfl (Nat.le_of_ble_eq_true rfl) ?_
  intro p e s m args below meth c A ls H locs Qm hQ hx hb hr hlocks hml hown hts hK hP hD hA hS hl
  have hl : lv_has ls 4 [(0, .ref a_t), (1, .int p1), (2, .int p2), (3, .int p3)] := hl
  have hinX7 : ∀ w ∈ wsX70, w ∈ wsX7_shorter := by decide +kernel
  have fl_16 := hts (.fieldLink RX7 16 "PointingNotesModel" "page" "[I") (by decide +kernel)
  have fl_56 := hts (.fieldLink RX7 56 "PointingNotesModel" "brief" "[I") (by decide +kernel)
  have fl_68 := hts (.fieldLink RX7 68 "PointingNotesModel" "thrown" "I") (by decide +kernel)
  rw [f_X7_shorter] at hf
  refine lv_aload_n hx hb dX7_shorter_0 rfl (lv_at hl 0 rfl) ?_
  refine lv_iconst (v := (0)) hx hb dX7_shorter_1 (by decide) ?_
  refine va_put (D := D) (ci := 6) (v := .int (0 : Int32)) (ty := .int) (C := RX7) (T := TX7) (N := 28) hx hb hts hinX7 tyX7 tyX7_ok nmX7 hown hK.1 hP (hD.addr rfl) hS 0 rfl rfl 0 (by decide) fl_68 (fun _ h9 => h9) rfl (by decide +kernel) rfl rfl (Nat.le_of_ble_eq_true rfl) dX7_shorter_2 (fun H locs (hP : va_P D vwCl [(a_t, .inr (6, [.int ((0 : Int32)), .ref a_t_text, .int v_t_textSize, .int v_t_place, .ref a_t_readPage, .ref a_t_page, .ref a_t_trial, .ref a_t_work, .ref a_t_book, .int v_t_doings, .ref a_t_kept, .ref a_t_isKept, .int v_t_seen, .ref a_t_seenWhat, .ref a_t_seenV, .ref a_t_seenIs, .long v_t_seed, .ref a_t_label, .ref a_t_finds, .ref a_t_reason, .ref a_t_caseFirst, .int v_t_cases, .ref a_t_brief, .ref a_t_printed, .int v_t_printedSize, .ref a_t_renamed, .ref a_t_worth, .int v_t_lastReason])), (a_t_brief, .inl (cI, 8, .inl r_t_brief)), (a_t_caseFirst, .inl (cI, 32, .inl r_t_caseFirst)), (a_t_finds, .inl (cI, 32, .inl r_t_finds)), (a_t_label, .inl (cI, 32, .inl r_t_label)), (a_t_page, .inl (cI, 265, .inl r_t_page)), (a_t_reason, .inl (cI, 32, .inl r_t_reason))] H) _ hS => ?_)
  refine lv_aload_n hx hb dX7_shorter_5 rfl (lv_at hl 0 rfl) ?_
  refine va_get (D := D) (ci := 6) (v := .ref a_t_page) (C := RX7) (T := TX7) (N := 28) hx hb hts hinX7 hown hK.1 hP 0 rfl rfl 5 (by decide) fl_16 (fun _ h9 => h9) rfl dX7_shorter_6 ?_
  refine lv_iload_n hx hb dX7_shorter_9 rfl (lv_at hl 1 rfl) ?_
  refine lv_iload_n hx hb dX7_shorter_10 rfl (lv_at hl 2 rfl) ?_
  obtain ⟨ru1, hu1, hf⟩ := pn_bd1_at hf
  refine pn_calli [5] (va_runS (As := [.ref a_t_page, .int p1, .int p2]) (rest := []) ⟨hx, hb, hml, hown, hts⟩ (c_X7_isThere l D cI cJ cZ a_t_page H.size r_t_page p1 p2 ru1 hu1) (va_cwS 3 hts gX7_shorter_X7_isThere rfl rfl rfl hdX7_isThere ⟨Nat.le_of_ble_eq_true rfl, Nat.le_of_ble_eq_true rfl⟩) (pn_preS [5] hP (hD.addr rfl) hK rfl rfl) rfl rfl hl.1 rfl (lv_room (Nat.le_of_ble_eq_true rfl)) dX7_shorter_11 ⟨Nat.zero_le _, Nat.zero_le _⟩) hP (hD.addr rfl) hS hA rfl rfl rfl (fun H locs (hP : va_P D vwCl [(a_t, .inr (6, [.int ((0 : Int32)), .ref a_t_text, .int v_t_textSize, .int v_t_place, .ref a_t_readPage, .ref a_t_page, .ref a_t_trial, .ref a_t_work, .ref a_t_book, .int v_t_doings, .ref a_t_kept, .ref a_t_isKept, .int v_t_seen, .ref a_t_seenWhat, .ref a_t_seenV, .ref a_t_seenIs, .long v_t_seed, .ref a_t_label, .ref a_t_finds, .ref a_t_reason, .ref a_t_caseFirst, .int v_t_cases, .ref a_t_brief, .ref a_t_printed, .int v_t_printedSize, .ref a_t_renamed, .ref a_t_worth, .int v_t_lastReason])), (a_t_brief, .inl (cI, 8, .inl r_t_brief)), (a_t_caseFirst, .inl (cI, 32, .inl r_t_caseFirst)), (a_t_finds, .inl (cI, 32, .inl r_t_finds)), (a_t_label, .inl (cI, 32, .inl r_t_label)), (a_t_page, .inl (cI, 265, .inl r_t_page)), (a_t_reason, .inl (cI, 32, .inl r_t_reason))] H) _ hS => ?_)
  refine lv_if_ne (tgt := 19) hx hb dX7_shorter_14 (by decide) (fun c2 => ?_) (fun c2 => ?_)
  · have hf := pn_ifp c2 hf
    refine lv_iload_n hx hb dX7_shorter_19 rfl (lv_at hl 3 rfl) ?_
    refine lv_i2l hx hb dX7_shorter_20 rfl ?_
    refine lv_lconst (v := 0) hx hb dX7_shorter_21 (by decide) ?_
    refine lv_lconst (v := 1) hx hb dX7_shorter_22 (by decide) ?_
    obtain ⟨ru3, hu3, hf⟩ := pn_bd1_at hf
    refine pn_calli [] (va_runS (As := [.long p3.toInt64, .long (0 : Int64), .long (1 : Int64)]) (rest := []) ⟨hx, hb, hml, hown, hts⟩ (c_X7_in l D cI cJ cZ H.size p3.toInt64 (0 : Int64) (1 : Int64) ru3 hu3) (va_cwS 3 hts gX7_shorter_X7_in rfl rfl rfl hdX7_in ⟨Nat.le_of_ble_eq_true rfl, Nat.le_of_ble_eq_true rfl⟩) (pn_preS [] hP (hD.addr rfl) hK rfl rfl) rfl rfl hl.1 rfl (lv_room (Nat.le_of_ble_eq_true rfl)) dX7_shorter_23 ⟨Nat.zero_le _, Nat.zero_le _⟩) hP (hD.addr rfl) hS hA rfl rfl rfl (fun H locs (hP : va_P D vwCl [(a_t, .inr (6, [.int ((0 : Int32)), .ref a_t_text, .int v_t_textSize, .int v_t_place, .ref a_t_readPage, .ref a_t_page, .ref a_t_trial, .ref a_t_work, .ref a_t_book, .int v_t_doings, .ref a_t_kept, .ref a_t_isKept, .int v_t_seen, .ref a_t_seenWhat, .ref a_t_seenV, .ref a_t_seenIs, .long v_t_seed, .ref a_t_label, .ref a_t_finds, .ref a_t_reason, .ref a_t_caseFirst, .int v_t_cases, .ref a_t_brief, .ref a_t_printed, .int v_t_printedSize, .ref a_t_renamed, .ref a_t_worth, .int v_t_lastReason])), (a_t_brief, .inl (cI, 8, .inl r_t_brief)), (a_t_caseFirst, .inl (cI, 32, .inl r_t_caseFirst)), (a_t_finds, .inl (cI, 32, .inl r_t_finds)), (a_t_label, .inl (cI, 32, .inl r_t_label)), (a_t_page, .inl (cI, 265, .inl r_t_page)), (a_t_reason, .inl (cI, 32, .inl r_t_reason))] H) _ hS => ?_)
    refine lv_if_ne (tgt := 32) hx hb dX7_shorter_26 (by decide) (fun c4 => ?_) (fun c4 => ?_)
    · have hf := pn_ifp c4 hf
      refine lv_aload_n hx hb dX7_shorter_32 rfl (lv_at hl 0 rfl) ?_
      refine lv_aload_n hx hb dX7_shorter_33 rfl (lv_at hl 0 rfl) ?_
      refine va_get (D := D) (ci := 6) (v := .ref a_t_page) (C := RX7) (T := TX7) (N := 28) hx hb hts hinX7 hown hK.1 hP 0 rfl rfl 5 (by decide) fl_16 (fun _ h9 => h9) rfl dX7_shorter_34 ?_
      obtain ⟨v_t_cases_u5, v_t_lastReason_u5, r_t_caseFirst_u5, r_t_finds_u5, r_t_label_u5, r_t_reason_u5, hu5, hf⟩ := pn_bd6_at hf
      refine pn_callv [0, 2, 3, 4, 6, 5] (va_runV (As := [.ref a_t_page]) (rest := []) ⟨hx, hb, hml, hown, hts⟩ (c_X7_findAll l D cI cJ cZ a_t a_t_text a_t_readPage a_t_page a_t_trial a_t_work a_t_book a_t_kept a_t_isKept a_t_seenWhat a_t_seenV a_t_seenIs a_t_label a_t_finds a_t_reason a_t_caseFirst a_t_brief a_t_printed a_t_renamed a_t_worth a_t_page H.size (0 : Int32) v_t_textSize v_t_place v_t_doings v_t_seen v_t_seed v_t_printedSize N v_t_cases v_t_lastReason r_t_caseFirst r_t_finds r_t_label r_t_reason r_t_page v_t_cases_u5 v_t_lastReason_u5 r_t_caseFirst_u5 r_t_finds_u5 r_t_label_u5 r_t_reason_u5 hu5) (cwV 1 hts gX7_shorter_X7_findAll rfl rfl rfl hdX7_findAll ⟨Nat.le_of_ble_eq_true rfl, Nat.le_of_ble_eq_true rfl⟩) (pn_preV [0, 2, 3, 4, 6, 5] hP (hD.addr rfl) hK rfl rfl (q0 := 0) (ci := 6) rfl rfl) rfl rfl hl.1 rfl (lv_room (Nat.le_of_ble_eq_true rfl)) dX7_shorter_37 ⟨Nat.zero_le _, Nat.zero_le _⟩) hP (hD.addr rfl) hS hA rfl rfl rfl (fun H locs (hP : va_P D vwCl [(a_t, .inr (6, [.int ((0 : Int32)), .ref a_t_text, .int v_t_textSize, .int v_t_place, .ref a_t_readPage, .ref a_t_page, .ref a_t_trial, .ref a_t_work, .ref a_t_book, .int v_t_doings, .ref a_t_kept, .ref a_t_isKept, .int v_t_seen, .ref a_t_seenWhat, .ref a_t_seenV, .ref a_t_seenIs, .long v_t_seed, .ref a_t_label, .ref a_t_finds, .ref a_t_reason, .ref a_t_caseFirst, .int v_t_cases_u5, .ref a_t_brief, .ref a_t_printed, .int v_t_printedSize, .ref a_t_renamed, .ref a_t_worth, .int v_t_lastReason_u5])), (a_t_brief, .inl (cI, 8, .inl r_t_brief)), (a_t_caseFirst, .inl (cI, 32, .inl r_t_caseFirst_u5)), (a_t_finds, .inl (cI, 32, .inl r_t_finds_u5)), (a_t_label, .inl (cI, 32, .inl r_t_label_u5)), (a_t_page, .inl (cI, 265, .inl r_t_page)), (a_t_reason, .inl (cI, 32, .inl r_t_reason_u5))] H) _ hS => ?_)
      refine lv_aload_n hx hb dX7_shorter_40 rfl (lv_at hl 0 rfl) ?_
      refine lv_aload_n hx hb dX7_shorter_41 rfl (lv_at hl 0 rfl) ?_
      refine va_get (D := D) (ci := 6) (v := .ref a_t_page) (C := RX7) (T := TX7) (N := 28) hx hb hts hinX7 hown hK.1 hP 0 rfl rfl 5 (by decide) fl_16 (fun _ h9 => h9) rfl dX7_shorter_42 ?_
      refine lv_iconst (v := (4)) hx hb dX7_shorter_45 (by decide) ?_
      refine lv_iload_n hx hb dX7_shorter_46 rfl (lv_at hl 1 rfl) ?_
      refine lv_imul hx hb dX7_shorter_47 ?_
      refine lv_iload_n hx hb dX7_shorter_48 rfl (lv_at hl 2 rfl) ?_
      refine lv_iadd hx hb dX7_shorter_49 ?_
      obtain ⟨v_t_lastReason_u6, r_t_brief_u6, hu6, hf⟩ := pn_bd2_at hf
      refine pn_callv [0, 1, 2, 3, 5] (va_runV (As := [.ref a_t_page, .int (((4 : Int32) * p1) + p2)]) (rest := []) ⟨hx, hb, hml, hown, hts⟩ (c_X7_shorten l D cI cJ cZ a_t a_t_text a_t_readPage a_t_page a_t_trial a_t_work a_t_book a_t_kept a_t_isKept a_t_seenWhat a_t_seenV a_t_seenIs a_t_label a_t_finds a_t_reason a_t_caseFirst a_t_brief a_t_printed a_t_renamed a_t_worth a_t_page H.size (0 : Int32) v_t_textSize v_t_place v_t_doings v_t_seen v_t_seed v_t_printedSize N v_t_cases_u5 v_t_lastReason_u5 r_t_brief r_t_caseFirst_u5 r_t_finds_u5 r_t_page (((4 : Int32) * p1) + p2) v_t_lastReason_u6 r_t_brief_u6 hu6) (cwV 2 hts gX7_shorter_X7_shorten rfl rfl rfl hdX7_shorten ⟨Nat.le_of_ble_eq_true rfl, Nat.le_of_ble_eq_true rfl⟩) (pn_preV [0, 1, 2, 3, 5] hP (hD.addr rfl) hK rfl rfl (q0 := 0) (ci := 6) rfl rfl) rfl rfl hl.1 rfl (lv_room (Nat.le_of_ble_eq_true rfl)) dX7_shorter_50 ⟨Nat.zero_le _, Nat.zero_le _⟩) hP (hD.addr rfl) hS hA rfl rfl rfl (fun H locs (hP : va_P D vwCl [(a_t, .inr (6, [.int ((0 : Int32)), .ref a_t_text, .int v_t_textSize, .int v_t_place, .ref a_t_readPage, .ref a_t_page, .ref a_t_trial, .ref a_t_work, .ref a_t_book, .int v_t_doings, .ref a_t_kept, .ref a_t_isKept, .int v_t_seen, .ref a_t_seenWhat, .ref a_t_seenV, .ref a_t_seenIs, .long v_t_seed, .ref a_t_label, .ref a_t_finds, .ref a_t_reason, .ref a_t_caseFirst, .int v_t_cases_u5, .ref a_t_brief, .ref a_t_printed, .int v_t_printedSize, .ref a_t_renamed, .ref a_t_worth, .int v_t_lastReason_u6])), (a_t_brief, .inl (cI, 8, .inl r_t_brief_u6)), (a_t_caseFirst, .inl (cI, 32, .inl r_t_caseFirst_u5)), (a_t_finds, .inl (cI, 32, .inl r_t_finds_u5)), (a_t_label, .inl (cI, 32, .inl r_t_label_u5)), (a_t_page, .inl (cI, 265, .inl r_t_page)), (a_t_reason, .inl (cI, 32, .inl r_t_reason_u5))] H) _ hS => ?_)
      refine lv_iload_n hx hb dX7_shorter_53 rfl (lv_at hl 3 rfl) ?_
      refine lv_if_ne (tgt := 66) hx hb dX7_shorter_54 (by decide) (fun c7 => ?_) (fun c7 => ?_)
      · have hf := pn_ifp c7 hf
        refine lv_aload_n hx hb dX7_shorter_66 rfl (lv_at hl 0 rfl) ?_
        obtain ⟨ru8, hu8, hf⟩ := pn_bd1_at hf
        refine pn_calli [0, 1] (va_runV (As := []) (rest := []) ⟨hx, hb, hml, hown, hts⟩ (c_X7_briefLetters l D cI cJ cZ a_t a_t_text a_t_readPage a_t_page a_t_trial a_t_work a_t_book a_t_kept a_t_isKept a_t_seenWhat a_t_seenV a_t_seenIs a_t_label a_t_finds a_t_reason a_t_caseFirst a_t_brief a_t_printed a_t_renamed a_t_worth H.size (0 : Int32) v_t_textSize v_t_place v_t_doings v_t_seen v_t_seed v_t_cases_u5 v_t_printedSize v_t_lastReason_u6 r_t_brief_u6 ru8 hu8) (cwV 0 hts gX7_shorter_X7_briefLetters rfl rfl rfl hdX7_briefLetters ⟨Nat.le_of_ble_eq_true rfl, Nat.le_of_ble_eq_true rfl⟩) (pn_preV [0, 1] hP (hD.addr rfl) hK rfl rfl (q0 := 0) (ci := 6) rfl rfl) rfl rfl hl.1 rfl (lv_room (Nat.le_of_ble_eq_true rfl)) dX7_shorter_67 ⟨Nat.zero_le _, Nat.zero_le _⟩) hP (hD.addr rfl) hS hA rfl rfl rfl (fun H locs (hP : va_P D vwCl [(a_t, .inr (6, [.int ((0 : Int32)), .ref a_t_text, .int v_t_textSize, .int v_t_place, .ref a_t_readPage, .ref a_t_page, .ref a_t_trial, .ref a_t_work, .ref a_t_book, .int v_t_doings, .ref a_t_kept, .ref a_t_isKept, .int v_t_seen, .ref a_t_seenWhat, .ref a_t_seenV, .ref a_t_seenIs, .long v_t_seed, .ref a_t_label, .ref a_t_finds, .ref a_t_reason, .ref a_t_caseFirst, .int v_t_cases_u5, .ref a_t_brief, .ref a_t_printed, .int v_t_printedSize, .ref a_t_renamed, .ref a_t_worth, .int v_t_lastReason_u6])), (a_t_brief, .inl (cI, 8, .inl r_t_brief_u6)), (a_t_caseFirst, .inl (cI, 32, .inl r_t_caseFirst_u5)), (a_t_finds, .inl (cI, 32, .inl r_t_finds_u5)), (a_t_label, .inl (cI, 32, .inl r_t_label_u5)), (a_t_page, .inl (cI, 265, .inl r_t_page)), (a_t_reason, .inl (cI, 32, .inl r_t_reason_u5))] H) _ hS => ?_)
        cases hf
        rw [hQ]
        exact pn_reti hx hb hr hlocks hP hS rfl dX7_shorter_70
      · have hf := pn_ifq c7 hf
        refine lv_aload_n hx hb dX7_shorter_57 rfl (lv_at hl 0 rfl) ?_
        refine va_get (D := D) (ci := 6) (v := .ref a_t_brief) (C := RX7) (T := TX7) (N := 28) hx hb hts hinX7 hown hK.1 hP 0 rfl rfl 22 (by decide) fl_56 (fun _ h9 => h9) rfl dX7_shorter_58 ?_
        refine lv_iconst (v := (0)) hx hb dX7_shorter_61 (by decide) ?_
        obtain ⟨hi10, w9, ew9, hf⟩ := pn_rd_at hf
        refine pn_ldI hx hb hK.1 hP 1 0 rfl rfl hi10 ew9 dX7_shorter_62 ?_
        refine lv_goto (tgt := 70) hx hb dX7_shorter_63 (by decide) ?_
        cases hf
        rw [hQ]
        exact pn_reti hx hb hr hlocks hP hS rfl dX7_shorter_70
    · have hf := pn_ifq c4 hf
      refine lv_bipush (v := (-2)) hx hb dX7_shorter_29 (by decide) ?_
      cases hf
      rw [hQ]
      exact pn_reti hx hb hr hlocks hP hS rfl dX7_shorter_31
  · have hf := pn_ifq c2 hf
    refine lv_iconst (v := (-1)) hx hb dX7_shorter_17 (by decide) ?_
    cases hf
    rw [hQ]
    exact pn_reti hx hb hr hlocks hP hS rfl dX7_shorter_18
def f_X7_out (v_t_printedSize : Int32) (r_t_printed : Nat → Int32) (p1 : Int32) : Option (Int32 × (Nat → Int32)) :=
  pn_wrI 480 r_t_printed v_t_printedSize p1 fun g1 =>
  pn_nm (v_t_printedSize + (1 : Int32)) fun z3 =>
  some (z3, g1)
set_option maxHeartbeats 4000000 in
set_option maxRecDepth 100000 in
theorem c_X7_out (l : Launch) (D : va_G) (cI cJ cZ : ClassId) (a_t a_t_text a_t_readPage a_t_page a_t_trial a_t_work a_t_book a_t_kept a_t_isKept a_t_seenWhat a_t_seenV a_t_seenIs a_t_label a_t_finds a_t_reason a_t_caseFirst a_t_brief a_t_printed a_t_renamed a_t_worth : Nat) (sz : Nat) (v_t_thrown : Int32) (v_t_textSize : Int32) (v_t_place : Int32) (v_t_doings : Int32) (v_t_seen : Int32) (v_t_seed : Int64) (v_t_cases : Int32) (v_t_lastReason : Int32) (v_t_printedSize : Int32) (r_t_printed : Nat → Int32) (p1 : Int32) (o_t_printedSize : Int32) (o_t_printed : Nat → Int32) (hf : f_X7_out v_t_printedSize r_t_printed p1 = some (o_t_printedSize, o_t_printed)) : Met l yX7_out wsX7_out { frames := 0, cells := 0, slots := 0, locals := 0 } (pn_Pc D cI cJ cZ [.ref a_t, .int p1] [(a_t, .inr (6, [.int v_t_thrown, .ref a_t_text, .int v_t_textSize, .int v_t_place, .ref a_t_readPage, .ref a_t_page, .ref a_t_trial, .ref a_t_work, .ref a_t_book, .int v_t_doings, .ref a_t_kept, .ref a_t_isKept, .int v_t_seen, .ref a_t_seenWhat, .ref a_t_seenV, .ref a_t_seenIs, .long v_t_seed, .ref a_t_label, .ref a_t_finds, .ref a_t_reason, .ref a_t_caseFirst, .int v_t_cases, .ref a_t_brief, .ref a_t_printed, .int v_t_printedSize, .ref a_t_renamed, .ref a_t_worth, .int v_t_lastReason])), (a_t_printed, .inl (cI, 480, .inl r_t_printed))] sz) (pn_Qv D [(a_t, .inr (6, [.int v_t_thrown, .ref a_t_text, .int v_t_textSize, .int v_t_place, .ref a_t_readPage, .ref a_t_page, .ref a_t_trial, .ref a_t_work, .ref a_t_book, .int v_t_doings, .ref a_t_kept, .ref a_t_isKept, .int v_t_seen, .ref a_t_seenWhat, .ref a_t_seenV, .ref a_t_seenIs, .long v_t_seed, .ref a_t_label, .ref a_t_finds, .ref a_t_reason, .ref a_t_caseFirst, .int v_t_cases, .ref a_t_brief, .ref a_t_printed, .int o_t_printedSize, .ref a_t_renamed, .ref a_t_worth, .int v_t_lastReason])), (a_t_printed, .inl (cI, 480, .inl o_t_printed))] (va_A [(a_t, .inr (6, [.int v_t_thrown, .ref a_t_text, .int v_t_textSize, .int v_t_place, .ref a_t_readPage, .ref a_t_page, .ref a_t_trial, .ref a_t_work, .ref a_t_book, .int v_t_doings, .ref a_t_kept, .ref a_t_isKept, .int v_t_seen, .ref a_t_seenWhat, .ref a_t_seenV, .ref a_t_seenIs, .long v_t_seed, .ref a_t_label, .ref a_t_finds, .ref a_t_reason, .ref a_t_caseFirst, .int v_t_cases, .ref a_t_brief, .ref a_t_printed, .int v_t_printedSize, .ref a_t_renamed, .ref a_t_worth, .int v_t_lastReason])), (a_t_printed, .inl (cI, 480, .inl r_t_printed))] sz)) 0 0 (va_A [(a_t, .inr (6, [.int v_t_thrown, .ref a_t_text, .int v_t_textSize, .int v_t_place, .ref a_t_readPage, .ref a_t_page, .ref a_t_trial, .ref a_t_work, .ref a_t_book, .int v_t_doings, .ref a_t_kept, .ref a_t_isKept, .int v_t_seen, .ref a_t_seenWhat, .ref a_t_seenV, .ref a_t_seenIs, .long v_t_seed, .ref a_t_label, .ref a_t_finds, .ref a_t_reason, .ref a_t_caseFirst, .int v_t_cases, .ref a_t_brief, .ref a_t_printed, .int v_t_printedSize, .ref a_t_renamed, .ref a_t_worth, .int v_t_lastReason])), (a_t_printed, .inl (cI, 480, .inl r_t_printed))] sz) := by
  refine pn_entry (cc := cX7_out) (maxL := 2) (ret := none) (Qf := pn_Qv D [(a_t, .inr (6, [.int v_t_thrown, .ref a_t_text, .int v_t_textSize, .int v_t_place, .ref a_t_readPage, .ref a_t_page, .ref a_t_trial, .ref a_t_work, .ref a_t_book, .int v_t_doings, .ref a_t_kept, .ref a_t_isKept, .int v_t_seen, .ref a_t_seenWhat, .ref a_t_seenV, .ref a_t_seenIs, .long v_t_seed, .ref a_t_label, .ref a_t_finds, .ref a_t_reason, .ref a_t_caseFirst, .int v_t_cases, .ref a_t_brief, .ref a_t_printed, .int o_t_printedSize, .ref a_t_renamed, .ref a_t_worth, .int v_t_lastReason])), (a_t_printed, .inl (cI, 480, .inl o_t_printed))]) (by decide) rfl (Nat.le_of_ble_eq_true rfl) ?_
  intro p e s m args below meth c A ls H locs Qm hQ hx hb hr hlocks hml hown hts hK hP hD hA hS hl
  have hl : lv_has ls 2 [(0, .ref a_t), (1, .int p1)] := hl
  have hinX7 : ∀ w ∈ wsX70, w ∈ wsX7_out := by decide +kernel
  have fl_59 := hts (.fieldLink RX7 59 "PointingNotesModel" "printed" "[I") (by decide +kernel)
  have fl_248 := hts (.fieldLink RX7 248 "PointingNotesModel" "printedSize" "I") (by decide +kernel)
  rw [f_X7_out] at hf
  refine lv_aload_n hx hb dX7_out_0 rfl (lv_at hl 0 rfl) ?_
  refine va_get (D := D) (ci := 6) (v := .ref a_t_printed) (C := RX7) (T := TX7) (N := 28) hx hb hts hinX7 hown hK.1 hP 0 rfl rfl 23 (by decide) fl_59 (fun _ h9 => h9) rfl dX7_out_1 ?_
  refine lv_aload_n hx hb dX7_out_4 rfl (lv_at hl 0 rfl) ?_
  refine va_get (D := D) (ci := 6) (v := .int v_t_printedSize) (C := RX7) (T := TX7) (N := 28) hx hb hts hinX7 hown hK.1 hP 0 rfl rfl 24 (by decide) fl_248 (fun _ h9 => h9) rfl dX7_out_5 ?_
  refine lv_iload_n hx hb dX7_out_8 rfl (lv_at hl 1 rfl) ?_
  obtain ⟨hi2, g1, eg1, hf⟩ := pn_wrI_at hf
  refine pn_stI hx hb hK.1 hP (hD.addr rfl) hS 1 0 rfl rfl hi2 eg1 dX7_out_9 (fun H locs (hP : va_P D vwCl [(a_t, .inr (6, [.int v_t_thrown, .ref a_t_text, .int v_t_textSize, .int v_t_place, .ref a_t_readPage, .ref a_t_page, .ref a_t_trial, .ref a_t_work, .ref a_t_book, .int v_t_doings, .ref a_t_kept, .ref a_t_isKept, .int v_t_seen, .ref a_t_seenWhat, .ref a_t_seenV, .ref a_t_seenIs, .long v_t_seed, .ref a_t_label, .ref a_t_finds, .ref a_t_reason, .ref a_t_caseFirst, .int v_t_cases, .ref a_t_brief, .ref a_t_printed, .int v_t_printedSize, .ref a_t_renamed, .ref a_t_worth, .int v_t_lastReason])), (a_t_printed, .inl (cI, 480, .inl g1))] H) _ hS => ?_)
  refine lv_aload_n hx hb dX7_out_10 rfl (lv_at hl 0 rfl) ?_
  refine lv_dup hx hb dX7_out_11 rfl ?_
  refine va_get (D := D) (ci := 6) (v := .int v_t_printedSize) (C := RX7) (T := TX7) (N := 28) hx hb hts hinX7 hown hK.1 hP 0 rfl rfl 24 (by decide) fl_248 (fun _ h9 => h9) rfl dX7_out_12 ?_
  refine lv_iconst (v := (1)) hx hb dX7_out_15 (by decide) ?_
  refine lv_iadd hx hb dX7_out_16 ?_
  refine lv_topi (fun z3 ez3 => ?_)
  have hf := pn_nm_at ez3 hf
  refine va_put (D := D) (ci := 6) (v := .int z3) (ty := .int) (C := RX7) (T := TX7) (N := 28) hx hb hts hinX7 tyX7 tyX7_ok nmX7 hown hK.1 hP (hD.addr rfl) hS 0 rfl rfl 24 (by decide) fl_248 (fun _ h9 => h9) rfl (by decide +kernel) rfl rfl (Nat.le_of_ble_eq_true rfl) dX7_out_17 (fun H locs (hP : va_P D vwCl [(a_t, .inr (6, [.int v_t_thrown, .ref a_t_text, .int v_t_textSize, .int v_t_place, .ref a_t_readPage, .ref a_t_page, .ref a_t_trial, .ref a_t_work, .ref a_t_book, .int v_t_doings, .ref a_t_kept, .ref a_t_isKept, .int v_t_seen, .ref a_t_seenWhat, .ref a_t_seenV, .ref a_t_seenIs, .long v_t_seed, .ref a_t_label, .ref a_t_finds, .ref a_t_reason, .ref a_t_caseFirst, .int v_t_cases, .ref a_t_brief, .ref a_t_printed, .int z3, .ref a_t_renamed, .ref a_t_worth, .int v_t_lastReason])), (a_t_printed, .inl (cI, 480, .inl g1))] H) _ hS => ?_)
  cases hf
  rw [hQ]
  exact pn_retv hx hb hr hlocks hP hS dX7_out_20
def f_X7_outPage (v_t_printedSize : Int32) (r_t_printed : Nat → Int32) (p1 : Int32) : Option (Int32 × (Nat → Int32)) :=
  pn_bd2 (f_X7_out v_t_printedSize r_t_printed ((48 : Int32) + (p1 / (10 : Int32)))) fun v_t_printedSize_u1 r_t_printed_u1 =>
  pn_bd2 (f_X7_out v_t_printedSize_u1 r_t_printed_u1 ((48 : Int32) + (p1 - p1 / (10 : Int32) * (10 : Int32)))) fun v_t_printedSize_u2 r_t_printed_u2 =>
  some (v_t_printedSize_u2, r_t_printed_u2)
set_option maxHeartbeats 4000000 in
set_option maxRecDepth 100000 in
theorem c_X7_outPage (l : Launch) (D : va_G) (cI cJ cZ : ClassId) (a_t a_t_text a_t_readPage a_t_page a_t_trial a_t_work a_t_book a_t_kept a_t_isKept a_t_seenWhat a_t_seenV a_t_seenIs a_t_label a_t_finds a_t_reason a_t_caseFirst a_t_brief a_t_printed a_t_renamed a_t_worth : Nat) (sz : Nat) (v_t_thrown : Int32) (v_t_textSize : Int32) (v_t_place : Int32) (v_t_doings : Int32) (v_t_seen : Int32) (v_t_seed : Int64) (v_t_cases : Int32) (v_t_lastReason : Int32) (v_t_printedSize : Int32) (r_t_printed : Nat → Int32) (p1 : Int32) (o_t_printedSize : Int32) (o_t_printed : Nat → Int32) (hf : f_X7_outPage v_t_printedSize r_t_printed p1 = some (o_t_printedSize, o_t_printed)) : Met l yX7_outPage wsX7_outPage { frames := 1, cells := 0, slots := 0, locals := 21 } (pn_Pc D cI cJ cZ [.ref a_t, .int p1] [(a_t, .inr (6, [.int v_t_thrown, .ref a_t_text, .int v_t_textSize, .int v_t_place, .ref a_t_readPage, .ref a_t_page, .ref a_t_trial, .ref a_t_work, .ref a_t_book, .int v_t_doings, .ref a_t_kept, .ref a_t_isKept, .int v_t_seen, .ref a_t_seenWhat, .ref a_t_seenV, .ref a_t_seenIs, .long v_t_seed, .ref a_t_label, .ref a_t_finds, .ref a_t_reason, .ref a_t_caseFirst, .int v_t_cases, .ref a_t_brief, .ref a_t_printed, .int v_t_printedSize, .ref a_t_renamed, .ref a_t_worth, .int v_t_lastReason])), (a_t_printed, .inl (cI, 480, .inl r_t_printed))] sz) (pn_Qv D [(a_t, .inr (6, [.int v_t_thrown, .ref a_t_text, .int v_t_textSize, .int v_t_place, .ref a_t_readPage, .ref a_t_page, .ref a_t_trial, .ref a_t_work, .ref a_t_book, .int v_t_doings, .ref a_t_kept, .ref a_t_isKept, .int v_t_seen, .ref a_t_seenWhat, .ref a_t_seenV, .ref a_t_seenIs, .long v_t_seed, .ref a_t_label, .ref a_t_finds, .ref a_t_reason, .ref a_t_caseFirst, .int v_t_cases, .ref a_t_brief, .ref a_t_printed, .int o_t_printedSize, .ref a_t_renamed, .ref a_t_worth, .int v_t_lastReason])), (a_t_printed, .inl (cI, 480, .inl o_t_printed))] (va_A [(a_t, .inr (6, [.int v_t_thrown, .ref a_t_text, .int v_t_textSize, .int v_t_place, .ref a_t_readPage, .ref a_t_page, .ref a_t_trial, .ref a_t_work, .ref a_t_book, .int v_t_doings, .ref a_t_kept, .ref a_t_isKept, .int v_t_seen, .ref a_t_seenWhat, .ref a_t_seenV, .ref a_t_seenIs, .long v_t_seed, .ref a_t_label, .ref a_t_finds, .ref a_t_reason, .ref a_t_caseFirst, .int v_t_cases, .ref a_t_brief, .ref a_t_printed, .int v_t_printedSize, .ref a_t_renamed, .ref a_t_worth, .int v_t_lastReason])), (a_t_printed, .inl (cI, 480, .inl r_t_printed))] sz)) 0 0 (va_A [(a_t, .inr (6, [.int v_t_thrown, .ref a_t_text, .int v_t_textSize, .int v_t_place, .ref a_t_readPage, .ref a_t_page, .ref a_t_trial, .ref a_t_work, .ref a_t_book, .int v_t_doings, .ref a_t_kept, .ref a_t_isKept, .int v_t_seen, .ref a_t_seenWhat, .ref a_t_seenV, .ref a_t_seenIs, .long v_t_seed, .ref a_t_label, .ref a_t_finds, .ref a_t_reason, .ref a_t_caseFirst, .int v_t_cases, .ref a_t_brief, .ref a_t_printed, .int v_t_printedSize, .ref a_t_renamed, .ref a_t_worth, .int v_t_lastReason])), (a_t_printed, .inl (cI, 480, .inl r_t_printed))] sz) := by
  refine pn_entry (cc := cX7_outPage) (maxL := 2) (ret := none) (Qf := pn_Qv D [(a_t, .inr (6, [.int v_t_thrown, .ref a_t_text, .int v_t_textSize, .int v_t_place, .ref a_t_readPage, .ref a_t_page, .ref a_t_trial, .ref a_t_work, .ref a_t_book, .int v_t_doings, .ref a_t_kept, .ref a_t_isKept, .int v_t_seen, .ref a_t_seenWhat, .ref a_t_seenV, .ref a_t_seenIs, .long v_t_seed, .ref a_t_label, .ref a_t_finds, .ref a_t_reason, .ref a_t_caseFirst, .int v_t_cases, .ref a_t_brief, .ref a_t_printed, .int o_t_printedSize, .ref a_t_renamed, .ref a_t_worth, .int v_t_lastReason])), (a_t_printed, .inl (cI, 480, .inl o_t_printed))]) (by decide) rfl (Nat.le_of_ble_eq_true rfl) ?_
  intro p e s m args below meth c A ls H locs Qm hQ hx hb hr hlocks hml hown hts hK hP hD hA hS hl
  have hl : lv_has ls 2 [(0, .ref a_t), (1, .int p1)] := hl
  rw [f_X7_outPage] at hf
  refine lv_aload_n hx hb dX7_outPage_0 rfl (lv_at hl 0 rfl) ?_
  refine lv_bipush (v := (48)) hx hb dX7_outPage_1 (by decide) ?_
  refine lv_iload_n hx hb dX7_outPage_3 rfl (lv_at hl 1 rfl) ?_
  refine lv_bipush (v := (10)) hx hb dX7_outPage_4 (by decide) ?_
  refine lv_idiv hx hb dX7_outPage_6 (by decide) ?_
  refine lv_iadd hx hb dX7_outPage_7 ?_
  obtain ⟨v_t_printedSize_u1, r_t_printed_u1, hu1, hf⟩ := pn_bd2_at hf
  refine pn_callv [0, 1] (va_runV (As := [.int ((48 : Int32) + (p1 / (10 : Int32)))]) (rest := []) ⟨hx, hb, hml, hown, hts⟩ (c_X7_out l D cI cJ cZ a_t a_t_text a_t_readPage a_t_page a_t_trial a_t_work a_t_book a_t_kept a_t_isKept a_t_seenWhat a_t_seenV a_t_seenIs a_t_label a_t_finds a_t_reason a_t_caseFirst a_t_brief a_t_printed a_t_renamed a_t_worth H.size v_t_thrown v_t_textSize v_t_place v_t_doings v_t_seen v_t_seed v_t_cases v_t_lastReason v_t_printedSize r_t_printed ((48 : Int32) + (p1 / (10 : Int32))) v_t_printedSize_u1 r_t_printed_u1 hu1) (cwV 1 hts gX7_outPage_X7_out rfl rfl rfl hdX7_out ⟨Nat.le_of_ble_eq_true rfl, Nat.le_of_ble_eq_true rfl⟩) (pn_preV [0, 1] hP (hD.addr rfl) hK rfl rfl (q0 := 0) (ci := 6) rfl rfl) rfl rfl hl.1 rfl (lv_room (Nat.le_of_ble_eq_true rfl)) dX7_outPage_8 ⟨Nat.zero_le _, Nat.zero_le _⟩) hP (hD.addr rfl) hS hA rfl rfl rfl (fun H locs (hP : va_P D vwCl [(a_t, .inr (6, [.int v_t_thrown, .ref a_t_text, .int v_t_textSize, .int v_t_place, .ref a_t_readPage, .ref a_t_page, .ref a_t_trial, .ref a_t_work, .ref a_t_book, .int v_t_doings, .ref a_t_kept, .ref a_t_isKept, .int v_t_seen, .ref a_t_seenWhat, .ref a_t_seenV, .ref a_t_seenIs, .long v_t_seed, .ref a_t_label, .ref a_t_finds, .ref a_t_reason, .ref a_t_caseFirst, .int v_t_cases, .ref a_t_brief, .ref a_t_printed, .int v_t_printedSize_u1, .ref a_t_renamed, .ref a_t_worth, .int v_t_lastReason])), (a_t_printed, .inl (cI, 480, .inl r_t_printed_u1))] H) _ hS => ?_)
  refine lv_aload_n hx hb dX7_outPage_11 rfl (lv_at hl 0 rfl) ?_
  refine lv_bipush (v := (48)) hx hb dX7_outPage_12 (by decide) ?_
  refine lv_iload_n hx hb dX7_outPage_14 rfl (lv_at hl 1 rfl) ?_
  refine lv_bipush (v := (10)) hx hb dX7_outPage_15 (by decide) ?_
  refine lv_irem hx hb dX7_outPage_17 (by decide) ?_
  refine lv_iadd hx hb dX7_outPage_18 ?_
  obtain ⟨v_t_printedSize_u2, r_t_printed_u2, hu2, hf⟩ := pn_bd2_at hf
  refine pn_callv [0, 1] (va_runV (As := [.int ((48 : Int32) + (p1 - p1 / (10 : Int32) * (10 : Int32)))]) (rest := []) ⟨hx, hb, hml, hown, hts⟩ (c_X7_out l D cI cJ cZ a_t a_t_text a_t_readPage a_t_page a_t_trial a_t_work a_t_book a_t_kept a_t_isKept a_t_seenWhat a_t_seenV a_t_seenIs a_t_label a_t_finds a_t_reason a_t_caseFirst a_t_brief a_t_printed a_t_renamed a_t_worth H.size v_t_thrown v_t_textSize v_t_place v_t_doings v_t_seen v_t_seed v_t_cases v_t_lastReason v_t_printedSize_u1 r_t_printed_u1 ((48 : Int32) + (p1 - p1 / (10 : Int32) * (10 : Int32))) v_t_printedSize_u2 r_t_printed_u2 hu2) (cwV 1 hts gX7_outPage_X7_out rfl rfl rfl hdX7_out ⟨Nat.le_of_ble_eq_true rfl, Nat.le_of_ble_eq_true rfl⟩) (pn_preV [0, 1] hP (hD.addr rfl) hK rfl rfl (q0 := 0) (ci := 6) rfl rfl) rfl rfl hl.1 rfl (lv_room (Nat.le_of_ble_eq_true rfl)) dX7_outPage_19 ⟨Nat.zero_le _, Nat.zero_le _⟩) hP (hD.addr rfl) hS hA rfl rfl rfl (fun H locs (hP : va_P D vwCl [(a_t, .inr (6, [.int v_t_thrown, .ref a_t_text, .int v_t_textSize, .int v_t_place, .ref a_t_readPage, .ref a_t_page, .ref a_t_trial, .ref a_t_work, .ref a_t_book, .int v_t_doings, .ref a_t_kept, .ref a_t_isKept, .int v_t_seen, .ref a_t_seenWhat, .ref a_t_seenV, .ref a_t_seenIs, .long v_t_seed, .ref a_t_label, .ref a_t_finds, .ref a_t_reason, .ref a_t_caseFirst, .int v_t_cases, .ref a_t_brief, .ref a_t_printed, .int v_t_printedSize_u2, .ref a_t_renamed, .ref a_t_worth, .int v_t_lastReason])), (a_t_printed, .inl (cI, 480, .inl r_t_printed_u2))] H) _ hS => ?_)
  cases hf
  rw [hQ]
  exact pn_retv hx hb hr hlocks hP hS dX7_outPage_22
def f_X7_outReport (v_t_printedSize : Int32) (r_t_printed : Nat → Int32) (p1 : Int32) : Option (Int32 × (Nat → Int32)) :=
  pn_bd2 (f_X7_out v_t_printedSize r_t_printed ((48 : Int32) + (p1 / (1000 : Int32)))) fun v_t_printedSize_u1 r_t_printed_u1 =>
  pn_bd2 (f_X7_out v_t_printedSize_u1 r_t_printed_u1 ((114 : Int32) + ((p1 / (100 : Int32)) - (p1 / (100 : Int32)) / (10 : Int32) * (10 : Int32)))) fun v_t_printedSize_u2 r_t_printed_u2 =>
  pn_bd2 (f_X7_outPage v_t_printedSize_u2 r_t_printed_u2 (p1 - p1 / (100 : Int32) * (100 : Int32))) fun v_t_printedSize_u3 r_t_printed_u3 =>
  some (v_t_printedSize_u3, r_t_printed_u3)
set_option maxHeartbeats 4000000 in
set_option maxRecDepth 100000 in
theorem c_X7_outReport (l : Launch) (D : va_G) (cI cJ cZ : ClassId) (a_t a_t_text a_t_readPage a_t_page a_t_trial a_t_work a_t_book a_t_kept a_t_isKept a_t_seenWhat a_t_seenV a_t_seenIs a_t_label a_t_finds a_t_reason a_t_caseFirst a_t_brief a_t_printed a_t_renamed a_t_worth : Nat) (sz : Nat) (v_t_thrown : Int32) (v_t_textSize : Int32) (v_t_place : Int32) (v_t_doings : Int32) (v_t_seen : Int32) (v_t_seed : Int64) (v_t_cases : Int32) (v_t_lastReason : Int32) (v_t_printedSize : Int32) (r_t_printed : Nat → Int32) (p1 : Int32) (o_t_printedSize : Int32) (o_t_printed : Nat → Int32) (hf : f_X7_outReport v_t_printedSize r_t_printed p1 = some (o_t_printedSize, o_t_printed)) : Met l yX7_outReport wsX7_outReport { frames := 2, cells := 0, slots := 0, locals := 42 } (pn_Pc D cI cJ cZ [.ref a_t, .int p1] [(a_t, .inr (6, [.int v_t_thrown, .ref a_t_text, .int v_t_textSize, .int v_t_place, .ref a_t_readPage, .ref a_t_page, .ref a_t_trial, .ref a_t_work, .ref a_t_book, .int v_t_doings, .ref a_t_kept, .ref a_t_isKept, .int v_t_seen, .ref a_t_seenWhat, .ref a_t_seenV, .ref a_t_seenIs, .long v_t_seed, .ref a_t_label, .ref a_t_finds, .ref a_t_reason, .ref a_t_caseFirst, .int v_t_cases, .ref a_t_brief, .ref a_t_printed, .int v_t_printedSize, .ref a_t_renamed, .ref a_t_worth, .int v_t_lastReason])), (a_t_printed, .inl (cI, 480, .inl r_t_printed))] sz) (pn_Qv D [(a_t, .inr (6, [.int v_t_thrown, .ref a_t_text, .int v_t_textSize, .int v_t_place, .ref a_t_readPage, .ref a_t_page, .ref a_t_trial, .ref a_t_work, .ref a_t_book, .int v_t_doings, .ref a_t_kept, .ref a_t_isKept, .int v_t_seen, .ref a_t_seenWhat, .ref a_t_seenV, .ref a_t_seenIs, .long v_t_seed, .ref a_t_label, .ref a_t_finds, .ref a_t_reason, .ref a_t_caseFirst, .int v_t_cases, .ref a_t_brief, .ref a_t_printed, .int o_t_printedSize, .ref a_t_renamed, .ref a_t_worth, .int v_t_lastReason])), (a_t_printed, .inl (cI, 480, .inl o_t_printed))] (va_A [(a_t, .inr (6, [.int v_t_thrown, .ref a_t_text, .int v_t_textSize, .int v_t_place, .ref a_t_readPage, .ref a_t_page, .ref a_t_trial, .ref a_t_work, .ref a_t_book, .int v_t_doings, .ref a_t_kept, .ref a_t_isKept, .int v_t_seen, .ref a_t_seenWhat, .ref a_t_seenV, .ref a_t_seenIs, .long v_t_seed, .ref a_t_label, .ref a_t_finds, .ref a_t_reason, .ref a_t_caseFirst, .int v_t_cases, .ref a_t_brief, .ref a_t_printed, .int v_t_printedSize, .ref a_t_renamed, .ref a_t_worth, .int v_t_lastReason])), (a_t_printed, .inl (cI, 480, .inl r_t_printed))] sz)) 0 0 (va_A [(a_t, .inr (6, [.int v_t_thrown, .ref a_t_text, .int v_t_textSize, .int v_t_place, .ref a_t_readPage, .ref a_t_page, .ref a_t_trial, .ref a_t_work, .ref a_t_book, .int v_t_doings, .ref a_t_kept, .ref a_t_isKept, .int v_t_seen, .ref a_t_seenWhat, .ref a_t_seenV, .ref a_t_seenIs, .long v_t_seed, .ref a_t_label, .ref a_t_finds, .ref a_t_reason, .ref a_t_caseFirst, .int v_t_cases, .ref a_t_brief, .ref a_t_printed, .int v_t_printedSize, .ref a_t_renamed, .ref a_t_worth, .int v_t_lastReason])), (a_t_printed, .inl (cI, 480, .inl r_t_printed))] sz) := by
  refine pn_entry (cc := cX7_outReport) (maxL := 2) (ret := none) (Qf := pn_Qv D [(a_t, .inr (6, [.int v_t_thrown, .ref a_t_text, .int v_t_textSize, .int v_t_place, .ref a_t_readPage, .ref a_t_page, .ref a_t_trial, .ref a_t_work, .ref a_t_book, .int v_t_doings, .ref a_t_kept, .ref a_t_isKept, .int v_t_seen, .ref a_t_seenWhat, .ref a_t_seenV, .ref a_t_seenIs, .long v_t_seed, .ref a_t_label, .ref a_t_finds, .ref a_t_reason, .ref a_t_caseFirst, .int v_t_cases, .ref a_t_brief, .ref a_t_printed, .int o_t_printedSize, .ref a_t_renamed, .ref a_t_worth, .int v_t_lastReason])), (a_t_printed, .inl (cI, 480, .inl o_t_printed))]) (by decide) rfl (Nat.le_of_ble_eq_true rfl) ?_
  intro p e s m args below meth c A ls H locs Qm hQ hx hb hr hlocks hml hown hts hK hP hD hA hS hl
  have hl : lv_has ls 2 [(0, .ref a_t), (1, .int p1)] := hl
  rw [f_X7_outReport] at hf
  refine lv_aload_n hx hb dX7_outReport_0 rfl (lv_at hl 0 rfl) ?_
  refine lv_bipush (v := (48)) hx hb dX7_outReport_1 (by decide) ?_
  refine lv_iload_n hx hb dX7_outReport_3 rfl (lv_at hl 1 rfl) ?_
  refine lv_sipush (v := (1000)) hx hb dX7_outReport_4 (by decide) ?_
  refine lv_idiv hx hb dX7_outReport_7 (by decide) ?_
  refine lv_iadd hx hb dX7_outReport_8 ?_
  obtain ⟨v_t_printedSize_u1, r_t_printed_u1, hu1, hf⟩ := pn_bd2_at hf
  refine pn_callv [0, 1] (va_runV (As := [.int ((48 : Int32) + (p1 / (1000 : Int32)))]) (rest := []) ⟨hx, hb, hml, hown, hts⟩ (c_X7_out l D cI cJ cZ a_t a_t_text a_t_readPage a_t_page a_t_trial a_t_work a_t_book a_t_kept a_t_isKept a_t_seenWhat a_t_seenV a_t_seenIs a_t_label a_t_finds a_t_reason a_t_caseFirst a_t_brief a_t_printed a_t_renamed a_t_worth H.size v_t_thrown v_t_textSize v_t_place v_t_doings v_t_seen v_t_seed v_t_cases v_t_lastReason v_t_printedSize r_t_printed ((48 : Int32) + (p1 / (1000 : Int32))) v_t_printedSize_u1 r_t_printed_u1 hu1) (cwV 1 hts gX7_outReport_X7_out rfl rfl rfl hdX7_out ⟨Nat.le_of_ble_eq_true rfl, Nat.le_of_ble_eq_true rfl⟩) (pn_preV [0, 1] hP (hD.addr rfl) hK rfl rfl (q0 := 0) (ci := 6) rfl rfl) rfl rfl hl.1 rfl (lv_room (Nat.le_of_ble_eq_true rfl)) dX7_outReport_9 ⟨Nat.zero_le _, Nat.zero_le _⟩) hP (hD.addr rfl) hS hA rfl rfl rfl (fun H locs (hP : va_P D vwCl [(a_t, .inr (6, [.int v_t_thrown, .ref a_t_text, .int v_t_textSize, .int v_t_place, .ref a_t_readPage, .ref a_t_page, .ref a_t_trial, .ref a_t_work, .ref a_t_book, .int v_t_doings, .ref a_t_kept, .ref a_t_isKept, .int v_t_seen, .ref a_t_seenWhat, .ref a_t_seenV, .ref a_t_seenIs, .long v_t_seed, .ref a_t_label, .ref a_t_finds, .ref a_t_reason, .ref a_t_caseFirst, .int v_t_cases, .ref a_t_brief, .ref a_t_printed, .int v_t_printedSize_u1, .ref a_t_renamed, .ref a_t_worth, .int v_t_lastReason])), (a_t_printed, .inl (cI, 480, .inl r_t_printed_u1))] H) _ hS => ?_)
  refine lv_aload_n hx hb dX7_outReport_12 rfl (lv_at hl 0 rfl) ?_
  refine lv_bipush (v := (114)) hx hb dX7_outReport_13 (by decide) ?_
  refine lv_iload_n hx hb dX7_outReport_15 rfl (lv_at hl 1 rfl) ?_
  refine lv_bipush (v := (100)) hx hb dX7_outReport_16 (by decide) ?_
  refine lv_idiv hx hb dX7_outReport_18 (by decide) ?_
  refine lv_bipush (v := (10)) hx hb dX7_outReport_19 (by decide) ?_
  refine lv_irem hx hb dX7_outReport_21 (by decide) ?_
  refine lv_iadd hx hb dX7_outReport_22 ?_
  obtain ⟨v_t_printedSize_u2, r_t_printed_u2, hu2, hf⟩ := pn_bd2_at hf
  refine pn_callv [0, 1] (va_runV (As := [.int ((114 : Int32) + ((p1 / (100 : Int32)) - (p1 / (100 : Int32)) / (10 : Int32) * (10 : Int32)))]) (rest := []) ⟨hx, hb, hml, hown, hts⟩ (c_X7_out l D cI cJ cZ a_t a_t_text a_t_readPage a_t_page a_t_trial a_t_work a_t_book a_t_kept a_t_isKept a_t_seenWhat a_t_seenV a_t_seenIs a_t_label a_t_finds a_t_reason a_t_caseFirst a_t_brief a_t_printed a_t_renamed a_t_worth H.size v_t_thrown v_t_textSize v_t_place v_t_doings v_t_seen v_t_seed v_t_cases v_t_lastReason v_t_printedSize_u1 r_t_printed_u1 ((114 : Int32) + ((p1 / (100 : Int32)) - (p1 / (100 : Int32)) / (10 : Int32) * (10 : Int32))) v_t_printedSize_u2 r_t_printed_u2 hu2) (cwV 1 hts gX7_outReport_X7_out rfl rfl rfl hdX7_out ⟨Nat.le_of_ble_eq_true rfl, Nat.le_of_ble_eq_true rfl⟩) (pn_preV [0, 1] hP (hD.addr rfl) hK rfl rfl (q0 := 0) (ci := 6) rfl rfl) rfl rfl hl.1 rfl (lv_room (Nat.le_of_ble_eq_true rfl)) dX7_outReport_23 ⟨Nat.zero_le _, Nat.zero_le _⟩) hP (hD.addr rfl) hS hA rfl rfl rfl (fun H locs (hP : va_P D vwCl [(a_t, .inr (6, [.int v_t_thrown, .ref a_t_text, .int v_t_textSize, .int v_t_place, .ref a_t_readPage, .ref a_t_page, .ref a_t_trial, .ref a_t_work, .ref a_t_book, .int v_t_doings, .ref a_t_kept, .ref a_t_isKept, .int v_t_seen, .ref a_t_seenWhat, .ref a_t_seenV, .ref a_t_seenIs, .long v_t_seed, .ref a_t_label, .ref a_t_finds, .ref a_t_reason, .ref a_t_caseFirst, .int v_t_cases, .ref a_t_brief, .ref a_t_printed, .int v_t_printedSize_u2, .ref a_t_renamed, .ref a_t_worth, .int v_t_lastReason])), (a_t_printed, .inl (cI, 480, .inl r_t_printed_u2))] H) _ hS => ?_)
  refine lv_aload_n hx hb dX7_outReport_26 rfl (lv_at hl 0 rfl) ?_
  refine lv_iload_n hx hb dX7_outReport_27 rfl (lv_at hl 1 rfl) ?_
  refine lv_bipush (v := (100)) hx hb dX7_outReport_28 (by decide) ?_
  refine lv_irem hx hb dX7_outReport_30 (by decide) ?_
  obtain ⟨v_t_printedSize_u3, r_t_printed_u3, hu3, hf⟩ := pn_bd2_at hf
  refine pn_callv [0, 1] (va_runV (As := [.int (p1 - p1 / (100 : Int32) * (100 : Int32))]) (rest := []) ⟨hx, hb, hml, hown, hts⟩ (c_X7_outPage l D cI cJ cZ a_t a_t_text a_t_readPage a_t_page a_t_trial a_t_work a_t_book a_t_kept a_t_isKept a_t_seenWhat a_t_seenV a_t_seenIs a_t_label a_t_finds a_t_reason a_t_caseFirst a_t_brief a_t_printed a_t_renamed a_t_worth H.size v_t_thrown v_t_textSize v_t_place v_t_doings v_t_seen v_t_seed v_t_cases v_t_lastReason v_t_printedSize_u2 r_t_printed_u2 (p1 - p1 / (100 : Int32) * (100 : Int32)) v_t_printedSize_u3 r_t_printed_u3 hu3) (cwV 1 hts gX7_outReport_X7_outPage rfl rfl rfl hdX7_outPage ⟨Nat.le_of_ble_eq_true rfl, Nat.le_of_ble_eq_true rfl⟩) (pn_preV [0, 1] hP (hD.addr rfl) hK rfl rfl (q0 := 0) (ci := 6) rfl rfl) rfl rfl hl.1 rfl (lv_room (Nat.le_of_ble_eq_true rfl)) dX7_outReport_31 ⟨Nat.zero_le _, Nat.zero_le _⟩) hP (hD.addr rfl) hS hA rfl rfl rfl (fun H locs (hP : va_P D vwCl [(a_t, .inr (6, [.int v_t_thrown, .ref a_t_text, .int v_t_textSize, .int v_t_place, .ref a_t_readPage, .ref a_t_page, .ref a_t_trial, .ref a_t_work, .ref a_t_book, .int v_t_doings, .ref a_t_kept, .ref a_t_isKept, .int v_t_seen, .ref a_t_seenWhat, .ref a_t_seenV, .ref a_t_seenIs, .long v_t_seed, .ref a_t_label, .ref a_t_finds, .ref a_t_reason, .ref a_t_caseFirst, .int v_t_cases, .ref a_t_brief, .ref a_t_printed, .int v_t_printedSize_u3, .ref a_t_renamed, .ref a_t_worth, .int v_t_lastReason])), (a_t_printed, .inl (cI, 480, .inl r_t_printed_u3))] H) _ hS => ?_)
  cases hf
  rw [hQ]
  exact pn_retv hx hb hr hlocks hP hS dX7_outReport_34
def j_X7_outBrief_154 (r_t_brief : Nat → Int32) (v_t_printedSize : Int32) (r_t_printed : Nat → Int32) : Option (Int32 × (Nat → Int32)) :=
  pn_rd 8 r_t_brief (7 : Int32) fun w1 =>
  if w1 = 0 then
  some (v_t_printedSize, r_t_printed)
  else
  pn_bd2 (f_X7_out v_t_printedSize r_t_printed (64 : Int32)) fun v_t_printedSize_u4 r_t_printed_u4 =>
  pn_rd 8 r_t_brief (7 : Int32) fun w5 =>
  pn_bd2 (f_X7_outPage v_t_printedSize_u4 r_t_printed_u4 w5) fun v_t_printedSize_u7 r_t_printed_u7 =>
  some (v_t_printedSize_u7, r_t_printed_u7)
def f_X7_outBrief (v_t_printedSize : Int32) (r_t_brief : Nat → Int32) (r_t_printed : Nat → Int32) : Option (Int32 × (Nat → Int32)) :=
  pn_rd 8 r_t_brief (0 : Int32) fun w8 =>
  if w8 = 0 then
  pn_rd 8 r_t_brief (1 : Int32) fun w11 =>
  pn_bd2 (f_X7_out v_t_printedSize r_t_printed ((65 : Int32) + w11)) fun v_t_printedSize_u13 r_t_printed_u13 =>
  pn_rd 8 r_t_brief (2 : Int32) fun w14 =>
  pn_bd2 (f_X7_out v_t_printedSize_u13 r_t_printed_u13 ((65 : Int32) + w14)) fun v_t_printedSize_u16 r_t_printed_u16 =>
  pn_rd 8 r_t_brief (3 : Int32) fun w17 =>
  pn_bd2 (f_X7_outReport v_t_printedSize_u16 r_t_printed_u16 w17) fun v_t_printedSize_u19 r_t_printed_u19 =>
  pn_rd 8 r_t_brief (4 : Int32) fun w20 =>
  if w20 = 0 then
  j_X7_outBrief_154 r_t_brief v_t_printedSize_u19 r_t_printed_u19
  else
  pn_bd2 (f_X7_out v_t_printedSize_u19 r_t_printed_u19 (61 : Int32)) fun v_t_printedSize_u23 r_t_printed_u23 =>
  pn_rd 8 r_t_brief (4 : Int32) fun w24 =>
  pn_bd2 (f_X7_outReport v_t_printedSize_u23 r_t_printed_u23 w24) fun v_t_printedSize_u26 r_t_printed_u26 =>
  j_X7_outBrief_154 r_t_brief v_t_printedSize_u26 r_t_printed_u26
  else if w8 = 1 then
  pn_rd 8 r_t_brief (5 : Int32) fun w28 =>
  pn_bd2 (f_X7_out v_t_printedSize r_t_printed ((65 : Int32) + w28)) fun v_t_printedSize_u30 r_t_printed_u30 =>
  j_X7_outBrief_154 r_t_brief v_t_printedSize_u30 r_t_printed_u30
  else if w8 = 2 then
  pn_bd2 (f_X7_out v_t_printedSize r_t_printed (105 : Int32)) fun v_t_printedSize_u32 r_t_printed_u32 =>
  j_X7_outBrief_154 r_t_brief v_t_printedSize_u32 r_t_printed_u32
  else pn_bd2 (f_X7_out v_t_printedSize r_t_printed (97 : Int32)) fun v_t_printedSize_u33 r_t_printed_u33 =>
  pn_rd 8 r_t_brief (6 : Int32) fun w34 =>
  pn_bd2 (f_X7_out v_t_printedSize_u33 r_t_printed_u33 ((48 : Int32) + w34)) fun v_t_printedSize_u36 r_t_printed_u36 =>
  pn_rd 8 r_t_brief (5 : Int32) fun w37 =>
  pn_bd2 (f_X7_out v_t_printedSize_u36 r_t_printed_u36 ((65 : Int32) + w37)) fun v_t_printedSize_u39 r_t_printed_u39 =>
  j_X7_outBrief_154 r_t_brief v_t_printedSize_u39 r_t_printed_u39
set_option maxHeartbeats 4000000 in
set_option maxRecDepth 100000 in
theorem c_X7_outBrief (l : Launch) (D : va_G) (cI cJ cZ : ClassId) (a_t a_t_text a_t_readPage a_t_page a_t_trial a_t_work a_t_book a_t_kept a_t_isKept a_t_seenWhat a_t_seenV a_t_seenIs a_t_label a_t_finds a_t_reason a_t_caseFirst a_t_brief a_t_printed a_t_renamed a_t_worth : Nat) (sz : Nat) (v_t_thrown : Int32) (v_t_textSize : Int32) (v_t_place : Int32) (v_t_doings : Int32) (v_t_seen : Int32) (v_t_seed : Int64) (v_t_cases : Int32) (v_t_lastReason : Int32) (v_t_printedSize : Int32) (r_t_brief : Nat → Int32) (r_t_printed : Nat → Int32) (o_t_printedSize : Int32) (o_t_printed : Nat → Int32) (hf : f_X7_outBrief v_t_printedSize r_t_brief r_t_printed = some (o_t_printedSize, o_t_printed)) : Met l yX7_outBrief wsX7_outBrief { frames := 3, cells := 0, slots := 0, locals := 63 } (pn_Pc D cI cJ cZ [.ref a_t] [(a_t, .inr (6, [.int v_t_thrown, .ref a_t_text, .int v_t_textSize, .int v_t_place, .ref a_t_readPage, .ref a_t_page, .ref a_t_trial, .ref a_t_work, .ref a_t_book, .int v_t_doings, .ref a_t_kept, .ref a_t_isKept, .int v_t_seen, .ref a_t_seenWhat, .ref a_t_seenV, .ref a_t_seenIs, .long v_t_seed, .ref a_t_label, .ref a_t_finds, .ref a_t_reason, .ref a_t_caseFirst, .int v_t_cases, .ref a_t_brief, .ref a_t_printed, .int v_t_printedSize, .ref a_t_renamed, .ref a_t_worth, .int v_t_lastReason])), (a_t_brief, .inl (cI, 8, .inl r_t_brief)), (a_t_printed, .inl (cI, 480, .inl r_t_printed))] sz) (pn_Qv D [(a_t, .inr (6, [.int v_t_thrown, .ref a_t_text, .int v_t_textSize, .int v_t_place, .ref a_t_readPage, .ref a_t_page, .ref a_t_trial, .ref a_t_work, .ref a_t_book, .int v_t_doings, .ref a_t_kept, .ref a_t_isKept, .int v_t_seen, .ref a_t_seenWhat, .ref a_t_seenV, .ref a_t_seenIs, .long v_t_seed, .ref a_t_label, .ref a_t_finds, .ref a_t_reason, .ref a_t_caseFirst, .int v_t_cases, .ref a_t_brief, .ref a_t_printed, .int o_t_printedSize, .ref a_t_renamed, .ref a_t_worth, .int v_t_lastReason])), (a_t_brief, .inl (cI, 8, .inl r_t_brief)), (a_t_printed, .inl (cI, 480, .inl o_t_printed))] (va_A [(a_t, .inr (6, [.int v_t_thrown, .ref a_t_text, .int v_t_textSize, .int v_t_place, .ref a_t_readPage, .ref a_t_page, .ref a_t_trial, .ref a_t_work, .ref a_t_book, .int v_t_doings, .ref a_t_kept, .ref a_t_isKept, .int v_t_seen, .ref a_t_seenWhat, .ref a_t_seenV, .ref a_t_seenIs, .long v_t_seed, .ref a_t_label, .ref a_t_finds, .ref a_t_reason, .ref a_t_caseFirst, .int v_t_cases, .ref a_t_brief, .ref a_t_printed, .int v_t_printedSize, .ref a_t_renamed, .ref a_t_worth, .int v_t_lastReason])), (a_t_brief, .inl (cI, 8, .inl r_t_brief)), (a_t_printed, .inl (cI, 480, .inl r_t_printed))] sz)) 0 0 (va_A [(a_t, .inr (6, [.int v_t_thrown, .ref a_t_text, .int v_t_textSize, .int v_t_place, .ref a_t_readPage, .ref a_t_page, .ref a_t_trial, .ref a_t_work, .ref a_t_book, .int v_t_doings, .ref a_t_kept, .ref a_t_isKept, .int v_t_seen, .ref a_t_seenWhat, .ref a_t_seenV, .ref a_t_seenIs, .long v_t_seed, .ref a_t_label, .ref a_t_finds, .ref a_t_reason, .ref a_t_caseFirst, .int v_t_cases, .ref a_t_brief, .ref a_t_printed, .int v_t_printedSize, .ref a_t_renamed, .ref a_t_worth, .int v_t_lastReason])), (a_t_brief, .inl (cI, 8, .inl r_t_brief)), (a_t_printed, .inl (cI, 480, .inl r_t_printed))] sz) := by
  refine pn_entry (cc := cX7_outBrief) (maxL := 1) (ret := none) (Qf := pn_Qv D [(a_t, .inr (6, [.int v_t_thrown, .ref a_t_text, .int v_t_textSize, .int v_t_place, .ref a_t_readPage, .ref a_t_page, .ref a_t_trial, .ref a_t_work, .ref a_t_book, .int v_t_doings, .ref a_t_kept, .ref a_t_isKept, .int v_t_seen, .ref a_t_seenWhat, .ref a_t_seenV, .ref a_t_seenIs, .long v_t_seed, .ref a_t_label, .ref a_t_finds, .ref a_t_reason, .ref a_t_caseFirst, .int v_t_cases, .ref a_t_brief, .ref a_t_printed, .int o_t_printedSize, .ref a_t_renamed, .ref a_t_worth, .int v_t_lastReason])), (a_t_brief, .inl (cI, 8, .inl r_t_brief)), (a_t_printed, .inl (cI, 480, .inl o_t_printed))]) (by decide) rfl (Nat.le_of_ble_eq_true rfl) ?_
  intro p e s m args below meth c A ls H locs Qm hQ hx hb hr hlocks hml hown hts hK hP hD hA hS hl
  have hl : lv_has ls 1 [(0, .ref a_t)] := hl
  have hinX7 : ∀ w ∈ wsX70, w ∈ wsX7_outBrief := by decide +kernel
  have fl_56 := hts (.fieldLink RX7 56 "PointingNotesModel" "brief" "[I") (by decide +kernel)
  rw [f_X7_outBrief] at hf
  have jn154 : ∀ (v_t_printedSize : Int32) (r_t_printed : Nat → Int32) (H : Heap) (locs : List Loc) (ls : Array Slot), j_X7_outBrief_154 r_t_brief v_t_printedSize r_t_printed = some (o_t_printedSize, o_t_printed) → va_P D vwCl [(a_t, .inr (6, [.int v_t_thrown, .ref a_t_text, .int v_t_textSize, .int v_t_place, .ref a_t_readPage, .ref a_t_page, .ref a_t_trial, .ref a_t_work, .ref a_t_book, .int v_t_doings, .ref a_t_kept, .ref a_t_isKept, .int v_t_seen, .ref a_t_seenWhat, .ref a_t_seenV, .ref a_t_seenIs, .long v_t_seed, .ref a_t_label, .ref a_t_finds, .ref a_t_reason, .ref a_t_caseFirst, .int v_t_cases, .ref a_t_brief, .ref a_t_printed, .int v_t_printedSize, .ref a_t_renamed, .ref a_t_worth, .int v_t_lastReason])), (a_t_brief, .inl (cI, 8, .inl r_t_brief)), (a_t_printed, .inl (cI, 480, .inl r_t_printed))] H → va_S A s.heap H locs → lv_has ls 1 [(0, .ref a_t)] → W p l e { frames := 3, cells := 0, slots := 0, locals := 63 } s m args below meth c H locs 0 0 Qm (F0 m 154 ls []) := by
    intro v_t_printedSize r_t_printed H locs ls hf hP hS hl
    rw [j_X7_outBrief_154] at hf
    refine lv_aload_n hx hb dX7_outBrief_154 rfl (lv_at hl 0 rfl) ?_
    refine va_get (D := D) (ci := 6) (v := .ref a_t_brief) (C := RX7) (T := TX7) (N := 28) hx hb hts hinX7 hown hK.1 hP 0 rfl rfl 22 (by decide) fl_56 (fun _ h9 => h9) rfl dX7_outBrief_155 ?_
    refine lv_bipush (v := (7)) hx hb dX7_outBrief_158 (by decide) ?_
    obtain ⟨hi2, w1, ew1, hf⟩ := pn_rd_at hf
    refine pn_ldI hx hb hK.1 hP 1 0 rfl rfl hi2 ew1 dX7_outBrief_160 ?_
    refine lv_if_eq (tgt := 181) hx hb dX7_outBrief_161 (by decide) (fun c3 => ?_) (fun c3 => ?_)
    · have hf := pn_ifp c3 hf
      cases hf
      rw [hQ]
      exact pn_retv hx hb hr hlocks hP hS dX7_outBrief_181
    · have hf := pn_ifn c3 hf
      refine lv_aload_n hx hb dX7_outBrief_164 rfl (lv_at hl 0 rfl) ?_
      refine lv_bipush (v := (64)) hx hb dX7_outBrief_165 (by decide) ?_
      obtain ⟨v_t_printedSize_u4, r_t_printed_u4, hu4, hf⟩ := pn_bd2_at hf
      refine pn_callv [0, 2] (va_runV (As := [.int (64 : Int32)]) (rest := []) ⟨hx, hb, hml, hown, hts⟩ (c_X7_out l D cI cJ cZ a_t a_t_text a_t_readPage a_t_page a_t_trial a_t_work a_t_book a_t_kept a_t_isKept a_t_seenWhat a_t_seenV a_t_seenIs a_t_label a_t_finds a_t_reason a_t_caseFirst a_t_brief a_t_printed a_t_renamed a_t_worth H.size v_t_thrown v_t_textSize v_t_place v_t_doings v_t_seen v_t_seed v_t_cases v_t_lastReason v_t_printedSize r_t_printed (64 : Int32) v_t_printedSize_u4 r_t_printed_u4 hu4) (cwV 1 hts gX7_outBrief_X7_out rfl rfl rfl hdX7_out ⟨Nat.le_of_ble_eq_true rfl, Nat.le_of_ble_eq_true rfl⟩) (pn_preV [0, 2] hP (hD.addr rfl) hK rfl rfl (q0 := 0) (ci := 6) rfl rfl) rfl rfl hl.1 rfl (lv_room (Nat.le_of_ble_eq_true rfl)) dX7_outBrief_167 ⟨Nat.zero_le _, Nat.zero_le _⟩) hP (hD.addr rfl) hS hA rfl rfl rfl (fun H locs (hP : va_P D vwCl [(a_t, .inr (6, [.int v_t_thrown, .ref a_t_text, .int v_t_textSize, .int v_t_place, .ref a_t_readPage, .ref a_t_page, .ref a_t_trial, .ref a_t_work, .ref a_t_book, .int v_t_doings, .ref a_t_kept, .ref a_t_isKept, .int v_t_seen, .ref a_t_seenWhat, .ref a_t_seenV, .ref a_t_seenIs, .long v_t_seed, .ref a_t_label, .ref a_t_finds, .ref a_t_reason, .ref a_t_caseFirst, .int v_t_cases, .ref a_t_brief, .ref a_t_printed, .int v_t_printedSize_u4, .ref a_t_renamed, .ref a_t_worth, .int v_t_lastReason])), (a_t_brief, .inl (cI, 8, .inl r_t_brief)), (a_t_printed, .inl (cI, 480, .inl r_t_printed_u4))] H) _ hS => ?_)
      refine lv_aload_n hx hb dX7_outBrief_170 rfl (lv_at hl 0 rfl) ?_
      refine lv_aload_n hx hb dX7_outBrief_171 rfl (lv_at hl 0 rfl) ?_
      refine va_get (D := D) (ci := 6) (v := .ref a_t_brief) (C := RX7) (T := TX7) (N := 28) hx hb hts hinX7 hown hK.1 hP 0 rfl rfl 22 (by decide) fl_56 (fun _ h9 => h9) rfl dX7_outBrief_172 ?_
      refine lv_bipush (v := (7)) hx hb dX7_outBrief_175 (by decide) ?_
      obtain ⟨hi6, w5, ew5, hf⟩ := pn_rd_at hf
      refine pn_ldI hx hb hK.1 hP 1 0 rfl rfl hi6 ew5 dX7_outBrief_177 ?_
      obtain ⟨v_t_printedSize_u7, r_t_printed_u7, hu7, hf⟩ := pn_bd2_at hf
      refine pn_callv [0, 2] (va_runV (As := [.int w5]) (rest := []) ⟨hx, hb, hml, hown, hts⟩ (c_X7_outPage l D cI cJ cZ a_t a_t_text a_t_readPage a_t_page a_t_trial a_t_work a_t_book a_t_kept a_t_isKept a_t_seenWhat a_t_seenV a_t_seenIs a_t_label a_t_finds a_t_reason a_t_caseFirst a_t_brief a_t_printed a_t_renamed a_t_worth H.size v_t_thrown v_t_textSize v_t_place v_t_doings v_t_seen v_t_seed v_t_cases v_t_lastReason v_t_printedSize_u4 r_t_printed_u4 w5 v_t_printedSize_u7 r_t_printed_u7 hu7) (cwV 1 hts gX7_outBrief_X7_outPage rfl rfl rfl hdX7_outPage ⟨Nat.le_of_ble_eq_true rfl, Nat.le_of_ble_eq_true rfl⟩) (pn_preV [0, 2] hP (hD.addr rfl) hK rfl rfl (q0 := 0) (ci := 6) rfl rfl) rfl rfl hl.1 rfl (lv_room (Nat.le_of_ble_eq_true rfl)) dX7_outBrief_178 ⟨Nat.zero_le _, Nat.zero_le _⟩) hP (hD.addr rfl) hS hA rfl rfl rfl (fun H locs (hP : va_P D vwCl [(a_t, .inr (6, [.int v_t_thrown, .ref a_t_text, .int v_t_textSize, .int v_t_place, .ref a_t_readPage, .ref a_t_page, .ref a_t_trial, .ref a_t_work, .ref a_t_book, .int v_t_doings, .ref a_t_kept, .ref a_t_isKept, .int v_t_seen, .ref a_t_seenWhat, .ref a_t_seenV, .ref a_t_seenIs, .long v_t_seed, .ref a_t_label, .ref a_t_finds, .ref a_t_reason, .ref a_t_caseFirst, .int v_t_cases, .ref a_t_brief, .ref a_t_printed, .int v_t_printedSize_u7, .ref a_t_renamed, .ref a_t_worth, .int v_t_lastReason])), (a_t_brief, .inl (cI, 8, .inl r_t_brief)), (a_t_printed, .inl (cI, 480, .inl r_t_printed_u7))] H) _ hS => ?_)
      cases hf
      rw [hQ]
      exact pn_retv hx hb hr hlocks hP hS dX7_outBrief_181
  refine lv_aload_n hx hb dX7_outBrief_0 rfl (lv_at hl 0 rfl) ?_
  refine va_get (D := D) (ci := 6) (v := .ref a_t_brief) (C := RX7) (T := TX7) (N := 28) hx hb hts hinX7 hown hK.1 hP 0 rfl rfl 22 (by decide) fl_56 (fun _ h9 => h9) rfl dX7_outBrief_1 ?_
  refine lv_iconst (v := (0)) hx hb dX7_outBrief_4 (by decide) ?_
  obtain ⟨hi9, w8, ew8, hf⟩ := pn_rd_at hf
  refine pn_ldI hx hb hK.1 hP 1 0 rfl rfl hi9 ew8 dX7_outBrief_5 ?_
  by_cases c10 : w8 = 0
  · have hf := pn_ifp c10 hf
    refine lv_tableIn (tgt := 32) hx hb dX7_outBrief_6 (by rw [c10]; decide) (by rw [c10]; decide) (by rw [c10]; rfl) (by decide) ?_
    refine lv_aload_n hx hb dX7_outBrief_32 rfl (lv_at hl 0 rfl) ?_
    refine lv_bipush (v := (65)) hx hb dX7_outBrief_33 (by decide) ?_
    refine lv_aload_n hx hb dX7_outBrief_35 rfl (lv_at hl 0 rfl) ?_
    refine va_get (D := D) (ci := 6) (v := .ref a_t_brief) (C := RX7) (T := TX7) (N := 28) hx hb hts hinX7 hown hK.1 hP 0 rfl rfl 22 (by decide) fl_56 (fun _ h9 => h9) rfl dX7_outBrief_36 ?_
    refine lv_iconst (v := (1)) hx hb dX7_outBrief_39 (by decide) ?_
    obtain ⟨hi12, w11, ew11, hf⟩ := pn_rd_at hf
    refine pn_ldI hx hb hK.1 hP 1 0 rfl rfl hi12 ew11 dX7_outBrief_40 ?_
    refine lv_iadd hx hb dX7_outBrief_41 ?_
    obtain ⟨v_t_printedSize_u13, r_t_printed_u13, hu13, hf⟩ := pn_bd2_at hf
    refine pn_callv [0, 2] (va_runV (As := [.int ((65 : Int32) + w11)]) (rest := []) ⟨hx, hb, hml, hown, hts⟩ (c_X7_out l D cI cJ cZ a_t a_t_text a_t_readPage a_t_page a_t_trial a_t_work a_t_book a_t_kept a_t_isKept a_t_seenWhat a_t_seenV a_t_seenIs a_t_label a_t_finds a_t_reason a_t_caseFirst a_t_brief a_t_printed a_t_renamed a_t_worth H.size v_t_thrown v_t_textSize v_t_place v_t_doings v_t_seen v_t_seed v_t_cases v_t_lastReason v_t_printedSize r_t_printed ((65 : Int32) + w11) v_t_printedSize_u13 r_t_printed_u13 hu13) (cwV 1 hts gX7_outBrief_X7_out rfl rfl rfl hdX7_out ⟨Nat.le_of_ble_eq_true rfl, Nat.le_of_ble_eq_true rfl⟩) (pn_preV [0, 2] hP (hD.addr rfl) hK rfl rfl (q0 := 0) (ci := 6) rfl rfl) rfl rfl hl.1 rfl (lv_room (Nat.le_of_ble_eq_true rfl)) dX7_outBrief_42 ⟨Nat.zero_le _, Nat.zero_le _⟩) hP (hD.addr rfl) hS hA rfl rfl rfl (fun H locs (hP : va_P D vwCl [(a_t, .inr (6, [.int v_t_thrown, .ref a_t_text, .int v_t_textSize, .int v_t_place, .ref a_t_readPage, .ref a_t_page, .ref a_t_trial, .ref a_t_work, .ref a_t_book, .int v_t_doings, .ref a_t_kept, .ref a_t_isKept, .int v_t_seen, .ref a_t_seenWhat, .ref a_t_seenV, .ref a_t_seenIs, .long v_t_seed, .ref a_t_label, .ref a_t_finds, .ref a_t_reason, .ref a_t_caseFirst, .int v_t_cases, .ref a_t_brief, .ref a_t_printed, .int v_t_printedSize_u13, .ref a_t_renamed, .ref a_t_worth, .int v_t_lastReason])), (a_t_brief, .inl (cI, 8, .inl r_t_brief)), (a_t_printed, .inl (cI, 480, .inl r_t_printed_u13))] H) _ hS => ?_)
    refine lv_aload_n hx hb dX7_outBrief_45 rfl (lv_at hl 0 rfl) ?_
    refine lv_bipush (v := (65)) hx hb dX7_outBrief_46 (by decide) ?_
    refine lv_aload_n hx hb dX7_outBrief_48 rfl (lv_at hl 0 rfl) ?_
    refine va_get (D := D) (ci := 6) (v := .ref a_t_brief) (C := RX7) (T := TX7) (N := 28) hx hb hts hinX7 hown hK.1 hP 0 rfl rfl 22 (by decide) fl_56 (fun _ h9 => h9) rfl dX7_outBrief_49 ?_
    refine lv_iconst (v := (2)) hx hb dX7_outBrief_52 (by decide) ?_
    obtain ⟨hi15, w14, ew14, hf⟩ := pn_rd_at hf
    refine pn_ldI hx hb hK.1 hP 1 0 rfl rfl hi15 ew14 dX7_outBrief_53 ?_
    refine lv_iadd hx hb dX7_outBrief_54 ?_
    obtain ⟨v_t_printedSize_u16, r_t_printed_u16, hu16, hf⟩ := pn_bd2_at hf
    refine pn_callv [0, 2] (va_runV (As := [.int ((65 : Int32) + w14)]) (rest := []) ⟨hx, hb, hml, hown, hts⟩ (c_X7_out l D cI cJ cZ a_t a_t_text a_t_readPage a_t_page a_t_trial a_t_work a_t_book a_t_kept a_t_isKept a_t_seenWhat a_t_seenV a_t_seenIs a_t_label a_t_finds a_t_reason a_t_caseFirst a_t_brief a_t_printed a_t_renamed a_t_worth H.size v_t_thrown v_t_textSize v_t_place v_t_doings v_t_seen v_t_seed v_t_cases v_t_lastReason v_t_printedSize_u13 r_t_printed_u13 ((65 : Int32) + w14) v_t_printedSize_u16 r_t_printed_u16 hu16) (cwV 1 hts gX7_outBrief_X7_out rfl rfl rfl hdX7_out ⟨Nat.le_of_ble_eq_true rfl, Nat.le_of_ble_eq_true rfl⟩) (pn_preV [0, 2] hP (hD.addr rfl) hK rfl rfl (q0 := 0) (ci := 6) rfl rfl) rfl rfl hl.1 rfl (lv_room (Nat.le_of_ble_eq_true rfl)) dX7_outBrief_55 ⟨Nat.zero_le _, Nat.zero_le _⟩) hP (hD.addr rfl) hS hA rfl rfl rfl (fun H locs (hP : va_P D vwCl [(a_t, .inr (6, [.int v_t_thrown, .ref a_t_text, .int v_t_textSize, .int v_t_place, .ref a_t_readPage, .ref a_t_page, .ref a_t_trial, .ref a_t_work, .ref a_t_book, .int v_t_doings, .ref a_t_kept, .ref a_t_isKept, .int v_t_seen, .ref a_t_seenWhat, .ref a_t_seenV, .ref a_t_seenIs, .long v_t_seed, .ref a_t_label, .ref a_t_finds, .ref a_t_reason, .ref a_t_caseFirst, .int v_t_cases, .ref a_t_brief, .ref a_t_printed, .int v_t_printedSize_u16, .ref a_t_renamed, .ref a_t_worth, .int v_t_lastReason])), (a_t_brief, .inl (cI, 8, .inl r_t_brief)), (a_t_printed, .inl (cI, 480, .inl r_t_printed_u16))] H) _ hS => ?_)
    refine lv_aload_n hx hb dX7_outBrief_58 rfl (lv_at hl 0 rfl) ?_
    refine lv_aload_n hx hb dX7_outBrief_59 rfl (lv_at hl 0 rfl) ?_
    refine va_get (D := D) (ci := 6) (v := .ref a_t_brief) (C := RX7) (T := TX7) (N := 28) hx hb hts hinX7 hown hK.1 hP 0 rfl rfl 22 (by decide) fl_56 (fun _ h9 => h9) rfl dX7_outBrief_60 ?_
    refine lv_iconst (v := (3)) hx hb dX7_outBrief_63 (by decide) ?_
    obtain ⟨hi18, w17, ew17, hf⟩ := pn_rd_at hf
    refine pn_ldI hx hb hK.1 hP 1 0 rfl rfl hi18 ew17 dX7_outBrief_64 ?_
    obtain ⟨v_t_printedSize_u19, r_t_printed_u19, hu19, hf⟩ := pn_bd2_at hf
    refine pn_callv [0, 2] (va_runV (As := [.int w17]) (rest := []) ⟨hx, hb, hml, hown, hts⟩ (c_X7_outReport l D cI cJ cZ a_t a_t_text a_t_readPage a_t_page a_t_trial a_t_work a_t_book a_t_kept a_t_isKept a_t_seenWhat a_t_seenV a_t_seenIs a_t_label a_t_finds a_t_reason a_t_caseFirst a_t_brief a_t_printed a_t_renamed a_t_worth H.size v_t_thrown v_t_textSize v_t_place v_t_doings v_t_seen v_t_seed v_t_cases v_t_lastReason v_t_printedSize_u16 r_t_printed_u16 w17 v_t_printedSize_u19 r_t_printed_u19 hu19) (cwV 1 hts gX7_outBrief_X7_outReport rfl rfl rfl hdX7_outReport ⟨Nat.le_of_ble_eq_true rfl, Nat.le_of_ble_eq_true rfl⟩) (pn_preV [0, 2] hP (hD.addr rfl) hK rfl rfl (q0 := 0) (ci := 6) rfl rfl) rfl rfl hl.1 rfl (lv_room (Nat.le_of_ble_eq_true rfl)) dX7_outBrief_65 ⟨Nat.zero_le _, Nat.zero_le _⟩) hP (hD.addr rfl) hS hA rfl rfl rfl (fun H locs (hP : va_P D vwCl [(a_t, .inr (6, [.int v_t_thrown, .ref a_t_text, .int v_t_textSize, .int v_t_place, .ref a_t_readPage, .ref a_t_page, .ref a_t_trial, .ref a_t_work, .ref a_t_book, .int v_t_doings, .ref a_t_kept, .ref a_t_isKept, .int v_t_seen, .ref a_t_seenWhat, .ref a_t_seenV, .ref a_t_seenIs, .long v_t_seed, .ref a_t_label, .ref a_t_finds, .ref a_t_reason, .ref a_t_caseFirst, .int v_t_cases, .ref a_t_brief, .ref a_t_printed, .int v_t_printedSize_u19, .ref a_t_renamed, .ref a_t_worth, .int v_t_lastReason])), (a_t_brief, .inl (cI, 8, .inl r_t_brief)), (a_t_printed, .inl (cI, 480, .inl r_t_printed_u19))] H) _ hS => ?_)
    refine lv_aload_n hx hb dX7_outBrief_68 rfl (lv_at hl 0 rfl) ?_
    refine va_get (D := D) (ci := 6) (v := .ref a_t_brief) (C := RX7) (T := TX7) (N := 28) hx hb hts hinX7 hown hK.1 hP 0 rfl rfl 22 (by decide) fl_56 (fun _ h9 => h9) rfl dX7_outBrief_69 ?_
    refine lv_iconst (v := (4)) hx hb dX7_outBrief_72 (by decide) ?_
    obtain ⟨hi21, w20, ew20, hf⟩ := pn_rd_at hf
    refine pn_ldI hx hb hK.1 hP 1 0 rfl rfl hi21 ew20 dX7_outBrief_73 ?_
    refine lv_if_eq (tgt := 154) hx hb dX7_outBrief_74 (by decide) (fun c22 => ?_) (fun c22 => ?_)
    · have hf := pn_ifp c22 hf
      exact jn154 v_t_printedSize_u19 r_t_printed_u19 H locs ls hf hP hS (lv_sub hl [0] rfl)
    · have hf := pn_ifn c22 hf
      refine lv_aload_n hx hb dX7_outBrief_77 rfl (lv_at hl 0 rfl) ?_
      refine lv_bipush (v := (61)) hx hb dX7_outBrief_78 (by decide) ?_
      obtain ⟨v_t_printedSize_u23, r_t_printed_u23, hu23, hf⟩ := pn_bd2_at hf
      refine pn_callv [0, 2] (va_runV (As := [.int (61 : Int32)]) (rest := []) ⟨hx, hb, hml, hown, hts⟩ (c_X7_out l D cI cJ cZ a_t a_t_text a_t_readPage a_t_page a_t_trial a_t_work a_t_book a_t_kept a_t_isKept a_t_seenWhat a_t_seenV a_t_seenIs a_t_label a_t_finds a_t_reason a_t_caseFirst a_t_brief a_t_printed a_t_renamed a_t_worth H.size v_t_thrown v_t_textSize v_t_place v_t_doings v_t_seen v_t_seed v_t_cases v_t_lastReason v_t_printedSize_u19 r_t_printed_u19 (61 : Int32) v_t_printedSize_u23 r_t_printed_u23 hu23) (cwV 1 hts gX7_outBrief_X7_out rfl rfl rfl hdX7_out ⟨Nat.le_of_ble_eq_true rfl, Nat.le_of_ble_eq_true rfl⟩) (pn_preV [0, 2] hP (hD.addr rfl) hK rfl rfl (q0 := 0) (ci := 6) rfl rfl) rfl rfl hl.1 rfl (lv_room (Nat.le_of_ble_eq_true rfl)) dX7_outBrief_80 ⟨Nat.zero_le _, Nat.zero_le _⟩) hP (hD.addr rfl) hS hA rfl rfl rfl (fun H locs (hP : va_P D vwCl [(a_t, .inr (6, [.int v_t_thrown, .ref a_t_text, .int v_t_textSize, .int v_t_place, .ref a_t_readPage, .ref a_t_page, .ref a_t_trial, .ref a_t_work, .ref a_t_book, .int v_t_doings, .ref a_t_kept, .ref a_t_isKept, .int v_t_seen, .ref a_t_seenWhat, .ref a_t_seenV, .ref a_t_seenIs, .long v_t_seed, .ref a_t_label, .ref a_t_finds, .ref a_t_reason, .ref a_t_caseFirst, .int v_t_cases, .ref a_t_brief, .ref a_t_printed, .int v_t_printedSize_u23, .ref a_t_renamed, .ref a_t_worth, .int v_t_lastReason])), (a_t_brief, .inl (cI, 8, .inl r_t_brief)), (a_t_printed, .inl (cI, 480, .inl r_t_printed_u23))] H) _ hS => ?_)
      refine lv_aload_n hx hb dX7_outBrief_83 rfl (lv_at hl 0 rfl) ?_
      refine lv_aload_n hx hb dX7_outBrief_84 rfl (lv_at hl 0 rfl) ?_
      refine va_get (D := D) (ci := 6) (v := .ref a_t_brief) (C := RX7) (T := TX7) (N := 28) hx hb hts hinX7 hown hK.1 hP 0 rfl rfl 22 (by decide) fl_56 (fun _ h9 => h9) rfl dX7_outBrief_85 ?_
      refine lv_iconst (v := (4)) hx hb dX7_outBrief_88 (by decide) ?_
      obtain ⟨hi25, w24, ew24, hf⟩ := pn_rd_at hf
      refine pn_ldI hx hb hK.1 hP 1 0 rfl rfl hi25 ew24 dX7_outBrief_89 ?_
      obtain ⟨v_t_printedSize_u26, r_t_printed_u26, hu26, hf⟩ := pn_bd2_at hf
      refine pn_callv [0, 2] (va_runV (As := [.int w24]) (rest := []) ⟨hx, hb, hml, hown, hts⟩ (c_X7_outReport l D cI cJ cZ a_t a_t_text a_t_readPage a_t_page a_t_trial a_t_work a_t_book a_t_kept a_t_isKept a_t_seenWhat a_t_seenV a_t_seenIs a_t_label a_t_finds a_t_reason a_t_caseFirst a_t_brief a_t_printed a_t_renamed a_t_worth H.size v_t_thrown v_t_textSize v_t_place v_t_doings v_t_seen v_t_seed v_t_cases v_t_lastReason v_t_printedSize_u23 r_t_printed_u23 w24 v_t_printedSize_u26 r_t_printed_u26 hu26) (cwV 1 hts gX7_outBrief_X7_outReport rfl rfl rfl hdX7_outReport ⟨Nat.le_of_ble_eq_true rfl, Nat.le_of_ble_eq_true rfl⟩) (pn_preV [0, 2] hP (hD.addr rfl) hK rfl rfl (q0 := 0) (ci := 6) rfl rfl) rfl rfl hl.1 rfl (lv_room (Nat.le_of_ble_eq_true rfl)) dX7_outBrief_90 ⟨Nat.zero_le _, Nat.zero_le _⟩) hP (hD.addr rfl) hS hA rfl rfl rfl (fun H locs (hP : va_P D vwCl [(a_t, .inr (6, [.int v_t_thrown, .ref a_t_text, .int v_t_textSize, .int v_t_place, .ref a_t_readPage, .ref a_t_page, .ref a_t_trial, .ref a_t_work, .ref a_t_book, .int v_t_doings, .ref a_t_kept, .ref a_t_isKept, .int v_t_seen, .ref a_t_seenWhat, .ref a_t_seenV, .ref a_t_seenIs, .long v_t_seed, .ref a_t_label, .ref a_t_finds, .ref a_t_reason, .ref a_t_caseFirst, .int v_t_cases, .ref a_t_brief, .ref a_t_printed, .int v_t_printedSize_u26, .ref a_t_renamed, .ref a_t_worth, .int v_t_lastReason])), (a_t_brief, .inl (cI, 8, .inl r_t_brief)), (a_t_printed, .inl (cI, 480, .inl r_t_printed_u26))] H) _ hS => ?_)
      refine lv_goto (tgt := 154) hx hb dX7_outBrief_93 (by decide) ?_
      exact jn154 v_t_printedSize_u26 r_t_printed_u26 H locs ls hf hP hS (lv_sub hl [0] rfl)
  · have hf := pn_ifn c10 hf
    by_cases c27 : w8 = 1
    · have hf := pn_ifp c27 hf
      refine lv_tableIn (tgt := 96) hx hb dX7_outBrief_6 (by rw [c27]; decide) (by rw [c27]; decide) (by rw [c27]; rfl) (by decide) ?_
      refine lv_aload_n hx hb dX7_outBrief_96 rfl (lv_at hl 0 rfl) ?_
      refine lv_bipush (v := (65)) hx hb dX7_outBrief_97 (by decide) ?_
      refine lv_aload_n hx hb dX7_outBrief_99 rfl (lv_at hl 0 rfl) ?_
      refine va_get (D := D) (ci := 6) (v := .ref a_t_brief) (C := RX7) (T := TX7) (N := 28) hx hb hts hinX7 hown hK.1 hP 0 rfl rfl 22 (by decide) fl_56 (fun _ h9 => h9) rfl dX7_outBrief_100 ?_
      refine lv_iconst (v := (5)) hx hb dX7_outBrief_103 (by decide) ?_
      obtain ⟨hi29, w28, ew28, hf⟩ := pn_rd_at hf
      refine pn_ldI hx hb hK.1 hP 1 0 rfl rfl hi29 ew28 dX7_outBrief_104 ?_
      refine lv_iadd hx hb dX7_outBrief_105 ?_
      obtain ⟨v_t_printedSize_u30, r_t_printed_u30, hu30, hf⟩ := pn_bd2_at hf
      refine pn_callv [0, 2] (va_runV (As := [.int ((65 : Int32) + w28)]) (rest := []) ⟨hx, hb, hml, hown, hts⟩ (c_X7_out l D cI cJ cZ a_t a_t_text a_t_readPage a_t_page a_t_trial a_t_work a_t_book a_t_kept a_t_isKept a_t_seenWhat a_t_seenV a_t_seenIs a_t_label a_t_finds a_t_reason a_t_caseFirst a_t_brief a_t_printed a_t_renamed a_t_worth H.size v_t_thrown v_t_textSize v_t_place v_t_doings v_t_seen v_t_seed v_t_cases v_t_lastReason v_t_printedSize r_t_printed ((65 : Int32) + w28) v_t_printedSize_u30 r_t_printed_u30 hu30) (cwV 1 hts gX7_outBrief_X7_out rfl rfl rfl hdX7_out ⟨Nat.le_of_ble_eq_true rfl, Nat.le_of_ble_eq_true rfl⟩) (pn_preV [0, 2] hP (hD.addr rfl) hK rfl rfl (q0 := 0) (ci := 6) rfl rfl) rfl rfl hl.1 rfl (lv_room (Nat.le_of_ble_eq_true rfl)) dX7_outBrief_106 ⟨Nat.zero_le _, Nat.zero_le _⟩) hP (hD.addr rfl) hS hA rfl rfl rfl (fun H locs (hP : va_P D vwCl [(a_t, .inr (6, [.int v_t_thrown, .ref a_t_text, .int v_t_textSize, .int v_t_place, .ref a_t_readPage, .ref a_t_page, .ref a_t_trial, .ref a_t_work, .ref a_t_book, .int v_t_doings, .ref a_t_kept, .ref a_t_isKept, .int v_t_seen, .ref a_t_seenWhat, .ref a_t_seenV, .ref a_t_seenIs, .long v_t_seed, .ref a_t_label, .ref a_t_finds, .ref a_t_reason, .ref a_t_caseFirst, .int v_t_cases, .ref a_t_brief, .ref a_t_printed, .int v_t_printedSize_u30, .ref a_t_renamed, .ref a_t_worth, .int v_t_lastReason])), (a_t_brief, .inl (cI, 8, .inl r_t_brief)), (a_t_printed, .inl (cI, 480, .inl r_t_printed_u30))] H) _ hS => ?_)
      refine lv_goto (tgt := 154) hx hb dX7_outBrief_109 (by decide) ?_
      exact jn154 v_t_printedSize_u30 r_t_printed_u30 H locs ls hf hP hS (lv_sub hl [0] rfl)
    · have hf := pn_ifn c27 hf
      by_cases c31 : w8 = 2
      · have hf := pn_ifp c31 hf
        refine lv_tableIn (tgt := 112) hx hb dX7_outBrief_6 (by rw [c31]; decide) (by rw [c31]; decide) (by rw [c31]; rfl) (by decide) ?_
        refine lv_aload_n hx hb dX7_outBrief_112 rfl (lv_at hl 0 rfl) ?_
        refine lv_bipush (v := (105)) hx hb dX7_outBrief_113 (by decide) ?_
        obtain ⟨v_t_printedSize_u32, r_t_printed_u32, hu32, hf⟩ := pn_bd2_at hf
        refine pn_callv [0, 2] (va_runV (As := [.int (105 : Int32)]) (rest := []) ⟨hx, hb, hml, hown, hts⟩ (c_X7_out l D cI cJ cZ a_t a_t_text a_t_readPage a_t_page a_t_trial a_t_work a_t_book a_t_kept a_t_isKept a_t_seenWhat a_t_seenV a_t_seenIs a_t_label a_t_finds a_t_reason a_t_caseFirst a_t_brief a_t_printed a_t_renamed a_t_worth H.size v_t_thrown v_t_textSize v_t_place v_t_doings v_t_seen v_t_seed v_t_cases v_t_lastReason v_t_printedSize r_t_printed (105 : Int32) v_t_printedSize_u32 r_t_printed_u32 hu32) (cwV 1 hts gX7_outBrief_X7_out rfl rfl rfl hdX7_out ⟨Nat.le_of_ble_eq_true rfl, Nat.le_of_ble_eq_true rfl⟩) (pn_preV [0, 2] hP (hD.addr rfl) hK rfl rfl (q0 := 0) (ci := 6) rfl rfl) rfl rfl hl.1 rfl (lv_room (Nat.le_of_ble_eq_true rfl)) dX7_outBrief_115 ⟨Nat.zero_le _, Nat.zero_le _⟩) hP (hD.addr rfl) hS hA rfl rfl rfl (fun H locs (hP : va_P D vwCl [(a_t, .inr (6, [.int v_t_thrown, .ref a_t_text, .int v_t_textSize, .int v_t_place, .ref a_t_readPage, .ref a_t_page, .ref a_t_trial, .ref a_t_work, .ref a_t_book, .int v_t_doings, .ref a_t_kept, .ref a_t_isKept, .int v_t_seen, .ref a_t_seenWhat, .ref a_t_seenV, .ref a_t_seenIs, .long v_t_seed, .ref a_t_label, .ref a_t_finds, .ref a_t_reason, .ref a_t_caseFirst, .int v_t_cases, .ref a_t_brief, .ref a_t_printed, .int v_t_printedSize_u32, .ref a_t_renamed, .ref a_t_worth, .int v_t_lastReason])), (a_t_brief, .inl (cI, 8, .inl r_t_brief)), (a_t_printed, .inl (cI, 480, .inl r_t_printed_u32))] H) _ hS => ?_)
        refine lv_goto (tgt := 154) hx hb dX7_outBrief_118 (by decide) ?_
        exact jn154 v_t_printedSize_u32 r_t_printed_u32 H locs ls hf hP hS (lv_sub hl [0] rfl)
      · have hf := pn_ifn c31 hf
        refine lv_tableOut (tgt := 121) hx hb dX7_outBrief_6 (by have := lv_neT (a := 0) c10 (by decide); have := lv_neT (a := 1) c27 (by decide); have := lv_neT (a := 2) c31 (by decide); omega) (by decide) ?_
        refine lv_aload_n hx hb dX7_outBrief_121 rfl (lv_at hl 0 rfl) ?_
        refine lv_bipush (v := (97)) hx hb dX7_outBrief_122 (by decide) ?_
        obtain ⟨v_t_printedSize_u33, r_t_printed_u33, hu33, hf⟩ := pn_bd2_at hf
        refine pn_callv [0, 2] (va_runV (As := [.int (97 : Int32)]) (rest := []) ⟨hx, hb, hml, hown, hts⟩ (c_X7_out l D cI cJ cZ a_t a_t_text a_t_readPage a_t_page a_t_trial a_t_work a_t_book a_t_kept a_t_isKept a_t_seenWhat a_t_seenV a_t_seenIs a_t_label a_t_finds a_t_reason a_t_caseFirst a_t_brief a_t_printed a_t_renamed a_t_worth H.size v_t_thrown v_t_textSize v_t_place v_t_doings v_t_seen v_t_seed v_t_cases v_t_lastReason v_t_printedSize r_t_printed (97 : Int32) v_t_printedSize_u33 r_t_printed_u33 hu33) (cwV 1 hts gX7_outBrief_X7_out rfl rfl rfl hdX7_out ⟨Nat.le_of_ble_eq_true rfl, Nat.le_of_ble_eq_true rfl⟩) (pn_preV [0, 2] hP (hD.addr rfl) hK rfl rfl (q0 := 0) (ci := 6) rfl rfl) rfl rfl hl.1 rfl (lv_room (Nat.le_of_ble_eq_true rfl)) dX7_outBrief_124 ⟨Nat.zero_le _, Nat.zero_le _⟩) hP (hD.addr rfl) hS hA rfl rfl rfl (fun H locs (hP : va_P D vwCl [(a_t, .inr (6, [.int v_t_thrown, .ref a_t_text, .int v_t_textSize, .int v_t_place, .ref a_t_readPage, .ref a_t_page, .ref a_t_trial, .ref a_t_work, .ref a_t_book, .int v_t_doings, .ref a_t_kept, .ref a_t_isKept, .int v_t_seen, .ref a_t_seenWhat, .ref a_t_seenV, .ref a_t_seenIs, .long v_t_seed, .ref a_t_label, .ref a_t_finds, .ref a_t_reason, .ref a_t_caseFirst, .int v_t_cases, .ref a_t_brief, .ref a_t_printed, .int v_t_printedSize_u33, .ref a_t_renamed, .ref a_t_worth, .int v_t_lastReason])), (a_t_brief, .inl (cI, 8, .inl r_t_brief)), (a_t_printed, .inl (cI, 480, .inl r_t_printed_u33))] H) _ hS => ?_)
        refine lv_aload_n hx hb dX7_outBrief_127 rfl (lv_at hl 0 rfl) ?_
        refine lv_bipush (v := (48)) hx hb dX7_outBrief_128 (by decide) ?_
        refine lv_aload_n hx hb dX7_outBrief_130 rfl (lv_at hl 0 rfl) ?_
        refine va_get (D := D) (ci := 6) (v := .ref a_t_brief) (C := RX7) (T := TX7) (N := 28) hx hb hts hinX7 hown hK.1 hP 0 rfl rfl 22 (by decide) fl_56 (fun _ h9 => h9) rfl dX7_outBrief_131 ?_
        refine lv_bipush (v := (6)) hx hb dX7_outBrief_134 (by decide) ?_
        obtain ⟨hi35, w34, ew34, hf⟩ := pn_rd_at hf
        refine pn_ldI hx hb hK.1 hP 1 0 rfl rfl hi35 ew34 dX7_outBrief_136 ?_
        refine lv_iadd hx hb dX7_outBrief_137 ?_
        obtain ⟨v_t_printedSize_u36, r_t_printed_u36, hu36, hf⟩ := pn_bd2_at hf
        refine pn_callv [0, 2] (va_runV (As := [.int ((48 : Int32) + w34)]) (rest := []) ⟨hx, hb, hml, hown, hts⟩ (c_X7_out l D cI cJ cZ a_t a_t_text a_t_readPage a_t_page a_t_trial a_t_work a_t_book a_t_kept a_t_isKept a_t_seenWhat a_t_seenV a_t_seenIs a_t_label a_t_finds a_t_reason a_t_caseFirst a_t_brief a_t_printed a_t_renamed a_t_worth H.size v_t_thrown v_t_textSize v_t_place v_t_doings v_t_seen v_t_seed v_t_cases v_t_lastReason v_t_printedSize_u33 r_t_printed_u33 ((48 : Int32) + w34) v_t_printedSize_u36 r_t_printed_u36 hu36) (cwV 1 hts gX7_outBrief_X7_out rfl rfl rfl hdX7_out ⟨Nat.le_of_ble_eq_true rfl, Nat.le_of_ble_eq_true rfl⟩) (pn_preV [0, 2] hP (hD.addr rfl) hK rfl rfl (q0 := 0) (ci := 6) rfl rfl) rfl rfl hl.1 rfl (lv_room (Nat.le_of_ble_eq_true rfl)) dX7_outBrief_138 ⟨Nat.zero_le _, Nat.zero_le _⟩) hP (hD.addr rfl) hS hA rfl rfl rfl (fun H locs (hP : va_P D vwCl [(a_t, .inr (6, [.int v_t_thrown, .ref a_t_text, .int v_t_textSize, .int v_t_place, .ref a_t_readPage, .ref a_t_page, .ref a_t_trial, .ref a_t_work, .ref a_t_book, .int v_t_doings, .ref a_t_kept, .ref a_t_isKept, .int v_t_seen, .ref a_t_seenWhat, .ref a_t_seenV, .ref a_t_seenIs, .long v_t_seed, .ref a_t_label, .ref a_t_finds, .ref a_t_reason, .ref a_t_caseFirst, .int v_t_cases, .ref a_t_brief, .ref a_t_printed, .int v_t_printedSize_u36, .ref a_t_renamed, .ref a_t_worth, .int v_t_lastReason])), (a_t_brief, .inl (cI, 8, .inl r_t_brief)), (a_t_printed, .inl (cI, 480, .inl r_t_printed_u36))] H) _ hS => ?_)
        refine lv_aload_n hx hb dX7_outBrief_141 rfl (lv_at hl 0 rfl) ?_
        refine lv_bipush (v := (65)) hx hb dX7_outBrief_142 (by decide) ?_
        refine lv_aload_n hx hb dX7_outBrief_144 rfl (lv_at hl 0 rfl) ?_
        refine va_get (D := D) (ci := 6) (v := .ref a_t_brief) (C := RX7) (T := TX7) (N := 28) hx hb hts hinX7 hown hK.1 hP 0 rfl rfl 22 (by decide) fl_56 (fun _ h9 => h9) rfl dX7_outBrief_145 ?_
        refine lv_iconst (v := (5)) hx hb dX7_outBrief_148 (by decide) ?_
        obtain ⟨hi38, w37, ew37, hf⟩ := pn_rd_at hf
        refine pn_ldI hx hb hK.1 hP 1 0 rfl rfl hi38 ew37 dX7_outBrief_149 ?_
        refine lv_iadd hx hb dX7_outBrief_150 ?_
        obtain ⟨v_t_printedSize_u39, r_t_printed_u39, hu39, hf⟩ := pn_bd2_at hf
        refine pn_callv [0, 2] (va_runV (As := [.int ((65 : Int32) + w37)]) (rest := []) ⟨hx, hb, hml, hown, hts⟩ (c_X7_out l D cI cJ cZ a_t a_t_text a_t_readPage a_t_page a_t_trial a_t_work a_t_book a_t_kept a_t_isKept a_t_seenWhat a_t_seenV a_t_seenIs a_t_label a_t_finds a_t_reason a_t_caseFirst a_t_brief a_t_printed a_t_renamed a_t_worth H.size v_t_thrown v_t_textSize v_t_place v_t_doings v_t_seen v_t_seed v_t_cases v_t_lastReason v_t_printedSize_u36 r_t_printed_u36 ((65 : Int32) + w37) v_t_printedSize_u39 r_t_printed_u39 hu39) (cwV 1 hts gX7_outBrief_X7_out rfl rfl rfl hdX7_out ⟨Nat.le_of_ble_eq_true rfl, Nat.le_of_ble_eq_true rfl⟩) (pn_preV [0, 2] hP (hD.addr rfl) hK rfl rfl (q0 := 0) (ci := 6) rfl rfl) rfl rfl hl.1 rfl (lv_room (Nat.le_of_ble_eq_true rfl)) dX7_outBrief_151 ⟨Nat.zero_le _, Nat.zero_le _⟩) hP (hD.addr rfl) hS hA rfl rfl rfl (fun H locs (hP : va_P D vwCl [(a_t, .inr (6, [.int v_t_thrown, .ref a_t_text, .int v_t_textSize, .int v_t_place, .ref a_t_readPage, .ref a_t_page, .ref a_t_trial, .ref a_t_work, .ref a_t_book, .int v_t_doings, .ref a_t_kept, .ref a_t_isKept, .int v_t_seen, .ref a_t_seenWhat, .ref a_t_seenV, .ref a_t_seenIs, .long v_t_seed, .ref a_t_label, .ref a_t_finds, .ref a_t_reason, .ref a_t_caseFirst, .int v_t_cases, .ref a_t_brief, .ref a_t_printed, .int v_t_printedSize_u39, .ref a_t_renamed, .ref a_t_worth, .int v_t_lastReason])), (a_t_brief, .inl (cI, 8, .inl r_t_brief)), (a_t_printed, .inl (cI, 480, .inl r_t_printed_u39))] H) _ hS => ?_)
        exact jn154 v_t_printedSize_u39 r_t_printed_u39 H locs ls hf hP hS (lv_sub hl [0] rfl)
def lp_X7_layPrinted_77 (r_t_page : Nat → Int32) (x2 : Int32) : Nat → Int32 → (Nat → Int32) → Option ((Nat → Int32))
  | 0, _, _ => none
  | n + 1, x3, r_t_brief =>
    if (8 : Int32) ≤ x3 then
  some r_t_brief
  else
  pn_bd1 (f_X7_ref r_t_page x2 x3) fun ru2 =>
  pn_wrI 8 r_t_brief x3 ru2 fun g3 =>
  pn_nm (x3 + (1 : Int32)) fun z5 =>
  lp_X7_layPrinted_77 r_t_page x2 n z5 g3
def j_X7_layPrinted_58 (rc : Int32 → Int32 → Int32 → (Nat → Int32) → (Nat → Int32) → Option (Int32 × Int32 × (Nat → Int32) × (Nat → Int32))) (v_t_cases : Int32) (r_t_caseFirst : Nat → Int32) (r_t_finds : Nat → Int32) (N : Nat) (r_t_page : Nat → Int32) (p1 : Int32) (x2 : Int32) (v_t_printedSize : Int32) (v_t_lastReason : Int32) (r_t_brief : Nat → Int32) (r_t_printed : Nat → Int32) : Option (Int32 × Int32 × (Nat → Int32) × (Nat → Int32)) :=
  if ¬ p1 = (1 : Int32) then
  pn_bd1 (lp_X7_layPrinted_77 r_t_page x2 N (0 : Int32) r_t_brief) (fun X77 => (pn_u1 fun r_t_brief_w7 => pn_bd2 (f_X7_outBrief v_t_printedSize r_t_brief_w7 r_t_printed) fun v_t_printedSize_u8 r_t_printed_u8 =>
  pn_nm (x2 + (1 : Int32)) fun z9 =>
  rc z9 v_t_printedSize_u8 v_t_lastReason r_t_brief_w7 r_t_printed_u8) X77)
  else
  pn_bd2 (f_X7_shorten N v_t_cases v_t_lastReason r_t_brief r_t_caseFirst r_t_finds r_t_page x2) fun v_t_lastReason_u10 r_t_brief_u10 =>
  pn_bd2 (f_X7_outBrief v_t_printedSize r_t_brief_u10 r_t_printed) fun v_t_printedSize_u11 r_t_printed_u11 =>
  pn_nm (x2 + (1 : Int32)) fun z12 =>
  rc z12 v_t_printedSize_u11 v_t_lastReason_u10 r_t_brief_u10 r_t_printed_u11
def lp_X7_layPrinted_15 (N : Nat) (r_t_page : Nat → Int32) (p1 : Int32) (v_t_cases : Int32) (r_t_caseFirst : Nat → Int32) (r_t_finds : Nat → Int32) : Nat → Int32 → Int32 → Int32 → (Nat → Int32) → (Nat → Int32) → Option (Int32 × Int32 × (Nat → Int32) × (Nat → Int32))
  | 0, _, _, _, _, _ => none
  | n + 1, x2, v_t_printedSize, v_t_lastReason, r_t_brief, r_t_printed =>
    if (32 : Int32) ≤ x2 then
  some (v_t_printedSize, v_t_lastReason, r_t_brief, r_t_printed)
  else
  pn_bd1 (f_X7_isThere r_t_page (x2 / (4 : Int32)) (x2 - x2 / (4 : Int32) * (4 : Int32))) fun ru14 =>
  if ru14 = 0 then
  pn_nm (x2 + (1 : Int32)) fun z16 =>
  lp_X7_layPrinted_15 N r_t_page p1 v_t_cases r_t_caseFirst r_t_finds n z16 v_t_printedSize v_t_lastReason r_t_brief r_t_printed
  else
  if x2 ≤ 0 then
  j_X7_layPrinted_58 (lp_X7_layPrinted_15 N r_t_page p1 v_t_cases r_t_caseFirst r_t_finds n) v_t_cases r_t_caseFirst r_t_finds N r_t_page p1 x2 v_t_printedSize v_t_lastReason r_t_brief r_t_printed
  else
  if (x2 - x2 / (4 : Int32) * (4 : Int32)) ≤ 0 then
  pn_bd2 (f_X7_out v_t_printedSize r_t_printed (59 : Int32)) fun v_t_printedSize_u19 r_t_printed_u19 =>
  j_X7_layPrinted_58 (lp_X7_layPrinted_15 N r_t_page p1 v_t_cases r_t_caseFirst r_t_finds n) v_t_cases r_t_caseFirst r_t_finds N r_t_page p1 x2 v_t_printedSize_u19 v_t_lastReason r_t_brief r_t_printed_u19
  else
  pn_bd2 (f_X7_out v_t_printedSize r_t_printed (44 : Int32)) fun v_t_printedSize_u20 r_t_printed_u20 =>
  j_X7_layPrinted_58 (lp_X7_layPrinted_15 N r_t_page p1 v_t_cases r_t_caseFirst r_t_finds n) v_t_cases r_t_caseFirst r_t_finds N r_t_page p1 x2 v_t_printedSize_u20 v_t_lastReason r_t_brief r_t_printed_u20
def f_X7_layPrinted (N : Nat) (v_t_cases : Int32) (v_t_printedSize : Int32) (v_t_lastReason : Int32) (r_t_brief : Nat → Int32) (r_t_caseFirst : Nat → Int32) (r_t_finds : Nat → Int32) (r_t_label : Nat → Int32) (r_t_page : Nat → Int32) (r_t_printed : Nat → Int32) (r_t_reason : Nat → Int32) (p1 : Int32) : Option (Int32 × Int32 × Int32 × (Nat → Int32) × (Nat → Int32) × (Nat → Int32) × (Nat → Int32) × (Nat → Int32) × (Nat → Int32)) :=
  pn_bd6 (f_X7_findAll N v_t_cases v_t_lastReason r_t_caseFirst r_t_finds r_t_label r_t_reason r_t_page) fun v_t_cases_u21 v_t_lastReason_u21 r_t_caseFirst_u21 r_t_finds_u21 r_t_label_u21 r_t_reason_u21 =>
  pn_bd1 (lp_X7_layPrinted_15 N r_t_page p1 v_t_cases_u21 r_t_caseFirst_u21 r_t_finds_u21 N (0 : Int32) (0 : Int32) v_t_lastReason_u21 r_t_brief r_t_printed) (fun X15 => (pn_u4 fun v_t_printedSize_w22 v_t_lastReason_w22 r_t_brief_w22 r_t_printed_w22 => some (v_t_cases_u21, v_t_printedSize_w22, v_t_lastReason_w22, r_t_brief_w22, r_t_caseFirst_u21, r_t_finds_u21, r_t_label_u21, r_t_printed_w22, r_t_reason_u21)) X15)
set_option maxHeartbeats 4000000 in
set_option maxRecDepth 100000 in
theorem c_X7_layPrinted (l : Launch) (D : va_G) (cI cJ cZ : ClassId) (a_t a_t_text a_t_readPage a_t_page a_t_trial a_t_work a_t_book a_t_kept a_t_isKept a_t_seenWhat a_t_seenV a_t_seenIs a_t_label a_t_finds a_t_reason a_t_caseFirst a_t_brief a_t_printed a_t_renamed a_t_worth : Nat) (sz : Nat) (v_t_thrown : Int32) (v_t_textSize : Int32) (v_t_place : Int32) (v_t_doings : Int32) (v_t_seen : Int32) (v_t_seed : Int64) (N : Nat) (v_t_cases : Int32) (v_t_printedSize : Int32) (v_t_lastReason : Int32) (r_t_brief : Nat → Int32) (r_t_caseFirst : Nat → Int32) (r_t_finds : Nat → Int32) (r_t_label : Nat → Int32) (r_t_page : Nat → Int32) (r_t_printed : Nat → Int32) (r_t_reason : Nat → Int32) (p1 : Int32) (o_t_cases : Int32) (o_t_printedSize : Int32) (o_t_lastReason : Int32) (o_t_brief : Nat → Int32) (o_t_caseFirst : Nat → Int32) (o_t_finds : Nat → Int32) (o_t_label : Nat → Int32) (o_t_printed : Nat → Int32) (o_t_reason : Nat → Int32) (hf : f_X7_layPrinted N v_t_cases v_t_printedSize v_t_lastReason r_t_brief r_t_caseFirst r_t_finds r_t_label r_t_page r_t_printed r_t_reason p1 = some (o_t_cases, o_t_printedSize, o_t_lastReason, o_t_brief, o_t_caseFirst, o_t_finds, o_t_label, o_t_printed, o_t_reason)) : Met l yX7_layPrinted wsX7_layPrinted { frames := 7, cells := 0, slots := 0, locals := 168 } (pn_Pc D cI cJ cZ [.ref a_t, .int p1] [(a_t, .inr (6, [.int v_t_thrown, .ref a_t_text, .int v_t_textSize, .int v_t_place, .ref a_t_readPage, .ref a_t_page, .ref a_t_trial, .ref a_t_work, .ref a_t_book, .int v_t_doings, .ref a_t_kept, .ref a_t_isKept, .int v_t_seen, .ref a_t_seenWhat, .ref a_t_seenV, .ref a_t_seenIs, .long v_t_seed, .ref a_t_label, .ref a_t_finds, .ref a_t_reason, .ref a_t_caseFirst, .int v_t_cases, .ref a_t_brief, .ref a_t_printed, .int v_t_printedSize, .ref a_t_renamed, .ref a_t_worth, .int v_t_lastReason])), (a_t_brief, .inl (cI, 8, .inl r_t_brief)), (a_t_caseFirst, .inl (cI, 32, .inl r_t_caseFirst)), (a_t_finds, .inl (cI, 32, .inl r_t_finds)), (a_t_label, .inl (cI, 32, .inl r_t_label)), (a_t_page, .inl (cI, 265, .inl r_t_page)), (a_t_printed, .inl (cI, 480, .inl r_t_printed)), (a_t_reason, .inl (cI, 32, .inl r_t_reason))] sz) (pn_Qv D [(a_t, .inr (6, [.int v_t_thrown, .ref a_t_text, .int v_t_textSize, .int v_t_place, .ref a_t_readPage, .ref a_t_page, .ref a_t_trial, .ref a_t_work, .ref a_t_book, .int v_t_doings, .ref a_t_kept, .ref a_t_isKept, .int v_t_seen, .ref a_t_seenWhat, .ref a_t_seenV, .ref a_t_seenIs, .long v_t_seed, .ref a_t_label, .ref a_t_finds, .ref a_t_reason, .ref a_t_caseFirst, .int o_t_cases, .ref a_t_brief, .ref a_t_printed, .int o_t_printedSize, .ref a_t_renamed, .ref a_t_worth, .int o_t_lastReason])), (a_t_brief, .inl (cI, 8, .inl o_t_brief)), (a_t_caseFirst, .inl (cI, 32, .inl o_t_caseFirst)), (a_t_finds, .inl (cI, 32, .inl o_t_finds)), (a_t_label, .inl (cI, 32, .inl o_t_label)), (a_t_page, .inl (cI, 265, .inl r_t_page)), (a_t_printed, .inl (cI, 480, .inl o_t_printed)), (a_t_reason, .inl (cI, 32, .inl o_t_reason))] (va_A [(a_t, .inr (6, [.int v_t_thrown, .ref a_t_text, .int v_t_textSize, .int v_t_place, .ref a_t_readPage, .ref a_t_page, .ref a_t_trial, .ref a_t_work, .ref a_t_book, .int v_t_doings, .ref a_t_kept, .ref a_t_isKept, .int v_t_seen, .ref a_t_seenWhat, .ref a_t_seenV, .ref a_t_seenIs, .long v_t_seed, .ref a_t_label, .ref a_t_finds, .ref a_t_reason, .ref a_t_caseFirst, .int v_t_cases, .ref a_t_brief, .ref a_t_printed, .int v_t_printedSize, .ref a_t_renamed, .ref a_t_worth, .int v_t_lastReason])), (a_t_brief, .inl (cI, 8, .inl r_t_brief)), (a_t_caseFirst, .inl (cI, 32, .inl r_t_caseFirst)), (a_t_finds, .inl (cI, 32, .inl r_t_finds)), (a_t_label, .inl (cI, 32, .inl r_t_label)), (a_t_page, .inl (cI, 265, .inl r_t_page)), (a_t_printed, .inl (cI, 480, .inl r_t_printed)), (a_t_reason, .inl (cI, 32, .inl r_t_reason))] sz)) 0 0 (va_A [(a_t, .inr (6, [.int v_t_thrown, .ref a_t_text, .int v_t_textSize, .int v_t_place, .ref a_t_readPage, .ref a_t_page, .ref a_t_trial, .ref a_t_work, .ref a_t_book, .int v_t_doings, .ref a_t_kept, .ref a_t_isKept, .int v_t_seen, .ref a_t_seenWhat, .ref a_t_seenV, .ref a_t_seenIs, .long v_t_seed, .ref a_t_label, .ref a_t_finds, .ref a_t_reason, .ref a_t_caseFirst, .int v_t_cases, .ref a_t_brief, .ref a_t_printed, .int v_t_printedSize, .ref a_t_renamed, .ref a_t_worth, .int v_t_lastReason])), (a_t_brief, .inl (cI, 8, .inl r_t_brief)), (a_t_caseFirst, .inl (cI, 32, .inl r_t_caseFirst)), (a_t_finds, .inl (cI, 32, .inl r_t_finds)), (a_t_label, .inl (cI, 32, .inl r_t_label)), (a_t_page, .inl (cI, 265, .inl r_t_page)), (a_t_printed, .inl (cI, 480, .inl r_t_printed)), (a_t_reason, .inl (cI, 32, .inl r_t_reason))] sz) := by
  refine pn_entry (cc := cX7_layPrinted) (maxL := 4) (ret := none) (Qf := pn_Qv D [(a_t, .inr (6, [.int v_t_thrown, .ref a_t_text, .int v_t_textSize, .int v_t_place, .ref a_t_readPage, .ref a_t_page, .ref a_t_trial, .ref a_t_work, .ref a_t_book, .int v_t_doings, .ref a_t_kept, .ref a_t_isKept, .int v_t_seen, .ref a_t_seenWhat, .ref a_t_seenV, .ref a_t_seenIs, .long v_t_seed, .ref a_t_label, .ref a_t_finds, .ref a_t_reason, .ref a_t_caseFirst, .int o_t_cases, .ref a_t_brief, .ref a_t_printed, .int o_t_printedSize, .ref a_t_renamed, .ref a_t_worth, .int o_t_lastReason])), (a_t_brief, .inl (cI, 8, .inl o_t_brief)), (a_t_caseFirst, .inl (cI, 32, .inl o_t_caseFirst)), (a_t_finds, .inl (cI, 32, .inl o_t_finds)), (a_t_label, .inl (cI, 32, .inl o_t_label)), (a_t_page, .inl (cI, 265, .inl r_t_page)), (a_t_printed, .inl (cI, 480, .inl o_t_printed)), (a_t_reason, .inl (cI, 32, .inl o_t_reason))]) (by decide) rfl (Nat.le_of_ble_eq_true rfl) ?_
  intro p e s m args below meth c A ls H locs Qm hQ hx hb hr hlocks hml hown hts hK hP hD hA hS hl
  have hl : lv_has ls 4 [(0, .ref a_t), (1, .int p1)] := hl
  have hinX7 : ∀ w ∈ wsX70, w ∈ wsX7_layPrinted := by decide +kernel
  have fl_16 := hts (.fieldLink RX7 16 "PointingNotesModel" "page" "[I") (by decide +kernel)
  have fl_56 := hts (.fieldLink RX7 56 "PointingNotesModel" "brief" "[I") (by decide +kernel)
  have fl_248 := hts (.fieldLink RX7 248 "PointingNotesModel" "printedSize" "I") (by decide +kernel)
  rw [f_X7_layPrinted] at hf
  have lp77 : ∀ (n : Nat) (x2 : Int32) (x3 : Int32) (v_t_cases : Int32) (v_t_printedSize : Int32) (v_t_lastReason : Int32) (r_t_brief : Nat → Int32) (r_t_caseFirst : Nat → Int32) (r_t_finds : Nat → Int32) (r_t_label : Nat → Int32) (r_t_printed : Nat → Int32) (r_t_reason : Nat → Int32) (X : (Nat → Int32)) (H : Heap) (locs : List Loc) (ls : Array Slot), lp_X7_layPrinted_77 r_t_page x2 n x3 r_t_brief = some X → va_P D vwCl [(a_t, .inr (6, [.int v_t_thrown, .ref a_t_text, .int v_t_textSize, .int v_t_place, .ref a_t_readPage, .ref a_t_page, .ref a_t_trial, .ref a_t_work, .ref a_t_book, .int v_t_doings, .ref a_t_kept, .ref a_t_isKept, .int v_t_seen, .ref a_t_seenWhat, .ref a_t_seenV, .ref a_t_seenIs, .long v_t_seed, .ref a_t_label, .ref a_t_finds, .ref a_t_reason, .ref a_t_caseFirst, .int v_t_cases, .ref a_t_brief, .ref a_t_printed, .int v_t_printedSize, .ref a_t_renamed, .ref a_t_worth, .int v_t_lastReason])), (a_t_brief, .inl (cI, 8, .inl r_t_brief)), (a_t_caseFirst, .inl (cI, 32, .inl r_t_caseFirst)), (a_t_finds, .inl (cI, 32, .inl r_t_finds)), (a_t_label, .inl (cI, 32, .inl r_t_label)), (a_t_page, .inl (cI, 265, .inl r_t_page)), (a_t_printed, .inl (cI, 480, .inl r_t_printed)), (a_t_reason, .inl (cI, 32, .inl r_t_reason))] H → va_S A s.heap H locs → lv_has ls 4 [(0, .ref a_t), (1, .int p1), (2, .int x2), (3, .int x3)] → (∀  (r_t_brief' : Nat → Int32) (H : Heap) (locs : List Loc) (ls : Array Slot), X = r_t_brief' → va_P D vwCl [(a_t, .inr (6, [.int v_t_thrown, .ref a_t_text, .int v_t_textSize, .int v_t_place, .ref a_t_readPage, .ref a_t_page, .ref a_t_trial, .ref a_t_work, .ref a_t_book, .int v_t_doings, .ref a_t_kept, .ref a_t_isKept, .int v_t_seen, .ref a_t_seenWhat, .ref a_t_seenV, .ref a_t_seenIs, .long v_t_seed, .ref a_t_label, .ref a_t_finds, .ref a_t_reason, .ref a_t_caseFirst, .int v_t_cases, .ref a_t_brief, .ref a_t_printed, .int v_t_printedSize, .ref a_t_renamed, .ref a_t_worth, .int v_t_lastReason])), (a_t_brief, .inl (cI, 8, .inl (r_t_brief'))), (a_t_caseFirst, .inl (cI, 32, .inl r_t_caseFirst)), (a_t_finds, .inl (cI, 32, .inl r_t_finds)), (a_t_label, .inl (cI, 32, .inl r_t_label)), (a_t_page, .inl (cI, 265, .inl r_t_page)), (a_t_printed, .inl (cI, 480, .inl r_t_printed)), (a_t_reason, .inl (cI, 32, .inl r_t_reason))] H → va_S A s.heap H locs → lv_has ls 4 [(0, .ref a_t), (1, .int p1), (2, .int x2)] → W p l e { frames := 7, cells := 0, slots := 0, locals := 168 } s m args below meth c H locs 0 0 Qm (F0 m 104 ls [])) → W p l e { frames := 7, cells := 0, slots := 0, locals := 168 } s m args below meth c H locs 0 0 Qm (F0 m 77 ls []) := by
    intro n
    induction n with
    | zero => intro x2 x3 v_t_cases v_t_printedSize v_t_lastReason r_t_brief r_t_caseFirst r_t_finds r_t_label r_t_printed r_t_reason X H locs ls hf; cases hf
    | succ n ih =>
      intro x2 x3 v_t_cases v_t_printedSize v_t_lastReason r_t_brief r_t_caseFirst r_t_finds r_t_label r_t_printed r_t_reason X H locs ls hf hP hS hl kx104
      rw [lp_X7_layPrinted_77] at hf
      refine lv_iload_n hx hb dX7_layPrinted_77 rfl (lv_at hl 3 rfl) ?_
      refine lv_bipush (v := (8)) hx hb dX7_layPrinted_78 (by decide) ?_
      refine lv_icmp_ge (tgt := 104) hx hb dX7_layPrinted_80 (by decide) (fun c1 => ?_) (fun c1 => ?_)
      · have hf := pn_ifp c1 hf
        exact kx104 r_t_brief H locs ls (Option.some.inj hf).symm hP hS (lv_sub hl [0, 1, 2] rfl)
      · have hf := pn_ifn c1 hf
        refine lv_aload_n hx hb dX7_layPrinted_83 rfl (lv_at hl 0 rfl) ?_
        refine va_get (D := D) (ci := 6) (v := .ref a_t_brief) (C := RX7) (T := TX7) (N := 28) hx hb hts hinX7 hown hK.1 hP 0 rfl rfl 22 (by decide) fl_56 (fun _ h9 => h9) rfl dX7_layPrinted_84 ?_
        refine lv_iload_n hx hb dX7_layPrinted_87 rfl (lv_at hl 3 rfl) ?_
        refine lv_aload_n hx hb dX7_layPrinted_88 rfl (lv_at hl 0 rfl) ?_
        refine va_get (D := D) (ci := 6) (v := .ref a_t_page) (C := RX7) (T := TX7) (N := 28) hx hb hts hinX7 hown hK.1 hP 0 rfl rfl 5 (by decide) fl_16 (fun _ h9 => h9) rfl dX7_layPrinted_89 ?_
        refine lv_iload_n hx hb dX7_layPrinted_92 rfl (lv_at hl 2 rfl) ?_
        refine lv_iload_n hx hb dX7_layPrinted_93 rfl (lv_at hl 3 rfl) ?_
        obtain ⟨ru2, hu2, hf⟩ := pn_bd1_at hf
        refine pn_calli [5] (va_runS (As := [.ref a_t_page, .int x2, .int x3]) (rest := [.int x3, .ref a_t_brief]) ⟨hx, hb, hml, hown, hts⟩ (c_X7_ref l D cI cJ cZ a_t_page H.size r_t_page x2 x3 ru2 hu2) (va_cwS 3 hts gX7_layPrinted_X7_ref rfl rfl rfl hdX7_ref ⟨Nat.le_of_ble_eq_true rfl, Nat.le_of_ble_eq_true rfl⟩) (pn_preS [5] hP (hD.addr rfl) hK rfl rfl) rfl rfl hl.1 rfl (lv_room (Nat.le_of_ble_eq_true rfl)) dX7_layPrinted_94 ⟨Nat.zero_le _, Nat.zero_le _⟩) hP (hD.addr rfl) hS hA rfl rfl rfl (fun H locs (hP : va_P D vwCl [(a_t, .inr (6, [.int v_t_thrown, .ref a_t_text, .int v_t_textSize, .int v_t_place, .ref a_t_readPage, .ref a_t_page, .ref a_t_trial, .ref a_t_work, .ref a_t_book, .int v_t_doings, .ref a_t_kept, .ref a_t_isKept, .int v_t_seen, .ref a_t_seenWhat, .ref a_t_seenV, .ref a_t_seenIs, .long v_t_seed, .ref a_t_label, .ref a_t_finds, .ref a_t_reason, .ref a_t_caseFirst, .int v_t_cases, .ref a_t_brief, .ref a_t_printed, .int v_t_printedSize, .ref a_t_renamed, .ref a_t_worth, .int v_t_lastReason])), (a_t_brief, .inl (cI, 8, .inl r_t_brief)), (a_t_caseFirst, .inl (cI, 32, .inl r_t_caseFirst)), (a_t_finds, .inl (cI, 32, .inl r_t_finds)), (a_t_label, .inl (cI, 32, .inl r_t_label)), (a_t_page, .inl (cI, 265, .inl r_t_page)), (a_t_printed, .inl (cI, 480, .inl r_t_printed)), (a_t_reason, .inl (cI, 32, .inl r_t_reason))] H) _ hS => ?_)
        obtain ⟨hi4, g3, eg3, hf⟩ := pn_wrI_at hf
        refine pn_stI hx hb hK.1 hP (hD.addr rfl) hS 1 0 rfl rfl hi4 eg3 dX7_layPrinted_97 (fun H locs (hP : va_P D vwCl [(a_t, .inr (6, [.int v_t_thrown, .ref a_t_text, .int v_t_textSize, .int v_t_place, .ref a_t_readPage, .ref a_t_page, .ref a_t_trial, .ref a_t_work, .ref a_t_book, .int v_t_doings, .ref a_t_kept, .ref a_t_isKept, .int v_t_seen, .ref a_t_seenWhat, .ref a_t_seenV, .ref a_t_seenIs, .long v_t_seed, .ref a_t_label, .ref a_t_finds, .ref a_t_reason, .ref a_t_caseFirst, .int v_t_cases, .ref a_t_brief, .ref a_t_printed, .int v_t_printedSize, .ref a_t_renamed, .ref a_t_worth, .int v_t_lastReason])), (a_t_brief, .inl (cI, 8, .inl g3)), (a_t_caseFirst, .inl (cI, 32, .inl r_t_caseFirst)), (a_t_finds, .inl (cI, 32, .inl r_t_finds)), (a_t_label, .inl (cI, 32, .inl r_t_label)), (a_t_page, .inl (cI, 265, .inl r_t_page)), (a_t_printed, .inl (cI, 480, .inl r_t_printed)), (a_t_reason, .inl (cI, 32, .inl r_t_reason))] H) _ hS => ?_)
        obtain ⟨z5, ez5⟩ : ∃ y : Int32, y = x3 + (1) := ⟨_, rfl⟩
        have hf := pn_nm_at ez5 hf
        refine lv_iinc (v := z5) (lv' := [(3, .int z5), (0, .ref a_t), (1, .int p1), (2, .int x2)]) hx hb dX7_layPrinted_98 hl (k := 3) rfl (by rw [ez5]; rfl) (by decide) rfl (fun ls hl => ?_)
        refine lv_goto (tgt := 77) hx hb dX7_layPrinted_101 (by decide) ?_
        exact ih x2 z5 v_t_cases v_t_printedSize v_t_lastReason g3 r_t_caseFirst r_t_finds r_t_label r_t_printed r_t_reason X H locs ls hf hP hS (lv_sub hl [1, 2, 3, 0] rfl) kx104
  have lp15 : ∀ (n : Nat) (x2 : Int32) (v_t_cases : Int32) (v_t_printedSize : Int32) (v_t_lastReason : Int32) (r_t_brief : Nat → Int32) (r_t_caseFirst : Nat → Int32) (r_t_finds : Nat → Int32) (r_t_label : Nat → Int32) (r_t_printed : Nat → Int32) (r_t_reason : Nat → Int32) (X : Int32 × Int32 × (Nat → Int32) × (Nat → Int32)) (H : Heap) (locs : List Loc) (ls : Array Slot), lp_X7_layPrinted_15 N r_t_page p1 v_t_cases r_t_caseFirst r_t_finds n x2 v_t_printedSize v_t_lastReason r_t_brief r_t_printed = some X → va_P D vwCl [(a_t, .inr (6, [.int v_t_thrown, .ref a_t_text, .int v_t_textSize, .int v_t_place, .ref a_t_readPage, .ref a_t_page, .ref a_t_trial, .ref a_t_work, .ref a_t_book, .int v_t_doings, .ref a_t_kept, .ref a_t_isKept, .int v_t_seen, .ref a_t_seenWhat, .ref a_t_seenV, .ref a_t_seenIs, .long v_t_seed, .ref a_t_label, .ref a_t_finds, .ref a_t_reason, .ref a_t_caseFirst, .int v_t_cases, .ref a_t_brief, .ref a_t_printed, .int v_t_printedSize, .ref a_t_renamed, .ref a_t_worth, .int v_t_lastReason])), (a_t_brief, .inl (cI, 8, .inl r_t_brief)), (a_t_caseFirst, .inl (cI, 32, .inl r_t_caseFirst)), (a_t_finds, .inl (cI, 32, .inl r_t_finds)), (a_t_label, .inl (cI, 32, .inl r_t_label)), (a_t_page, .inl (cI, 265, .inl r_t_page)), (a_t_printed, .inl (cI, 480, .inl r_t_printed)), (a_t_reason, .inl (cI, 32, .inl r_t_reason))] H → va_S A s.heap H locs → lv_has ls 4 [(0, .ref a_t), (1, .int p1), (2, .int x2)] → (∀  (v_t_printedSize' : Int32) (v_t_lastReason' : Int32) (r_t_brief' : Nat → Int32) (r_t_printed' : Nat → Int32) (H : Heap) (locs : List Loc) (ls : Array Slot), X = (v_t_printedSize', v_t_lastReason', r_t_brief', r_t_printed') → va_P D vwCl [(a_t, .inr (6, [.int v_t_thrown, .ref a_t_text, .int v_t_textSize, .int v_t_place, .ref a_t_readPage, .ref a_t_page, .ref a_t_trial, .ref a_t_work, .ref a_t_book, .int v_t_doings, .ref a_t_kept, .ref a_t_isKept, .int v_t_seen, .ref a_t_seenWhat, .ref a_t_seenV, .ref a_t_seenIs, .long v_t_seed, .ref a_t_label, .ref a_t_finds, .ref a_t_reason, .ref a_t_caseFirst, .int v_t_cases, .ref a_t_brief, .ref a_t_printed, .int (v_t_printedSize'), .ref a_t_renamed, .ref a_t_worth, .int (v_t_lastReason')])), (a_t_brief, .inl (cI, 8, .inl (r_t_brief'))), (a_t_caseFirst, .inl (cI, 32, .inl r_t_caseFirst)), (a_t_finds, .inl (cI, 32, .inl r_t_finds)), (a_t_label, .inl (cI, 32, .inl r_t_label)), (a_t_page, .inl (cI, 265, .inl r_t_page)), (a_t_printed, .inl (cI, 480, .inl (r_t_printed'))), (a_t_reason, .inl (cI, 32, .inl r_t_reason))] H → va_S A s.heap H locs → lv_has ls 4 [] → W p l e { frames := 7, cells := 0, slots := 0, locals := 168 } s m args below meth c H locs 0 0 Qm (F0 m 114 ls [])) → W p l e { frames := 7, cells := 0, slots := 0, locals := 168 } s m args below meth c H locs 0 0 Qm (F0 m 15 ls []) := by
    intro n
    induction n with
    | zero => intro x2 v_t_cases v_t_printedSize v_t_lastReason r_t_brief r_t_caseFirst r_t_finds r_t_label r_t_printed r_t_reason X H locs ls hf; cases hf
    | succ n ih =>
      intro x2 v_t_cases v_t_printedSize v_t_lastReason r_t_brief r_t_caseFirst r_t_finds r_t_label r_t_printed r_t_reason X H locs ls hf hP hS hl kx114
      rw [lp_X7_layPrinted_15] at hf
      have jn58 : ∀ (x2 : Int32) (v_t_printedSize : Int32) (v_t_lastReason : Int32) (r_t_brief : Nat → Int32) (r_t_printed : Nat → Int32) (H : Heap) (locs : List Loc) (ls : Array Slot), j_X7_layPrinted_58 (lp_X7_layPrinted_15 N r_t_page p1 v_t_cases r_t_caseFirst r_t_finds n) v_t_cases r_t_caseFirst r_t_finds N r_t_page p1 x2 v_t_printedSize v_t_lastReason r_t_brief r_t_printed = some X → va_P D vwCl [(a_t, .inr (6, [.int v_t_thrown, .ref a_t_text, .int v_t_textSize, .int v_t_place, .ref a_t_readPage, .ref a_t_page, .ref a_t_trial, .ref a_t_work, .ref a_t_book, .int v_t_doings, .ref a_t_kept, .ref a_t_isKept, .int v_t_seen, .ref a_t_seenWhat, .ref a_t_seenV, .ref a_t_seenIs, .long v_t_seed, .ref a_t_label, .ref a_t_finds, .ref a_t_reason, .ref a_t_caseFirst, .int v_t_cases, .ref a_t_brief, .ref a_t_printed, .int v_t_printedSize, .ref a_t_renamed, .ref a_t_worth, .int v_t_lastReason])), (a_t_brief, .inl (cI, 8, .inl r_t_brief)), (a_t_caseFirst, .inl (cI, 32, .inl r_t_caseFirst)), (a_t_finds, .inl (cI, 32, .inl r_t_finds)), (a_t_label, .inl (cI, 32, .inl r_t_label)), (a_t_page, .inl (cI, 265, .inl r_t_page)), (a_t_printed, .inl (cI, 480, .inl r_t_printed)), (a_t_reason, .inl (cI, 32, .inl r_t_reason))] H → va_S A s.heap H locs → lv_has ls 4 [(0, .ref a_t), (1, .int p1), (2, .int x2)] → W p l e { frames := 7, cells := 0, slots := 0, locals := 168 } s m args below meth c H locs 0 0 Qm (F0 m 58 ls []) := by
        intro x2 v_t_printedSize v_t_lastReason r_t_brief r_t_printed H locs ls hf hP hS hl
        rw [j_X7_layPrinted_58] at hf
        refine lv_iload_n hx hb dX7_layPrinted_58 rfl (lv_at hl 1 rfl) ?_
        refine lv_iconst (v := (1)) hx hb dX7_layPrinted_59 (by decide) ?_
        refine lv_icmp_ne (tgt := 75) hx hb dX7_layPrinted_60 (by decide) (fun c6 => ?_) (fun c6 => ?_)
        · have hf := pn_ifp c6 hf
          refine lv_iconst (v := (0)) hx hb dX7_layPrinted_75 (by decide) ?_
          refine lv_istore_n (lv' := [(3, .int (0 : Int32)), (0, .ref a_t), (1, .int p1), (2, .int x2)]) hx hb dX7_layPrinted_76 rfl hl (by decide) rfl (fun ls hl => ?_)
          obtain ⟨X77, hX77, hf⟩ := pn_bd1_at hf
          refine lp77 N x2 (0 : Int32) v_t_cases v_t_printedSize v_t_lastReason r_t_brief r_t_caseFirst r_t_finds r_t_label r_t_printed r_t_reason X77 H locs ls hX77 hP hS (lv_sub hl [1, 2, 3, 0] rfl) ?_
          · intro r_t_brief_w7 H locs ls eX hP hS hl
            rw [eX] at hf
            have hf := pn_u1_at hf
            refine lv_aload_n hx hb dX7_layPrinted_104 rfl (lv_at hl 0 rfl) ?_
            obtain ⟨v_t_printedSize_u8, r_t_printed_u8, hu8, hf⟩ := pn_bd2_at hf
            refine pn_callv [0, 1, 6] (va_runV (As := []) (rest := []) ⟨hx, hb, hml, hown, hts⟩ (c_X7_outBrief l D cI cJ cZ a_t a_t_text a_t_readPage a_t_page a_t_trial a_t_work a_t_book a_t_kept a_t_isKept a_t_seenWhat a_t_seenV a_t_seenIs a_t_label a_t_finds a_t_reason a_t_caseFirst a_t_brief a_t_printed a_t_renamed a_t_worth H.size v_t_thrown v_t_textSize v_t_place v_t_doings v_t_seen v_t_seed v_t_cases v_t_lastReason v_t_printedSize r_t_brief_w7 r_t_printed v_t_printedSize_u8 r_t_printed_u8 hu8) (cwV 0 hts gX7_layPrinted_X7_outBrief rfl rfl rfl hdX7_outBrief ⟨Nat.le_of_ble_eq_true rfl, Nat.le_of_ble_eq_true rfl⟩) (pn_preV [0, 1, 6] hP (hD.addr rfl) hK rfl rfl (q0 := 0) (ci := 6) rfl rfl) rfl rfl hl.1 rfl (lv_room (Nat.le_of_ble_eq_true rfl)) dX7_layPrinted_105 ⟨Nat.zero_le _, Nat.zero_le _⟩) hP (hD.addr rfl) hS hA rfl rfl rfl (fun H locs (hP : va_P D vwCl [(a_t, .inr (6, [.int v_t_thrown, .ref a_t_text, .int v_t_textSize, .int v_t_place, .ref a_t_readPage, .ref a_t_page, .ref a_t_trial, .ref a_t_work, .ref a_t_book, .int v_t_doings, .ref a_t_kept, .ref a_t_isKept, .int v_t_seen, .ref a_t_seenWhat, .ref a_t_seenV, .ref a_t_seenIs, .long v_t_seed, .ref a_t_label, .ref a_t_finds, .ref a_t_reason, .ref a_t_caseFirst, .int v_t_cases, .ref a_t_brief, .ref a_t_printed, .int v_t_printedSize_u8, .ref a_t_renamed, .ref a_t_worth, .int v_t_lastReason])), (a_t_brief, .inl (cI, 8, .inl r_t_brief_w7)), (a_t_caseFirst, .inl (cI, 32, .inl r_t_caseFirst)), (a_t_finds, .inl (cI, 32, .inl r_t_finds)), (a_t_label, .inl (cI, 32, .inl r_t_label)), (a_t_page, .inl (cI, 265, .inl r_t_page)), (a_t_printed, .inl (cI, 480, .inl r_t_printed_u8)), (a_t_reason, .inl (cI, 32, .inl r_t_reason))] H) _ hS => ?_)
            obtain ⟨z9, ez9⟩ : ∃ y : Int32, y = x2 + (1) := ⟨_, rfl⟩
            have hf := pn_nm_at ez9 hf
            refine lv_iinc (v := z9) (lv' := [(2, .int z9), (0, .ref a_t), (1, .int p1)]) hx hb dX7_layPrinted_108 hl (k := 2) rfl (by rw [ez9]; rfl) (by decide) rfl (fun ls hl => ?_)
            refine lv_goto (tgt := 15) hx hb dX7_layPrinted_111 (by decide) ?_
            exact ih z9 v_t_cases v_t_printedSize_u8 v_t_lastReason r_t_brief_w7 r_t_caseFirst r_t_finds r_t_label r_t_printed_u8 r_t_reason X H locs ls hf hP hS (lv_sub hl [1, 2, 0] rfl) kx114
        · have hf := pn_ifq c6 hf
          refine lv_aload_n hx hb dX7_layPrinted_63 rfl (lv_at hl 0 rfl) ?_
          refine lv_aload_n hx hb dX7_layPrinted_64 rfl (lv_at hl 0 rfl) ?_
          refine va_get (D := D) (ci := 6) (v := .ref a_t_page) (C := RX7) (T := TX7) (N := 28) hx hb hts hinX7 hown hK.1 hP 0 rfl rfl 5 (by decide) fl_16 (fun _ h9 => h9) rfl dX7_layPrinted_65 ?_
          refine lv_iload_n hx hb dX7_layPrinted_68 rfl (lv_at hl 2 rfl) ?_
          obtain ⟨v_t_lastReason_u10, r_t_brief_u10, hu10, hf⟩ := pn_bd2_at hf
          refine pn_callv [0, 1, 2, 3, 5] (va_runV (As := [.ref a_t_page, .int x2]) (rest := []) ⟨hx, hb, hml, hown, hts⟩ (c_X7_shorten l D cI cJ cZ a_t a_t_text a_t_readPage a_t_page a_t_trial a_t_work a_t_book a_t_kept a_t_isKept a_t_seenWhat a_t_seenV a_t_seenIs a_t_label a_t_finds a_t_reason a_t_caseFirst a_t_brief a_t_printed a_t_renamed a_t_worth a_t_page H.size v_t_thrown v_t_textSize v_t_place v_t_doings v_t_seen v_t_seed v_t_printedSize N v_t_cases v_t_lastReason r_t_brief r_t_caseFirst r_t_finds r_t_page x2 v_t_lastReason_u10 r_t_brief_u10 hu10) (cwV 2 hts gX7_layPrinted_X7_shorten rfl rfl rfl hdX7_shorten ⟨Nat.le_of_ble_eq_true rfl, Nat.le_of_ble_eq_true rfl⟩) (pn_preV [0, 1, 2, 3, 5] hP (hD.addr rfl) hK rfl rfl (q0 := 0) (ci := 6) rfl rfl) rfl rfl hl.1 rfl (lv_room (Nat.le_of_ble_eq_true rfl)) dX7_layPrinted_69 ⟨Nat.zero_le _, Nat.zero_le _⟩) hP (hD.addr rfl) hS hA rfl rfl rfl (fun H locs (hP : va_P D vwCl [(a_t, .inr (6, [.int v_t_thrown, .ref a_t_text, .int v_t_textSize, .int v_t_place, .ref a_t_readPage, .ref a_t_page, .ref a_t_trial, .ref a_t_work, .ref a_t_book, .int v_t_doings, .ref a_t_kept, .ref a_t_isKept, .int v_t_seen, .ref a_t_seenWhat, .ref a_t_seenV, .ref a_t_seenIs, .long v_t_seed, .ref a_t_label, .ref a_t_finds, .ref a_t_reason, .ref a_t_caseFirst, .int v_t_cases, .ref a_t_brief, .ref a_t_printed, .int v_t_printedSize, .ref a_t_renamed, .ref a_t_worth, .int v_t_lastReason_u10])), (a_t_brief, .inl (cI, 8, .inl r_t_brief_u10)), (a_t_caseFirst, .inl (cI, 32, .inl r_t_caseFirst)), (a_t_finds, .inl (cI, 32, .inl r_t_finds)), (a_t_label, .inl (cI, 32, .inl r_t_label)), (a_t_page, .inl (cI, 265, .inl r_t_page)), (a_t_printed, .inl (cI, 480, .inl r_t_printed)), (a_t_reason, .inl (cI, 32, .inl r_t_reason))] H) _ hS => ?_)
          refine lv_goto (tgt := 104) hx hb dX7_layPrinted_72 (by decide) ?_
          refine lv_aload_n hx hb dX7_layPrinted_104 rfl (lv_at hl 0 rfl) ?_
          obtain ⟨v_t_printedSize_u11, r_t_printed_u11, hu11, hf⟩ := pn_bd2_at hf
          refine pn_callv [0, 1, 6] (va_runV (As := []) (rest := []) ⟨hx, hb, hml, hown, hts⟩ (c_X7_outBrief l D cI cJ cZ a_t a_t_text a_t_readPage a_t_page a_t_trial a_t_work a_t_book a_t_kept a_t_isKept a_t_seenWhat a_t_seenV a_t_seenIs a_t_label a_t_finds a_t_reason a_t_caseFirst a_t_brief a_t_printed a_t_renamed a_t_worth H.size v_t_thrown v_t_textSize v_t_place v_t_doings v_t_seen v_t_seed v_t_cases v_t_lastReason_u10 v_t_printedSize r_t_brief_u10 r_t_printed v_t_printedSize_u11 r_t_printed_u11 hu11) (cwV 0 hts gX7_layPrinted_X7_outBrief rfl rfl rfl hdX7_outBrief ⟨Nat.le_of_ble_eq_true rfl, Nat.le_of_ble_eq_true rfl⟩) (pn_preV [0, 1, 6] hP (hD.addr rfl) hK rfl rfl (q0 := 0) (ci := 6) rfl rfl) rfl rfl hl.1 rfl (lv_room (Nat.le_of_ble_eq_true rfl)) dX7_layPrinted_105 ⟨Nat.zero_le _, Nat.zero_le _⟩) hP (hD.addr rfl) hS hA rfl rfl rfl (fun H locs (hP : va_P D vwCl [(a_t, .inr (6, [.int v_t_thrown, .ref a_t_text, .int v_t_textSize, .int v_t_place, .ref a_t_readPage, .ref a_t_page, .ref a_t_trial, .ref a_t_work, .ref a_t_book, .int v_t_doings, .ref a_t_kept, .ref a_t_isKept, .int v_t_seen, .ref a_t_seenWhat, .ref a_t_seenV, .ref a_t_seenIs, .long v_t_seed, .ref a_t_label, .ref a_t_finds, .ref a_t_reason, .ref a_t_caseFirst, .int v_t_cases, .ref a_t_brief, .ref a_t_printed, .int v_t_printedSize_u11, .ref a_t_renamed, .ref a_t_worth, .int v_t_lastReason_u10])), (a_t_brief, .inl (cI, 8, .inl r_t_brief_u10)), (a_t_caseFirst, .inl (cI, 32, .inl r_t_caseFirst)), (a_t_finds, .inl (cI, 32, .inl r_t_finds)), (a_t_label, .inl (cI, 32, .inl r_t_label)), (a_t_page, .inl (cI, 265, .inl r_t_page)), (a_t_printed, .inl (cI, 480, .inl r_t_printed_u11)), (a_t_reason, .inl (cI, 32, .inl r_t_reason))] H) _ hS => ?_)
          obtain ⟨z12, ez12⟩ : ∃ y : Int32, y = x2 + (1) := ⟨_, rfl⟩
          have hf := pn_nm_at ez12 hf
          refine lv_iinc (v := z12) (lv' := [(2, .int z12), (0, .ref a_t), (1, .int p1)]) hx hb dX7_layPrinted_108 hl (k := 2) rfl (by rw [ez12]; rfl) (by decide) rfl (fun ls hl => ?_)
          refine lv_goto (tgt := 15) hx hb dX7_layPrinted_111 (by decide) ?_
          exact ih z12 v_t_cases v_t_printedSize_u11 v_t_lastReason_u10 r_t_brief_u10 r_t_caseFirst r_t_finds r_t_label r_t_printed_u11 r_t_reason X H locs ls hf hP hS (lv_sub hl [1, 2, 0] rfl) kx114
      refine lv_iload_n hx hb dX7_layPrinted_15 rfl (lv_at hl 2 rfl) ?_
      refine lv_bipush (v := (32)) hx hb dX7_layPrinted_16 (by decide) ?_
      refine lv_icmp_ge (tgt := 114) hx hb dX7_layPrinted_18 (by decide) (fun c13 => ?_) (fun c13 => ?_)
      · have hf := pn_ifp c13 hf
        exact kx114 v_t_printedSize v_t_lastReason r_t_brief r_t_printed H locs ls (Option.some.inj hf).symm hP hS (lv_sub hl [] rfl)
      · have hf := pn_ifn c13 hf
        refine lv_aload_n hx hb dX7_layPrinted_21 rfl (lv_at hl 0 rfl) ?_
        refine va_get (D := D) (ci := 6) (v := .ref a_t_page) (C := RX7) (T := TX7) (N := 28) hx hb hts hinX7 hown hK.1 hP 0 rfl rfl 5 (by decide) fl_16 (fun _ h9 => h9) rfl dX7_layPrinted_22 ?_
        refine lv_iload_n hx hb dX7_layPrinted_25 rfl (lv_at hl 2 rfl) ?_
        refine lv_iconst (v := (4)) hx hb dX7_layPrinted_26 (by decide) ?_
        refine lv_idiv hx hb dX7_layPrinted_27 (by decide) ?_
        refine lv_iload_n hx hb dX7_layPrinted_28 rfl (lv_at hl 2 rfl) ?_
        refine lv_iconst (v := (4)) hx hb dX7_layPrinted_29 (by decide) ?_
        refine lv_irem hx hb dX7_layPrinted_30 (by decide) ?_
        obtain ⟨ru14, hu14, hf⟩ := pn_bd1_at hf
        refine pn_calli [5] (va_runS (As := [.ref a_t_page, .int (x2 / (4 : Int32)), .int (x2 - x2 / (4 : Int32) * (4 : Int32))]) (rest := []) ⟨hx, hb, hml, hown, hts⟩ (c_X7_isThere l D cI cJ cZ a_t_page H.size r_t_page (x2 / (4 : Int32)) (x2 - x2 / (4 : Int32) * (4 : Int32)) ru14 hu14) (va_cwS 3 hts gX7_layPrinted_X7_isThere rfl rfl rfl hdX7_isThere ⟨Nat.le_of_ble_eq_true rfl, Nat.le_of_ble_eq_true rfl⟩) (pn_preS [5] hP (hD.addr rfl) hK rfl rfl) rfl rfl hl.1 rfl (lv_room (Nat.le_of_ble_eq_true rfl)) dX7_layPrinted_31 ⟨Nat.zero_le _, Nat.zero_le _⟩) hP (hD.addr rfl) hS hA rfl rfl rfl (fun H locs (hP : va_P D vwCl [(a_t, .inr (6, [.int v_t_thrown, .ref a_t_text, .int v_t_textSize, .int v_t_place, .ref a_t_readPage, .ref a_t_page, .ref a_t_trial, .ref a_t_work, .ref a_t_book, .int v_t_doings, .ref a_t_kept, .ref a_t_isKept, .int v_t_seen, .ref a_t_seenWhat, .ref a_t_seenV, .ref a_t_seenIs, .long v_t_seed, .ref a_t_label, .ref a_t_finds, .ref a_t_reason, .ref a_t_caseFirst, .int v_t_cases, .ref a_t_brief, .ref a_t_printed, .int v_t_printedSize, .ref a_t_renamed, .ref a_t_worth, .int v_t_lastReason])), (a_t_brief, .inl (cI, 8, .inl r_t_brief)), (a_t_caseFirst, .inl (cI, 32, .inl r_t_caseFirst)), (a_t_finds, .inl (cI, 32, .inl r_t_finds)), (a_t_label, .inl (cI, 32, .inl r_t_label)), (a_t_page, .inl (cI, 265, .inl r_t_page)), (a_t_printed, .inl (cI, 480, .inl r_t_printed)), (a_t_reason, .inl (cI, 32, .inl r_t_reason))] H) _ hS => ?_)
        refine lv_if_eq (tgt := 108) hx hb dX7_layPrinted_34 (by decide) (fun c15 => ?_) (fun c15 => ?_)
        · have hf := pn_ifp c15 hf
          obtain ⟨z16, ez16⟩ : ∃ y : Int32, y = x2 + (1) := ⟨_, rfl⟩
          have hf := pn_nm_at ez16 hf
          refine lv_iinc (v := z16) (lv' := [(2, .int z16), (0, .ref a_t), (1, .int p1)]) hx hb dX7_layPrinted_108 hl (k := 2) rfl (by rw [ez16]; rfl) (by decide) rfl (fun ls hl => ?_)
          refine lv_goto (tgt := 15) hx hb dX7_layPrinted_111 (by decide) ?_
          exact ih z16 v_t_cases v_t_printedSize v_t_lastReason r_t_brief r_t_caseFirst r_t_finds r_t_label r_t_printed r_t_reason X H locs ls hf hP hS (lv_sub hl [1, 2, 0] rfl) kx114
        · have hf := pn_ifn c15 hf
          refine lv_iload_n hx hb dX7_layPrinted_37 rfl (lv_at hl 2 rfl) ?_
          refine lv_if_le (tgt := 58) hx hb dX7_layPrinted_38 (by decide) (fun c17 => ?_) (fun c17 => ?_)
          · have hf := pn_ifp c17 hf
            exact jn58 x2 v_t_printedSize v_t_lastReason r_t_brief r_t_printed H locs ls hf hP hS (lv_sub hl [0, 1, 2] rfl)
          · have hf := pn_ifn c17 hf
            refine lv_aload_n hx hb dX7_layPrinted_41 rfl (lv_at hl 0 rfl) ?_
            refine lv_iload_n hx hb dX7_layPrinted_42 rfl (lv_at hl 2 rfl) ?_
            refine lv_iconst (v := (4)) hx hb dX7_layPrinted_43 (by decide) ?_
            refine lv_irem hx hb dX7_layPrinted_44 (by decide) ?_
            refine lv_if_le (tgt := 53) hx hb dX7_layPrinted_45 (by decide) (fun c18 => ?_) (fun c18 => ?_)
            · have hf := pn_ifp c18 hf
              refine lv_bipush (v := (59)) hx hb dX7_layPrinted_53 (by decide) ?_
              obtain ⟨v_t_printedSize_u19, r_t_printed_u19, hu19, hf⟩ := pn_bd2_at hf
              refine pn_callv [0, 6] (va_runV (As := [.int (59 : Int32)]) (rest := []) ⟨hx, hb, hml, hown, hts⟩ (c_X7_out l D cI cJ cZ a_t a_t_text a_t_readPage a_t_page a_t_trial a_t_work a_t_book a_t_kept a_t_isKept a_t_seenWhat a_t_seenV a_t_seenIs a_t_label a_t_finds a_t_reason a_t_caseFirst a_t_brief a_t_printed a_t_renamed a_t_worth H.size v_t_thrown v_t_textSize v_t_place v_t_doings v_t_seen v_t_seed v_t_cases v_t_lastReason v_t_printedSize r_t_printed (59 : Int32) v_t_printedSize_u19 r_t_printed_u19 hu19) (cwV 1 hts gX7_layPrinted_X7_out rfl rfl rfl hdX7_out ⟨Nat.le_of_ble_eq_true rfl, Nat.le_of_ble_eq_true rfl⟩) (pn_preV [0, 6] hP (hD.addr rfl) hK rfl rfl (q0 := 0) (ci := 6) rfl rfl) rfl rfl hl.1 rfl (lv_room (Nat.le_of_ble_eq_true rfl)) dX7_layPrinted_55 ⟨Nat.zero_le _, Nat.zero_le _⟩) hP (hD.addr rfl) hS hA rfl rfl rfl (fun H locs (hP : va_P D vwCl [(a_t, .inr (6, [.int v_t_thrown, .ref a_t_text, .int v_t_textSize, .int v_t_place, .ref a_t_readPage, .ref a_t_page, .ref a_t_trial, .ref a_t_work, .ref a_t_book, .int v_t_doings, .ref a_t_kept, .ref a_t_isKept, .int v_t_seen, .ref a_t_seenWhat, .ref a_t_seenV, .ref a_t_seenIs, .long v_t_seed, .ref a_t_label, .ref a_t_finds, .ref a_t_reason, .ref a_t_caseFirst, .int v_t_cases, .ref a_t_brief, .ref a_t_printed, .int v_t_printedSize_u19, .ref a_t_renamed, .ref a_t_worth, .int v_t_lastReason])), (a_t_brief, .inl (cI, 8, .inl r_t_brief)), (a_t_caseFirst, .inl (cI, 32, .inl r_t_caseFirst)), (a_t_finds, .inl (cI, 32, .inl r_t_finds)), (a_t_label, .inl (cI, 32, .inl r_t_label)), (a_t_page, .inl (cI, 265, .inl r_t_page)), (a_t_printed, .inl (cI, 480, .inl r_t_printed_u19)), (a_t_reason, .inl (cI, 32, .inl r_t_reason))] H) _ hS => ?_)
              exact jn58 x2 v_t_printedSize_u19 v_t_lastReason r_t_brief r_t_printed_u19 H locs ls hf hP hS (lv_sub hl [0, 1, 2] rfl)
            · have hf := pn_ifn c18 hf
              refine lv_bipush (v := (44)) hx hb dX7_layPrinted_48 (by decide) ?_
              refine lv_goto (tgt := 55) hx hb dX7_layPrinted_50 (by decide) ?_
              obtain ⟨v_t_printedSize_u20, r_t_printed_u20, hu20, hf⟩ := pn_bd2_at hf
              refine pn_callv [0, 6] (va_runV (As := [.int (44 : Int32)]) (rest := []) ⟨hx, hb, hml, hown, hts⟩ (c_X7_out l D cI cJ cZ a_t a_t_text a_t_readPage a_t_page a_t_trial a_t_work a_t_book a_t_kept a_t_isKept a_t_seenWhat a_t_seenV a_t_seenIs a_t_label a_t_finds a_t_reason a_t_caseFirst a_t_brief a_t_printed a_t_renamed a_t_worth H.size v_t_thrown v_t_textSize v_t_place v_t_doings v_t_seen v_t_seed v_t_cases v_t_lastReason v_t_printedSize r_t_printed (44 : Int32) v_t_printedSize_u20 r_t_printed_u20 hu20) (cwV 1 hts gX7_layPrinted_X7_out rfl rfl rfl hdX7_out ⟨Nat.le_of_ble_eq_true rfl, Nat.le_of_ble_eq_true rfl⟩) (pn_preV [0, 6] hP (hD.addr rfl) hK rfl rfl (q0 := 0) (ci := 6) rfl rfl) rfl rfl hl.1 rfl (lv_room (Nat.le_of_ble_eq_true rfl)) dX7_layPrinted_55 ⟨Nat.zero_le _, Nat.zero_le _⟩) hP (hD.addr rfl) hS hA rfl rfl rfl (fun H locs (hP : va_P D vwCl [(a_t, .inr (6, [.int v_t_thrown, .ref a_t_text, .int v_t_textSize, .int v_t_place, .ref a_t_readPage, .ref a_t_page, .ref a_t_trial, .ref a_t_work, .ref a_t_book, .int v_t_doings, .ref a_t_kept, .ref a_t_isKept, .int v_t_seen, .ref a_t_seenWhat, .ref a_t_seenV, .ref a_t_seenIs, .long v_t_seed, .ref a_t_label, .ref a_t_finds, .ref a_t_reason, .ref a_t_caseFirst, .int v_t_cases, .ref a_t_brief, .ref a_t_printed, .int v_t_printedSize_u20, .ref a_t_renamed, .ref a_t_worth, .int v_t_lastReason])), (a_t_brief, .inl (cI, 8, .inl r_t_brief)), (a_t_caseFirst, .inl (cI, 32, .inl r_t_caseFirst)), (a_t_finds, .inl (cI, 32, .inl r_t_finds)), (a_t_label, .inl (cI, 32, .inl r_t_label)), (a_t_page, .inl (cI, 265, .inl r_t_page)), (a_t_printed, .inl (cI, 480, .inl r_t_printed_u20)), (a_t_reason, .inl (cI, 32, .inl r_t_reason))] H) _ hS => ?_)
              exact jn58 x2 v_t_printedSize_u20 v_t_lastReason r_t_brief r_t_printed_u20 H locs ls hf hP hS (lv_sub hl [0, 1, 2] rfl)
  refine lv_aload_n hx hb dX7_layPrinted_0 rfl (lv_at hl 0 rfl) ?_
  refine lv_aload_n hx hb dX7_layPrinted_1 rfl (lv_at hl 0 rfl) ?_
  refine va_get (D := D) (ci := 6) (v := .ref a_t_page) (C := RX7) (T := TX7) (N := 28) hx hb hts hinX7 hown hK.1 hP 0 rfl rfl 5 (by decide) fl_16 (fun _ h9 => h9) rfl dX7_layPrinted_2 ?_
  obtain ⟨v_t_cases_u21, v_t_lastReason_u21, r_t_caseFirst_u21, r_t_finds_u21, r_t_label_u21, r_t_reason_u21, hu21, hf⟩ := pn_bd6_at hf
  refine pn_callv [0, 2, 3, 4, 7, 5] (va_runV (As := [.ref a_t_page]) (rest := []) ⟨hx, hb, hml, hown, hts⟩ (c_X7_findAll l D cI cJ cZ a_t a_t_text a_t_readPage a_t_page a_t_trial a_t_work a_t_book a_t_kept a_t_isKept a_t_seenWhat a_t_seenV a_t_seenIs a_t_label a_t_finds a_t_reason a_t_caseFirst a_t_brief a_t_printed a_t_renamed a_t_worth a_t_page H.size v_t_thrown v_t_textSize v_t_place v_t_doings v_t_seen v_t_seed v_t_printedSize N v_t_cases v_t_lastReason r_t_caseFirst r_t_finds r_t_label r_t_reason r_t_page v_t_cases_u21 v_t_lastReason_u21 r_t_caseFirst_u21 r_t_finds_u21 r_t_label_u21 r_t_reason_u21 hu21) (cwV 1 hts gX7_layPrinted_X7_findAll rfl rfl rfl hdX7_findAll ⟨Nat.le_of_ble_eq_true rfl, Nat.le_of_ble_eq_true rfl⟩) (pn_preV [0, 2, 3, 4, 7, 5] hP (hD.addr rfl) hK rfl rfl (q0 := 0) (ci := 6) rfl rfl) rfl rfl hl.1 rfl (lv_room (Nat.le_of_ble_eq_true rfl)) dX7_layPrinted_5 ⟨Nat.zero_le _, Nat.zero_le _⟩) hP (hD.addr rfl) hS hA rfl rfl rfl (fun H locs (hP : va_P D vwCl [(a_t, .inr (6, [.int v_t_thrown, .ref a_t_text, .int v_t_textSize, .int v_t_place, .ref a_t_readPage, .ref a_t_page, .ref a_t_trial, .ref a_t_work, .ref a_t_book, .int v_t_doings, .ref a_t_kept, .ref a_t_isKept, .int v_t_seen, .ref a_t_seenWhat, .ref a_t_seenV, .ref a_t_seenIs, .long v_t_seed, .ref a_t_label, .ref a_t_finds, .ref a_t_reason, .ref a_t_caseFirst, .int v_t_cases_u21, .ref a_t_brief, .ref a_t_printed, .int v_t_printedSize, .ref a_t_renamed, .ref a_t_worth, .int v_t_lastReason_u21])), (a_t_brief, .inl (cI, 8, .inl r_t_brief)), (a_t_caseFirst, .inl (cI, 32, .inl r_t_caseFirst_u21)), (a_t_finds, .inl (cI, 32, .inl r_t_finds_u21)), (a_t_label, .inl (cI, 32, .inl r_t_label_u21)), (a_t_page, .inl (cI, 265, .inl r_t_page)), (a_t_printed, .inl (cI, 480, .inl r_t_printed)), (a_t_reason, .inl (cI, 32, .inl r_t_reason_u21))] H) _ hS => ?_)
  refine lv_aload_n hx hb dX7_layPrinted_8 rfl (lv_at hl 0 rfl) ?_
  refine lv_iconst (v := (0)) hx hb dX7_layPrinted_9 (by decide) ?_
  refine va_put (D := D) (ci := 6) (v := .int (0 : Int32)) (ty := .int) (C := RX7) (T := TX7) (N := 28) hx hb hts hinX7 tyX7 tyX7_ok nmX7 hown hK.1 hP (hD.addr rfl) hS 0 rfl rfl 24 (by decide) fl_248 (fun _ h9 => h9) rfl (by decide +kernel) rfl rfl (Nat.le_of_ble_eq_true rfl) dX7_layPrinted_10 (fun H locs (hP : va_P D vwCl [(a_t, .inr (6, [.int v_t_thrown, .ref a_t_text, .int v_t_textSize, .int v_t_place, .ref a_t_readPage, .ref a_t_page, .ref a_t_trial, .ref a_t_work, .ref a_t_book, .int v_t_doings, .ref a_t_kept, .ref a_t_isKept, .int v_t_seen, .ref a_t_seenWhat, .ref a_t_seenV, .ref a_t_seenIs, .long v_t_seed, .ref a_t_label, .ref a_t_finds, .ref a_t_reason, .ref a_t_caseFirst, .int v_t_cases_u21, .ref a_t_brief, .ref a_t_printed, .int ((0 : Int32)), .ref a_t_renamed, .ref a_t_worth, .int v_t_lastReason_u21])), (a_t_brief, .inl (cI, 8, .inl r_t_brief)), (a_t_caseFirst, .inl (cI, 32, .inl r_t_caseFirst_u21)), (a_t_finds, .inl (cI, 32, .inl r_t_finds_u21)), (a_t_label, .inl (cI, 32, .inl r_t_label_u21)), (a_t_page, .inl (cI, 265, .inl r_t_page)), (a_t_printed, .inl (cI, 480, .inl r_t_printed)), (a_t_reason, .inl (cI, 32, .inl r_t_reason_u21))] H) _ hS => ?_)
  refine lv_iconst (v := (0)) hx hb dX7_layPrinted_13 (by decide) ?_
  refine lv_istore_n (lv' := [(2, .int (0 : Int32)), (0, .ref a_t), (1, .int p1)]) hx hb dX7_layPrinted_14 rfl hl (by decide) rfl (fun ls hl => ?_)
  obtain ⟨X15, hX15, hf⟩ := pn_bd1_at hf
  refine lp15 N (0 : Int32) v_t_cases_u21 (0 : Int32) v_t_lastReason_u21 r_t_brief r_t_caseFirst_u21 r_t_finds_u21 r_t_label_u21 r_t_printed r_t_reason_u21 X15 H locs ls hX15 hP hS (lv_sub hl [1, 2, 0] rfl) ?_
  · intro v_t_printedSize_w22 v_t_lastReason_w22 r_t_brief_w22 r_t_printed_w22 H locs ls eX hP hS hl
    rw [eX] at hf
    have hf := pn_u4_at hf
    cases hf
    rw [hQ]
    exact pn_retv hx hb hr hlocks hP hS dX7_layPrinted_114
def f_X7_print (N : Nat) (v_t_thrown : Int32) (v_t_cases : Int32) (v_t_printedSize : Int32) (v_t_lastReason : Int32) (r_t_brief : Nat → Int32) (r_t_caseFirst : Nat → Int32) (r_t_finds : Nat → Int32) (r_t_label : Nat → Int32) (r_t_page : Nat → Int32) (r_t_printed : Nat → Int32) (r_t_reason : Nat → Int32) (p1 : Int32) (p2 : Int32) : Option (Int32 × Int32 × Int32 × Int32 × Int32 × (Nat → Int32) × (Nat → Int32) × (Nat → Int32) × (Nat → Int32) × (Nat → Int32) × (Nat → Int32)) :=
  pn_bd1 (f_X7_in p1.toInt64 (0 : Int64) (1 : Int64)) fun ru1 =>
  if ru1 = 0 then
  some ((-2 : Int32), (0 : Int32), v_t_cases, v_t_printedSize, v_t_lastReason, r_t_brief, r_t_caseFirst, r_t_finds, r_t_label, r_t_printed, r_t_reason)
  else
  if (-1 : Int32) ≤ p2 then
  pn_bd9 (f_X7_layPrinted N v_t_cases v_t_printedSize v_t_lastReason r_t_brief r_t_caseFirst r_t_finds r_t_label r_t_page r_t_printed r_t_reason p1) fun v_t_cases_u4 v_t_printedSize_u4 v_t_lastReason_u4 r_t_brief_u4 r_t_caseFirst_u4 r_t_finds_u4 r_t_label_u4 r_t_printed_u4 r_t_reason_u4 =>
  if ¬ p2 = (-1 : Int32) then
  if v_t_printedSize_u4 ≤ p2 then
  some ((-9 : Int32), (0 : Int32), v_t_cases_u4, v_t_printedSize_u4, v_t_lastReason_u4, r_t_brief_u4, r_t_caseFirst_u4, r_t_finds_u4, r_t_label_u4, r_t_printed_u4, r_t_reason_u4)
  else
  pn_rd 480 r_t_printed_u4 p2 fun w7 =>
  some (w7, (0 : Int32), v_t_cases_u4, v_t_printedSize_u4, v_t_lastReason_u4, r_t_brief_u4, r_t_caseFirst_u4, r_t_finds_u4, r_t_label_u4, r_t_printed_u4, r_t_reason_u4)
  else
  some (v_t_printedSize_u4, (0 : Int32), v_t_cases_u4, v_t_printedSize_u4, v_t_lastReason_u4, r_t_brief_u4, r_t_caseFirst_u4, r_t_finds_u4, r_t_label_u4, r_t_printed_u4, r_t_reason_u4)
  else
  some ((-2 : Int32), (0 : Int32), v_t_cases, v_t_printedSize, v_t_lastReason, r_t_brief, r_t_caseFirst, r_t_finds, r_t_label, r_t_printed, r_t_reason)
set_option maxHeartbeats 4000000 in
set_option maxRecDepth 100000 in
theorem c_X7_print (l : Launch) (D : va_G) (cI cJ cZ : ClassId) (a_t a_t_text a_t_readPage a_t_page a_t_trial a_t_work a_t_book a_t_kept a_t_isKept a_t_seenWhat a_t_seenV a_t_seenIs a_t_label a_t_finds a_t_reason a_t_caseFirst a_t_brief a_t_printed a_t_renamed a_t_worth : Nat) (sz : Nat) (v_t_textSize : Int32) (v_t_place : Int32) (v_t_doings : Int32) (v_t_seen : Int32) (v_t_seed : Int64) (N : Nat) (v_t_thrown : Int32) (v_t_cases : Int32) (v_t_printedSize : Int32) (v_t_lastReason : Int32) (r_t_brief : Nat → Int32) (r_t_caseFirst : Nat → Int32) (r_t_finds : Nat → Int32) (r_t_label : Nat → Int32) (r_t_page : Nat → Int32) (r_t_printed : Nat → Int32) (r_t_reason : Nat → Int32) (p1 : Int32) (p2 : Int32) (rR : Int32) (o_t_thrown : Int32) (o_t_cases : Int32) (o_t_printedSize : Int32) (o_t_lastReason : Int32) (o_t_brief : Nat → Int32) (o_t_caseFirst : Nat → Int32) (o_t_finds : Nat → Int32) (o_t_label : Nat → Int32) (o_t_printed : Nat → Int32) (o_t_reason : Nat → Int32) (hf : f_X7_print N v_t_thrown v_t_cases v_t_printedSize v_t_lastReason r_t_brief r_t_caseFirst r_t_finds r_t_label r_t_page r_t_printed r_t_reason p1 p2 = some (rR, o_t_thrown, o_t_cases, o_t_printedSize, o_t_lastReason, o_t_brief, o_t_caseFirst, o_t_finds, o_t_label, o_t_printed, o_t_reason)) : Met l yX7_print wsX7_print { frames := 8, cells := 0, slots := 0, locals := 191 } (pn_Pc D cI cJ cZ [.ref a_t, .int p1, .int p2] [(a_t, .inr (6, [.int v_t_thrown, .ref a_t_text, .int v_t_textSize, .int v_t_place, .ref a_t_readPage, .ref a_t_page, .ref a_t_trial, .ref a_t_work, .ref a_t_book, .int v_t_doings, .ref a_t_kept, .ref a_t_isKept, .int v_t_seen, .ref a_t_seenWhat, .ref a_t_seenV, .ref a_t_seenIs, .long v_t_seed, .ref a_t_label, .ref a_t_finds, .ref a_t_reason, .ref a_t_caseFirst, .int v_t_cases, .ref a_t_brief, .ref a_t_printed, .int v_t_printedSize, .ref a_t_renamed, .ref a_t_worth, .int v_t_lastReason])), (a_t_brief, .inl (cI, 8, .inl r_t_brief)), (a_t_caseFirst, .inl (cI, 32, .inl r_t_caseFirst)), (a_t_finds, .inl (cI, 32, .inl r_t_finds)), (a_t_label, .inl (cI, 32, .inl r_t_label)), (a_t_page, .inl (cI, 265, .inl r_t_page)), (a_t_printed, .inl (cI, 480, .inl r_t_printed)), (a_t_reason, .inl (cI, 32, .inl r_t_reason))] sz) (pn_Qi D rR [(a_t, .inr (6, [.int o_t_thrown, .ref a_t_text, .int v_t_textSize, .int v_t_place, .ref a_t_readPage, .ref a_t_page, .ref a_t_trial, .ref a_t_work, .ref a_t_book, .int v_t_doings, .ref a_t_kept, .ref a_t_isKept, .int v_t_seen, .ref a_t_seenWhat, .ref a_t_seenV, .ref a_t_seenIs, .long v_t_seed, .ref a_t_label, .ref a_t_finds, .ref a_t_reason, .ref a_t_caseFirst, .int o_t_cases, .ref a_t_brief, .ref a_t_printed, .int o_t_printedSize, .ref a_t_renamed, .ref a_t_worth, .int o_t_lastReason])), (a_t_brief, .inl (cI, 8, .inl o_t_brief)), (a_t_caseFirst, .inl (cI, 32, .inl o_t_caseFirst)), (a_t_finds, .inl (cI, 32, .inl o_t_finds)), (a_t_label, .inl (cI, 32, .inl o_t_label)), (a_t_page, .inl (cI, 265, .inl r_t_page)), (a_t_printed, .inl (cI, 480, .inl o_t_printed)), (a_t_reason, .inl (cI, 32, .inl o_t_reason))] (va_A [(a_t, .inr (6, [.int v_t_thrown, .ref a_t_text, .int v_t_textSize, .int v_t_place, .ref a_t_readPage, .ref a_t_page, .ref a_t_trial, .ref a_t_work, .ref a_t_book, .int v_t_doings, .ref a_t_kept, .ref a_t_isKept, .int v_t_seen, .ref a_t_seenWhat, .ref a_t_seenV, .ref a_t_seenIs, .long v_t_seed, .ref a_t_label, .ref a_t_finds, .ref a_t_reason, .ref a_t_caseFirst, .int v_t_cases, .ref a_t_brief, .ref a_t_printed, .int v_t_printedSize, .ref a_t_renamed, .ref a_t_worth, .int v_t_lastReason])), (a_t_brief, .inl (cI, 8, .inl r_t_brief)), (a_t_caseFirst, .inl (cI, 32, .inl r_t_caseFirst)), (a_t_finds, .inl (cI, 32, .inl r_t_finds)), (a_t_label, .inl (cI, 32, .inl r_t_label)), (a_t_page, .inl (cI, 265, .inl r_t_page)), (a_t_printed, .inl (cI, 480, .inl r_t_printed)), (a_t_reason, .inl (cI, 32, .inl r_t_reason))] sz)) 0 0 (va_A [(a_t, .inr (6, [.int v_t_thrown, .ref a_t_text, .int v_t_textSize, .int v_t_place, .ref a_t_readPage, .ref a_t_page, .ref a_t_trial, .ref a_t_work, .ref a_t_book, .int v_t_doings, .ref a_t_kept, .ref a_t_isKept, .int v_t_seen, .ref a_t_seenWhat, .ref a_t_seenV, .ref a_t_seenIs, .long v_t_seed, .ref a_t_label, .ref a_t_finds, .ref a_t_reason, .ref a_t_caseFirst, .int v_t_cases, .ref a_t_brief, .ref a_t_printed, .int v_t_printedSize, .ref a_t_renamed, .ref a_t_worth, .int v_t_lastReason])), (a_t_brief, .inl (cI, 8, .inl r_t_brief)), (a_t_caseFirst, .inl (cI, 32, .inl r_t_caseFirst)), (a_t_finds, .inl (cI, 32, .inl r_t_finds)), (a_t_label, .inl (cI, 32, .inl r_t_label)), (a_t_page, .inl (cI, 265, .inl r_t_page)), (a_t_printed, .inl (cI, 480, .inl r_t_printed)), (a_t_reason, .inl (cI, 32, .inl r_t_reason))] sz) := by
  refine pn_entry (cc := cX7_print) (maxL := 3) (ret := (some .int)) (Qf := pn_Qi D rR [(a_t, .inr (6, [.int o_t_thrown, .ref a_t_text, .int v_t_textSize, .int v_t_place, .ref a_t_readPage, .ref a_t_page, .ref a_t_trial, .ref a_t_work, .ref a_t_book, .int v_t_doings, .ref a_t_kept, .ref a_t_isKept, .int v_t_seen, .ref a_t_seenWhat, .ref a_t_seenV, .ref a_t_seenIs, .long v_t_seed, .ref a_t_label, .ref a_t_finds, .ref a_t_reason, .ref a_t_caseFirst, .int o_t_cases, .ref a_t_brief, .ref a_t_printed, .int o_t_printedSize, .ref a_t_renamed, .ref a_t_worth, .int o_t_lastReason])), (a_t_brief, .inl (cI, 8, .inl o_t_brief)), (a_t_caseFirst, .inl (cI, 32, .inl o_t_caseFirst)), (a_t_finds, .inl (cI, 32, .inl o_t_finds)), (a_t_label, .inl (cI, 32, .inl o_t_label)), (a_t_page, .inl (cI, 265, .inl r_t_page)), (a_t_printed, .inl (cI, 480, .inl o_t_printed)), (a_t_reason, .inl (cI, 32, .inl o_t_reason))]) (by decide) rfl (Nat.le_of_ble_eq_true rfl) ?_
  intro p e s m args below meth c A ls H locs Qm hQ hx hb hr hlocks hml hown hts hK hP hD hA hS hl
  have hl : lv_has ls 3 [(0, .ref a_t), (1, .int p1), (2, .int p2)] := hl
  have hinX7 : ∀ w ∈ wsX70, w ∈ wsX7_print := by decide +kernel
  have fl_59 := hts (.fieldLink RX7 59 "PointingNotesModel" "printed" "[I") (by decide +kernel)
  have fl_68 := hts (.fieldLink RX7 68 "PointingNotesModel" "thrown" "I") (by decide +kernel)
  have fl_248 := hts (.fieldLink RX7 248 "PointingNotesModel" "printedSize" "I") (by decide +kernel)
  rw [f_X7_print] at hf
  refine lv_aload_n hx hb dX7_print_0 rfl (lv_at hl 0 rfl) ?_
  refine lv_iconst (v := (0)) hx hb dX7_print_1 (by decide) ?_
  refine va_put (D := D) (ci := 6) (v := .int (0 : Int32)) (ty := .int) (C := RX7) (T := TX7) (N := 28) hx hb hts hinX7 tyX7 tyX7_ok nmX7 hown hK.1 hP (hD.addr rfl) hS 0 rfl rfl 0 (by decide) fl_68 (fun _ h9 => h9) rfl (by decide +kernel) rfl rfl (Nat.le_of_ble_eq_true rfl) dX7_print_2 (fun H locs (hP : va_P D vwCl [(a_t, .inr (6, [.int ((0 : Int32)), .ref a_t_text, .int v_t_textSize, .int v_t_place, .ref a_t_readPage, .ref a_t_page, .ref a_t_trial, .ref a_t_work, .ref a_t_book, .int v_t_doings, .ref a_t_kept, .ref a_t_isKept, .int v_t_seen, .ref a_t_seenWhat, .ref a_t_seenV, .ref a_t_seenIs, .long v_t_seed, .ref a_t_label, .ref a_t_finds, .ref a_t_reason, .ref a_t_caseFirst, .int v_t_cases, .ref a_t_brief, .ref a_t_printed, .int v_t_printedSize, .ref a_t_renamed, .ref a_t_worth, .int v_t_lastReason])), (a_t_brief, .inl (cI, 8, .inl r_t_brief)), (a_t_caseFirst, .inl (cI, 32, .inl r_t_caseFirst)), (a_t_finds, .inl (cI, 32, .inl r_t_finds)), (a_t_label, .inl (cI, 32, .inl r_t_label)), (a_t_page, .inl (cI, 265, .inl r_t_page)), (a_t_printed, .inl (cI, 480, .inl r_t_printed)), (a_t_reason, .inl (cI, 32, .inl r_t_reason))] H) _ hS => ?_)
  refine lv_iload_n hx hb dX7_print_5 rfl (lv_at hl 1 rfl) ?_
  refine lv_i2l hx hb dX7_print_6 rfl ?_
  refine lv_lconst (v := 0) hx hb dX7_print_7 (by decide) ?_
  refine lv_lconst (v := 1) hx hb dX7_print_8 (by decide) ?_
  obtain ⟨ru1, hu1, hf⟩ := pn_bd1_at hf
  refine pn_calli [] (va_runS (As := [.long p1.toInt64, .long (0 : Int64), .long (1 : Int64)]) (rest := []) ⟨hx, hb, hml, hown, hts⟩ (c_X7_in l D cI cJ cZ H.size p1.toInt64 (0 : Int64) (1 : Int64) ru1 hu1) (va_cwS 3 hts gX7_print_X7_in rfl rfl rfl hdX7_in ⟨Nat.le_of_ble_eq_true rfl, Nat.le_of_ble_eq_true rfl⟩) (pn_preS [] hP (hD.addr rfl) hK rfl rfl) rfl rfl hl.1 rfl (lv_room (Nat.le_of_ble_eq_true rfl)) dX7_print_9 ⟨Nat.zero_le _, Nat.zero_le _⟩) hP (hD.addr rfl) hS hA rfl rfl rfl (fun H locs (hP : va_P D vwCl [(a_t, .inr (6, [.int ((0 : Int32)), .ref a_t_text, .int v_t_textSize, .int v_t_place, .ref a_t_readPage, .ref a_t_page, .ref a_t_trial, .ref a_t_work, .ref a_t_book, .int v_t_doings, .ref a_t_kept, .ref a_t_isKept, .int v_t_seen, .ref a_t_seenWhat, .ref a_t_seenV, .ref a_t_seenIs, .long v_t_seed, .ref a_t_label, .ref a_t_finds, .ref a_t_reason, .ref a_t_caseFirst, .int v_t_cases, .ref a_t_brief, .ref a_t_printed, .int v_t_printedSize, .ref a_t_renamed, .ref a_t_worth, .int v_t_lastReason])), (a_t_brief, .inl (cI, 8, .inl r_t_brief)), (a_t_caseFirst, .inl (cI, 32, .inl r_t_caseFirst)), (a_t_finds, .inl (cI, 32, .inl r_t_finds)), (a_t_label, .inl (cI, 32, .inl r_t_label)), (a_t_page, .inl (cI, 265, .inl r_t_page)), (a_t_printed, .inl (cI, 480, .inl r_t_printed)), (a_t_reason, .inl (cI, 32, .inl r_t_reason))] H) _ hS => ?_)
  refine lv_if_eq (tgt := 20) hx hb dX7_print_12 (by decide) (fun c2 => ?_) (fun c2 => ?_)
  · have hf := pn_ifp c2 hf
    refine lv_bipush (v := (-2)) hx hb dX7_print_20 (by decide) ?_
    cases hf
    rw [hQ]
    exact pn_reti hx hb hr hlocks hP hS rfl dX7_print_22
  · have hf := pn_ifn c2 hf
    refine lv_iload_n hx hb dX7_print_15 rfl (lv_at hl 2 rfl) ?_
    refine lv_iconst (v := (-1)) hx hb dX7_print_16 (by decide) ?_
    refine lv_icmp_ge (tgt := 23) hx hb dX7_print_17 (by decide) (fun c3 => ?_) (fun c3 => ?_)
    · have hf := pn_ifp c3 hf
      refine lv_aload_n hx hb dX7_print_23 rfl (lv_at hl 0 rfl) ?_
      refine lv_iload_n hx hb dX7_print_24 rfl (lv_at hl 1 rfl) ?_
      obtain ⟨v_t_cases_u4, v_t_printedSize_u4, v_t_lastReason_u4, r_t_brief_u4, r_t_caseFirst_u4, r_t_finds_u4, r_t_label_u4, r_t_printed_u4, r_t_reason_u4, hu4, hf⟩ := pn_bd9_at hf
      refine pn_callv [0, 1, 2, 3, 4, 5, 6, 7] (va_runV (As := [.int p1]) (rest := []) ⟨hx, hb, hml, hown, hts⟩ (c_X7_layPrinted l D cI cJ cZ a_t a_t_text a_t_readPage a_t_page a_t_trial a_t_work a_t_book a_t_kept a_t_isKept a_t_seenWhat a_t_seenV a_t_seenIs a_t_label a_t_finds a_t_reason a_t_caseFirst a_t_brief a_t_printed a_t_renamed a_t_worth H.size (0 : Int32) v_t_textSize v_t_place v_t_doings v_t_seen v_t_seed N v_t_cases v_t_printedSize v_t_lastReason r_t_brief r_t_caseFirst r_t_finds r_t_label r_t_page r_t_printed r_t_reason p1 v_t_cases_u4 v_t_printedSize_u4 v_t_lastReason_u4 r_t_brief_u4 r_t_caseFirst_u4 r_t_finds_u4 r_t_label_u4 r_t_printed_u4 r_t_reason_u4 hu4) (cwV 1 hts gX7_print_X7_layPrinted rfl rfl rfl hdX7_layPrinted ⟨Nat.le_of_ble_eq_true rfl, Nat.le_of_ble_eq_true rfl⟩) (pn_preV [0, 1, 2, 3, 4, 5, 6, 7] hP (hD.addr rfl) hK rfl rfl (q0 := 0) (ci := 6) rfl rfl) rfl rfl hl.1 rfl (lv_room (Nat.le_of_ble_eq_true rfl)) dX7_print_25 ⟨Nat.zero_le _, Nat.zero_le _⟩) hP (hD.addr rfl) hS hA rfl rfl rfl (fun H locs (hP : va_P D vwCl [(a_t, .inr (6, [.int ((0 : Int32)), .ref a_t_text, .int v_t_textSize, .int v_t_place, .ref a_t_readPage, .ref a_t_page, .ref a_t_trial, .ref a_t_work, .ref a_t_book, .int v_t_doings, .ref a_t_kept, .ref a_t_isKept, .int v_t_seen, .ref a_t_seenWhat, .ref a_t_seenV, .ref a_t_seenIs, .long v_t_seed, .ref a_t_label, .ref a_t_finds, .ref a_t_reason, .ref a_t_caseFirst, .int v_t_cases_u4, .ref a_t_brief, .ref a_t_printed, .int v_t_printedSize_u4, .ref a_t_renamed, .ref a_t_worth, .int v_t_lastReason_u4])), (a_t_brief, .inl (cI, 8, .inl r_t_brief_u4)), (a_t_caseFirst, .inl (cI, 32, .inl r_t_caseFirst_u4)), (a_t_finds, .inl (cI, 32, .inl r_t_finds_u4)), (a_t_label, .inl (cI, 32, .inl r_t_label_u4)), (a_t_page, .inl (cI, 265, .inl r_t_page)), (a_t_printed, .inl (cI, 480, .inl r_t_printed_u4)), (a_t_reason, .inl (cI, 32, .inl r_t_reason_u4))] H) _ hS => ?_)
      refine lv_iload_n hx hb dX7_print_28 rfl (lv_at hl 2 rfl) ?_
      refine lv_iconst (v := (-1)) hx hb dX7_print_29 (by decide) ?_
      refine lv_icmp_ne (tgt := 40) hx hb dX7_print_30 (by decide) (fun c5 => ?_) (fun c5 => ?_)
      · have hf := pn_ifp c5 hf
        refine lv_iload_n hx hb dX7_print_40 rfl (lv_at hl 2 rfl) ?_
        refine lv_aload_n hx hb dX7_print_41 rfl (lv_at hl 0 rfl) ?_
        refine va_get (D := D) (ci := 6) (v := .int v_t_printedSize_u4) (C := RX7) (T := TX7) (N := 28) hx hb hts hinX7 hown hK.1 hP 0 rfl rfl 24 (by decide) fl_248 (fun _ h9 => h9) rfl dX7_print_42 ?_
        refine lv_icmp_ge (tgt := 57) hx hb dX7_print_45 (by decide) (fun c6 => ?_) (fun c6 => ?_)
        · have hf := pn_ifp c6 hf
          refine lv_bipush (v := (-9)) hx hb dX7_print_57 (by decide) ?_
          cases hf
          rw [hQ]
          exact pn_reti hx hb hr hlocks hP hS rfl dX7_print_59
        · have hf := pn_ifn c6 hf
          refine lv_aload_n hx hb dX7_print_48 rfl (lv_at hl 0 rfl) ?_
          refine va_get (D := D) (ci := 6) (v := .ref a_t_printed) (C := RX7) (T := TX7) (N := 28) hx hb hts hinX7 hown hK.1 hP 0 rfl rfl 23 (by decide) fl_59 (fun _ h9 => h9) rfl dX7_print_49 ?_
          refine lv_iload_n hx hb dX7_print_52 rfl (lv_at hl 2 rfl) ?_
          obtain ⟨hi8, w7, ew7, hf⟩ := pn_rd_at hf
          refine pn_ldI hx hb hK.1 hP 6 0 rfl rfl hi8 ew7 dX7_print_53 ?_
          refine lv_goto (tgt := 59) hx hb dX7_print_54 (by decide) ?_
          cases hf
          rw [hQ]
          exact pn_reti hx hb hr hlocks hP hS rfl dX7_print_59
      · have hf := pn_ifq c5 hf
        refine lv_aload_n hx hb dX7_print_33 rfl (lv_at hl 0 rfl) ?_
        refine va_get (D := D) (ci := 6) (v := .int v_t_printedSize_u4) (C := RX7) (T := TX7) (N := 28) hx hb hts hinX7 hown hK.1 hP 0 rfl rfl 24 (by decide) fl_248 (fun _ h9 => h9) rfl dX7_print_34 ?_
        refine lv_goto (tgt := 59) hx hb dX7_print_37 (by decide) ?_
        cases hf
        rw [hQ]
        exact pn_reti hx hb hr hlocks hP hS rfl dX7_print_59
    · have hf := pn_ifn c3 hf
      refine lv_bipush (v := (-2)) hx hb dX7_print_20 (by decide) ?_
      cases hf
      rw [hQ]
      exact pn_reti hx hb hr hlocks hP hS rfl dX7_print_22
