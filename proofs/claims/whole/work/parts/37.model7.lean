theorem hdX7_hasLike : yX7_hasLike.cls = RX7 ∧ yX7_hasLike.cls ≠ "java/lang/invoke/MethodHandle" ∧ yX7_hasLike.cls ≠ "java/lang/invoke/VarHandle" ∧ (parseMethodDescriptor yX7_hasLike.desc).map (fun d => d.parameters.length) = some 3 := by decide +kernel
theorem hdX7_isSo : yX7_isSo.cls = RX7 ∧ yX7_isSo.cls ≠ "java/lang/invoke/MethodHandle" ∧ yX7_isSo.cls ≠ "java/lang/invoke/VarHandle" ∧ (parseMethodDescriptor yX7_isSo.desc).map (fun d => d.parameters.length) = some 3 := by decide +kernel
theorem hdX7_which : yX7_which.cls = RX7 ∧ yX7_which.cls ≠ "java/lang/invoke/MethodHandle" ∧ yX7_which.cls ≠ "java/lang/invoke/VarHandle" ∧ (parseMethodDescriptor yX7_which.desc).map (fun d => d.parameters.length) = some 1 := by decide +kernel
theorem hdX7_divisor : yX7_divisor.cls ≠ "java/lang/invoke/MethodHandle" ∧ yX7_divisor.cls ≠ "java/lang/invoke/VarHandle" ∧ (parseMethodDescriptor yX7_divisor.desc).map (fun d => d.parameters.length) = some 2 := by decide +kernel
theorem hdX7_fraction : yX7_fraction.cls ≠ "java/lang/invoke/MethodHandle" ∧ yX7_fraction.cls ≠ "java/lang/invoke/VarHandle" ∧ (parseMethodDescriptor yX7_fraction.desc).map (fun d => d.parameters.length) = some 3 := by decide +kernel
theorem hdX7_factorial : yX7_factorial.cls ≠ "java/lang/invoke/MethodHandle" ∧ yX7_factorial.cls ≠ "java/lang/invoke/VarHandle" ∧ (parseMethodDescriptor yX7_factorial.desc).map (fun d => d.parameters.length) = some 1 := by decide +kernel
theorem hdX7_share : yX7_share.cls = RX7 ∧ yX7_share.cls ≠ "java/lang/invoke/MethodHandle" ∧ yX7_share.cls ≠ "java/lang/invoke/VarHandle" ∧ (parseMethodDescriptor yX7_share.desc).map (fun d => d.parameters.length) = some 2 := by decide +kernel
theorem hdX7_lost : yX7_lost.cls = RX7 ∧ yX7_lost.cls ≠ "java/lang/invoke/MethodHandle" ∧ yX7_lost.cls ≠ "java/lang/invoke/VarHandle" ∧ (parseMethodDescriptor yX7_lost.desc).map (fun d => d.parameters.length) = some 2 := by decide +kernel
theorem hdX7_seed : yX7_seed.cls = RX7 ∧ yX7_seed.cls ≠ "java/lang/invoke/MethodHandle" ∧ yX7_seed.cls ≠ "java/lang/invoke/VarHandle" ∧ (parseMethodDescriptor yX7_seed.desc).map (fun d => d.parameters.length) = some 1 := by decide +kernel
def lp_X7_hasLike_6 (r_t_finds : Nat → Int32) (r_t_page : Nat → Int32) (p1 : Int32) (p2 : Int32) (p3 : Int32) : Nat → Int32 → Int32 → Option (Int32)
  | 0, _, _ => none
  | n + 1, x4, x5 =>
    if (64 : Int32) ≤ x5 then
  some x4
  else
  pn_nm (x5 / (2 : Int32)) fun z2 =>
  pn_bd1 (f_X7_allNotes r_t_page) fun ru3 =>
  pn_bd1 (f_X7_isSpelled r_t_page ru3 z2) fun ru4 =>
  if ru4 = 0 then
  pn_nm (x5 + (1 : Int32)) fun z6 =>
  lp_X7_hasLike_6 r_t_finds r_t_page p1 p2 p3 n x4 z6
  else
  pn_rd 32 r_t_finds z2 fun w7 =>
  if ¬ w7 = p1 then
  pn_nm (x5 + (1 : Int32)) fun z10 =>
  lp_X7_hasLike_6 r_t_finds r_t_page p1 p2 p3 n x4 z10
  else
  pn_bd1 (f_X7_ref r_t_page z2 ((3 : Int32) + (x5 - x5 / (2 : Int32) * (2 : Int32)))) fun ru11 =>
  if ¬ x4 = 0 then
  pn_nm (x5 + (1 : Int32)) fun z13 =>
  lp_X7_hasLike_6 r_t_finds r_t_page p1 p2 p3 n (1 : Int32) z13
  else
  if ru11 = 0 then
  pn_nm (x5 + (1 : Int32)) fun z15 =>
  lp_X7_hasLike_6 r_t_finds r_t_page p1 p2 p3 n (0 : Int32) z15
  else
  if ¬ p2 = (3 : Int32) then
  if ¬ ((ru11 / (100 : Int32)) - (ru11 / (100 : Int32)) / (10 : Int32) * (10 : Int32)) = p3 then
  pn_nm (x5 + (1 : Int32)) fun z18 =>
  lp_X7_hasLike_6 r_t_finds r_t_page p1 p2 p3 n (0 : Int32) z18
  else
  pn_nm (x5 + (1 : Int32)) fun z19 =>
  lp_X7_hasLike_6 r_t_finds r_t_page p1 p2 p3 n (1 : Int32) z19
  else
  if ¬ (ru11 / (1000 : Int32)) = p3 then
  pn_nm (x5 + (1 : Int32)) fun z21 =>
  lp_X7_hasLike_6 r_t_finds r_t_page p1 p2 p3 n (0 : Int32) z21
  else
  pn_nm (x5 + (1 : Int32)) fun z22 =>
  lp_X7_hasLike_6 r_t_finds r_t_page p1 p2 p3 n (1 : Int32) z22
def f_X7_hasLike (N : Nat) (r_t_finds : Nat → Int32) (r_t_page : Nat → Int32) (p1 : Int32) (p2 : Int32) (p3 : Int32) : Option (Int32) :=
  pn_bd1 (lp_X7_hasLike_6 r_t_finds r_t_page p1 p2 p3 N (0 : Int32) (0 : Int32)) (fun X6 => (pn_u1 fun x4_w23 => pn_bz x4_w23 <|
  some x4_w23) X6)
set_option maxHeartbeats 4000000 in
set_option maxRecDepth 100000 in
theorem c_X7_hasLike (l : Launch) (D : va_G) (cI cJ cZ : ClassId) (a_t a_t_text a_t_readPage a_t_page a_t_trial a_t_work a_t_book a_t_kept a_t_isKept a_t_seenWhat a_t_seenV a_t_seenIs a_t_label a_t_finds a_t_reason a_t_caseFirst a_t_brief a_t_printed a_t_renamed a_t_worth : Nat) (sz : Nat) (v_t_thrown : Int32) (v_t_textSize : Int32) (v_t_place : Int32) (v_t_doings : Int32) (v_t_seen : Int32) (v_t_seed : Int64) (v_t_cases : Int32) (v_t_printedSize : Int32) (v_t_lastReason : Int32) (N : Nat) (r_t_finds : Nat → Int32) (r_t_page : Nat → Int32) (p1 : Int32) (p2 : Int32) (p3 : Int32) (rR : Int32) (hf : f_X7_hasLike N r_t_finds r_t_page p1 p2 p3 = some rR) : Met l yX7_hasLike wsX7_hasLike { frames := 4, cells := 0, slots := 0, locals := 91 } (pn_Pc D cI cJ cZ [.ref a_t, .int p1, .int p2, .int p3] [(a_t, .inr (6, [.int v_t_thrown, .ref a_t_text, .int v_t_textSize, .int v_t_place, .ref a_t_readPage, .ref a_t_page, .ref a_t_trial, .ref a_t_work, .ref a_t_book, .int v_t_doings, .ref a_t_kept, .ref a_t_isKept, .int v_t_seen, .ref a_t_seenWhat, .ref a_t_seenV, .ref a_t_seenIs, .long v_t_seed, .ref a_t_label, .ref a_t_finds, .ref a_t_reason, .ref a_t_caseFirst, .int v_t_cases, .ref a_t_brief, .ref a_t_printed, .int v_t_printedSize, .ref a_t_renamed, .ref a_t_worth, .int v_t_lastReason])), (a_t_finds, .inl (cI, 32, .inl r_t_finds)), (a_t_page, .inl (cI, 265, .inl r_t_page))] sz) (pn_Qi D rR [(a_t, .inr (6, [.int v_t_thrown, .ref a_t_text, .int v_t_textSize, .int v_t_place, .ref a_t_readPage, .ref a_t_page, .ref a_t_trial, .ref a_t_work, .ref a_t_book, .int v_t_doings, .ref a_t_kept, .ref a_t_isKept, .int v_t_seen, .ref a_t_seenWhat, .ref a_t_seenV, .ref a_t_seenIs, .long v_t_seed, .ref a_t_label, .ref a_t_finds, .ref a_t_reason, .ref a_t_caseFirst, .int v_t_cases, .ref a_t_brief, .ref a_t_printed, .int v_t_printedSize, .ref a_t_renamed, .ref a_t_worth, .int v_t_lastReason])), (a_t_finds, .inl (cI, 32, .inl r_t_finds)), (a_t_page, .inl (cI, 265, .inl r_t_page))] (va_A [(a_t, .inr (6, [.int v_t_thrown, .ref a_t_text, .int v_t_textSize, .int v_t_place, .ref a_t_readPage, .ref a_t_page, .ref a_t_trial, .ref a_t_work, .ref a_t_book, .int v_t_doings, .ref a_t_kept, .ref a_t_isKept, .int v_t_seen, .ref a_t_seenWhat, .ref a_t_seenV, .ref a_t_seenIs, .long v_t_seed, .ref a_t_label, .ref a_t_finds, .ref a_t_reason, .ref a_t_caseFirst, .int v_t_cases, .ref a_t_brief, .ref a_t_printed, .int v_t_printedSize, .ref a_t_renamed, .ref a_t_worth, .int v_t_lastReason])), (a_t_finds, .inl (cI, 32, .inl r_t_finds)), (a_t_page, .inl (cI, 265, .inl r_t_page))] sz)) 0 0 (va_A [(a_t, .inr (6, [.int v_t_thrown, .ref a_t_text, .int v_t_textSize, .int v_t_place, .ref a_t_readPage, .ref a_t_page, .ref a_t_trial, .ref a_t_work, .ref a_t_book, .int v_t_doings, .ref a_t_kept, .ref a_t_isKept, .int v_t_seen, .ref a_t_seenWhat, .ref a_t_seenV, .ref a_t_seenIs, .long v_t_seed, .ref a_t_label, .ref a_t_finds, .ref a_t_reason, .ref a_t_caseFirst, .int v_t_cases, .ref a_t_brief, .ref a_t_printed, .int v_t_printedSize, .ref a_t_renamed, .ref a_t_worth, .int v_t_lastReason])), (a_t_finds, .inl (cI, 32, .inl r_t_finds)), (a_t_page, .inl (cI, 265, .inl r_t_page))] sz) := by
  refine pn_entry (cc := cX7_hasLike) (maxL := 8) (ret := (some .boolean)) (Qf := pn_Qi D rR [(a_t, .inr (6, [.int v_t_thrown, .ref a_t_text, .int v_t_textSize, .int v_t_place, .ref a_t_readPage, .ref a_t_page, .ref a_t_trial, .ref a_t_work, .ref a_t_book, .int v_t_doings, .ref a_t_kept, .ref a_t_isKept, .int v_t_seen, .ref a_t_seenWhat, .ref a_t_seenV, .ref a_t_seenIs, .long v_t_seed, .ref a_t_label, .ref a_t_finds, .ref a_t_reason, .ref a_t_caseFirst, .int v_t_cases, .ref a_t_brief, .ref a_t_printed, .int v_t_printedSize, .ref a_t_renamed, .ref a_t_worth, .int v_t_lastReason])), (a_t_finds, .inl (cI, 32, .inl r_t_finds)), (a_t_page, .inl (cI, 265, .inl r_t_page))]) (by decide) rfl (Nat.le_of_ble_eq_true rfl) ?_
  intro p e s m args below meth c A ls H locs Qm hQ hx hb hr hlocks hml hown hts hK hP hD hA hS hl
  have hl : lv_has ls 8 [(0, .ref a_t), (1, .int p1), (2, .int p2), (3, .int p3)] := hl
  have hinX7 : ∀ w ∈ wsX70, w ∈ wsX7_hasLike := by decide +kernel
  have fl_16 := hts (.fieldLink RX7 16 "PointingNotesModel" "page" "[I") (by decide +kernel)
  have fl_47 := hts (.fieldLink RX7 47 "PointingNotesModel" "finds" "[I") (by decide +kernel)
  rw [f_X7_hasLike] at hf
  have lp6 : ∀ (n : Nat) (x4 : Int32) (x5 : Int32) (X : Int32) (H : Heap) (locs : List Loc) (ls : Array Slot), lp_X7_hasLike_6 r_t_finds r_t_page p1 p2 p3 n x4 x5 = some X → va_P D vwCl [(a_t, .inr (6, [.int v_t_thrown, .ref a_t_text, .int v_t_textSize, .int v_t_place, .ref a_t_readPage, .ref a_t_page, .ref a_t_trial, .ref a_t_work, .ref a_t_book, .int v_t_doings, .ref a_t_kept, .ref a_t_isKept, .int v_t_seen, .ref a_t_seenWhat, .ref a_t_seenV, .ref a_t_seenIs, .long v_t_seed, .ref a_t_label, .ref a_t_finds, .ref a_t_reason, .ref a_t_caseFirst, .int v_t_cases, .ref a_t_brief, .ref a_t_printed, .int v_t_printedSize, .ref a_t_renamed, .ref a_t_worth, .int v_t_lastReason])), (a_t_finds, .inl (cI, 32, .inl r_t_finds)), (a_t_page, .inl (cI, 265, .inl r_t_page))] H → va_S A s.heap H locs → lv_has ls 8 [(0, .ref a_t), (1, .int p1), (2, .int p2), (3, .int p3), (4, .int x4), (5, .int x5)] → (∀ (y4 : Int32)  (H : Heap) (locs : List Loc) (ls : Array Slot), X = y4 → va_P D vwCl [(a_t, .inr (6, [.int v_t_thrown, .ref a_t_text, .int v_t_textSize, .int v_t_place, .ref a_t_readPage, .ref a_t_page, .ref a_t_trial, .ref a_t_work, .ref a_t_book, .int v_t_doings, .ref a_t_kept, .ref a_t_isKept, .int v_t_seen, .ref a_t_seenWhat, .ref a_t_seenV, .ref a_t_seenIs, .long v_t_seed, .ref a_t_label, .ref a_t_finds, .ref a_t_reason, .ref a_t_caseFirst, .int v_t_cases, .ref a_t_brief, .ref a_t_printed, .int v_t_printedSize, .ref a_t_renamed, .ref a_t_worth, .int v_t_lastReason])), (a_t_finds, .inl (cI, 32, .inl r_t_finds)), (a_t_page, .inl (cI, 265, .inl r_t_page))] H → va_S A s.heap H locs → lv_has ls 8 [(4, .int y4)] → W p l e { frames := 4, cells := 0, slots := 0, locals := 91 } s m args below meth c H locs 0 0 Qm (F0 m 119 ls [])) → W p l e { frames := 4, cells := 0, slots := 0, locals := 91 } s m args below meth c H locs 0 0 Qm (F0 m 6 ls []) := by
    intro n
    induction n with
    | zero => intro x4 x5 X H locs ls hf; cases hf
    | succ n ih =>
      intro x4 x5 X H locs ls hf hP hS hl kx119
      rw [lp_X7_hasLike_6] at hf
      refine lv_iload hx hb dX7_hasLike_6 (lv_at hl 5 rfl) ?_
      refine lv_bipush (v := (64)) hx hb dX7_hasLike_8 (by decide) ?_
      refine lv_icmp_ge (tgt := 119) hx hb dX7_hasLike_10 (by decide) (fun c1 => ?_) (fun c1 => ?_)
      · have hf := pn_ifp c1 hf
        exact kx119 x4 H locs ls (Option.some.inj hf).symm hP hS (lv_sub hl [4] rfl)
      · have hf := pn_ifn c1 hf
        refine lv_iload hx hb dX7_hasLike_13 (lv_at hl 5 rfl) ?_
        refine lv_iconst (v := (2)) hx hb dX7_hasLike_15 (by decide) ?_
        refine lv_idiv hx hb dX7_hasLike_16 (by decide) ?_
        refine lv_topi (fun z2 ez2 => ?_)
        have hf := pn_nm_at ez2 hf
        refine lv_istore (lv' := [(6, .int z2), (0, .ref a_t), (1, .int p1), (2, .int p2), (3, .int p3), (4, .int x4), (5, .int x5)]) hx hb dX7_hasLike_17 hl (by decide) rfl (fun ls hl => ?_)
        refine lv_aload_n hx hb dX7_hasLike_19 rfl (lv_at hl 1 rfl) ?_
        refine va_get (D := D) (ci := 6) (v := .ref a_t_page) (C := RX7) (T := TX7) (N := 28) hx hb hts hinX7 hown hK.1 hP 0 rfl rfl 5 (by decide) fl_16 (fun _ h9 => h9) rfl dX7_hasLike_20 ?_
        refine lv_aload_n hx hb dX7_hasLike_23 rfl (lv_at hl 1 rfl) ?_
        refine va_get (D := D) (ci := 6) (v := .ref a_t_page) (C := RX7) (T := TX7) (N := 28) hx hb hts hinX7 hown hK.1 hP 0 rfl rfl 5 (by decide) fl_16 (fun _ h9 => h9) rfl dX7_hasLike_24 ?_
        obtain ⟨ru3, hu3, hf⟩ := pn_bd1_at hf
        refine pn_calli [2] (va_runS (As := [.ref a_t_page]) (rest := [.ref a_t_page]) ⟨hx, hb, hml, hown, hts⟩ (c_X7_allNotes l D cI cJ cZ a_t_page H.size r_t_page ru3 hu3) (va_cwS 1 hts gX7_hasLike_X7_allNotes rfl rfl rfl hdX7_allNotes ⟨Nat.le_of_ble_eq_true rfl, Nat.le_of_ble_eq_true rfl⟩) (pn_preS [2] hP (hD.addr rfl) hK rfl rfl) rfl rfl hl.1 rfl (lv_room (Nat.le_of_ble_eq_true rfl)) dX7_hasLike_27 ⟨Nat.zero_le _, Nat.zero_le _⟩) hP (hD.addr rfl) hS hA rfl rfl rfl (fun H locs (hP : va_P D vwCl [(a_t, .inr (6, [.int v_t_thrown, .ref a_t_text, .int v_t_textSize, .int v_t_place, .ref a_t_readPage, .ref a_t_page, .ref a_t_trial, .ref a_t_work, .ref a_t_book, .int v_t_doings, .ref a_t_kept, .ref a_t_isKept, .int v_t_seen, .ref a_t_seenWhat, .ref a_t_seenV, .ref a_t_seenIs, .long v_t_seed, .ref a_t_label, .ref a_t_finds, .ref a_t_reason, .ref a_t_caseFirst, .int v_t_cases, .ref a_t_brief, .ref a_t_printed, .int v_t_printedSize, .ref a_t_renamed, .ref a_t_worth, .int v_t_lastReason])), (a_t_finds, .inl (cI, 32, .inl r_t_finds)), (a_t_page, .inl (cI, 265, .inl r_t_page))] H) _ hS => ?_)
        refine lv_iload hx hb dX7_hasLike_30 (lv_at hl 0 rfl) ?_
        obtain ⟨ru4, hu4, hf⟩ := pn_bd1_at hf
        refine pn_calli [2] (va_runS (As := [.ref a_t_page, .int ru3, .int z2]) (rest := []) ⟨hx, hb, hml, hown, hts⟩ (c_X7_isSpelled l D cI cJ cZ a_t_page H.size r_t_page ru3 z2 ru4 hu4) (va_cwS 3 hts gX7_hasLike_X7_isSpelled rfl rfl rfl hdX7_isSpelled ⟨Nat.le_of_ble_eq_true rfl, Nat.le_of_ble_eq_true rfl⟩) (pn_preS [2] hP (hD.addr rfl) hK rfl rfl) rfl rfl hl.1 rfl (lv_room (Nat.le_of_ble_eq_true rfl)) dX7_hasLike_32 ⟨Nat.zero_le _, Nat.zero_le _⟩) hP (hD.addr rfl) hS hA rfl rfl rfl (fun H locs (hP : va_P D vwCl [(a_t, .inr (6, [.int v_t_thrown, .ref a_t_text, .int v_t_textSize, .int v_t_place, .ref a_t_readPage, .ref a_t_page, .ref a_t_trial, .ref a_t_work, .ref a_t_book, .int v_t_doings, .ref a_t_kept, .ref a_t_isKept, .int v_t_seen, .ref a_t_seenWhat, .ref a_t_seenV, .ref a_t_seenIs, .long v_t_seed, .ref a_t_label, .ref a_t_finds, .ref a_t_reason, .ref a_t_caseFirst, .int v_t_cases, .ref a_t_brief, .ref a_t_printed, .int v_t_printedSize, .ref a_t_renamed, .ref a_t_worth, .int v_t_lastReason])), (a_t_finds, .inl (cI, 32, .inl r_t_finds)), (a_t_page, .inl (cI, 265, .inl r_t_page))] H) _ hS => ?_)
        refine lv_if_eq (tgt := 113) hx hb dX7_hasLike_35 (by decide) (fun c5 => ?_) (fun c5 => ?_)
        · have hf := pn_ifp c5 hf
          obtain ⟨z6, ez6⟩ : ∃ y : Int32, y = x5 + (1) := ⟨_, rfl⟩
          have hf := pn_nm_at ez6 hf
          refine lv_iinc (v := z6) (lv' := [(5, .int z6), (6, .int z2), (0, .ref a_t), (1, .int p1), (2, .int p2), (3, .int p3), (4, .int x4)]) hx hb dX7_hasLike_113 hl (k := 6) rfl (by rw [ez6]; rfl) (by decide) rfl (fun ls hl => ?_)
          refine lv_goto (tgt := 6) hx hb dX7_hasLike_116 (by decide) ?_
          exact ih x4 z6 X H locs ls hf hP hS (lv_sub hl [2, 3, 4, 5, 6, 0] rfl) kx119
        · have hf := pn_ifn c5 hf
          refine lv_aload_n hx hb dX7_hasLike_38 rfl (lv_at hl 1 rfl) ?_
          refine va_get (D := D) (ci := 6) (v := .ref a_t_finds) (C := RX7) (T := TX7) (N := 28) hx hb hts hinX7 hown hK.1 hP 0 rfl rfl 18 (by decide) fl_47 (fun _ h9 => h9) rfl dX7_hasLike_39 ?_
          refine lv_iload hx hb dX7_hasLike_42 (lv_at hl 0 rfl) ?_
          obtain ⟨hi8, w7, ew7, hf⟩ := pn_rd_at hf
          refine pn_ldI hx hb hK.1 hP 1 0 rfl rfl hi8 ew7 dX7_hasLike_44 ?_
          refine lv_iload_n hx hb dX7_hasLike_45 rfl (lv_at hl 2 rfl) ?_
          refine lv_icmp_ne (tgt := 113) hx hb dX7_hasLike_46 (by decide) (fun c9 => ?_) (fun c9 => ?_)
          · have hf := pn_ifp c9 hf
            obtain ⟨z10, ez10⟩ : ∃ y : Int32, y = x5 + (1) := ⟨_, rfl⟩
            have hf := pn_nm_at ez10 hf
            refine lv_iinc (v := z10) (lv' := [(5, .int z10), (6, .int z2), (0, .ref a_t), (1, .int p1), (2, .int p2), (3, .int p3), (4, .int x4)]) hx hb dX7_hasLike_113 hl (k := 6) rfl (by rw [ez10]; rfl) (by decide) rfl (fun ls hl => ?_)
            refine lv_goto (tgt := 6) hx hb dX7_hasLike_116 (by decide) ?_
            exact ih x4 z10 X H locs ls hf hP hS (lv_sub hl [2, 3, 4, 5, 6, 0] rfl) kx119
          · have hf := pn_ifq c9 hf
            refine lv_aload_n hx hb dX7_hasLike_49 rfl (lv_at hl 1 rfl) ?_
            refine va_get (D := D) (ci := 6) (v := .ref a_t_page) (C := RX7) (T := TX7) (N := 28) hx hb hts hinX7 hown hK.1 hP 0 rfl rfl 5 (by decide) fl_16 (fun _ h9 => h9) rfl dX7_hasLike_50 ?_
            refine lv_iload hx hb dX7_hasLike_53 (lv_at hl 0 rfl) ?_
            refine lv_iconst (v := (3)) hx hb dX7_hasLike_55 (by decide) ?_
            refine lv_iload hx hb dX7_hasLike_56 (lv_at hl 6 rfl) ?_
            refine lv_iconst (v := (2)) hx hb dX7_hasLike_58 (by decide) ?_
            refine lv_irem hx hb dX7_hasLike_59 (by decide) ?_
            refine lv_iadd hx hb dX7_hasLike_60 ?_
            obtain ⟨ru11, hu11, hf⟩ := pn_bd1_at hf
            refine pn_calli [2] (va_runS (As := [.ref a_t_page, .int z2, .int ((3 : Int32) + (x5 - x5 / (2 : Int32) * (2 : Int32)))]) (rest := []) ⟨hx, hb, hml, hown, hts⟩ (c_X7_ref l D cI cJ cZ a_t_page H.size r_t_page z2 ((3 : Int32) + (x5 - x5 / (2 : Int32) * (2 : Int32))) ru11 hu11) (va_cwS 3 hts gX7_hasLike_X7_ref rfl rfl rfl hdX7_ref ⟨Nat.le_of_ble_eq_true rfl, Nat.le_of_ble_eq_true rfl⟩) (pn_preS [2] hP (hD.addr rfl) hK rfl rfl) rfl rfl hl.1 rfl (lv_room (Nat.le_of_ble_eq_true rfl)) dX7_hasLike_61 ⟨Nat.zero_le _, Nat.zero_le _⟩) hP (hD.addr rfl) hS hA rfl rfl rfl (fun H locs (hP : va_P D vwCl [(a_t, .inr (6, [.int v_t_thrown, .ref a_t_text, .int v_t_textSize, .int v_t_place, .ref a_t_readPage, .ref a_t_page, .ref a_t_trial, .ref a_t_work, .ref a_t_book, .int v_t_doings, .ref a_t_kept, .ref a_t_isKept, .int v_t_seen, .ref a_t_seenWhat, .ref a_t_seenV, .ref a_t_seenIs, .long v_t_seed, .ref a_t_label, .ref a_t_finds, .ref a_t_reason, .ref a_t_caseFirst, .int v_t_cases, .ref a_t_brief, .ref a_t_printed, .int v_t_printedSize, .ref a_t_renamed, .ref a_t_worth, .int v_t_lastReason])), (a_t_finds, .inl (cI, 32, .inl r_t_finds)), (a_t_page, .inl (cI, 265, .inl r_t_page))] H) _ hS => ?_)
            refine lv_istore (lv' := [(7, .int ru11), (6, .int z2), (0, .ref a_t), (1, .int p1), (2, .int p2), (3, .int p3), (4, .int x4), (5, .int x5)]) hx hb dX7_hasLike_64 hl (by decide) rfl (fun ls hl => ?_)
            refine lv_iload hx hb dX7_hasLike_66 (lv_at hl 6 rfl) ?_
            refine lv_if_ne (tgt := 106) hx hb dX7_hasLike_68 (by decide) (fun c12 => ?_) (fun c12 => ?_)
            · have hf := pn_ifp c12 hf
              refine lv_iconst (v := (1)) hx hb dX7_hasLike_106 (by decide) ?_
              refine lv_goto (tgt := 111) hx hb dX7_hasLike_107 (by decide) ?_
              refine lv_istore (lv' := [(4, .int (1 : Int32)), (7, .int ru11), (6, .int z2), (0, .ref a_t), (1, .int p1), (2, .int p2), (3, .int p3), (5, .int x5)]) hx hb dX7_hasLike_111 hl (by decide) rfl (fun ls hl => ?_)
              obtain ⟨z13, ez13⟩ : ∃ y : Int32, y = x5 + (1) := ⟨_, rfl⟩
              have hf := pn_nm_at ez13 hf
              refine lv_iinc (v := z13) (lv' := [(5, .int z13), (4, .int (1 : Int32)), (7, .int ru11), (6, .int z2), (0, .ref a_t), (1, .int p1), (2, .int p2), (3, .int p3)]) hx hb dX7_hasLike_113 hl (k := 7) rfl (by rw [ez13]; rfl) (by decide) rfl (fun ls hl => ?_)
              refine lv_goto (tgt := 6) hx hb dX7_hasLike_116 (by decide) ?_
              exact ih (1 : Int32) z13 X H locs ls hf hP hS (lv_sub hl [4, 5, 6, 7, 1, 0] rfl) kx119
            · have hf := pn_ifq c12 hf
              refine lv_iload hx hb dX7_hasLike_71 (lv_at hl 0 rfl) ?_
              refine lv_if_eq (tgt := 110) hx hb dX7_hasLike_73 (by decide) (fun c14 => ?_) (fun c14 => ?_)
              · have hf := pn_ifp c14 hf
                refine lv_iconst (v := (0)) hx hb dX7_hasLike_110 (by decide) ?_
                refine lv_istore (lv' := [(4, .int (0 : Int32)), (7, .int ru11), (6, .int z2), (0, .ref a_t), (1, .int p1), (2, .int p2), (3, .int p3), (5, .int x5)]) hx hb dX7_hasLike_111 hl (by decide) rfl (fun ls hl => ?_)
                obtain ⟨z15, ez15⟩ : ∃ y : Int32, y = x5 + (1) := ⟨_, rfl⟩
                have hf := pn_nm_at ez15 hf
                refine lv_iinc (v := z15) (lv' := [(5, .int z15), (4, .int (0 : Int32)), (7, .int ru11), (6, .int z2), (0, .ref a_t), (1, .int p1), (2, .int p2), (3, .int p3)]) hx hb dX7_hasLike_113 hl (k := 7) rfl (by rw [ez15]; rfl) (by decide) rfl (fun ls hl => ?_)
                refine lv_goto (tgt := 6) hx hb dX7_hasLike_116 (by decide) ?_
                exact ih (0 : Int32) z15 X H locs ls hf hP hS (lv_sub hl [4, 5, 6, 7, 1, 0] rfl) kx119
              · have hf := pn_ifn c14 hf
                refine lv_iload_n hx hb dX7_hasLike_76 rfl (lv_at hl 4 rfl) ?_
                refine lv_iconst (v := (3)) hx hb dX7_hasLike_77 (by decide) ?_
                refine lv_icmp_ne (tgt := 94) hx hb dX7_hasLike_78 (by decide) (fun c16 => ?_) (fun c16 => ?_)
                · have hf := pn_ifp c16 hf
                  refine lv_iload hx hb dX7_hasLike_94 (lv_at hl 0 rfl) ?_
                  refine lv_bipush (v := (100)) hx hb dX7_hasLike_96 (by decide) ?_
                  refine lv_idiv hx hb dX7_hasLike_98 (by decide) ?_
                  refine lv_bipush (v := (10)) hx hb dX7_hasLike_99 (by decide) ?_
                  refine lv_irem hx hb dX7_hasLike_101 (by decide) ?_
                  refine lv_iload_n hx hb dX7_hasLike_102 rfl (lv_at hl 5 rfl) ?_
                  refine lv_icmp_ne (tgt := 110) hx hb dX7_hasLike_103 (by decide) (fun c17 => ?_) (fun c17 => ?_)
                  · have hf := pn_ifp c17 hf
                    refine lv_iconst (v := (0)) hx hb dX7_hasLike_110 (by decide) ?_
                    refine lv_istore (lv' := [(4, .int (0 : Int32)), (7, .int ru11), (6, .int z2), (0, .ref a_t), (1, .int p1), (2, .int p2), (3, .int p3), (5, .int x5)]) hx hb dX7_hasLike_111 hl (by decide) rfl (fun ls hl => ?_)
                    obtain ⟨z18, ez18⟩ : ∃ y : Int32, y = x5 + (1) := ⟨_, rfl⟩
                    have hf := pn_nm_at ez18 hf
                    refine lv_iinc (v := z18) (lv' := [(5, .int z18), (4, .int (0 : Int32)), (7, .int ru11), (6, .int z2), (0, .ref a_t), (1, .int p1), (2, .int p2), (3, .int p3)]) hx hb dX7_hasLike_113 hl (k := 7) rfl (by rw [ez18]; rfl) (by decide) rfl (fun ls hl => ?_)
                    refine lv_goto (tgt := 6) hx hb dX7_hasLike_116 (by decide) ?_
                    exact ih (0 : Int32) z18 X H locs ls hf hP hS (lv_sub hl [4, 5, 6, 7, 1, 0] rfl) kx119
                  · have hf := pn_ifq c17 hf
                    refine lv_iconst (v := (1)) hx hb dX7_hasLike_106 (by decide) ?_
                    refine lv_goto (tgt := 111) hx hb dX7_hasLike_107 (by decide) ?_
                    refine lv_istore (lv' := [(4, .int (1 : Int32)), (7, .int ru11), (6, .int z2), (0, .ref a_t), (1, .int p1), (2, .int p2), (3, .int p3), (5, .int x5)]) hx hb dX7_hasLike_111 hl (by decide) rfl (fun ls hl => ?_)
                    obtain ⟨z19, ez19⟩ : ∃ y : Int32, y = x5 + (1) := ⟨_, rfl⟩
                    have hf := pn_nm_at ez19 hf
                    refine lv_iinc (v := z19) (lv' := [(5, .int z19), (4, .int (1 : Int32)), (7, .int ru11), (6, .int z2), (0, .ref a_t), (1, .int p1), (2, .int p2), (3, .int p3)]) hx hb dX7_hasLike_113 hl (k := 7) rfl (by rw [ez19]; rfl) (by decide) rfl (fun ls hl => ?_)
                    refine lv_goto (tgt := 6) hx hb dX7_hasLike_116 (by decide) ?_
                    exact ih (1 : Int32) z19 X H locs ls hf hP hS (lv_sub hl [4, 5, 6, 7, 1, 0] rfl) kx119
                · have hf := pn_ifq c16 hf
                  refine lv_iload hx hb dX7_hasLike_81 (lv_at hl 0 rfl) ?_
                  refine lv_sipush (v := (1000)) hx hb dX7_hasLike_83 (by decide) ?_
                  refine lv_idiv hx hb dX7_hasLike_86 (by decide) ?_
                  refine lv_iload_n hx hb dX7_hasLike_87 rfl (lv_at hl 5 rfl) ?_
                  refine lv_icmp_ne (tgt := 110) hx hb dX7_hasLike_88 (by decide) (fun c20 => ?_) (fun c20 => ?_)
                  · have hf := pn_ifp c20 hf
                    refine lv_iconst (v := (0)) hx hb dX7_hasLike_110 (by decide) ?_
                    refine lv_istore (lv' := [(4, .int (0 : Int32)), (7, .int ru11), (6, .int z2), (0, .ref a_t), (1, .int p1), (2, .int p2), (3, .int p3), (5, .int x5)]) hx hb dX7_hasLike_111 hl (by decide) rfl (fun ls hl => ?_)
                    obtain ⟨z21, ez21⟩ : ∃ y : Int32, y = x5 + (1) := ⟨_, rfl⟩
                    have hf := pn_nm_at ez21 hf
                    refine lv_iinc (v := z21) (lv' := [(5, .int z21), (4, .int (0 : Int32)), (7, .int ru11), (6, .int z2), (0, .ref a_t), (1, .int p1), (2, .int p2), (3, .int p3)]) hx hb dX7_hasLike_113 hl (k := 7) rfl (by rw [ez21]; rfl) (by decide) rfl (fun ls hl => ?_)
                    refine lv_goto (tgt := 6) hx hb dX7_hasLike_116 (by decide) ?_
                    exact ih (0 : Int32) z21 X H locs ls hf hP hS (lv_sub hl [4, 5, 6, 7, 1, 0] rfl) kx119
                  · have hf := pn_ifq c20 hf
                    refine lv_goto (tgt := 106) hx hb dX7_hasLike_91 (by decide) ?_
                    refine lv_iconst (v := (1)) hx hb dX7_hasLike_106 (by decide) ?_
                    refine lv_goto (tgt := 111) hx hb dX7_hasLike_107 (by decide) ?_
                    refine lv_istore (lv' := [(4, .int (1 : Int32)), (7, .int ru11), (6, .int z2), (0, .ref a_t), (1, .int p1), (2, .int p2), (3, .int p3), (5, .int x5)]) hx hb dX7_hasLike_111 hl (by decide) rfl (fun ls hl => ?_)
                    obtain ⟨z22, ez22⟩ : ∃ y : Int32, y = x5 + (1) := ⟨_, rfl⟩
                    have hf := pn_nm_at ez22 hf
                    refine lv_iinc (v := z22) (lv' := [(5, .int z22), (4, .int (1 : Int32)), (7, .int ru11), (6, .int z2), (0, .ref a_t), (1, .int p1), (2, .int p2), (3, .int p3)]) hx hb dX7_hasLike_113 hl (k := 7) rfl (by rw [ez22]; rfl) (by decide) rfl (fun ls hl => ?_)
                    refine lv_goto (tgt := 6) hx hb dX7_hasLike_116 (by decide) ?_
                    exact ih (1 : Int32) z22 X H locs ls hf hP hS (lv_sub hl [4, 5, 6, 7, 1, 0] rfl) kx119
  refine lv_iconst (v := (0)) hx hb dX7_hasLike_0 (by decide) ?_
  refine lv_istore (lv' := [(4, .int (0 : Int32)), (0, .ref a_t), (1, .int p1), (2, .int p2), (3, .int p3)]) hx hb dX7_hasLike_1 hl (by decide) rfl (fun ls hl => ?_)
  refine lv_iconst (v := (0)) hx hb dX7_hasLike_3 (by decide) ?_
  refine lv_istore (lv' := [(5, .int (0 : Int32)), (4, .int (0 : Int32)), (0, .ref a_t), (1, .int p1), (2, .int p2), (3, .int p3)]) hx hb dX7_hasLike_4 hl (by decide) rfl (fun ls hl => ?_)
  obtain ⟨X6, hX6, hf⟩ := pn_bd1_at hf
  refine lp6 N (0 : Int32) (0 : Int32) X6 H locs ls hX6 hP hS (lv_sub hl [2, 3, 4, 5, 1, 0] rfl) ?_
  · intro x4_w23 H locs ls eX hP hS hl
    rw [eX] at hf
    have hf := pn_u1_at hf
    refine lv_iload hx hb dX7_hasLike_119 (lv_at hl 0 rfl) ?_
    obtain ⟨hn24, hf⟩ := pn_bz_at hf
    cases hf
    rw [hQ]
    exact pn_retz hx hb hr hlocks hP hS rfl hn24 dX7_hasLike_121
def f_X7_isSo (N : Nat) (r_t_caseFirst : Nat → Int32) (r_t_finds : Nat → Int32) (r_t_page : Nat → Int32) (p1 : Int32) (p2 : Int32) (p3 : Int32) : Option (Int32) :=
  if p2 = 0 then
  pn_bd1 (f_X7_initial r_t_caseFirst r_t_page p1) fun ru2 =>
  if ¬ ru2 = p3 then
  some (0 : Int32)
  else
  some (1 : Int32)
  else if p2 = 1 then
  pn_rd 32 r_t_caseFirst p1 fun w5 =>
  pn_bd1 (f_X7_ref r_t_page w5 (2 : Int32)) fun ru7 =>
  if ¬ ru7 = p3 then
  some (0 : Int32)
  else
  some (1 : Int32)
  else if p2 = 2 then
  if (8 : Int32) ≤ p3 then
  some (0 : Int32)
  else
  pn_bd1 (f_X7_notesOf N r_t_finds p1) fun ru11 =>
  pn_bd1 (f_X7_has ru11 p3) fun ru12 =>
  if ru12 = 0 then
  some (0 : Int32)
  else
  some (1 : Int32)
  else pn_bd1 (f_X7_hasLike N r_t_finds r_t_page p1 p2 p3) fun ru14 =>
  pn_bz ru14 <|
  some ru14
set_option maxHeartbeats 4000000 in
set_option maxRecDepth 100000 in
theorem c_X7_isSo (l : Launch) (D : va_G) (cI cJ cZ : ClassId) (a_t a_t_text a_t_readPage a_t_page a_t_trial a_t_work a_t_book a_t_kept a_t_isKept a_t_seenWhat a_t_seenV a_t_seenIs a_t_label a_t_finds a_t_reason a_t_caseFirst a_t_brief a_t_printed a_t_renamed a_t_worth : Nat) (sz : Nat) (v_t_thrown : Int32) (v_t_textSize : Int32) (v_t_place : Int32) (v_t_doings : Int32) (v_t_seen : Int32) (v_t_seed : Int64) (v_t_cases : Int32) (v_t_printedSize : Int32) (v_t_lastReason : Int32) (N : Nat) (r_t_caseFirst : Nat → Int32) (r_t_finds : Nat → Int32) (r_t_page : Nat → Int32) (p1 : Int32) (p2 : Int32) (p3 : Int32) (rR : Int32) (hf : f_X7_isSo N r_t_caseFirst r_t_finds r_t_page p1 p2 p3 = some rR) : Met l yX7_isSo wsX7_isSo { frames := 5, cells := 0, slots := 0, locals := 118 } (pn_Pc D cI cJ cZ [.ref a_t, .int p1, .int p2, .int p3] [(a_t, .inr (6, [.int v_t_thrown, .ref a_t_text, .int v_t_textSize, .int v_t_place, .ref a_t_readPage, .ref a_t_page, .ref a_t_trial, .ref a_t_work, .ref a_t_book, .int v_t_doings, .ref a_t_kept, .ref a_t_isKept, .int v_t_seen, .ref a_t_seenWhat, .ref a_t_seenV, .ref a_t_seenIs, .long v_t_seed, .ref a_t_label, .ref a_t_finds, .ref a_t_reason, .ref a_t_caseFirst, .int v_t_cases, .ref a_t_brief, .ref a_t_printed, .int v_t_printedSize, .ref a_t_renamed, .ref a_t_worth, .int v_t_lastReason])), (a_t_caseFirst, .inl (cI, 32, .inl r_t_caseFirst)), (a_t_finds, .inl (cI, 32, .inl r_t_finds)), (a_t_page, .inl (cI, 265, .inl r_t_page))] sz) (pn_Qi D rR [(a_t, .inr (6, [.int v_t_thrown, .ref a_t_text, .int v_t_textSize, .int v_t_place, .ref a_t_readPage, .ref a_t_page, .ref a_t_trial, .ref a_t_work, .ref a_t_book, .int v_t_doings, .ref a_t_kept, .ref a_t_isKept, .int v_t_seen, .ref a_t_seenWhat, .ref a_t_seenV, .ref a_t_seenIs, .long v_t_seed, .ref a_t_label, .ref a_t_finds, .ref a_t_reason, .ref a_t_caseFirst, .int v_t_cases, .ref a_t_brief, .ref a_t_printed, .int v_t_printedSize, .ref a_t_renamed, .ref a_t_worth, .int v_t_lastReason])), (a_t_caseFirst, .inl (cI, 32, .inl r_t_caseFirst)), (a_t_finds, .inl (cI, 32, .inl r_t_finds)), (a_t_page, .inl (cI, 265, .inl r_t_page))] (va_A [(a_t, .inr (6, [.int v_t_thrown, .ref a_t_text, .int v_t_textSize, .int v_t_place, .ref a_t_readPage, .ref a_t_page, .ref a_t_trial, .ref a_t_work, .ref a_t_book, .int v_t_doings, .ref a_t_kept, .ref a_t_isKept, .int v_t_seen, .ref a_t_seenWhat, .ref a_t_seenV, .ref a_t_seenIs, .long v_t_seed, .ref a_t_label, .ref a_t_finds, .ref a_t_reason, .ref a_t_caseFirst, .int v_t_cases, .ref a_t_brief, .ref a_t_printed, .int v_t_printedSize, .ref a_t_renamed, .ref a_t_worth, .int v_t_lastReason])), (a_t_caseFirst, .inl (cI, 32, .inl r_t_caseFirst)), (a_t_finds, .inl (cI, 32, .inl r_t_finds)), (a_t_page, .inl (cI, 265, .inl r_t_page))] sz)) 0 0 (va_A [(a_t, .inr (6, [.int v_t_thrown, .ref a_t_text, .int v_t_textSize, .int v_t_place, .ref a_t_readPage, .ref a_t_page, .ref a_t_trial, .ref a_t_work, .ref a_t_book, .int v_t_doings, .ref a_t_kept, .ref a_t_isKept, .int v_t_seen, .ref a_t_seenWhat, .ref a_t_seenV, .ref a_t_seenIs, .long v_t_seed, .ref a_t_label, .ref a_t_finds, .ref a_t_reason, .ref a_t_caseFirst, .int v_t_cases, .ref a_t_brief, .ref a_t_printed, .int v_t_printedSize, .ref a_t_renamed, .ref a_t_worth, .int v_t_lastReason])), (a_t_caseFirst, .inl (cI, 32, .inl r_t_caseFirst)), (a_t_finds, .inl (cI, 32, .inl r_t_finds)), (a_t_page, .inl (cI, 265, .inl r_t_page))] sz) := by
  refine pn_entry (cc := cX7_isSo) (maxL := 4) (ret := (some .boolean)) (Qf := pn_Qi D rR [(a_t, .inr (6, [.int v_t_thrown, .ref a_t_text, .int v_t_textSize, .int v_t_place, .ref a_t_readPage, .ref a_t_page, .ref a_t_trial, .ref a_t_work, .ref a_t_book, .int v_t_doings, .ref a_t_kept, .ref a_t_isKept, .int v_t_seen, .ref a_t_seenWhat, .ref a_t_seenV, .ref a_t_seenIs, .long v_t_seed, .ref a_t_label, .ref a_t_finds, .ref a_t_reason, .ref a_t_caseFirst, .int v_t_cases, .ref a_t_brief, .ref a_t_printed, .int v_t_printedSize, .ref a_t_renamed, .ref a_t_worth, .int v_t_lastReason])), (a_t_caseFirst, .inl (cI, 32, .inl r_t_caseFirst)), (a_t_finds, .inl (cI, 32, .inl r_t_finds)), (a_t_page, .inl (cI, 265, .inl r_t_page))]) (by decide) rfl (Nat.le_of_ble_eq_true rfl) ?_
  intro p e s m args below meth c A ls H locs Qm hQ hx hb hr hlocks hml hown hts hK hP hD hA hS hl
  have hl : lv_has ls 4 [(0, .ref a_t), (1, .int p1), (2, .int p2), (3, .int p3)] := hl
  have hinX7 : ∀ w ∈ wsX70, w ∈ wsX7_isSo := by decide +kernel
  have fl_16 := hts (.fieldLink RX7 16 "PointingNotesModel" "page" "[I") (by decide +kernel)
  have fl_53 := hts (.fieldLink RX7 53 "PointingNotesModel" "caseFirst" "[I") (by decide +kernel)
  rw [f_X7_isSo] at hf
  refine lv_iload_n hx hb dX7_isSo_0 rfl (lv_at hl 2 rfl) ?_
  by_cases c1 : p2 = 0
  · have hf := pn_ifp c1 hf
    refine lv_tableIn (tgt := 28) hx hb dX7_isSo_1 (by rw [c1]; decide) (by rw [c1]; decide) (by rw [c1]; rfl) (by decide) ?_
    refine lv_aload_n hx hb dX7_isSo_28 rfl (lv_at hl 0 rfl) ?_
    refine lv_aload_n hx hb dX7_isSo_29 rfl (lv_at hl 0 rfl) ?_
    refine va_get (D := D) (ci := 6) (v := .ref a_t_page) (C := RX7) (T := TX7) (N := 28) hx hb hts hinX7 hown hK.1 hP 0 rfl rfl 5 (by decide) fl_16 (fun _ h9 => h9) rfl dX7_isSo_30 ?_
    refine lv_iload_n hx hb dX7_isSo_33 rfl (lv_at hl 1 rfl) ?_
    obtain ⟨ru2, hu2, hf⟩ := pn_bd1_at hf
    refine pn_calli [0, 1, 3] (va_runV (As := [.ref a_t_page, .int p1]) (rest := []) ⟨hx, hb, hml, hown, hts⟩ (c_X7_initial l D cI cJ cZ a_t a_t_text a_t_readPage a_t_page a_t_trial a_t_work a_t_book a_t_kept a_t_isKept a_t_seenWhat a_t_seenV a_t_seenIs a_t_label a_t_finds a_t_reason a_t_caseFirst a_t_brief a_t_printed a_t_renamed a_t_worth a_t_page H.size v_t_thrown v_t_textSize v_t_place v_t_doings v_t_seen v_t_seed v_t_cases v_t_printedSize v_t_lastReason r_t_caseFirst r_t_page p1 ru2 hu2) (cwV 2 hts gX7_isSo_X7_initial rfl rfl rfl hdX7_initial ⟨Nat.le_of_ble_eq_true rfl, Nat.le_of_ble_eq_true rfl⟩) (pn_preV [0, 1, 3] hP (hD.addr rfl) hK rfl rfl (q0 := 0) (ci := 6) rfl rfl) rfl rfl hl.1 rfl (lv_room (Nat.le_of_ble_eq_true rfl)) dX7_isSo_34 ⟨Nat.zero_le _, Nat.zero_le _⟩) hP (hD.addr rfl) hS hA rfl rfl rfl (fun H locs (hP : va_P D vwCl [(a_t, .inr (6, [.int v_t_thrown, .ref a_t_text, .int v_t_textSize, .int v_t_place, .ref a_t_readPage, .ref a_t_page, .ref a_t_trial, .ref a_t_work, .ref a_t_book, .int v_t_doings, .ref a_t_kept, .ref a_t_isKept, .int v_t_seen, .ref a_t_seenWhat, .ref a_t_seenV, .ref a_t_seenIs, .long v_t_seed, .ref a_t_label, .ref a_t_finds, .ref a_t_reason, .ref a_t_caseFirst, .int v_t_cases, .ref a_t_brief, .ref a_t_printed, .int v_t_printedSize, .ref a_t_renamed, .ref a_t_worth, .int v_t_lastReason])), (a_t_caseFirst, .inl (cI, 32, .inl r_t_caseFirst)), (a_t_finds, .inl (cI, 32, .inl r_t_finds)), (a_t_page, .inl (cI, 265, .inl r_t_page))] H) _ hS => ?_)
    refine lv_iload_n hx hb dX7_isSo_37 rfl (lv_at hl 3 rfl) ?_
    refine lv_icmp_ne (tgt := 45) hx hb dX7_isSo_38 (by decide) (fun c3 => ?_) (fun c3 => ?_)
    · have hf := pn_ifp c3 hf
      refine lv_iconst (v := (0)) hx hb dX7_isSo_45 (by decide) ?_
      cases hf
      rw [hQ]
      exact pn_retz hx hb hr hlocks hP hS rfl rfl dX7_isSo_46
    · have hf := pn_ifq c3 hf
      refine lv_iconst (v := (1)) hx hb dX7_isSo_41 (by decide) ?_
      refine lv_goto (tgt := 46) hx hb dX7_isSo_42 (by decide) ?_
      cases hf
      rw [hQ]
      exact pn_retz hx hb hr hlocks hP hS rfl rfl dX7_isSo_46
  · have hf := pn_ifn c1 hf
    by_cases c4 : p2 = 1
    · have hf := pn_ifp c4 hf
      refine lv_tableIn (tgt := 47) hx hb dX7_isSo_1 (by rw [c4]; decide) (by rw [c4]; decide) (by rw [c4]; rfl) (by decide) ?_
      refine lv_aload_n hx hb dX7_isSo_47 rfl (lv_at hl 0 rfl) ?_
      refine va_get (D := D) (ci := 6) (v := .ref a_t_page) (C := RX7) (T := TX7) (N := 28) hx hb hts hinX7 hown hK.1 hP 0 rfl rfl 5 (by decide) fl_16 (fun _ h9 => h9) rfl dX7_isSo_48 ?_
      refine lv_aload_n hx hb dX7_isSo_51 rfl (lv_at hl 0 rfl) ?_
      refine va_get (D := D) (ci := 6) (v := .ref a_t_caseFirst) (C := RX7) (T := TX7) (N := 28) hx hb hts hinX7 hown hK.1 hP 0 rfl rfl 20 (by decide) fl_53 (fun _ h9 => h9) rfl dX7_isSo_52 ?_
      refine lv_iload_n hx hb dX7_isSo_55 rfl (lv_at hl 1 rfl) ?_
      obtain ⟨hi6, w5, ew5, hf⟩ := pn_rd_at hf
      refine pn_ldI hx hb hK.1 hP 1 0 rfl rfl hi6 ew5 dX7_isSo_56 ?_
      refine lv_iconst (v := (2)) hx hb dX7_isSo_57 (by decide) ?_
      obtain ⟨ru7, hu7, hf⟩ := pn_bd1_at hf
      refine pn_calli [3] (va_runS (As := [.ref a_t_page, .int w5, .int (2 : Int32)]) (rest := []) ⟨hx, hb, hml, hown, hts⟩ (c_X7_ref l D cI cJ cZ a_t_page H.size r_t_page w5 (2 : Int32) ru7 hu7) (va_cwS 3 hts gX7_isSo_X7_ref rfl rfl rfl hdX7_ref ⟨Nat.le_of_ble_eq_true rfl, Nat.le_of_ble_eq_true rfl⟩) (pn_preS [3] hP (hD.addr rfl) hK rfl rfl) rfl rfl hl.1 rfl (lv_room (Nat.le_of_ble_eq_true rfl)) dX7_isSo_58 ⟨Nat.zero_le _, Nat.zero_le _⟩) hP (hD.addr rfl) hS hA rfl rfl rfl (fun H locs (hP : va_P D vwCl [(a_t, .inr (6, [.int v_t_thrown, .ref a_t_text, .int v_t_textSize, .int v_t_place, .ref a_t_readPage, .ref a_t_page, .ref a_t_trial, .ref a_t_work, .ref a_t_book, .int v_t_doings, .ref a_t_kept, .ref a_t_isKept, .int v_t_seen, .ref a_t_seenWhat, .ref a_t_seenV, .ref a_t_seenIs, .long v_t_seed, .ref a_t_label, .ref a_t_finds, .ref a_t_reason, .ref a_t_caseFirst, .int v_t_cases, .ref a_t_brief, .ref a_t_printed, .int v_t_printedSize, .ref a_t_renamed, .ref a_t_worth, .int v_t_lastReason])), (a_t_caseFirst, .inl (cI, 32, .inl r_t_caseFirst)), (a_t_finds, .inl (cI, 32, .inl r_t_finds)), (a_t_page, .inl (cI, 265, .inl r_t_page))] H) _ hS => ?_)
      refine lv_iload_n hx hb dX7_isSo_61 rfl (lv_at hl 3 rfl) ?_
      refine lv_icmp_ne (tgt := 69) hx hb dX7_isSo_62 (by decide) (fun c8 => ?_) (fun c8 => ?_)
      · have hf := pn_ifp c8 hf
        refine lv_iconst (v := (0)) hx hb dX7_isSo_69 (by decide) ?_
        cases hf
        rw [hQ]
        exact pn_retz hx hb hr hlocks hP hS rfl rfl dX7_isSo_70
      · have hf := pn_ifq c8 hf
        refine lv_iconst (v := (1)) hx hb dX7_isSo_65 (by decide) ?_
        refine lv_goto (tgt := 70) hx hb dX7_isSo_66 (by decide) ?_
        cases hf
        rw [hQ]
        exact pn_retz hx hb hr hlocks hP hS rfl rfl dX7_isSo_70
    · have hf := pn_ifn c4 hf
      by_cases c9 : p2 = 2
      · have hf := pn_ifp c9 hf
        refine lv_tableIn (tgt := 71) hx hb dX7_isSo_1 (by rw [c9]; decide) (by rw [c9]; decide) (by rw [c9]; rfl) (by decide) ?_
        refine lv_iload_n hx hb dX7_isSo_71 rfl (lv_at hl 3 rfl) ?_
        refine lv_bipush (v := (8)) hx hb dX7_isSo_72 (by decide) ?_
        refine lv_icmp_ge (tgt := 93) hx hb dX7_isSo_74 (by decide) (fun c10 => ?_) (fun c10 => ?_)
        · have hf := pn_ifp c10 hf
          refine lv_iconst (v := (0)) hx hb dX7_isSo_93 (by decide) ?_
          cases hf
          rw [hQ]
          exact pn_retz hx hb hr hlocks hP hS rfl rfl dX7_isSo_94
        · have hf := pn_ifn c10 hf
          refine lv_aload_n hx hb dX7_isSo_77 rfl (lv_at hl 0 rfl) ?_
          refine lv_iload_n hx hb dX7_isSo_78 rfl (lv_at hl 1 rfl) ?_
          obtain ⟨ru11, hu11, hf⟩ := pn_bd1_at hf
          refine pn_calli [0, 2] (va_runV (As := [.int p1]) (rest := []) ⟨hx, hb, hml, hown, hts⟩ (c_X7_notesOf l D cI cJ cZ a_t a_t_text a_t_readPage a_t_page a_t_trial a_t_work a_t_book a_t_kept a_t_isKept a_t_seenWhat a_t_seenV a_t_seenIs a_t_label a_t_finds a_t_reason a_t_caseFirst a_t_brief a_t_printed a_t_renamed a_t_worth H.size v_t_thrown v_t_textSize v_t_place v_t_doings v_t_seen v_t_seed v_t_cases v_t_printedSize v_t_lastReason N r_t_finds p1 ru11 hu11) (cwV 1 hts gX7_isSo_X7_notesOf rfl rfl rfl hdX7_notesOf ⟨Nat.le_of_ble_eq_true rfl, Nat.le_of_ble_eq_true rfl⟩) (pn_preV [0, 2] hP (hD.addr rfl) hK rfl rfl (q0 := 0) (ci := 6) rfl rfl) rfl rfl hl.1 rfl (lv_room (Nat.le_of_ble_eq_true rfl)) dX7_isSo_79 ⟨Nat.zero_le _, Nat.zero_le _⟩) hP (hD.addr rfl) hS hA rfl rfl rfl (fun H locs (hP : va_P D vwCl [(a_t, .inr (6, [.int v_t_thrown, .ref a_t_text, .int v_t_textSize, .int v_t_place, .ref a_t_readPage, .ref a_t_page, .ref a_t_trial, .ref a_t_work, .ref a_t_book, .int v_t_doings, .ref a_t_kept, .ref a_t_isKept, .int v_t_seen, .ref a_t_seenWhat, .ref a_t_seenV, .ref a_t_seenIs, .long v_t_seed, .ref a_t_label, .ref a_t_finds, .ref a_t_reason, .ref a_t_caseFirst, .int v_t_cases, .ref a_t_brief, .ref a_t_printed, .int v_t_printedSize, .ref a_t_renamed, .ref a_t_worth, .int v_t_lastReason])), (a_t_caseFirst, .inl (cI, 32, .inl r_t_caseFirst)), (a_t_finds, .inl (cI, 32, .inl r_t_finds)), (a_t_page, .inl (cI, 265, .inl r_t_page))] H) _ hS => ?_)
          refine lv_iload_n hx hb dX7_isSo_82 rfl (lv_at hl 3 rfl) ?_
          obtain ⟨ru12, hu12, hf⟩ := pn_bd1_at hf
          refine pn_calli [] (va_runS (As := [.int ru11, .int p3]) (rest := []) ⟨hx, hb, hml, hown, hts⟩ (c_X7_has l D cI cJ cZ H.size ru11 p3 ru12 hu12) (va_cwS 2 hts gX7_isSo_X7_has rfl rfl rfl hdX7_has ⟨Nat.le_of_ble_eq_true rfl, Nat.le_of_ble_eq_true rfl⟩) (pn_preS [] hP (hD.addr rfl) hK rfl rfl) rfl rfl hl.1 rfl (lv_room (Nat.le_of_ble_eq_true rfl)) dX7_isSo_83 ⟨Nat.zero_le _, Nat.zero_le _⟩) hP (hD.addr rfl) hS hA rfl rfl rfl (fun H locs (hP : va_P D vwCl [(a_t, .inr (6, [.int v_t_thrown, .ref a_t_text, .int v_t_textSize, .int v_t_place, .ref a_t_readPage, .ref a_t_page, .ref a_t_trial, .ref a_t_work, .ref a_t_book, .int v_t_doings, .ref a_t_kept, .ref a_t_isKept, .int v_t_seen, .ref a_t_seenWhat, .ref a_t_seenV, .ref a_t_seenIs, .long v_t_seed, .ref a_t_label, .ref a_t_finds, .ref a_t_reason, .ref a_t_caseFirst, .int v_t_cases, .ref a_t_brief, .ref a_t_printed, .int v_t_printedSize, .ref a_t_renamed, .ref a_t_worth, .int v_t_lastReason])), (a_t_caseFirst, .inl (cI, 32, .inl r_t_caseFirst)), (a_t_finds, .inl (cI, 32, .inl r_t_finds)), (a_t_page, .inl (cI, 265, .inl r_t_page))] H) _ hS => ?_)
          refine lv_if_eq (tgt := 93) hx hb dX7_isSo_86 (by decide) (fun c13 => ?_) (fun c13 => ?_)
          · have hf := pn_ifp c13 hf
            refine lv_iconst (v := (0)) hx hb dX7_isSo_93 (by decide) ?_
            cases hf
            rw [hQ]
            exact pn_retz hx hb hr hlocks hP hS rfl rfl dX7_isSo_94
          · have hf := pn_ifn c13 hf
            refine lv_iconst (v := (1)) hx hb dX7_isSo_89 (by decide) ?_
            refine lv_goto (tgt := 94) hx hb dX7_isSo_90 (by decide) ?_
            cases hf
            rw [hQ]
            exact pn_retz hx hb hr hlocks hP hS rfl rfl dX7_isSo_94
      · have hf := pn_ifn c9 hf
        refine lv_tableOut (tgt := 95) hx hb dX7_isSo_1 (by have := lv_neT (a := 0) c1 (by decide); have := lv_neT (a := 1) c4 (by decide); have := lv_neT (a := 2) c9 (by decide); omega) (by decide) ?_
        refine lv_aload_n hx hb dX7_isSo_95 rfl (lv_at hl 0 rfl) ?_
        refine lv_iload_n hx hb dX7_isSo_96 rfl (lv_at hl 1 rfl) ?_
        refine lv_iload_n hx hb dX7_isSo_97 rfl (lv_at hl 2 rfl) ?_
        refine lv_iload_n hx hb dX7_isSo_98 rfl (lv_at hl 3 rfl) ?_
        obtain ⟨ru14, hu14, hf⟩ := pn_bd1_at hf
        refine pn_calli [0, 2, 3] (va_runV (As := [.int p1, .int p2, .int p3]) (rest := []) ⟨hx, hb, hml, hown, hts⟩ (c_X7_hasLike l D cI cJ cZ a_t a_t_text a_t_readPage a_t_page a_t_trial a_t_work a_t_book a_t_kept a_t_isKept a_t_seenWhat a_t_seenV a_t_seenIs a_t_label a_t_finds a_t_reason a_t_caseFirst a_t_brief a_t_printed a_t_renamed a_t_worth H.size v_t_thrown v_t_textSize v_t_place v_t_doings v_t_seen v_t_seed v_t_cases v_t_printedSize v_t_lastReason N r_t_finds r_t_page p1 p2 p3 ru14 hu14) (cwV 3 hts gX7_isSo_X7_hasLike rfl rfl rfl hdX7_hasLike ⟨Nat.le_of_ble_eq_true rfl, Nat.le_of_ble_eq_true rfl⟩) (pn_preV [0, 2, 3] hP (hD.addr rfl) hK rfl rfl (q0 := 0) (ci := 6) rfl rfl) rfl rfl hl.1 rfl (lv_room (Nat.le_of_ble_eq_true rfl)) dX7_isSo_99 ⟨Nat.zero_le _, Nat.zero_le _⟩) hP (hD.addr rfl) hS hA rfl rfl rfl (fun H locs (hP : va_P D vwCl [(a_t, .inr (6, [.int v_t_thrown, .ref a_t_text, .int v_t_textSize, .int v_t_place, .ref a_t_readPage, .ref a_t_page, .ref a_t_trial, .ref a_t_work, .ref a_t_book, .int v_t_doings, .ref a_t_kept, .ref a_t_isKept, .int v_t_seen, .ref a_t_seenWhat, .ref a_t_seenV, .ref a_t_seenIs, .long v_t_seed, .ref a_t_label, .ref a_t_finds, .ref a_t_reason, .ref a_t_caseFirst, .int v_t_cases, .ref a_t_brief, .ref a_t_printed, .int v_t_printedSize, .ref a_t_renamed, .ref a_t_worth, .int v_t_lastReason])), (a_t_caseFirst, .inl (cI, 32, .inl r_t_caseFirst)), (a_t_finds, .inl (cI, 32, .inl r_t_finds)), (a_t_page, .inl (cI, 265, .inl r_t_page))] H) _ hS => ?_)
        obtain ⟨hn15, hf⟩ := pn_bz_at hf
        cases hf
        rw [hQ]
        exact pn_retz hx hb hr hlocks hP hS rfl hn15 dX7_isSo_102
def lp_X7_which_50 (N : Nat) (v_t_seen : Int32) (r_t_page : Nat → Int32) (r_t_seenIs : Nat → Int32) (r_t_seenV : Nat → Int32) (r_t_seenWhat : Nat → Int32) (x4 : Int32) (r_t_caseFirst : Nat → Int32) (r_t_finds : Nat → Int32) : Nat → Int32 → Int32 → Option (Int32)
  | 0, _, _ => none
  | n + 1, x5, x6 =>
    if v_t_seen ≤ x6 then
  some x5
  else
  if x5 = 0 then
  pn_nm (x6 + (1 : Int32)) fun z3 =>
  lp_X7_which_50 N v_t_seen r_t_page r_t_seenIs r_t_seenV r_t_seenWhat x4 r_t_caseFirst r_t_finds n (0 : Int32) z3
  else
  pn_rd 6 r_t_seenWhat x6 fun w4 =>
  pn_rd 6 r_t_seenV x6 fun w6 =>
  pn_bd1 (f_X7_isSo N r_t_caseFirst r_t_finds r_t_page x4 w4 w6) fun ru8 =>
  pn_rd 6 r_t_seenIs x6 fun w9 =>
  if ¬ w9 = (1 : Int32) then
  if ¬ ru8 = (0 : Int32) then
  pn_nm (x6 + (1 : Int32)) fun z13 =>
  lp_X7_which_50 N v_t_seen r_t_page r_t_seenIs r_t_seenV r_t_seenWhat x4 r_t_caseFirst r_t_finds n (0 : Int32) z13
  else
  pn_nm (x6 + (1 : Int32)) fun z14 =>
  lp_X7_which_50 N v_t_seen r_t_page r_t_seenIs r_t_seenV r_t_seenWhat x4 r_t_caseFirst r_t_finds n (1 : Int32) z14
  else
  if ¬ ru8 = (1 : Int32) then
  pn_nm (x6 + (1 : Int32)) fun z16 =>
  lp_X7_which_50 N v_t_seen r_t_page r_t_seenIs r_t_seenV r_t_seenWhat x4 r_t_caseFirst r_t_finds n (0 : Int32) z16
  else
  pn_nm (x6 + (1 : Int32)) fun z17 =>
  lp_X7_which_50 N v_t_seen r_t_page r_t_seenIs r_t_seenV r_t_seenWhat x4 r_t_caseFirst r_t_finds n (1 : Int32) z17
def lp_X7_which_39 (N : Nat) (v_t_seen : Int32) (r_t_page : Nat → Int32) (r_t_seenIs : Nat → Int32) (r_t_seenV : Nat → Int32) (r_t_seenWhat : Nat → Int32) (r_t_caseFirst : Nat → Int32) (r_t_finds : Nat → Int32) : Nat → Int32 → Int32 → Int32 → Option (Int32 × Int32)
  | 0, _, _, _ => none
  | n + 1, x2, x3, x4 =>
    if x4 < 0 then
  some (x2, x3)
  else
  pn_bd1 (lp_X7_which_50 N v_t_seen r_t_page r_t_seenIs r_t_seenV r_t_seenWhat x4 r_t_caseFirst r_t_finds N (1 : Int32) (0 : Int32)) (fun X50 => (pn_u1 fun x5_w19 => if x5_w19 = 0 then
  pn_nm (x2 + (0 : Int32)) fun z21 =>
  if x5_w19 = 0 then
  pn_nm (x4 + (-1 : Int32)) fun z23 =>
  lp_X7_which_39 N v_t_seen r_t_page r_t_seenIs r_t_seenV r_t_seenWhat r_t_caseFirst r_t_finds n z21 x3 z23
  else
  pn_nm (x4 + (-1 : Int32)) fun z24 =>
  lp_X7_which_39 N v_t_seen r_t_page r_t_seenIs r_t_seenV r_t_seenWhat r_t_caseFirst r_t_finds n z21 x4 z24
  else
  pn_nm (x2 + (1 : Int32)) fun z25 =>
  if x5_w19 = 0 then
  pn_nm (x4 + (-1 : Int32)) fun z27 =>
  lp_X7_which_39 N v_t_seen r_t_page r_t_seenIs r_t_seenV r_t_seenWhat r_t_caseFirst r_t_finds n z25 x3 z27
  else
  pn_nm (x4 + (-1 : Int32)) fun z28 =>
  lp_X7_which_39 N v_t_seen r_t_page r_t_seenIs r_t_seenV r_t_seenWhat r_t_caseFirst r_t_finds n z25 x4 z28) X50)
def f_X7_which (N : Nat) (v_t_thrown : Int32) (v_t_seen : Int32) (v_t_cases : Int32) (v_t_lastReason : Int32) (r_t_caseFirst : Nat → Int32) (r_t_finds : Nat → Int32) (r_t_label : Nat → Int32) (r_t_page : Nat → Int32) (r_t_reason : Nat → Int32) (r_t_seenIs : Nat → Int32) (r_t_seenV : Nat → Int32) (r_t_seenWhat : Nat → Int32) (p1 : Int32) : Option (Int32 × Int32 × Int32 × Int32 × (Nat → Int32) × (Nat → Int32) × (Nat → Int32) × (Nat → Int32)) :=
  pn_bd1 (f_X7_in p1.toInt64 (0 : Int64) (1 : Int64)) fun ru29 =>
  if ¬ ru29 = 0 then
  pn_bd6 (f_X7_findAll N v_t_cases v_t_lastReason r_t_caseFirst r_t_finds r_t_label r_t_reason r_t_page) fun v_t_cases_u31 v_t_lastReason_u31 r_t_caseFirst_u31 r_t_finds_u31 r_t_label_u31 r_t_reason_u31 =>
  pn_nm (v_t_cases_u31 - (1 : Int32)) fun z32 =>
  pn_bd1 (lp_X7_which_39 N v_t_seen r_t_page r_t_seenIs r_t_seenV r_t_seenWhat r_t_caseFirst_u31 r_t_finds_u31 N (0 : Int32) (-9 : Int32) z32) (fun X39 => (pn_u2 fun x2_w33 x3_w33 => if ¬ p1 = 0 then
  some (x3_w33, (0 : Int32), v_t_cases_u31, v_t_lastReason_u31, r_t_caseFirst_u31, r_t_finds_u31, r_t_label_u31, r_t_reason_u31)
  else
  some (x2_w33, (0 : Int32), v_t_cases_u31, v_t_lastReason_u31, r_t_caseFirst_u31, r_t_finds_u31, r_t_label_u31, r_t_reason_u31)) X39)
  else
  some ((-2 : Int32), (0 : Int32), v_t_cases, v_t_lastReason, r_t_caseFirst, r_t_finds, r_t_label, r_t_reason)
set_option maxHeartbeats 4000000 in
set_option maxRecDepth 100000 in
theorem c_X7_which (l : Launch) (D : va_G) (cI cJ cZ : ClassId) (a_t a_t_text a_t_readPage a_t_page a_t_trial a_t_work a_t_book a_t_kept a_t_isKept a_t_seenWhat a_t_seenV a_t_seenIs a_t_label a_t_finds a_t_reason a_t_caseFirst a_t_brief a_t_printed a_t_renamed a_t_worth : Nat) (sz : Nat) (v_t_textSize : Int32) (v_t_place : Int32) (v_t_doings : Int32) (v_t_seed : Int64) (v_t_printedSize : Int32) (N : Nat) (v_t_thrown : Int32) (v_t_seen : Int32) (v_t_cases : Int32) (v_t_lastReason : Int32) (r_t_caseFirst : Nat → Int32) (r_t_finds : Nat → Int32) (r_t_label : Nat → Int32) (r_t_page : Nat → Int32) (r_t_reason : Nat → Int32) (r_t_seenIs : Nat → Int32) (r_t_seenV : Nat → Int32) (r_t_seenWhat : Nat → Int32) (p1 : Int32) (rR : Int32) (o_t_thrown : Int32) (o_t_cases : Int32) (o_t_lastReason : Int32) (o_t_caseFirst : Nat → Int32) (o_t_finds : Nat → Int32) (o_t_label : Nat → Int32) (o_t_reason : Nat → Int32) (hf : f_X7_which N v_t_thrown v_t_seen v_t_cases v_t_lastReason r_t_caseFirst r_t_finds r_t_label r_t_page r_t_reason r_t_seenIs r_t_seenV r_t_seenWhat p1 = some (rR, o_t_thrown, o_t_cases, o_t_lastReason, o_t_caseFirst, o_t_finds, o_t_label, o_t_reason)) : Met l yX7_which wsX7_which { frames := 7, cells := 0, slots := 0, locals := 168 } (pn_Pc D cI cJ cZ [.ref a_t, .int p1] [(a_t, .inr (6, [.int v_t_thrown, .ref a_t_text, .int v_t_textSize, .int v_t_place, .ref a_t_readPage, .ref a_t_page, .ref a_t_trial, .ref a_t_work, .ref a_t_book, .int v_t_doings, .ref a_t_kept, .ref a_t_isKept, .int v_t_seen, .ref a_t_seenWhat, .ref a_t_seenV, .ref a_t_seenIs, .long v_t_seed, .ref a_t_label, .ref a_t_finds, .ref a_t_reason, .ref a_t_caseFirst, .int v_t_cases, .ref a_t_brief, .ref a_t_printed, .int v_t_printedSize, .ref a_t_renamed, .ref a_t_worth, .int v_t_lastReason])), (a_t_caseFirst, .inl (cI, 32, .inl r_t_caseFirst)), (a_t_finds, .inl (cI, 32, .inl r_t_finds)), (a_t_label, .inl (cI, 32, .inl r_t_label)), (a_t_page, .inl (cI, 265, .inl r_t_page)), (a_t_reason, .inl (cI, 32, .inl r_t_reason)), (a_t_seenIs, .inl (cI, 6, .inl r_t_seenIs)), (a_t_seenV, .inl (cI, 6, .inl r_t_seenV)), (a_t_seenWhat, .inl (cI, 6, .inl r_t_seenWhat))] sz) (pn_Qi D rR [(a_t, .inr (6, [.int o_t_thrown, .ref a_t_text, .int v_t_textSize, .int v_t_place, .ref a_t_readPage, .ref a_t_page, .ref a_t_trial, .ref a_t_work, .ref a_t_book, .int v_t_doings, .ref a_t_kept, .ref a_t_isKept, .int v_t_seen, .ref a_t_seenWhat, .ref a_t_seenV, .ref a_t_seenIs, .long v_t_seed, .ref a_t_label, .ref a_t_finds, .ref a_t_reason, .ref a_t_caseFirst, .int o_t_cases, .ref a_t_brief, .ref a_t_printed, .int v_t_printedSize, .ref a_t_renamed, .ref a_t_worth, .int o_t_lastReason])), (a_t_caseFirst, .inl (cI, 32, .inl o_t_caseFirst)), (a_t_finds, .inl (cI, 32, .inl o_t_finds)), (a_t_label, .inl (cI, 32, .inl o_t_label)), (a_t_page, .inl (cI, 265, .inl r_t_page)), (a_t_reason, .inl (cI, 32, .inl o_t_reason)), (a_t_seenIs, .inl (cI, 6, .inl r_t_seenIs)), (a_t_seenV, .inl (cI, 6, .inl r_t_seenV)), (a_t_seenWhat, .inl (cI, 6, .inl r_t_seenWhat))] (va_A [(a_t, .inr (6, [.int v_t_thrown, .ref a_t_text, .int v_t_textSize, .int v_t_place, .ref a_t_readPage, .ref a_t_page, .ref a_t_trial, .ref a_t_work, .ref a_t_book, .int v_t_doings, .ref a_t_kept, .ref a_t_isKept, .int v_t_seen, .ref a_t_seenWhat, .ref a_t_seenV, .ref a_t_seenIs, .long v_t_seed, .ref a_t_label, .ref a_t_finds, .ref a_t_reason, .ref a_t_caseFirst, .int v_t_cases, .ref a_t_brief, .ref a_t_printed, .int v_t_printedSize, .ref a_t_renamed, .ref a_t_worth, .int v_t_lastReason])), (a_t_caseFirst, .inl (cI, 32, .inl r_t_caseFirst)), (a_t_finds, .inl (cI, 32, .inl r_t_finds)), (a_t_label, .inl (cI, 32, .inl r_t_label)), (a_t_page, .inl (cI, 265, .inl r_t_page)), (a_t_reason, .inl (cI, 32, .inl r_t_reason)), (a_t_seenIs, .inl (cI, 6, .inl r_t_seenIs)), (a_t_seenV, .inl (cI, 6, .inl r_t_seenV)), (a_t_seenWhat, .inl (cI, 6, .inl r_t_seenWhat))] sz)) 0 0 (va_A [(a_t, .inr (6, [.int v_t_thrown, .ref a_t_text, .int v_t_textSize, .int v_t_place, .ref a_t_readPage, .ref a_t_page, .ref a_t_trial, .ref a_t_work, .ref a_t_book, .int v_t_doings, .ref a_t_kept, .ref a_t_isKept, .int v_t_seen, .ref a_t_seenWhat, .ref a_t_seenV, .ref a_t_seenIs, .long v_t_seed, .ref a_t_label, .ref a_t_finds, .ref a_t_reason, .ref a_t_caseFirst, .int v_t_cases, .ref a_t_brief, .ref a_t_printed, .int v_t_printedSize, .ref a_t_renamed, .ref a_t_worth, .int v_t_lastReason])), (a_t_caseFirst, .inl (cI, 32, .inl r_t_caseFirst)), (a_t_finds, .inl (cI, 32, .inl r_t_finds)), (a_t_label, .inl (cI, 32, .inl r_t_label)), (a_t_page, .inl (cI, 265, .inl r_t_page)), (a_t_reason, .inl (cI, 32, .inl r_t_reason)), (a_t_seenIs, .inl (cI, 6, .inl r_t_seenIs)), (a_t_seenV, .inl (cI, 6, .inl r_t_seenV)), (a_t_seenWhat, .inl (cI, 6, .inl r_t_seenWhat))] sz) := by
  refine pn_entry (cc := cX7_which) (maxL := 7) (ret := (some .int)) (Qf := pn_Qi D rR [(a_t, .inr (6, [.int o_t_thrown, .ref a_t_text, .int v_t_textSize, .int v_t_place, .ref a_t_readPage, .ref a_t_page, .ref a_t_trial, .ref a_t_work, .ref a_t_book, .int v_t_doings, .ref a_t_kept, .ref a_t_isKept, .int v_t_seen, .ref a_t_seenWhat, .ref a_t_seenV, .ref a_t_seenIs, .long v_t_seed, .ref a_t_label, .ref a_t_finds, .ref a_t_reason, .ref a_t_caseFirst, .int o_t_cases, .ref a_t_brief, .ref a_t_printed, .int v_t_printedSize, .ref a_t_renamed, .ref a_t_worth, .int o_t_lastReason])), (a_t_caseFirst, .inl (cI, 32, .inl o_t_caseFirst)), (a_t_finds, .inl (cI, 32, .inl o_t_finds)), (a_t_label, .inl (cI, 32, .inl o_t_label)), (a_t_page, .inl (cI, 265, .inl r_t_page)), (a_t_reason, .inl (cI, 32, .inl o_t_reason)), (a_t_seenIs, .inl (cI, 6, .inl r_t_seenIs)), (a_t_seenV, .inl (cI, 6, .inl r_t_seenV)), (a_t_seenWhat, .inl (cI, 6, .inl r_t_seenWhat))]) (by decide) rfl (Nat.le_of_ble_eq_true rfl) ?_
  intro p e s m args below meth c A ls H locs Qm hQ hx hb hr hlocks hml hown hts hK hP hD hA hS hl
  have hl : lv_has ls 7 [(0, .ref a_t), (1, .int p1)] := hl
  have hinX7 : ∀ w ∈ wsX70, w ∈ wsX7_which := by decide +kernel
  have fl_16 := hts (.fieldLink RX7 16 "PointingNotesModel" "page" "[I") (by decide +kernel)
  have fl_35 := hts (.fieldLink RX7 35 "PointingNotesModel" "seenWhat" "[I") (by decide +kernel)
  have fl_38 := hts (.fieldLink RX7 38 "PointingNotesModel" "seenV" "[I") (by decide +kernel)
  have fl_41 := hts (.fieldLink RX7 41 "PointingNotesModel" "seenIs" "[I") (by decide +kernel)
  have fl_68 := hts (.fieldLink RX7 68 "PointingNotesModel" "thrown" "I") (by decide +kernel)
  have fl_152 := hts (.fieldLink RX7 152 "PointingNotesModel" "cases" "I") (by decide +kernel)
  have fl_304 := hts (.fieldLink RX7 304 "PointingNotesModel" "seen" "I") (by decide +kernel)
  rw [f_X7_which] at hf
  have lp50 : ∀ (n : Nat) (x2 : Int32) (x3 : Int32) (x4 : Int32) (x5 : Int32) (x6 : Int32) (v_t_thrown : Int32) (v_t_cases : Int32) (v_t_lastReason : Int32) (r_t_caseFirst : Nat → Int32) (r_t_finds : Nat → Int32) (r_t_label : Nat → Int32) (r_t_reason : Nat → Int32) (X : Int32) (H : Heap) (locs : List Loc) (ls : Array Slot), lp_X7_which_50 N v_t_seen r_t_page r_t_seenIs r_t_seenV r_t_seenWhat x4 r_t_caseFirst r_t_finds n x5 x6 = some X → va_P D vwCl [(a_t, .inr (6, [.int v_t_thrown, .ref a_t_text, .int v_t_textSize, .int v_t_place, .ref a_t_readPage, .ref a_t_page, .ref a_t_trial, .ref a_t_work, .ref a_t_book, .int v_t_doings, .ref a_t_kept, .ref a_t_isKept, .int v_t_seen, .ref a_t_seenWhat, .ref a_t_seenV, .ref a_t_seenIs, .long v_t_seed, .ref a_t_label, .ref a_t_finds, .ref a_t_reason, .ref a_t_caseFirst, .int v_t_cases, .ref a_t_brief, .ref a_t_printed, .int v_t_printedSize, .ref a_t_renamed, .ref a_t_worth, .int v_t_lastReason])), (a_t_caseFirst, .inl (cI, 32, .inl r_t_caseFirst)), (a_t_finds, .inl (cI, 32, .inl r_t_finds)), (a_t_label, .inl (cI, 32, .inl r_t_label)), (a_t_page, .inl (cI, 265, .inl r_t_page)), (a_t_reason, .inl (cI, 32, .inl r_t_reason)), (a_t_seenIs, .inl (cI, 6, .inl r_t_seenIs)), (a_t_seenV, .inl (cI, 6, .inl r_t_seenV)), (a_t_seenWhat, .inl (cI, 6, .inl r_t_seenWhat))] H → va_S A s.heap H locs → lv_has ls 7 [(0, .ref a_t), (1, .int p1), (2, .int x2), (3, .int x3), (4, .int x4), (5, .int x5), (6, .int x6)] → (∀ (y5 : Int32)  (H : Heap) (locs : List Loc) (ls : Array Slot), X = y5 → va_P D vwCl [(a_t, .inr (6, [.int v_t_thrown, .ref a_t_text, .int v_t_textSize, .int v_t_place, .ref a_t_readPage, .ref a_t_page, .ref a_t_trial, .ref a_t_work, .ref a_t_book, .int v_t_doings, .ref a_t_kept, .ref a_t_isKept, .int v_t_seen, .ref a_t_seenWhat, .ref a_t_seenV, .ref a_t_seenIs, .long v_t_seed, .ref a_t_label, .ref a_t_finds, .ref a_t_reason, .ref a_t_caseFirst, .int v_t_cases, .ref a_t_brief, .ref a_t_printed, .int v_t_printedSize, .ref a_t_renamed, .ref a_t_worth, .int v_t_lastReason])), (a_t_caseFirst, .inl (cI, 32, .inl r_t_caseFirst)), (a_t_finds, .inl (cI, 32, .inl r_t_finds)), (a_t_label, .inl (cI, 32, .inl r_t_label)), (a_t_page, .inl (cI, 265, .inl r_t_page)), (a_t_reason, .inl (cI, 32, .inl r_t_reason)), (a_t_seenIs, .inl (cI, 6, .inl r_t_seenIs)), (a_t_seenV, .inl (cI, 6, .inl r_t_seenV)), (a_t_seenWhat, .inl (cI, 6, .inl r_t_seenWhat))] H → va_S A s.heap H locs → lv_has ls 7 [(0, .ref a_t), (1, .int p1), (2, .int x2), (3, .int x3), (4, .int x4), (5, .int y5)] → W p l e { frames := 7, cells := 0, slots := 0, locals := 168 } s m args below meth c H locs 0 0 Qm (F0 m 116 ls [])) → W p l e { frames := 7, cells := 0, slots := 0, locals := 168 } s m args below meth c H locs 0 0 Qm (F0 m 50 ls []) := by
    intro n
    induction n with
    | zero => intro x2 x3 x4 x5 x6 v_t_thrown v_t_cases v_t_lastReason r_t_caseFirst r_t_finds r_t_label r_t_reason X H locs ls hf; cases hf
    | succ n ih =>
      intro x2 x3 x4 x5 x6 v_t_thrown v_t_cases v_t_lastReason r_t_caseFirst r_t_finds r_t_label r_t_reason X H locs ls hf hP hS hl kx116
      rw [lp_X7_which_50] at hf
      refine lv_iload hx hb dX7_which_50 (lv_at hl 6 rfl) ?_
      refine lv_aload_n hx hb dX7_which_52 rfl (lv_at hl 0 rfl) ?_
      refine va_get (D := D) (ci := 6) (v := .int v_t_seen) (C := RX7) (T := TX7) (N := 28) hx hb hts hinX7 hown hK.1 hP 0 rfl rfl 12 (by decide) fl_304 (fun _ h9 => h9) rfl dX7_which_53 ?_
      refine lv_icmp_ge (tgt := 116) hx hb dX7_which_56 (by decide) (fun c1 => ?_) (fun c1 => ?_)
      · have hf := pn_ifp c1 hf
        exact kx116 x5 H locs ls (Option.some.inj hf).symm hP hS (lv_sub hl [0, 1, 2, 3, 4, 5] rfl)
      · have hf := pn_ifn c1 hf
        refine lv_iload hx hb dX7_which_59 (lv_at hl 5 rfl) ?_
        refine lv_if_eq (tgt := 107) hx hb dX7_which_61 (by decide) (fun c2 => ?_) (fun c2 => ?_)
        · have hf := pn_ifp c2 hf
          refine lv_iconst (v := (0)) hx hb dX7_which_107 (by decide) ?_
          refine lv_istore (lv' := [(5, .int (0 : Int32)), (0, .ref a_t), (1, .int p1), (2, .int x2), (3, .int x3), (4, .int x4), (6, .int x6)]) hx hb dX7_which_108 hl (by decide) rfl (fun ls hl => ?_)
          obtain ⟨z3, ez3⟩ : ∃ y : Int32, y = x6 + (1) := ⟨_, rfl⟩
          have hf := pn_nm_at ez3 hf
          refine lv_iinc (v := z3) (lv' := [(6, .int z3), (5, .int (0 : Int32)), (0, .ref a_t), (1, .int p1), (2, .int x2), (3, .int x3), (4, .int x4)]) hx hb dX7_which_110 hl (k := 6) rfl (by rw [ez3]; rfl) (by decide) rfl (fun ls hl => ?_)
          refine lv_goto (tgt := 50) hx hb dX7_which_113 (by decide) ?_
          exact ih x2 x3 x4 (0 : Int32) z3 v_t_thrown v_t_cases v_t_lastReason r_t_caseFirst r_t_finds r_t_label r_t_reason X H locs ls hf hP hS (lv_sub hl [2, 3, 4, 5, 6, 1, 0] rfl) kx116
        · have hf := pn_ifn c2 hf
          refine lv_aload_n hx hb dX7_which_64 rfl (lv_at hl 0 rfl) ?_
          refine lv_iload hx hb dX7_which_65 (lv_at hl 4 rfl) ?_
          refine lv_aload_n hx hb dX7_which_67 rfl (lv_at hl 0 rfl) ?_
          refine va_get (D := D) (ci := 6) (v := .ref a_t_seenWhat) (C := RX7) (T := TX7) (N := 28) hx hb hts hinX7 hown hK.1 hP 0 rfl rfl 13 (by decide) fl_35 (fun _ h9 => h9) rfl dX7_which_68 ?_
          refine lv_iload hx hb dX7_which_71 (lv_at hl 6 rfl) ?_
          obtain ⟨hi5, w4, ew4, hf⟩ := pn_rd_at hf
          refine pn_ldI hx hb hK.1 hP 8 0 rfl rfl hi5 ew4 dX7_which_73 ?_
          refine lv_aload_n hx hb dX7_which_74 rfl (lv_at hl 0 rfl) ?_
          refine va_get (D := D) (ci := 6) (v := .ref a_t_seenV) (C := RX7) (T := TX7) (N := 28) hx hb hts hinX7 hown hK.1 hP 0 rfl rfl 14 (by decide) fl_38 (fun _ h9 => h9) rfl dX7_which_75 ?_
          refine lv_iload hx hb dX7_which_78 (lv_at hl 6 rfl) ?_
          obtain ⟨hi7, w6, ew6, hf⟩ := pn_rd_at hf
          refine pn_ldI hx hb hK.1 hP 7 0 rfl rfl hi7 ew6 dX7_which_80 ?_
          obtain ⟨ru8, hu8, hf⟩ := pn_bd1_at hf
          refine pn_calli [0, 1, 2, 4] (va_runV (As := [.int x4, .int w4, .int w6]) (rest := []) ⟨hx, hb, hml, hown, hts⟩ (c_X7_isSo l D cI cJ cZ a_t a_t_text a_t_readPage a_t_page a_t_trial a_t_work a_t_book a_t_kept a_t_isKept a_t_seenWhat a_t_seenV a_t_seenIs a_t_label a_t_finds a_t_reason a_t_caseFirst a_t_brief a_t_printed a_t_renamed a_t_worth H.size v_t_thrown v_t_textSize v_t_place v_t_doings v_t_seen v_t_seed v_t_cases v_t_printedSize v_t_lastReason N r_t_caseFirst r_t_finds r_t_page x4 w4 w6 ru8 hu8) (cwV 3 hts gX7_which_X7_isSo rfl rfl rfl hdX7_isSo ⟨Nat.le_of_ble_eq_true rfl, Nat.le_of_ble_eq_true rfl⟩) (pn_preV [0, 1, 2, 4] hP (hD.addr rfl) hK rfl rfl (q0 := 0) (ci := 6) rfl rfl) rfl rfl hl.1 rfl (lv_room (Nat.le_of_ble_eq_true rfl)) dX7_which_81 ⟨Nat.zero_le _, Nat.zero_le _⟩) hP (hD.addr rfl) hS hA rfl rfl rfl (fun H locs (hP : va_P D vwCl [(a_t, .inr (6, [.int v_t_thrown, .ref a_t_text, .int v_t_textSize, .int v_t_place, .ref a_t_readPage, .ref a_t_page, .ref a_t_trial, .ref a_t_work, .ref a_t_book, .int v_t_doings, .ref a_t_kept, .ref a_t_isKept, .int v_t_seen, .ref a_t_seenWhat, .ref a_t_seenV, .ref a_t_seenIs, .long v_t_seed, .ref a_t_label, .ref a_t_finds, .ref a_t_reason, .ref a_t_caseFirst, .int v_t_cases, .ref a_t_brief, .ref a_t_printed, .int v_t_printedSize, .ref a_t_renamed, .ref a_t_worth, .int v_t_lastReason])), (a_t_caseFirst, .inl (cI, 32, .inl r_t_caseFirst)), (a_t_finds, .inl (cI, 32, .inl r_t_finds)), (a_t_label, .inl (cI, 32, .inl r_t_label)), (a_t_page, .inl (cI, 265, .inl r_t_page)), (a_t_reason, .inl (cI, 32, .inl r_t_reason)), (a_t_seenIs, .inl (cI, 6, .inl r_t_seenIs)), (a_t_seenV, .inl (cI, 6, .inl r_t_seenV)), (a_t_seenWhat, .inl (cI, 6, .inl r_t_seenWhat))] H) _ hS => ?_)
          refine lv_aload_n hx hb dX7_which_84 rfl (lv_at hl 0 rfl) ?_
          refine va_get (D := D) (ci := 6) (v := .ref a_t_seenIs) (C := RX7) (T := TX7) (N := 28) hx hb hts hinX7 hown hK.1 hP 0 rfl rfl 15 (by decide) fl_41 (fun _ h9 => h9) rfl dX7_which_85 ?_
          refine lv_iload hx hb dX7_which_88 (lv_at hl 6 rfl) ?_
          obtain ⟨hi10, w9, ew9, hf⟩ := pn_rd_at hf
          refine pn_ldI hx hb hK.1 hP 6 0 rfl rfl hi10 ew9 dX7_which_90 ?_
          refine lv_iconst (v := (1)) hx hb dX7_which_91 (by decide) ?_
          refine lv_icmp_ne (tgt := 99) hx hb dX7_which_92 (by decide) (fun c11 => ?_) (fun c11 => ?_)
          · have hf := pn_ifp c11 hf
            refine lv_iconst (v := (0)) hx hb dX7_which_99 (by decide) ?_
            refine lv_icmp_ne (tgt := 107) hx hb dX7_which_100 (by decide) (fun c12 => ?_) (fun c12 => ?_)
            · have hf := pn_ifp c12 hf
              refine lv_iconst (v := (0)) hx hb dX7_which_107 (by decide) ?_
              refine lv_istore (lv' := [(5, .int (0 : Int32)), (0, .ref a_t), (1, .int p1), (2, .int x2), (3, .int x3), (4, .int x4), (6, .int x6)]) hx hb dX7_which_108 hl (by decide) rfl (fun ls hl => ?_)
              obtain ⟨z13, ez13⟩ : ∃ y : Int32, y = x6 + (1) := ⟨_, rfl⟩
              have hf := pn_nm_at ez13 hf
              refine lv_iinc (v := z13) (lv' := [(6, .int z13), (5, .int (0 : Int32)), (0, .ref a_t), (1, .int p1), (2, .int x2), (3, .int x3), (4, .int x4)]) hx hb dX7_which_110 hl (k := 6) rfl (by rw [ez13]; rfl) (by decide) rfl (fun ls hl => ?_)
              refine lv_goto (tgt := 50) hx hb dX7_which_113 (by decide) ?_
              exact ih x2 x3 x4 (0 : Int32) z13 v_t_thrown v_t_cases v_t_lastReason r_t_caseFirst r_t_finds r_t_label r_t_reason X H locs ls hf hP hS (lv_sub hl [2, 3, 4, 5, 6, 1, 0] rfl) kx116
            · have hf := pn_ifq c12 hf
              refine lv_iconst (v := (1)) hx hb dX7_which_103 (by decide) ?_
              refine lv_goto (tgt := 108) hx hb dX7_which_104 (by decide) ?_
              refine lv_istore (lv' := [(5, .int (1 : Int32)), (0, .ref a_t), (1, .int p1), (2, .int x2), (3, .int x3), (4, .int x4), (6, .int x6)]) hx hb dX7_which_108 hl (by decide) rfl (fun ls hl => ?_)
              obtain ⟨z14, ez14⟩ : ∃ y : Int32, y = x6 + (1) := ⟨_, rfl⟩
              have hf := pn_nm_at ez14 hf
              refine lv_iinc (v := z14) (lv' := [(6, .int z14), (5, .int (1 : Int32)), (0, .ref a_t), (1, .int p1), (2, .int x2), (3, .int x3), (4, .int x4)]) hx hb dX7_which_110 hl (k := 6) rfl (by rw [ez14]; rfl) (by decide) rfl (fun ls hl => ?_)
              refine lv_goto (tgt := 50) hx hb dX7_which_113 (by decide) ?_
              exact ih x2 x3 x4 (1 : Int32) z14 v_t_thrown v_t_cases v_t_lastReason r_t_caseFirst r_t_finds r_t_label r_t_reason X H locs ls hf hP hS (lv_sub hl [2, 3, 4, 5, 6, 1, 0] rfl) kx116
          · have hf := pn_ifq c11 hf
            refine lv_iconst (v := (1)) hx hb dX7_which_95 (by decide) ?_
            refine lv_goto (tgt := 100) hx hb dX7_which_96 (by decide) ?_
            refine lv_icmp_ne (tgt := 107) hx hb dX7_which_100 (by decide) (fun c15 => ?_) (fun c15 => ?_)
            · have hf := pn_ifp c15 hf
              refine lv_iconst (v := (0)) hx hb dX7_which_107 (by decide) ?_
              refine lv_istore (lv' := [(5, .int (0 : Int32)), (0, .ref a_t), (1, .int p1), (2, .int x2), (3, .int x3), (4, .int x4), (6, .int x6)]) hx hb dX7_which_108 hl (by decide) rfl (fun ls hl => ?_)
              obtain ⟨z16, ez16⟩ : ∃ y : Int32, y = x6 + (1) := ⟨_, rfl⟩
              have hf := pn_nm_at ez16 hf
              refine lv_iinc (v := z16) (lv' := [(6, .int z16), (5, .int (0 : Int32)), (0, .ref a_t), (1, .int p1), (2, .int x2), (3, .int x3), (4, .int x4)]) hx hb dX7_which_110 hl (k := 6) rfl (by rw [ez16]; rfl) (by decide) rfl (fun ls hl => ?_)
              refine lv_goto (tgt := 50) hx hb dX7_which_113 (by decide) ?_
              exact ih x2 x3 x4 (0 : Int32) z16 v_t_thrown v_t_cases v_t_lastReason r_t_caseFirst r_t_finds r_t_label r_t_reason X H locs ls hf hP hS (lv_sub hl [2, 3, 4, 5, 6, 1, 0] rfl) kx116
            · have hf := pn_ifq c15 hf
              refine lv_iconst (v := (1)) hx hb dX7_which_103 (by decide) ?_
              refine lv_goto (tgt := 108) hx hb dX7_which_104 (by decide) ?_
              refine lv_istore (lv' := [(5, .int (1 : Int32)), (0, .ref a_t), (1, .int p1), (2, .int x2), (3, .int x3), (4, .int x4), (6, .int x6)]) hx hb dX7_which_108 hl (by decide) rfl (fun ls hl => ?_)
              obtain ⟨z17, ez17⟩ : ∃ y : Int32, y = x6 + (1) := ⟨_, rfl⟩
              have hf := pn_nm_at ez17 hf
              refine lv_iinc (v := z17) (lv' := [(6, .int z17), (5, .int (1 : Int32)), (0, .ref a_t), (1, .int p1), (2, .int x2), (3, .int x3), (4, .int x4)]) hx hb dX7_which_110 hl (k := 6) rfl (by rw [ez17]; rfl) (by decide) rfl (fun ls hl => ?_)
              refine lv_goto (tgt := 50) hx hb dX7_which_113 (by decide) ?_
              exact ih x2 x3 x4 (1 : Int32) z17 v_t_thrown v_t_cases v_t_lastReason r_t_caseFirst r_t_finds r_t_label r_t_reason X H locs ls hf hP hS (lv_sub hl [2, 3, 4, 5, 6, 1, 0] rfl) kx116
  have lp39 : ∀ (n : Nat) (x2 : Int32) (x3 : Int32) (x4 : Int32) (v_t_thrown : Int32) (v_t_cases : Int32) (v_t_lastReason : Int32) (r_t_caseFirst : Nat → Int32) (r_t_finds : Nat → Int32) (r_t_label : Nat → Int32) (r_t_reason : Nat → Int32) (X : Int32 × Int32) (H : Heap) (locs : List Loc) (ls : Array Slot), lp_X7_which_39 N v_t_seen r_t_page r_t_seenIs r_t_seenV r_t_seenWhat r_t_caseFirst r_t_finds n x2 x3 x4 = some X → va_P D vwCl [(a_t, .inr (6, [.int v_t_thrown, .ref a_t_text, .int v_t_textSize, .int v_t_place, .ref a_t_readPage, .ref a_t_page, .ref a_t_trial, .ref a_t_work, .ref a_t_book, .int v_t_doings, .ref a_t_kept, .ref a_t_isKept, .int v_t_seen, .ref a_t_seenWhat, .ref a_t_seenV, .ref a_t_seenIs, .long v_t_seed, .ref a_t_label, .ref a_t_finds, .ref a_t_reason, .ref a_t_caseFirst, .int v_t_cases, .ref a_t_brief, .ref a_t_printed, .int v_t_printedSize, .ref a_t_renamed, .ref a_t_worth, .int v_t_lastReason])), (a_t_caseFirst, .inl (cI, 32, .inl r_t_caseFirst)), (a_t_finds, .inl (cI, 32, .inl r_t_finds)), (a_t_label, .inl (cI, 32, .inl r_t_label)), (a_t_page, .inl (cI, 265, .inl r_t_page)), (a_t_reason, .inl (cI, 32, .inl r_t_reason)), (a_t_seenIs, .inl (cI, 6, .inl r_t_seenIs)), (a_t_seenV, .inl (cI, 6, .inl r_t_seenV)), (a_t_seenWhat, .inl (cI, 6, .inl r_t_seenWhat))] H → va_S A s.heap H locs → lv_has ls 7 [(0, .ref a_t), (1, .int p1), (2, .int x2), (3, .int x3), (4, .int x4)] → (∀ (y2 : Int32) (y3 : Int32)  (H : Heap) (locs : List Loc) (ls : Array Slot), X = (y2, y3) → va_P D vwCl [(a_t, .inr (6, [.int v_t_thrown, .ref a_t_text, .int v_t_textSize, .int v_t_place, .ref a_t_readPage, .ref a_t_page, .ref a_t_trial, .ref a_t_work, .ref a_t_book, .int v_t_doings, .ref a_t_kept, .ref a_t_isKept, .int v_t_seen, .ref a_t_seenWhat, .ref a_t_seenV, .ref a_t_seenIs, .long v_t_seed, .ref a_t_label, .ref a_t_finds, .ref a_t_reason, .ref a_t_caseFirst, .int v_t_cases, .ref a_t_brief, .ref a_t_printed, .int v_t_printedSize, .ref a_t_renamed, .ref a_t_worth, .int v_t_lastReason])), (a_t_caseFirst, .inl (cI, 32, .inl r_t_caseFirst)), (a_t_finds, .inl (cI, 32, .inl r_t_finds)), (a_t_label, .inl (cI, 32, .inl r_t_label)), (a_t_page, .inl (cI, 265, .inl r_t_page)), (a_t_reason, .inl (cI, 32, .inl r_t_reason)), (a_t_seenIs, .inl (cI, 6, .inl r_t_seenIs)), (a_t_seenV, .inl (cI, 6, .inl r_t_seenV)), (a_t_seenWhat, .inl (cI, 6, .inl r_t_seenWhat))] H → va_S A s.heap H locs → lv_has ls 7 [(1, .int p1), (2, .int y2), (3, .int y3)] → W p l e { frames := 7, cells := 0, slots := 0, locals := 168 } s m args below meth c H locs 0 0 Qm (F0 m 147 ls [])) → W p l e { frames := 7, cells := 0, slots := 0, locals := 168 } s m args below meth c H locs 0 0 Qm (F0 m 39 ls []) := by
    intro n
    induction n with
    | zero => intro x2 x3 x4 v_t_thrown v_t_cases v_t_lastReason r_t_caseFirst r_t_finds r_t_label r_t_reason X H locs ls hf; cases hf
    | succ n ih =>
      intro x2 x3 x4 v_t_thrown v_t_cases v_t_lastReason r_t_caseFirst r_t_finds r_t_label r_t_reason X H locs ls hf hP hS hl kx147
      rw [lp_X7_which_39] at hf
      refine lv_iload hx hb dX7_which_39 (lv_at hl 4 rfl) ?_
      refine lv_if_lt (tgt := 147) hx hb dX7_which_41 (by decide) (fun c18 => ?_) (fun c18 => ?_)
      · have hf := pn_ifp c18 hf
        exact kx147 x2 x3 H locs ls (Option.some.inj hf).symm hP hS (lv_sub hl [1, 2, 3] rfl)
      · have hf := pn_ifn c18 hf
        refine lv_iconst (v := (1)) hx hb dX7_which_44 (by decide) ?_
        refine lv_istore (lv' := [(5, .int (1 : Int32)), (0, .ref a_t), (1, .int p1), (2, .int x2), (3, .int x3), (4, .int x4)]) hx hb dX7_which_45 hl (by decide) rfl (fun ls hl => ?_)
        refine lv_iconst (v := (0)) hx hb dX7_which_47 (by decide) ?_
        refine lv_istore (lv' := [(6, .int (0 : Int32)), (5, .int (1 : Int32)), (0, .ref a_t), (1, .int p1), (2, .int x2), (3, .int x3), (4, .int x4)]) hx hb dX7_which_48 hl (by decide) rfl (fun ls hl => ?_)
        obtain ⟨X50, hX50, hf⟩ := pn_bd1_at hf
        refine lp50 N x2 x3 x4 (1 : Int32) (0 : Int32) v_t_thrown v_t_cases v_t_lastReason r_t_caseFirst r_t_finds r_t_label r_t_reason X50 H locs ls hX50 hP hS (lv_sub hl [2, 3, 4, 5, 6, 1, 0] rfl) ?_
        · intro x5_w19 H locs ls eX hP hS hl
          rw [eX] at hf
          have hf := pn_u1_at hf
          refine lv_iload_n hx hb dX7_which_116 rfl (lv_at hl 2 rfl) ?_
          refine lv_iload hx hb dX7_which_117 (lv_at hl 5 rfl) ?_
          refine lv_if_eq (tgt := 126) hx hb dX7_which_119 (by decide) (fun c20 => ?_) (fun c20 => ?_)
          · have hf := pn_ifp c20 hf
            refine lv_iconst (v := (0)) hx hb dX7_which_126 (by decide) ?_
            refine lv_iadd hx hb dX7_which_127 ?_
            refine lv_topi (fun z21 ez21 => ?_)
            have hf := pn_nm_at ez21 hf
            refine lv_istore_n (lv' := [(2, .int z21), (0, .ref a_t), (1, .int p1), (3, .int x3), (4, .int x4), (5, .int x5_w19)]) hx hb dX7_which_128 rfl hl (by decide) rfl (fun ls hl => ?_)
            refine lv_iload hx hb dX7_which_129 (lv_at hl 5 rfl) ?_
            refine lv_if_eq (tgt := 139) hx hb dX7_which_131 (by decide) (fun c22 => ?_) (fun c22 => ?_)
            · have hf := pn_ifp c22 hf
              refine lv_iload_n hx hb dX7_which_139 rfl (lv_at hl 3 rfl) ?_
              refine lv_istore_n (lv' := [(3, .int x3), (2, .int z21), (0, .ref a_t), (1, .int p1), (4, .int x4), (5, .int x5_w19)]) hx hb dX7_which_140 rfl hl (by decide) rfl (fun ls hl => ?_)
              obtain ⟨z23, ez23⟩ : ∃ y : Int32, y = x4 + (-1) := ⟨_, rfl⟩
              have hf := pn_nm_at ez23 hf
              refine lv_iinc (v := z23) (lv' := [(4, .int z23), (3, .int x3), (2, .int z21), (0, .ref a_t), (1, .int p1), (5, .int x5_w19)]) hx hb dX7_which_141 hl (k := 4) rfl (by rw [ez23]; rfl) (by decide) rfl (fun ls hl => ?_)
              refine lv_goto (tgt := 39) hx hb dX7_which_144 (by decide) ?_
              exact ih z21 x3 z23 v_t_thrown v_t_cases v_t_lastReason r_t_caseFirst r_t_finds r_t_label r_t_reason X H locs ls hf hP hS (lv_sub hl [3, 4, 2, 1, 0] rfl) kx147
            · have hf := pn_ifn c22 hf
              refine lv_iload hx hb dX7_which_134 (lv_at hl 4 rfl) ?_
              refine lv_goto (tgt := 140) hx hb dX7_which_136 (by decide) ?_
              refine lv_istore_n (lv' := [(3, .int x4), (2, .int z21), (0, .ref a_t), (1, .int p1), (4, .int x4), (5, .int x5_w19)]) hx hb dX7_which_140 rfl hl (by decide) rfl (fun ls hl => ?_)
              obtain ⟨z24, ez24⟩ : ∃ y : Int32, y = x4 + (-1) := ⟨_, rfl⟩
              have hf := pn_nm_at ez24 hf
              refine lv_iinc (v := z24) (lv' := [(4, .int z24), (3, .int x4), (2, .int z21), (0, .ref a_t), (1, .int p1), (5, .int x5_w19)]) hx hb dX7_which_141 hl (k := 4) rfl (by rw [ez24]; rfl) (by decide) rfl (fun ls hl => ?_)
              refine lv_goto (tgt := 39) hx hb dX7_which_144 (by decide) ?_
              exact ih z21 x4 z24 v_t_thrown v_t_cases v_t_lastReason r_t_caseFirst r_t_finds r_t_label r_t_reason X H locs ls hf hP hS (lv_sub hl [3, 4, 2, 1, 0] rfl) kx147
          · have hf := pn_ifn c20 hf
            refine lv_iconst (v := (1)) hx hb dX7_which_122 (by decide) ?_
            refine lv_goto (tgt := 127) hx hb dX7_which_123 (by decide) ?_
            refine lv_iadd hx hb dX7_which_127 ?_
            refine lv_topi (fun z25 ez25 => ?_)
            have hf := pn_nm_at ez25 hf
            refine lv_istore_n (lv' := [(2, .int z25), (0, .ref a_t), (1, .int p1), (3, .int x3), (4, .int x4), (5, .int x5_w19)]) hx hb dX7_which_128 rfl hl (by decide) rfl (fun ls hl => ?_)
            refine lv_iload hx hb dX7_which_129 (lv_at hl 5 rfl) ?_
            refine lv_if_eq (tgt := 139) hx hb dX7_which_131 (by decide) (fun c26 => ?_) (fun c26 => ?_)
            · have hf := pn_ifp c26 hf
              refine lv_iload_n hx hb dX7_which_139 rfl (lv_at hl 3 rfl) ?_
              refine lv_istore_n (lv' := [(3, .int x3), (2, .int z25), (0, .ref a_t), (1, .int p1), (4, .int x4), (5, .int x5_w19)]) hx hb dX7_which_140 rfl hl (by decide) rfl (fun ls hl => ?_)
              obtain ⟨z27, ez27⟩ : ∃ y : Int32, y = x4 + (-1) := ⟨_, rfl⟩
              have hf := pn_nm_at ez27 hf
              refine lv_iinc (v := z27) (lv' := [(4, .int z27), (3, .int x3), (2, .int z25), (0, .ref a_t), (1, .int p1), (5, .int x5_w19)]) hx hb dX7_which_141 hl (k := 4) rfl (by rw [ez27]; rfl) (by decide) rfl (fun ls hl => ?_)
              refine lv_goto (tgt := 39) hx hb dX7_which_144 (by decide) ?_
              exact ih z25 x3 z27 v_t_thrown v_t_cases v_t_lastReason r_t_caseFirst r_t_finds r_t_label r_t_reason X H locs ls hf hP hS (lv_sub hl [3, 4, 2, 1, 0] rfl) kx147
            · have hf := pn_ifn c26 hf
              refine lv_iload hx hb dX7_which_134 (lv_at hl 4 rfl) ?_
              refine lv_goto (tgt := 140) hx hb dX7_which_136 (by decide) ?_
              refine lv_istore_n (lv' := [(3, .int x4), (2, .int z25), (0, .ref a_t), (1, .int p1), (4, .int x4), (5, .int x5_w19)]) hx hb dX7_which_140 rfl hl (by decide) rfl (fun ls hl => ?_)
              obtain ⟨z28, ez28⟩ : ∃ y : Int32, y = x4 + (-1) := ⟨_, rfl⟩
              have hf := pn_nm_at ez28 hf
              refine lv_iinc (v := z28) (lv' := [(4, .int z28), (3, .int x4), (2, .int z25), (0, .ref a_t), (1, .int p1), (5, .int x5_w19)]) hx hb dX7_which_141 hl (k := 4) rfl (by rw [ez28]; rfl) (by decide) rfl (fun ls hl => ?_)
              refine lv_goto (tgt := 39) hx hb dX7_which_144 (by decide) ?_
              exact ih z25 x4 z28 v_t_thrown v_t_cases v_t_lastReason r_t_caseFirst r_t_finds r_t_label r_t_reason X H locs ls hf hP hS (lv_sub hl [3, 4, 2, 1, 0] rfl) kx147
  refine lv_aload_n hx hb dX7_which_0 rfl (lv_at hl 0 rfl) ?_
  refine lv_iconst (v := (0)) hx hb dX7_which_1 (by decide) ?_
  refine va_put (D := D) (ci := 6) (v := .int (0 : Int32)) (ty := .int) (C := RX7) (T := TX7) (N := 28) hx hb hts hinX7 tyX7 tyX7_ok nmX7 hown hK.1 hP (hD.addr rfl) hS 0 rfl rfl 0 (by decide) fl_68 (fun _ h9 => h9) rfl (by decide +kernel) rfl rfl (Nat.le_of_ble_eq_true rfl) dX7_which_2 (fun H locs (hP : va_P D vwCl [(a_t, .inr (6, [.int ((0 : Int32)), .ref a_t_text, .int v_t_textSize, .int v_t_place, .ref a_t_readPage, .ref a_t_page, .ref a_t_trial, .ref a_t_work, .ref a_t_book, .int v_t_doings, .ref a_t_kept, .ref a_t_isKept, .int v_t_seen, .ref a_t_seenWhat, .ref a_t_seenV, .ref a_t_seenIs, .long v_t_seed, .ref a_t_label, .ref a_t_finds, .ref a_t_reason, .ref a_t_caseFirst, .int v_t_cases, .ref a_t_brief, .ref a_t_printed, .int v_t_printedSize, .ref a_t_renamed, .ref a_t_worth, .int v_t_lastReason])), (a_t_caseFirst, .inl (cI, 32, .inl r_t_caseFirst)), (a_t_finds, .inl (cI, 32, .inl r_t_finds)), (a_t_label, .inl (cI, 32, .inl r_t_label)), (a_t_page, .inl (cI, 265, .inl r_t_page)), (a_t_reason, .inl (cI, 32, .inl r_t_reason)), (a_t_seenIs, .inl (cI, 6, .inl r_t_seenIs)), (a_t_seenV, .inl (cI, 6, .inl r_t_seenV)), (a_t_seenWhat, .inl (cI, 6, .inl r_t_seenWhat))] H) _ hS => ?_)
  refine lv_iload_n hx hb dX7_which_5 rfl (lv_at hl 1 rfl) ?_
  refine lv_i2l hx hb dX7_which_6 rfl ?_
  refine lv_lconst (v := 0) hx hb dX7_which_7 (by decide) ?_
  refine lv_lconst (v := 1) hx hb dX7_which_8 (by decide) ?_
  obtain ⟨ru29, hu29, hf⟩ := pn_bd1_at hf
  refine pn_calli [] (va_runS (As := [.long p1.toInt64, .long (0 : Int64), .long (1 : Int64)]) (rest := []) ⟨hx, hb, hml, hown, hts⟩ (c_X7_in l D cI cJ cZ H.size p1.toInt64 (0 : Int64) (1 : Int64) ru29 hu29) (va_cwS 3 hts gX7_which_X7_in rfl rfl rfl hdX7_in ⟨Nat.le_of_ble_eq_true rfl, Nat.le_of_ble_eq_true rfl⟩) (pn_preS [] hP (hD.addr rfl) hK rfl rfl) rfl rfl hl.1 rfl (lv_room (Nat.le_of_ble_eq_true rfl)) dX7_which_9 ⟨Nat.zero_le _, Nat.zero_le _⟩) hP (hD.addr rfl) hS hA rfl rfl rfl (fun H locs (hP : va_P D vwCl [(a_t, .inr (6, [.int ((0 : Int32)), .ref a_t_text, .int v_t_textSize, .int v_t_place, .ref a_t_readPage, .ref a_t_page, .ref a_t_trial, .ref a_t_work, .ref a_t_book, .int v_t_doings, .ref a_t_kept, .ref a_t_isKept, .int v_t_seen, .ref a_t_seenWhat, .ref a_t_seenV, .ref a_t_seenIs, .long v_t_seed, .ref a_t_label, .ref a_t_finds, .ref a_t_reason, .ref a_t_caseFirst, .int v_t_cases, .ref a_t_brief, .ref a_t_printed, .int v_t_printedSize, .ref a_t_renamed, .ref a_t_worth, .int v_t_lastReason])), (a_t_caseFirst, .inl (cI, 32, .inl r_t_caseFirst)), (a_t_finds, .inl (cI, 32, .inl r_t_finds)), (a_t_label, .inl (cI, 32, .inl r_t_label)), (a_t_page, .inl (cI, 265, .inl r_t_page)), (a_t_reason, .inl (cI, 32, .inl r_t_reason)), (a_t_seenIs, .inl (cI, 6, .inl r_t_seenIs)), (a_t_seenV, .inl (cI, 6, .inl r_t_seenV)), (a_t_seenWhat, .inl (cI, 6, .inl r_t_seenWhat))] H) _ hS => ?_)
  refine lv_if_ne (tgt := 18) hx hb dX7_which_12 (by decide) (fun c30 => ?_) (fun c30 => ?_)
  · have hf := pn_ifp c30 hf
    refine lv_aload_n hx hb dX7_which_18 rfl (lv_at hl 0 rfl) ?_
    refine lv_aload_n hx hb dX7_which_19 rfl (lv_at hl 0 rfl) ?_
    refine va_get (D := D) (ci := 6) (v := .ref a_t_page) (C := RX7) (T := TX7) (N := 28) hx hb hts hinX7 hown hK.1 hP 0 rfl rfl 5 (by decide) fl_16 (fun _ h9 => h9) rfl dX7_which_20 ?_
    obtain ⟨v_t_cases_u31, v_t_lastReason_u31, r_t_caseFirst_u31, r_t_finds_u31, r_t_label_u31, r_t_reason_u31, hu31, hf⟩ := pn_bd6_at hf
    refine pn_callv [0, 1, 2, 3, 5, 4] (va_runV (As := [.ref a_t_page]) (rest := []) ⟨hx, hb, hml, hown, hts⟩ (c_X7_findAll l D cI cJ cZ a_t a_t_text a_t_readPage a_t_page a_t_trial a_t_work a_t_book a_t_kept a_t_isKept a_t_seenWhat a_t_seenV a_t_seenIs a_t_label a_t_finds a_t_reason a_t_caseFirst a_t_brief a_t_printed a_t_renamed a_t_worth a_t_page H.size (0 : Int32) v_t_textSize v_t_place v_t_doings v_t_seen v_t_seed v_t_printedSize N v_t_cases v_t_lastReason r_t_caseFirst r_t_finds r_t_label r_t_reason r_t_page v_t_cases_u31 v_t_lastReason_u31 r_t_caseFirst_u31 r_t_finds_u31 r_t_label_u31 r_t_reason_u31 hu31) (cwV 1 hts gX7_which_X7_findAll rfl rfl rfl hdX7_findAll ⟨Nat.le_of_ble_eq_true rfl, Nat.le_of_ble_eq_true rfl⟩) (pn_preV [0, 1, 2, 3, 5, 4] hP (hD.addr rfl) hK rfl rfl (q0 := 0) (ci := 6) rfl rfl) rfl rfl hl.1 rfl (lv_room (Nat.le_of_ble_eq_true rfl)) dX7_which_23 ⟨Nat.zero_le _, Nat.zero_le _⟩) hP (hD.addr rfl) hS hA rfl rfl rfl (fun H locs (hP : va_P D vwCl [(a_t, .inr (6, [.int ((0 : Int32)), .ref a_t_text, .int v_t_textSize, .int v_t_place, .ref a_t_readPage, .ref a_t_page, .ref a_t_trial, .ref a_t_work, .ref a_t_book, .int v_t_doings, .ref a_t_kept, .ref a_t_isKept, .int v_t_seen, .ref a_t_seenWhat, .ref a_t_seenV, .ref a_t_seenIs, .long v_t_seed, .ref a_t_label, .ref a_t_finds, .ref a_t_reason, .ref a_t_caseFirst, .int v_t_cases_u31, .ref a_t_brief, .ref a_t_printed, .int v_t_printedSize, .ref a_t_renamed, .ref a_t_worth, .int v_t_lastReason_u31])), (a_t_caseFirst, .inl (cI, 32, .inl r_t_caseFirst_u31)), (a_t_finds, .inl (cI, 32, .inl r_t_finds_u31)), (a_t_label, .inl (cI, 32, .inl r_t_label_u31)), (a_t_page, .inl (cI, 265, .inl r_t_page)), (a_t_reason, .inl (cI, 32, .inl r_t_reason_u31)), (a_t_seenIs, .inl (cI, 6, .inl r_t_seenIs)), (a_t_seenV, .inl (cI, 6, .inl r_t_seenV)), (a_t_seenWhat, .inl (cI, 6, .inl r_t_seenWhat))] H) _ hS => ?_)
    refine lv_iconst (v := (0)) hx hb dX7_which_26 (by decide) ?_
    refine lv_istore_n (lv' := [(2, .int (0 : Int32)), (0, .ref a_t), (1, .int p1)]) hx hb dX7_which_27 rfl hl (by decide) rfl (fun ls hl => ?_)
    refine lv_bipush (v := (-9)) hx hb dX7_which_28 (by decide) ?_
    refine lv_istore_n (lv' := [(3, .int (-9 : Int32)), (2, .int (0 : Int32)), (0, .ref a_t), (1, .int p1)]) hx hb dX7_which_30 rfl hl (by decide) rfl (fun ls hl => ?_)
    refine lv_aload_n hx hb dX7_which_31 rfl (lv_at hl 2 rfl) ?_
    refine va_get (D := D) (ci := 6) (v := .int v_t_cases_u31) (C := RX7) (T := TX7) (N := 28) hx hb hts hinX7 hown hK.1 hP 0 rfl rfl 21 (by decide) fl_152 (fun _ h9 => h9) rfl dX7_which_32 ?_
    refine lv_iconst (v := (1)) hx hb dX7_which_35 (by decide) ?_
    refine lv_isub hx hb dX7_which_36 ?_
    refine lv_topi (fun z32 ez32 => ?_)
    have hf := pn_nm_at ez32 hf
    refine lv_istore (lv' := [(4, .int z32), (3, .int (-9 : Int32)), (2, .int (0 : Int32)), (0, .ref a_t), (1, .int p1)]) hx hb dX7_which_37 hl (by decide) rfl (fun ls hl => ?_)
    obtain ⟨X39, hX39, hf⟩ := pn_bd1_at hf
    refine lp39 N (0 : Int32) (-9 : Int32) z32 (0 : Int32) v_t_cases_u31 v_t_lastReason_u31 r_t_caseFirst_u31 r_t_finds_u31 r_t_label_u31 r_t_reason_u31 X39 H locs ls hX39 hP hS (lv_sub hl [3, 4, 2, 1, 0] rfl) ?_
    · intro x2_w33 x3_w33 H locs ls eX hP hS hl
      rw [eX] at hf
      have hf := pn_u2_at hf
      refine lv_iload_n hx hb dX7_which_147 rfl (lv_at hl 0 rfl) ?_
      refine lv_if_ne (tgt := 155) hx hb dX7_which_148 (by decide) (fun c34 => ?_) (fun c34 => ?_)
      · have hf := pn_ifp c34 hf
        refine lv_iload_n hx hb dX7_which_155 rfl (lv_at hl 2 rfl) ?_
        cases hf
        rw [hQ]
        exact pn_reti hx hb hr hlocks hP hS rfl dX7_which_156
      · have hf := pn_ifq c34 hf
        refine lv_iload_n hx hb dX7_which_151 rfl (lv_at hl 1 rfl) ?_
        refine lv_goto (tgt := 156) hx hb dX7_which_152 (by decide) ?_
        cases hf
        rw [hQ]
        exact pn_reti hx hb hr hlocks hP hS rfl dX7_which_156
  · have hf := pn_ifq c30 hf
    refine lv_bipush (v := (-2)) hx hb dX7_which_15 (by decide) ?_
    cases hf
    rw [hQ]
    exact pn_reti hx hb hr hlocks hP hS rfl dX7_which_17
def lp_X7_divisor_13  : Nat → Int32 → Int32 → Option (Int32)
  | 0, _, _ => none
  | n + 1, x2, x3 =>
    if x3 = 0 then
  some x2
  else
  pn_nz x3 <|
  pn_nm (x2 - x2 / x3 * x3) fun z3 =>
  lp_X7_divisor_13 n x3 z3
def f_X7_divisor (N : Nat) (p0 : Int32) (p1 : Int32) : Option (Int32) :=
  if 0 ≤ p0 then
  pn_bd1 (lp_X7_divisor_13  N p0 p1) (fun X13 => (pn_u1 fun x2_w5 => some x2_w5) X13)
  else
  pn_nm (-p0) fun z6 =>
  pn_bd1 (lp_X7_divisor_13  N z6 p1) (fun X13 => (pn_u1 fun x2_w7 => some x2_w7) X13)
set_option maxHeartbeats 4000000 in
set_option maxRecDepth 100000 in
theorem c_X7_divisor (l : Launch) (D : va_G) (cI cJ cZ : ClassId) (sz : Nat) (N : Nat) (p0 : Int32) (p1 : Int32) (rR : Int32) (hf : f_X7_divisor N p0 p1 = some rR) : Met l yX7_divisor wsX7_divisor { frames := 0, cells := 0, slots := 0, locals := 0 } (pn_Pc D cI cJ cZ [.int p0, .int p1] [] sz) (pn_Qi D rR [] (va_A [] sz)) 0 0 (va_A [] sz) := by
  refine pn_entry (cc := cX7_divisor) (maxL := 5) (ret := (some .int)) (Qf := pn_Qi D rR []) (by decide) rfl (Nat.le_of_ble_eq_true rfl) ?_
  intro p e s m args below meth c A ls H locs Qm hQ hx hb hr hlocks hml hown hts hK hP hD hA hS hl
  have hl : lv_has ls 5 [(0, .int p0), (1, .int p1)] := hl
  rw [f_X7_divisor] at hf
  have lp13 : ∀ (n : Nat) (x2 : Int32) (x3 : Int32) (X : Int32) (H : Heap) (locs : List Loc) (ls : Array Slot), lp_X7_divisor_13  n x2 x3 = some X → va_P D vwCl [] H → va_S A s.heap H locs → lv_has ls 5 [(2, .int x2), (3, .int x3)] → (∀ (y2 : Int32)  (H : Heap) (locs : List Loc) (ls : Array Slot), X = y2 → va_P D vwCl [] H → va_S A s.heap H locs → lv_has ls 5 [(2, .int y2)] → W p l e { frames := 0, cells := 0, slots := 0, locals := 0 } s m args below meth c H locs 0 0 Qm (F0 m 30 ls [])) → W p l e { frames := 0, cells := 0, slots := 0, locals := 0 } s m args below meth c H locs 0 0 Qm (F0 m 13 ls []) := by
    intro n
    induction n with
    | zero => intro x2 x3 X H locs ls hf; cases hf
    | succ n ih =>
      intro x2 x3 X H locs ls hf hP hS hl kx30
      rw [lp_X7_divisor_13] at hf
      refine lv_iload_n hx hb dX7_divisor_13 rfl (lv_at hl 1 rfl) ?_
      refine lv_if_eq (tgt := 30) hx hb dX7_divisor_14 (by decide) (fun c1 => ?_) (fun c1 => ?_)
      · have hf := pn_ifp c1 hf
        exact kx30 x2 H locs ls (Option.some.inj hf).symm hP hS (lv_sub hl [0] rfl)
      · have hf := pn_ifn c1 hf
        refine lv_iload_n hx hb dX7_divisor_17 rfl (lv_at hl 0 rfl) ?_
        refine lv_iload_n hx hb dX7_divisor_18 rfl (lv_at hl 1 rfl) ?_
        obtain ⟨hz2, hf⟩ := pn_nz_at hf
        refine lv_irem hx hb dX7_divisor_19 hz2 ?_
        refine lv_topi (fun z3 ez3 => ?_)
        have hf := pn_nm_at ez3 hf
        refine lv_istore (lv' := [(4, .int z3), (2, .int x2), (3, .int x3)]) hx hb dX7_divisor_20 hl (by decide) rfl (fun ls hl => ?_)
        refine lv_iload_n hx hb dX7_divisor_22 rfl (lv_at hl 2 rfl) ?_
        refine lv_istore_n (lv' := [(2, .int x3), (4, .int z3), (3, .int x3)]) hx hb dX7_divisor_23 rfl hl (by decide) rfl (fun ls hl => ?_)
        refine lv_iload hx hb dX7_divisor_24 (lv_at hl 1 rfl) ?_
        refine lv_istore_n (lv' := [(3, .int z3), (2, .int x3), (4, .int z3)]) hx hb dX7_divisor_26 rfl hl (by decide) rfl (fun ls hl => ?_)
        refine lv_goto (tgt := 13) hx hb dX7_divisor_27 (by decide) ?_
        exact ih x3 z3 X H locs ls hf hP hS (lv_sub hl [1, 0] rfl) kx30
  refine lv_iload_n hx hb dX7_divisor_0 rfl (lv_at hl 0 rfl) ?_
  refine lv_if_ge (tgt := 9) hx hb dX7_divisor_1 (by decide) (fun c4 => ?_) (fun c4 => ?_)
  · have hf := pn_ifp c4 hf
    refine lv_iload_n hx hb dX7_divisor_9 rfl (lv_at hl 0 rfl) ?_
    refine lv_istore_n (lv' := [(2, .int p0), (0, .int p0), (1, .int p1)]) hx hb dX7_divisor_10 rfl hl (by decide) rfl (fun ls hl => ?_)
    refine lv_iload_n hx hb dX7_divisor_11 rfl (lv_at hl 2 rfl) ?_
    refine lv_istore_n (lv' := [(3, .int p1), (2, .int p0), (0, .int p0), (1, .int p1)]) hx hb dX7_divisor_12 rfl hl (by decide) rfl (fun ls hl => ?_)
    obtain ⟨X13, hX13, hf⟩ := pn_bd1_at hf
    refine lp13 N p0 p1 X13 H locs ls hX13 hP hS (lv_sub hl [1, 0] rfl) ?_
    · intro x2_w5 H locs ls eX hP hS hl
      rw [eX] at hf
      have hf := pn_u1_at hf
      refine lv_iload_n hx hb dX7_divisor_30 rfl (lv_at hl 0 rfl) ?_
      cases hf
      rw [hQ]
      exact pn_reti hx hb hr hlocks hP hS rfl dX7_divisor_31
  · have hf := pn_ifn c4 hf
    refine lv_iload_n hx hb dX7_divisor_4 rfl (lv_at hl 0 rfl) ?_
    refine lv_ineg hx hb dX7_divisor_5 ?_
    refine lv_goto (tgt := 10) hx hb dX7_divisor_6 (by decide) ?_
    refine lv_topi (fun z6 ez6 => ?_)
    have hf := pn_nm_at ez6 hf
    refine lv_istore_n (lv' := [(2, .int z6), (0, .int p0), (1, .int p1)]) hx hb dX7_divisor_10 rfl hl (by decide) rfl (fun ls hl => ?_)
    refine lv_iload_n hx hb dX7_divisor_11 rfl (lv_at hl 2 rfl) ?_
    refine lv_istore_n (lv' := [(3, .int p1), (2, .int z6), (0, .int p0), (1, .int p1)]) hx hb dX7_divisor_12 rfl hl (by decide) rfl (fun ls hl => ?_)
    obtain ⟨X13, hX13, hf⟩ := pn_bd1_at hf
    refine lp13 N z6 p1 X13 H locs ls hX13 hP hS (lv_sub hl [1, 0] rfl) ?_
    · intro x2_w7 H locs ls eX hP hS hl
      rw [eX] at hf
      have hf := pn_u1_at hf
      refine lv_iload_n hx hb dX7_divisor_30 rfl (lv_at hl 0 rfl) ?_
      cases hf
      rw [hQ]
      exact pn_reti hx hb hr hlocks hP hS rfl dX7_divisor_31
def f_X7_fraction (N : Nat) (p0 : Int32) (p1 : Int32) (p2 : Int32) : Option (Int32) :=
  pn_bd1 (f_X7_divisor N p0 p1) fun ru1 =>
  if p2 = 0 then
  pn_nz ru1 <|
  some (p1 / ru1)
  else
  pn_nz ru1 <|
  some (p0 / ru1)
set_option maxHeartbeats 4000000 in
set_option maxRecDepth 100000 in
theorem c_X7_fraction (l : Launch) (D : va_G) (cI cJ cZ : ClassId) (sz : Nat) (N : Nat) (p0 : Int32) (p1 : Int32) (p2 : Int32) (rR : Int32) (hf : f_X7_fraction N p0 p1 p2 = some rR) : Met l yX7_fraction wsX7_fraction { frames := 1, cells := 0, slots := 0, locals := 24 } (pn_Pc D cI cJ cZ [.int p0, .int p1, .int p2] [] sz) (pn_Qi D rR [] (va_A [] sz)) 0 0 (va_A [] sz) := by
  refine pn_entry (cc := cX7_fraction) (maxL := 4) (ret := (some .int)) (Qf := pn_Qi D rR []) (by decide) rfl (Nat.le_of_ble_eq_true rfl) ?_
  intro p e s m args below meth c A ls H locs Qm hQ hx hb hr hlocks hml hown hts hK hP hD hA hS hl
  have hl : lv_has ls 4 [(0, .int p0), (1, .int p1), (2, .int p2)] := hl
  rw [f_X7_fraction] at hf
  refine lv_iload_n hx hb dX7_fraction_0 rfl (lv_at hl 0 rfl) ?_
  refine lv_iload_n hx hb dX7_fraction_1 rfl (lv_at hl 1 rfl) ?_
  obtain ⟨ru1, hu1, hf⟩ := pn_bd1_at hf
  refine pn_calli [] (va_runS (As := [.int p0, .int p1]) (rest := []) ⟨hx, hb, hml, hown, hts⟩ (c_X7_divisor l D cI cJ cZ H.size N p0 p1 ru1 hu1) (va_cwS 2 hts gX7_fraction_X7_divisor rfl rfl rfl hdX7_divisor ⟨Nat.le_of_ble_eq_true rfl, Nat.le_of_ble_eq_true rfl⟩) (pn_preS [] hP (hD.addr rfl) hK rfl rfl) rfl rfl hl.1 rfl (lv_room (Nat.le_of_ble_eq_true rfl)) dX7_fraction_2 ⟨Nat.zero_le _, Nat.zero_le _⟩) hP (hD.addr rfl) hS hA rfl rfl rfl (fun H locs (hP : va_P D vwCl [] H) _ hS => ?_)
  refine lv_istore_n (lv' := [(3, .int ru1), (0, .int p0), (1, .int p1), (2, .int p2)]) hx hb dX7_fraction_5 rfl hl (by decide) rfl (fun ls hl => ?_)
  refine lv_iload_n hx hb dX7_fraction_6 rfl (lv_at hl 3 rfl) ?_
  refine lv_if_eq (tgt := 16) hx hb dX7_fraction_7 (by decide) (fun c2 => ?_) (fun c2 => ?_)
  · have hf := pn_ifp c2 hf
    refine lv_iload_n hx hb dX7_fraction_16 rfl (lv_at hl 2 rfl) ?_
    refine lv_iload_n hx hb dX7_fraction_17 rfl (lv_at hl 0 rfl) ?_
    obtain ⟨hz3, hf⟩ := pn_nz_at hf
    refine lv_idiv hx hb dX7_fraction_18 hz3 ?_
    cases hf
    rw [hQ]
    exact pn_reti hx hb hr hlocks hP hS rfl dX7_fraction_19
  · have hf := pn_ifn c2 hf
    refine lv_iload_n hx hb dX7_fraction_10 rfl (lv_at hl 1 rfl) ?_
    refine lv_iload_n hx hb dX7_fraction_11 rfl (lv_at hl 0 rfl) ?_
    obtain ⟨hz4, hf⟩ := pn_nz_at hf
    refine lv_idiv hx hb dX7_fraction_12 hz4 ?_
    refine lv_goto (tgt := 19) hx hb dX7_fraction_13 (by decide) ?_
    cases hf
    rw [hQ]
    exact pn_reti hx hb hr hlocks hP hS rfl dX7_fraction_19
def lp_X7_factorial_4 (p0 : Int32) : Nat → Int32 → Int32 → Option (Int32)
  | 0, _, _ => none
  | n + 1, x1, x2 =>
    if p0 < x2 then
  some x1
  else
  pn_nm (x1 * x2) fun z2 =>
  pn_nm (x2 + (1 : Int32)) fun z3 =>
  lp_X7_factorial_4 p0 n z2 z3
def f_X7_factorial (N : Nat) (p0 : Int32) : Option (Int32) :=
  pn_bd1 (lp_X7_factorial_4 p0 N (1 : Int32) (2 : Int32)) (fun X4 => (pn_u1 fun x1_w4 => some x1_w4) X4)
set_option maxHeartbeats 4000000 in
set_option maxRecDepth 100000 in
theorem c_X7_factorial (l : Launch) (D : va_G) (cI cJ cZ : ClassId) (sz : Nat) (N : Nat) (p0 : Int32) (rR : Int32) (hf : f_X7_factorial N p0 = some rR) : Met l yX7_factorial wsX7_factorial { frames := 0, cells := 0, slots := 0, locals := 0 } (pn_Pc D cI cJ cZ [.int p0] [] sz) (pn_Qi D rR [] (va_A [] sz)) 0 0 (va_A [] sz) := by
  refine pn_entry (cc := cX7_factorial) (maxL := 3) (ret := (some .int)) (Qf := pn_Qi D rR []) (by decide) rfl (Nat.le_of_ble_eq_true rfl) ?_
  intro p e s m args below meth c A ls H locs Qm hQ hx hb hr hlocks hml hown hts hK hP hD hA hS hl
  have hl : lv_has ls 3 [(0, .int p0)] := hl
  rw [f_X7_factorial] at hf
  have lp4 : ∀ (n : Nat) (x1 : Int32) (x2 : Int32) (X : Int32) (H : Heap) (locs : List Loc) (ls : Array Slot), lp_X7_factorial_4 p0 n x1 x2 = some X → va_P D vwCl [] H → va_S A s.heap H locs → lv_has ls 3 [(0, .int p0), (1, .int x1), (2, .int x2)] → (∀ (y1 : Int32)  (H : Heap) (locs : List Loc) (ls : Array Slot), X = y1 → va_P D vwCl [] H → va_S A s.heap H locs → lv_has ls 3 [(1, .int y1)] → W p l e { frames := 0, cells := 0, slots := 0, locals := 0 } s m args below meth c H locs 0 0 Qm (F0 m 19 ls [])) → W p l e { frames := 0, cells := 0, slots := 0, locals := 0 } s m args below meth c H locs 0 0 Qm (F0 m 4 ls []) := by
    intro n
    induction n with
    | zero => intro x1 x2 X H locs ls hf; cases hf
    | succ n ih =>
      intro x1 x2 X H locs ls hf hP hS hl kx19
      rw [lp_X7_factorial_4] at hf
      refine lv_iload_n hx hb dX7_factorial_4 rfl (lv_at hl 2 rfl) ?_
      refine lv_iload_n hx hb dX7_factorial_5 rfl (lv_at hl 0 rfl) ?_
      refine lv_icmp_gt (tgt := 19) hx hb dX7_factorial_6 (by decide) (fun c1 => ?_) (fun c1 => ?_)
      · have hf := pn_ifp c1 hf
        exact kx19 x1 H locs ls (Option.some.inj hf).symm hP hS (lv_sub hl [1] rfl)
      · have hf := pn_ifn c1 hf
        refine lv_iload_n hx hb dX7_factorial_9 rfl (lv_at hl 1 rfl) ?_
        refine lv_iload_n hx hb dX7_factorial_10 rfl (lv_at hl 2 rfl) ?_
        refine lv_imul hx hb dX7_factorial_11 ?_
        refine lv_topi (fun z2 ez2 => ?_)
        have hf := pn_nm_at ez2 hf
        refine lv_istore_n (lv' := [(1, .int z2), (0, .int p0), (2, .int x2)]) hx hb dX7_factorial_12 rfl hl (by decide) rfl (fun ls hl => ?_)
        obtain ⟨z3, ez3⟩ : ∃ y : Int32, y = x2 + (1) := ⟨_, rfl⟩
        have hf := pn_nm_at ez3 hf
        refine lv_iinc (v := z3) (lv' := [(2, .int z3), (1, .int z2), (0, .int p0)]) hx hb dX7_factorial_13 hl (k := 2) rfl (by rw [ez3]; rfl) (by decide) rfl (fun ls hl => ?_)
        refine lv_goto (tgt := 4) hx hb dX7_factorial_16 (by decide) ?_
        exact ih z2 z3 X H locs ls hf hP hS (lv_sub hl [2, 1, 0] rfl) kx19
  refine lv_iconst (v := (1)) hx hb dX7_factorial_0 (by decide) ?_
  refine lv_istore_n (lv' := [(1, .int (1 : Int32)), (0, .int p0)]) hx hb dX7_factorial_1 rfl hl (by decide) rfl (fun ls hl => ?_)
  refine lv_iconst (v := (2)) hx hb dX7_factorial_2 (by decide) ?_
  refine lv_istore_n (lv' := [(2, .int (2 : Int32)), (1, .int (1 : Int32)), (0, .int p0)]) hx hb dX7_factorial_3 rfl hl (by decide) rfl (fun ls hl => ?_)
  obtain ⟨X4, hX4, hf⟩ := pn_bd1_at hf
  refine lp4 N (1 : Int32) (2 : Int32) X4 H locs ls hX4 hP hS (lv_sub hl [2, 1, 0] rfl) ?_
  · intro x1_w4 H locs ls eX hP hS hl
    rw [eX] at hf
    have hf := pn_u1_at hf
    refine lv_iload_n hx hb dX7_factorial_19 rfl (lv_at hl 0 rfl) ?_
    cases hf
    rw [hQ]
    exact pn_reti hx hb hr hlocks hP hS rfl dX7_factorial_20
def lp_X7_share_30 (N : Nat) (r_t_page : Nat → Int32) (x3 : Int32) : Nat → Int32 → Int32 → Int32 → (Nat → Int32) → (Nat → Int32) → (Nat → Int32) → (Nat → Int32) → (Nat → Int32) → Option (Int32 × Int32 × (Nat → Int32) × (Nat → Int32) × (Nat → Int32) × (Nat → Int32) × (Nat → Int32))
  | 0, _, _, _, _, _, _, _, _ => none
  | n + 1, x4, v_t_cases, v_t_lastReason, r_t_caseFirst, r_t_finds, r_t_label, r_t_reason, r_t_worth =>
    if ((1 : Int32) <<< (x3 &&& 31)) ≤ x4 then
  some (v_t_cases, v_t_lastReason, r_t_caseFirst, r_t_finds, r_t_label, r_t_reason, r_t_worth)
  else
  pn_bd6 (f_X7_find N v_t_cases v_t_lastReason r_t_caseFirst r_t_finds r_t_label r_t_reason r_t_page x4) fun v_t_cases_u2 v_t_lastReason_u2 r_t_caseFirst_u2 r_t_finds_u2 r_t_label_u2 r_t_reason_u2 =>
  pn_bd1 (f_X7_manyFound N r_t_finds_u2) fun ru3 =>
  pn_wrI 256 r_t_worth x4 ru3 fun g4 =>
  pn_nm (x4 + (1 : Int32)) fun z6 =>
  lp_X7_share_30 N r_t_page x3 n z6 v_t_cases_u2 v_t_lastReason_u2 r_t_caseFirst_u2 r_t_finds_u2 r_t_label_u2 r_t_reason_u2 g4
def lp_X7_share_71 (N : Nat) (p1 : Int32) (x3 : Int32) (r_t_worth : Nat → Int32) : Nat → Int32 → Int32 → Option (Int32)
  | 0, _, _ => none
  | n + 1, x4, x5 =>
    if ((1 : Int32) <<< (x3 &&& 31)) ≤ x5 then
  some x4
  else
  pn_bd1 (f_X7_ones N x5) fun ru8 =>
  pn_bd1 (f_X7_has x5 p1) fun ru9 =>
  if ru9 = 0 then
  pn_bd1 (f_X7_factorial N ru8) fun ru11 =>
  pn_bd1 (f_X7_factorial N ((x3 - (1 : Int32)) - ru8)) fun ru12 =>
  pn_rd 256 r_t_worth (x5 ||| ((1 : Int32) <<< (p1 &&& 31))) fun w13 =>
  pn_rd 256 r_t_worth x5 fun w15 =>
  pn_nm (x4 + ((ru11 * ru12) * (w13 - w15))) fun z17 =>
  pn_nm (x5 + (1 : Int32)) fun z18 =>
  lp_X7_share_71 N p1 x3 r_t_worth n z17 z18
  else
  pn_nm (x4 + (0 : Int32)) fun z19 =>
  pn_nm (x5 + (1 : Int32)) fun z20 =>
  lp_X7_share_71 N p1 x3 r_t_worth n z19 z20
def f_X7_share (N : Nat) (v_t_thrown : Int32) (v_t_cases : Int32) (v_t_lastReason : Int32) (r_t_caseFirst : Nat → Int32) (r_t_finds : Nat → Int32) (r_t_label : Nat → Int32) (r_t_page : Nat → Int32) (r_t_reason : Nat → Int32) (r_t_worth : Nat → Int32) (p1 : Int32) (p2 : Int32) : Option (Int32 × Int32 × Int32 × Int32 × (Nat → Int32) × (Nat → Int32) × (Nat → Int32) × (Nat → Int32) × (Nat → Int32)) :=
  pn_rd 265 r_t_page (0 : Int32) fun w21 =>
  pn_bd1 (f_X7_in p1.toInt64 (0 : Int64) ((w21 - (1 : Int32)).toInt64)) fun ru23 =>
  if ¬ ru23 = 0 then
  pn_bd1 (lp_X7_share_30 N r_t_page w21 N (0 : Int32) v_t_cases v_t_lastReason r_t_caseFirst r_t_finds r_t_label r_t_reason r_t_worth) (fun X30 => (pn_u7 fun v_t_cases_w25 v_t_lastReason_w25 r_t_caseFirst_w25 r_t_finds_w25 r_t_label_w25 r_t_reason_w25 r_t_worth_w25 => pn_bd1 (lp_X7_share_71 N p1 w21 r_t_worth_w25 N (0 : Int32) (0 : Int32)) (fun X71 => (pn_u1 fun x4_w26 => pn_bd1 (f_X7_factorial N w21) fun ru27 =>
  pn_bd1 (f_X7_fraction N x4_w26 ru27 p2) fun ru28 =>
  some (ru28, (0 : Int32), v_t_cases_w25, v_t_lastReason_w25, r_t_caseFirst_w25, r_t_finds_w25, r_t_label_w25, r_t_reason_w25, r_t_worth_w25)) X71)) X30)
  else
  some ((-1 : Int32), (0 : Int32), v_t_cases, v_t_lastReason, r_t_caseFirst, r_t_finds, r_t_label, r_t_reason, r_t_worth)
set_option maxHeartbeats 4000000 in
set_option maxRecDepth 100000 in
theorem c_X7_share (l : Launch) (D : va_G) (cI cJ cZ : ClassId) (a_t a_t_text a_t_readPage a_t_page a_t_trial a_t_work a_t_book a_t_kept a_t_isKept a_t_seenWhat a_t_seenV a_t_seenIs a_t_label a_t_finds a_t_reason a_t_caseFirst a_t_brief a_t_printed a_t_renamed a_t_worth : Nat) (sz : Nat) (v_t_textSize : Int32) (v_t_place : Int32) (v_t_doings : Int32) (v_t_seen : Int32) (v_t_seed : Int64) (v_t_printedSize : Int32) (N : Nat) (v_t_thrown : Int32) (v_t_cases : Int32) (v_t_lastReason : Int32) (r_t_caseFirst : Nat → Int32) (r_t_finds : Nat → Int32) (r_t_label : Nat → Int32) (r_t_page : Nat → Int32) (r_t_reason : Nat → Int32) (r_t_worth : Nat → Int32) (p1 : Int32) (p2 : Int32) (rR : Int32) (o_t_thrown : Int32) (o_t_cases : Int32) (o_t_lastReason : Int32) (o_t_caseFirst : Nat → Int32) (o_t_finds : Nat → Int32) (o_t_label : Nat → Int32) (o_t_reason : Nat → Int32) (o_t_worth : Nat → Int32) (hf : f_X7_share N v_t_thrown v_t_cases v_t_lastReason r_t_caseFirst r_t_finds r_t_label r_t_page r_t_reason r_t_worth p1 p2 = some (rR, o_t_thrown, o_t_cases, o_t_lastReason, o_t_caseFirst, o_t_finds, o_t_label, o_t_reason, o_t_worth)) : Met l yX7_share wsX7_share { frames := 6, cells := 0, slots := 0, locals := 147 } (pn_Pc D cI cJ cZ [.ref a_t, .int p1, .int p2] [(a_t, .inr (6, [.int v_t_thrown, .ref a_t_text, .int v_t_textSize, .int v_t_place, .ref a_t_readPage, .ref a_t_page, .ref a_t_trial, .ref a_t_work, .ref a_t_book, .int v_t_doings, .ref a_t_kept, .ref a_t_isKept, .int v_t_seen, .ref a_t_seenWhat, .ref a_t_seenV, .ref a_t_seenIs, .long v_t_seed, .ref a_t_label, .ref a_t_finds, .ref a_t_reason, .ref a_t_caseFirst, .int v_t_cases, .ref a_t_brief, .ref a_t_printed, .int v_t_printedSize, .ref a_t_renamed, .ref a_t_worth, .int v_t_lastReason])), (a_t_caseFirst, .inl (cI, 32, .inl r_t_caseFirst)), (a_t_finds, .inl (cI, 32, .inl r_t_finds)), (a_t_label, .inl (cI, 32, .inl r_t_label)), (a_t_page, .inl (cI, 265, .inl r_t_page)), (a_t_reason, .inl (cI, 32, .inl r_t_reason)), (a_t_worth, .inl (cI, 256, .inl r_t_worth))] sz) (pn_Qi D rR [(a_t, .inr (6, [.int o_t_thrown, .ref a_t_text, .int v_t_textSize, .int v_t_place, .ref a_t_readPage, .ref a_t_page, .ref a_t_trial, .ref a_t_work, .ref a_t_book, .int v_t_doings, .ref a_t_kept, .ref a_t_isKept, .int v_t_seen, .ref a_t_seenWhat, .ref a_t_seenV, .ref a_t_seenIs, .long v_t_seed, .ref a_t_label, .ref a_t_finds, .ref a_t_reason, .ref a_t_caseFirst, .int o_t_cases, .ref a_t_brief, .ref a_t_printed, .int v_t_printedSize, .ref a_t_renamed, .ref a_t_worth, .int o_t_lastReason])), (a_t_caseFirst, .inl (cI, 32, .inl o_t_caseFirst)), (a_t_finds, .inl (cI, 32, .inl o_t_finds)), (a_t_label, .inl (cI, 32, .inl o_t_label)), (a_t_page, .inl (cI, 265, .inl r_t_page)), (a_t_reason, .inl (cI, 32, .inl o_t_reason)), (a_t_worth, .inl (cI, 256, .inl o_t_worth))] (va_A [(a_t, .inr (6, [.int v_t_thrown, .ref a_t_text, .int v_t_textSize, .int v_t_place, .ref a_t_readPage, .ref a_t_page, .ref a_t_trial, .ref a_t_work, .ref a_t_book, .int v_t_doings, .ref a_t_kept, .ref a_t_isKept, .int v_t_seen, .ref a_t_seenWhat, .ref a_t_seenV, .ref a_t_seenIs, .long v_t_seed, .ref a_t_label, .ref a_t_finds, .ref a_t_reason, .ref a_t_caseFirst, .int v_t_cases, .ref a_t_brief, .ref a_t_printed, .int v_t_printedSize, .ref a_t_renamed, .ref a_t_worth, .int v_t_lastReason])), (a_t_caseFirst, .inl (cI, 32, .inl r_t_caseFirst)), (a_t_finds, .inl (cI, 32, .inl r_t_finds)), (a_t_label, .inl (cI, 32, .inl r_t_label)), (a_t_page, .inl (cI, 265, .inl r_t_page)), (a_t_reason, .inl (cI, 32, .inl r_t_reason)), (a_t_worth, .inl (cI, 256, .inl r_t_worth))] sz)) 0 0 (va_A [(a_t, .inr (6, [.int v_t_thrown, .ref a_t_text, .int v_t_textSize, .int v_t_place, .ref a_t_readPage, .ref a_t_page, .ref a_t_trial, .ref a_t_work, .ref a_t_book, .int v_t_doings, .ref a_t_kept, .ref a_t_isKept, .int v_t_seen, .ref a_t_seenWhat, .ref a_t_seenV, .ref a_t_seenIs, .long v_t_seed, .ref a_t_label, .ref a_t_finds, .ref a_t_reason, .ref a_t_caseFirst, .int v_t_cases, .ref a_t_brief, .ref a_t_printed, .int v_t_printedSize, .ref a_t_renamed, .ref a_t_worth, .int v_t_lastReason])), (a_t_caseFirst, .inl (cI, 32, .inl r_t_caseFirst)), (a_t_finds, .inl (cI, 32, .inl r_t_finds)), (a_t_label, .inl (cI, 32, .inl r_t_label)), (a_t_page, .inl (cI, 265, .inl r_t_page)), (a_t_reason, .inl (cI, 32, .inl r_t_reason)), (a_t_worth, .inl (cI, 256, .inl r_t_worth))] sz) := by
  refine pn_entry (cc := cX7_share) (maxL := 7) (ret := (some .int)) (Qf := pn_Qi D rR [(a_t, .inr (6, [.int o_t_thrown, .ref a_t_text, .int v_t_textSize, .int v_t_place, .ref a_t_readPage, .ref a_t_page, .ref a_t_trial, .ref a_t_work, .ref a_t_book, .int v_t_doings, .ref a_t_kept, .ref a_t_isKept, .int v_t_seen, .ref a_t_seenWhat, .ref a_t_seenV, .ref a_t_seenIs, .long v_t_seed, .ref a_t_label, .ref a_t_finds, .ref a_t_reason, .ref a_t_caseFirst, .int o_t_cases, .ref a_t_brief, .ref a_t_printed, .int v_t_printedSize, .ref a_t_renamed, .ref a_t_worth, .int o_t_lastReason])), (a_t_caseFirst, .inl (cI, 32, .inl o_t_caseFirst)), (a_t_finds, .inl (cI, 32, .inl o_t_finds)), (a_t_label, .inl (cI, 32, .inl o_t_label)), (a_t_page, .inl (cI, 265, .inl r_t_page)), (a_t_reason, .inl (cI, 32, .inl o_t_reason)), (a_t_worth, .inl (cI, 256, .inl o_t_worth))]) (by decide) rfl (Nat.le_of_ble_eq_true rfl) ?_
  intro p e s m args below meth c A ls H locs Qm hQ hx hb hr hlocks hml hown hts hK hP hD hA hS hl
  have hl : lv_has ls 7 [(0, .ref a_t), (1, .int p1), (2, .int p2)] := hl
  have hinX7 : ∀ w ∈ wsX70, w ∈ wsX7_share := by decide +kernel
  have fl_16 := hts (.fieldLink RX7 16 "PointingNotesModel" "page" "[I") (by decide +kernel)
  have fl_65 := hts (.fieldLink RX7 65 "PointingNotesModel" "worth" "[I") (by decide +kernel)
  have fl_68 := hts (.fieldLink RX7 68 "PointingNotesModel" "thrown" "I") (by decide +kernel)
  rw [f_X7_share] at hf
  have lp30 : ∀ (n : Nat) (x3 : Int32) (x4 : Int32) (v_t_thrown : Int32) (v_t_cases : Int32) (v_t_lastReason : Int32) (r_t_caseFirst : Nat → Int32) (r_t_finds : Nat → Int32) (r_t_label : Nat → Int32) (r_t_reason : Nat → Int32) (r_t_worth : Nat → Int32) (X : Int32 × Int32 × (Nat → Int32) × (Nat → Int32) × (Nat → Int32) × (Nat → Int32) × (Nat → Int32)) (H : Heap) (locs : List Loc) (ls : Array Slot), lp_X7_share_30 N r_t_page x3 n x4 v_t_cases v_t_lastReason r_t_caseFirst r_t_finds r_t_label r_t_reason r_t_worth = some X → va_P D vwCl [(a_t, .inr (6, [.int v_t_thrown, .ref a_t_text, .int v_t_textSize, .int v_t_place, .ref a_t_readPage, .ref a_t_page, .ref a_t_trial, .ref a_t_work, .ref a_t_book, .int v_t_doings, .ref a_t_kept, .ref a_t_isKept, .int v_t_seen, .ref a_t_seenWhat, .ref a_t_seenV, .ref a_t_seenIs, .long v_t_seed, .ref a_t_label, .ref a_t_finds, .ref a_t_reason, .ref a_t_caseFirst, .int v_t_cases, .ref a_t_brief, .ref a_t_printed, .int v_t_printedSize, .ref a_t_renamed, .ref a_t_worth, .int v_t_lastReason])), (a_t_caseFirst, .inl (cI, 32, .inl r_t_caseFirst)), (a_t_finds, .inl (cI, 32, .inl r_t_finds)), (a_t_label, .inl (cI, 32, .inl r_t_label)), (a_t_page, .inl (cI, 265, .inl r_t_page)), (a_t_reason, .inl (cI, 32, .inl r_t_reason)), (a_t_worth, .inl (cI, 256, .inl r_t_worth))] H → va_S A s.heap H locs → lv_has ls 7 [(0, .ref a_t), (1, .int p1), (2, .int p2), (3, .int x3), (4, .int x4)] → (∀  (v_t_cases' : Int32) (v_t_lastReason' : Int32) (r_t_caseFirst' : Nat → Int32) (r_t_finds' : Nat → Int32) (r_t_label' : Nat → Int32) (r_t_reason' : Nat → Int32) (r_t_worth' : Nat → Int32) (H : Heap) (locs : List Loc) (ls : Array Slot), X = (v_t_cases', v_t_lastReason', r_t_caseFirst', r_t_finds', r_t_label', r_t_reason', r_t_worth') → va_P D vwCl [(a_t, .inr (6, [.int v_t_thrown, .ref a_t_text, .int v_t_textSize, .int v_t_place, .ref a_t_readPage, .ref a_t_page, .ref a_t_trial, .ref a_t_work, .ref a_t_book, .int v_t_doings, .ref a_t_kept, .ref a_t_isKept, .int v_t_seen, .ref a_t_seenWhat, .ref a_t_seenV, .ref a_t_seenIs, .long v_t_seed, .ref a_t_label, .ref a_t_finds, .ref a_t_reason, .ref a_t_caseFirst, .int (v_t_cases'), .ref a_t_brief, .ref a_t_printed, .int v_t_printedSize, .ref a_t_renamed, .ref a_t_worth, .int (v_t_lastReason')])), (a_t_caseFirst, .inl (cI, 32, .inl (r_t_caseFirst'))), (a_t_finds, .inl (cI, 32, .inl (r_t_finds'))), (a_t_label, .inl (cI, 32, .inl (r_t_label'))), (a_t_page, .inl (cI, 265, .inl r_t_page)), (a_t_reason, .inl (cI, 32, .inl (r_t_reason'))), (a_t_worth, .inl (cI, 256, .inl (r_t_worth')))] H → va_S A s.heap H locs → lv_has ls 7 [(0, .ref a_t), (1, .int p1), (2, .int p2), (3, .int x3)] → W p l e { frames := 6, cells := 0, slots := 0, locals := 147 } s m args below meth c H locs 0 0 Qm (F0 m 65 ls [])) → W p l e { frames := 6, cells := 0, slots := 0, locals := 147 } s m args below meth c H locs 0 0 Qm (F0 m 30 ls []) := by
    intro n
    induction n with
    | zero => intro x3 x4 v_t_thrown v_t_cases v_t_lastReason r_t_caseFirst r_t_finds r_t_label r_t_reason r_t_worth X H locs ls hf; cases hf
    | succ n ih =>
      intro x3 x4 v_t_thrown v_t_cases v_t_lastReason r_t_caseFirst r_t_finds r_t_label r_t_reason r_t_worth X H locs ls hf hP hS hl kx65
      rw [lp_X7_share_30] at hf
      refine lv_iload hx hb dX7_share_30 (lv_at hl 4 rfl) ?_
      refine lv_iconst (v := (1)) hx hb dX7_share_32 (by decide) ?_
      refine lv_iload_n hx hb dX7_share_33 rfl (lv_at hl 3 rfl) ?_
      refine lv_ishl hx hb dX7_share_34 ?_
      refine lv_icmp_ge (tgt := 65) hx hb dX7_share_35 (by decide) (fun c1 => ?_) (fun c1 => ?_)
      · have hf := pn_ifp c1 hf
        exact kx65 v_t_cases v_t_lastReason r_t_caseFirst r_t_finds r_t_label r_t_reason r_t_worth H locs ls (Option.some.inj hf).symm hP hS (lv_sub hl [0, 1, 2, 3] rfl)
      · have hf := pn_ifn c1 hf
        refine lv_aload_n hx hb dX7_share_38 rfl (lv_at hl 0 rfl) ?_
        refine lv_aload_n hx hb dX7_share_39 rfl (lv_at hl 0 rfl) ?_
        refine va_get (D := D) (ci := 6) (v := .ref a_t_page) (C := RX7) (T := TX7) (N := 28) hx hb hts hinX7 hown hK.1 hP 0 rfl rfl 5 (by decide) fl_16 (fun _ h9 => h9) rfl dX7_share_40 ?_
        refine lv_iload hx hb dX7_share_43 (lv_at hl 4 rfl) ?_
        obtain ⟨v_t_cases_u2, v_t_lastReason_u2, r_t_caseFirst_u2, r_t_finds_u2, r_t_label_u2, r_t_reason_u2, hu2, hf⟩ := pn_bd6_at hf
        refine pn_callv [0, 1, 2, 3, 5, 4] (va_runV (As := [.ref a_t_page, .int x4]) (rest := []) ⟨hx, hb, hml, hown, hts⟩ (c_X7_find l D cI cJ cZ a_t a_t_text a_t_readPage a_t_page a_t_trial a_t_work a_t_book a_t_kept a_t_isKept a_t_seenWhat a_t_seenV a_t_seenIs a_t_label a_t_finds a_t_reason a_t_caseFirst a_t_brief a_t_printed a_t_renamed a_t_worth a_t_page H.size v_t_thrown v_t_textSize v_t_place v_t_doings v_t_seen v_t_seed v_t_printedSize N v_t_cases v_t_lastReason r_t_caseFirst r_t_finds r_t_label r_t_reason r_t_page x4 v_t_cases_u2 v_t_lastReason_u2 r_t_caseFirst_u2 r_t_finds_u2 r_t_label_u2 r_t_reason_u2 hu2) (cwV 2 hts gX7_share_X7_find rfl rfl rfl hdX7_find ⟨Nat.le_of_ble_eq_true rfl, Nat.le_of_ble_eq_true rfl⟩) (pn_preV [0, 1, 2, 3, 5, 4] hP (hD.addr rfl) hK rfl rfl (q0 := 0) (ci := 6) rfl rfl) rfl rfl hl.1 rfl (lv_room (Nat.le_of_ble_eq_true rfl)) dX7_share_45 ⟨Nat.zero_le _, Nat.zero_le _⟩) hP (hD.addr rfl) hS hA rfl rfl rfl (fun H locs (hP : va_P D vwCl [(a_t, .inr (6, [.int v_t_thrown, .ref a_t_text, .int v_t_textSize, .int v_t_place, .ref a_t_readPage, .ref a_t_page, .ref a_t_trial, .ref a_t_work, .ref a_t_book, .int v_t_doings, .ref a_t_kept, .ref a_t_isKept, .int v_t_seen, .ref a_t_seenWhat, .ref a_t_seenV, .ref a_t_seenIs, .long v_t_seed, .ref a_t_label, .ref a_t_finds, .ref a_t_reason, .ref a_t_caseFirst, .int v_t_cases_u2, .ref a_t_brief, .ref a_t_printed, .int v_t_printedSize, .ref a_t_renamed, .ref a_t_worth, .int v_t_lastReason_u2])), (a_t_caseFirst, .inl (cI, 32, .inl r_t_caseFirst_u2)), (a_t_finds, .inl (cI, 32, .inl r_t_finds_u2)), (a_t_label, .inl (cI, 32, .inl r_t_label_u2)), (a_t_page, .inl (cI, 265, .inl r_t_page)), (a_t_reason, .inl (cI, 32, .inl r_t_reason_u2)), (a_t_worth, .inl (cI, 256, .inl r_t_worth))] H) _ hS => ?_)
        refine lv_aload_n hx hb dX7_share_48 rfl (lv_at hl 0 rfl) ?_
        refine va_get (D := D) (ci := 6) (v := .ref a_t_worth) (C := RX7) (T := TX7) (N := 28) hx hb hts hinX7 hown hK.1 hP 0 rfl rfl 26 (by decide) fl_65 (fun _ h9 => h9) rfl dX7_share_49 ?_
        refine lv_iload hx hb dX7_share_52 (lv_at hl 4 rfl) ?_
        refine lv_aload_n hx hb dX7_share_54 rfl (lv_at hl 0 rfl) ?_
        obtain ⟨ru3, hu3, hf⟩ := pn_bd1_at hf
        refine pn_calli [0, 2] (va_runV (As := []) (rest := [.int x4, .ref a_t_worth]) ⟨hx, hb, hml, hown, hts⟩ (c_X7_manyFound l D cI cJ cZ a_t a_t_text a_t_readPage a_t_page a_t_trial a_t_work a_t_book a_t_kept a_t_isKept a_t_seenWhat a_t_seenV a_t_seenIs a_t_label a_t_finds a_t_reason a_t_caseFirst a_t_brief a_t_printed a_t_renamed a_t_worth H.size v_t_thrown v_t_textSize v_t_place v_t_doings v_t_seen v_t_seed v_t_cases_u2 v_t_printedSize v_t_lastReason_u2 N r_t_finds_u2 ru3 hu3) (cwV 0 hts gX7_share_X7_manyFound rfl rfl rfl hdX7_manyFound ⟨Nat.le_of_ble_eq_true rfl, Nat.le_of_ble_eq_true rfl⟩) (pn_preV [0, 2] hP (hD.addr rfl) hK rfl rfl (q0 := 0) (ci := 6) rfl rfl) rfl rfl hl.1 rfl (lv_room (Nat.le_of_ble_eq_true rfl)) dX7_share_55 ⟨Nat.zero_le _, Nat.zero_le _⟩) hP (hD.addr rfl) hS hA rfl rfl rfl (fun H locs (hP : va_P D vwCl [(a_t, .inr (6, [.int v_t_thrown, .ref a_t_text, .int v_t_textSize, .int v_t_place, .ref a_t_readPage, .ref a_t_page, .ref a_t_trial, .ref a_t_work, .ref a_t_book, .int v_t_doings, .ref a_t_kept, .ref a_t_isKept, .int v_t_seen, .ref a_t_seenWhat, .ref a_t_seenV, .ref a_t_seenIs, .long v_t_seed, .ref a_t_label, .ref a_t_finds, .ref a_t_reason, .ref a_t_caseFirst, .int v_t_cases_u2, .ref a_t_brief, .ref a_t_printed, .int v_t_printedSize, .ref a_t_renamed, .ref a_t_worth, .int v_t_lastReason_u2])), (a_t_caseFirst, .inl (cI, 32, .inl r_t_caseFirst_u2)), (a_t_finds, .inl (cI, 32, .inl r_t_finds_u2)), (a_t_label, .inl (cI, 32, .inl r_t_label_u2)), (a_t_page, .inl (cI, 265, .inl r_t_page)), (a_t_reason, .inl (cI, 32, .inl r_t_reason_u2)), (a_t_worth, .inl (cI, 256, .inl r_t_worth))] H) _ hS => ?_)
        obtain ⟨hi5, g4, eg4, hf⟩ := pn_wrI_at hf
        refine pn_stI hx hb hK.1 hP (hD.addr rfl) hS 6 0 rfl rfl hi5 eg4 dX7_share_58 (fun H locs (hP : va_P D vwCl [(a_t, .inr (6, [.int v_t_thrown, .ref a_t_text, .int v_t_textSize, .int v_t_place, .ref a_t_readPage, .ref a_t_page, .ref a_t_trial, .ref a_t_work, .ref a_t_book, .int v_t_doings, .ref a_t_kept, .ref a_t_isKept, .int v_t_seen, .ref a_t_seenWhat, .ref a_t_seenV, .ref a_t_seenIs, .long v_t_seed, .ref a_t_label, .ref a_t_finds, .ref a_t_reason, .ref a_t_caseFirst, .int v_t_cases_u2, .ref a_t_brief, .ref a_t_printed, .int v_t_printedSize, .ref a_t_renamed, .ref a_t_worth, .int v_t_lastReason_u2])), (a_t_caseFirst, .inl (cI, 32, .inl r_t_caseFirst_u2)), (a_t_finds, .inl (cI, 32, .inl r_t_finds_u2)), (a_t_label, .inl (cI, 32, .inl r_t_label_u2)), (a_t_page, .inl (cI, 265, .inl r_t_page)), (a_t_reason, .inl (cI, 32, .inl r_t_reason_u2)), (a_t_worth, .inl (cI, 256, .inl g4))] H) _ hS => ?_)
        obtain ⟨z6, ez6⟩ : ∃ y : Int32, y = x4 + (1) := ⟨_, rfl⟩
        have hf := pn_nm_at ez6 hf
        refine lv_iinc (v := z6) (lv' := [(4, .int z6), (0, .ref a_t), (1, .int p1), (2, .int p2), (3, .int x3)]) hx hb dX7_share_59 hl (k := 4) rfl (by rw [ez6]; rfl) (by decide) rfl (fun ls hl => ?_)
        refine lv_goto (tgt := 30) hx hb dX7_share_62 (by decide) ?_
        exact ih x3 z6 v_t_thrown v_t_cases_u2 v_t_lastReason_u2 r_t_caseFirst_u2 r_t_finds_u2 r_t_label_u2 r_t_reason_u2 g4 X H locs ls hf hP hS (lv_sub hl [1, 2, 3, 4, 0] rfl) kx65
  have lp71 : ∀ (n : Nat) (x3 : Int32) (x4 : Int32) (x5 : Int32) (v_t_thrown : Int32) (v_t_cases : Int32) (v_t_lastReason : Int32) (r_t_caseFirst : Nat → Int32) (r_t_finds : Nat → Int32) (r_t_label : Nat → Int32) (r_t_reason : Nat → Int32) (r_t_worth : Nat → Int32) (X : Int32) (H : Heap) (locs : List Loc) (ls : Array Slot), lp_X7_share_71 N p1 x3 r_t_worth n x4 x5 = some X → va_P D vwCl [(a_t, .inr (6, [.int v_t_thrown, .ref a_t_text, .int v_t_textSize, .int v_t_place, .ref a_t_readPage, .ref a_t_page, .ref a_t_trial, .ref a_t_work, .ref a_t_book, .int v_t_doings, .ref a_t_kept, .ref a_t_isKept, .int v_t_seen, .ref a_t_seenWhat, .ref a_t_seenV, .ref a_t_seenIs, .long v_t_seed, .ref a_t_label, .ref a_t_finds, .ref a_t_reason, .ref a_t_caseFirst, .int v_t_cases, .ref a_t_brief, .ref a_t_printed, .int v_t_printedSize, .ref a_t_renamed, .ref a_t_worth, .int v_t_lastReason])), (a_t_caseFirst, .inl (cI, 32, .inl r_t_caseFirst)), (a_t_finds, .inl (cI, 32, .inl r_t_finds)), (a_t_label, .inl (cI, 32, .inl r_t_label)), (a_t_page, .inl (cI, 265, .inl r_t_page)), (a_t_reason, .inl (cI, 32, .inl r_t_reason)), (a_t_worth, .inl (cI, 256, .inl r_t_worth))] H → va_S A s.heap H locs → lv_has ls 7 [(0, .ref a_t), (1, .int p1), (2, .int p2), (3, .int x3), (4, .int x4), (5, .int x5)] → (∀ (y4 : Int32)  (H : Heap) (locs : List Loc) (ls : Array Slot), X = y4 → va_P D vwCl [(a_t, .inr (6, [.int v_t_thrown, .ref a_t_text, .int v_t_textSize, .int v_t_place, .ref a_t_readPage, .ref a_t_page, .ref a_t_trial, .ref a_t_work, .ref a_t_book, .int v_t_doings, .ref a_t_kept, .ref a_t_isKept, .int v_t_seen, .ref a_t_seenWhat, .ref a_t_seenV, .ref a_t_seenIs, .long v_t_seed, .ref a_t_label, .ref a_t_finds, .ref a_t_reason, .ref a_t_caseFirst, .int v_t_cases, .ref a_t_brief, .ref a_t_printed, .int v_t_printedSize, .ref a_t_renamed, .ref a_t_worth, .int v_t_lastReason])), (a_t_caseFirst, .inl (cI, 32, .inl r_t_caseFirst)), (a_t_finds, .inl (cI, 32, .inl r_t_finds)), (a_t_label, .inl (cI, 32, .inl r_t_label)), (a_t_page, .inl (cI, 265, .inl r_t_page)), (a_t_reason, .inl (cI, 32, .inl r_t_reason)), (a_t_worth, .inl (cI, 256, .inl r_t_worth))] H → va_S A s.heap H locs → lv_has ls 7 [(2, .int p2), (3, .int x3), (4, .int y4)] → W p l e { frames := 6, cells := 0, slots := 0, locals := 147 } s m args below meth c H locs 0 0 Qm (F0 m 145 ls [])) → W p l e { frames := 6, cells := 0, slots := 0, locals := 147 } s m args below meth c H locs 0 0 Qm (F0 m 71 ls []) := by
    intro n
    induction n with
    | zero => intro x3 x4 x5 v_t_thrown v_t_cases v_t_lastReason r_t_caseFirst r_t_finds r_t_label r_t_reason r_t_worth X H locs ls hf; cases hf
    | succ n ih =>
      intro x3 x4 x5 v_t_thrown v_t_cases v_t_lastReason r_t_caseFirst r_t_finds r_t_label r_t_reason r_t_worth X H locs ls hf hP hS hl kx145
      rw [lp_X7_share_71] at hf
      refine lv_iload hx hb dX7_share_71 (lv_at hl 5 rfl) ?_
      refine lv_iconst (v := (1)) hx hb dX7_share_73 (by decide) ?_
      refine lv_iload_n hx hb dX7_share_74 rfl (lv_at hl 3 rfl) ?_
      refine lv_ishl hx hb dX7_share_75 ?_
      refine lv_icmp_ge (tgt := 145) hx hb dX7_share_76 (by decide) (fun c7 => ?_) (fun c7 => ?_)
      · have hf := pn_ifp c7 hf
        exact kx145 x4 H locs ls (Option.some.inj hf).symm hP hS (lv_sub hl [2, 3, 4] rfl)
      · have hf := pn_ifn c7 hf
        refine lv_iload hx hb dX7_share_79 (lv_at hl 5 rfl) ?_
        obtain ⟨ru8, hu8, hf⟩ := pn_bd1_at hf
        refine pn_calli [] (va_runS (As := [.int x5]) (rest := []) ⟨hx, hb, hml, hown, hts⟩ (c_X7_ones l D cI cJ cZ H.size N x5 ru8 hu8) (va_cwS 1 hts gX7_share_X7_ones rfl rfl rfl hdX7_ones ⟨Nat.le_of_ble_eq_true rfl, Nat.le_of_ble_eq_true rfl⟩) (pn_preS [] hP (hD.addr rfl) hK rfl rfl) rfl rfl hl.1 rfl (lv_room (Nat.le_of_ble_eq_true rfl)) dX7_share_81 ⟨Nat.zero_le _, Nat.zero_le _⟩) hP (hD.addr rfl) hS hA rfl rfl rfl (fun H locs (hP : va_P D vwCl [(a_t, .inr (6, [.int v_t_thrown, .ref a_t_text, .int v_t_textSize, .int v_t_place, .ref a_t_readPage, .ref a_t_page, .ref a_t_trial, .ref a_t_work, .ref a_t_book, .int v_t_doings, .ref a_t_kept, .ref a_t_isKept, .int v_t_seen, .ref a_t_seenWhat, .ref a_t_seenV, .ref a_t_seenIs, .long v_t_seed, .ref a_t_label, .ref a_t_finds, .ref a_t_reason, .ref a_t_caseFirst, .int v_t_cases, .ref a_t_brief, .ref a_t_printed, .int v_t_printedSize, .ref a_t_renamed, .ref a_t_worth, .int v_t_lastReason])), (a_t_caseFirst, .inl (cI, 32, .inl r_t_caseFirst)), (a_t_finds, .inl (cI, 32, .inl r_t_finds)), (a_t_label, .inl (cI, 32, .inl r_t_label)), (a_t_page, .inl (cI, 265, .inl r_t_page)), (a_t_reason, .inl (cI, 32, .inl r_t_reason)), (a_t_worth, .inl (cI, 256, .inl r_t_worth))] H) _ hS => ?_)
        refine lv_istore (lv' := [(6, .int ru8), (0, .ref a_t), (1, .int p1), (2, .int p2), (3, .int x3), (4, .int x4), (5, .int x5)]) hx hb dX7_share_84 hl (by decide) rfl (fun ls hl => ?_)
        refine lv_iload hx hb dX7_share_86 (lv_at hl 5 rfl) ?_
        refine lv_iload hx hb dX7_share_88 (lv_at hl 6 rfl) ?_
        refine lv_iload_n hx hb dX7_share_90 rfl (lv_at hl 2 rfl) ?_
        obtain ⟨ru9, hu9, hf⟩ := pn_bd1_at hf
        refine pn_calli [] (va_runS (As := [.int x5, .int p1]) (rest := [.int x4]) ⟨hx, hb, hml, hown, hts⟩ (c_X7_has l D cI cJ cZ H.size x5 p1 ru9 hu9) (va_cwS 2 hts gX7_share_X7_has rfl rfl rfl hdX7_has ⟨Nat.le_of_ble_eq_true rfl, Nat.le_of_ble_eq_true rfl⟩) (pn_preS [] hP (hD.addr rfl) hK rfl rfl) rfl rfl hl.1 rfl (lv_room (Nat.le_of_ble_eq_true rfl)) dX7_share_91 ⟨Nat.zero_le _, Nat.zero_le _⟩) hP (hD.addr rfl) hS hA rfl rfl rfl (fun H locs (hP : va_P D vwCl [(a_t, .inr (6, [.int v_t_thrown, .ref a_t_text, .int v_t_textSize, .int v_t_place, .ref a_t_readPage, .ref a_t_page, .ref a_t_trial, .ref a_t_work, .ref a_t_book, .int v_t_doings, .ref a_t_kept, .ref a_t_isKept, .int v_t_seen, .ref a_t_seenWhat, .ref a_t_seenV, .ref a_t_seenIs, .long v_t_seed, .ref a_t_label, .ref a_t_finds, .ref a_t_reason, .ref a_t_caseFirst, .int v_t_cases, .ref a_t_brief, .ref a_t_printed, .int v_t_printedSize, .ref a_t_renamed, .ref a_t_worth, .int v_t_lastReason])), (a_t_caseFirst, .inl (cI, 32, .inl r_t_caseFirst)), (a_t_finds, .inl (cI, 32, .inl r_t_finds)), (a_t_label, .inl (cI, 32, .inl r_t_label)), (a_t_page, .inl (cI, 265, .inl r_t_page)), (a_t_reason, .inl (cI, 32, .inl r_t_reason)), (a_t_worth, .inl (cI, 256, .inl r_t_worth))] H) _ hS => ?_)
        refine lv_if_eq (tgt := 101) hx hb dX7_share_94 (by decide) (fun c10 => ?_) (fun c10 => ?_)
        · have hf := pn_ifp c10 hf
          refine lv_iload hx hb dX7_share_101 (lv_at hl 0 rfl) ?_
          obtain ⟨ru11, hu11, hf⟩ := pn_bd1_at hf
          refine pn_calli [] (va_runS (As := [.int ru8]) (rest := [.int x4]) ⟨hx, hb, hml, hown, hts⟩ (c_X7_factorial l D cI cJ cZ H.size N ru8 ru11 hu11) (va_cwS 1 hts gX7_share_X7_factorial rfl rfl rfl hdX7_factorial ⟨Nat.le_of_ble_eq_true rfl, Nat.le_of_ble_eq_true rfl⟩) (pn_preS [] hP (hD.addr rfl) hK rfl rfl) rfl rfl hl.1 rfl (lv_room (Nat.le_of_ble_eq_true rfl)) dX7_share_103 ⟨Nat.zero_le _, Nat.zero_le _⟩) hP (hD.addr rfl) hS hA rfl rfl rfl (fun H locs (hP : va_P D vwCl [(a_t, .inr (6, [.int v_t_thrown, .ref a_t_text, .int v_t_textSize, .int v_t_place, .ref a_t_readPage, .ref a_t_page, .ref a_t_trial, .ref a_t_work, .ref a_t_book, .int v_t_doings, .ref a_t_kept, .ref a_t_isKept, .int v_t_seen, .ref a_t_seenWhat, .ref a_t_seenV, .ref a_t_seenIs, .long v_t_seed, .ref a_t_label, .ref a_t_finds, .ref a_t_reason, .ref a_t_caseFirst, .int v_t_cases, .ref a_t_brief, .ref a_t_printed, .int v_t_printedSize, .ref a_t_renamed, .ref a_t_worth, .int v_t_lastReason])), (a_t_caseFirst, .inl (cI, 32, .inl r_t_caseFirst)), (a_t_finds, .inl (cI, 32, .inl r_t_finds)), (a_t_label, .inl (cI, 32, .inl r_t_label)), (a_t_page, .inl (cI, 265, .inl r_t_page)), (a_t_reason, .inl (cI, 32, .inl r_t_reason)), (a_t_worth, .inl (cI, 256, .inl r_t_worth))] H) _ hS => ?_)
          refine lv_iload_n hx hb dX7_share_106 rfl (lv_at hl 4 rfl) ?_
          refine lv_iconst (v := (1)) hx hb dX7_share_107 (by decide) ?_
          refine lv_isub hx hb dX7_share_108 ?_
          refine lv_iload hx hb dX7_share_109 (lv_at hl 0 rfl) ?_
          refine lv_isub hx hb dX7_share_111 ?_
          obtain ⟨ru12, hu12, hf⟩ := pn_bd1_at hf
          refine pn_calli [] (va_runS (As := [.int ((x3 - (1 : Int32)) - ru8)]) (rest := [.int ru11, .int x4]) ⟨hx, hb, hml, hown, hts⟩ (c_X7_factorial l D cI cJ cZ H.size N ((x3 - (1 : Int32)) - ru8) ru12 hu12) (va_cwS 1 hts gX7_share_X7_factorial rfl rfl rfl hdX7_factorial ⟨Nat.le_of_ble_eq_true rfl, Nat.le_of_ble_eq_true rfl⟩) (pn_preS [] hP (hD.addr rfl) hK rfl rfl) rfl rfl hl.1 rfl (lv_room (Nat.le_of_ble_eq_true rfl)) dX7_share_112 ⟨Nat.zero_le _, Nat.zero_le _⟩) hP (hD.addr rfl) hS hA rfl rfl rfl (fun H locs (hP : va_P D vwCl [(a_t, .inr (6, [.int v_t_thrown, .ref a_t_text, .int v_t_textSize, .int v_t_place, .ref a_t_readPage, .ref a_t_page, .ref a_t_trial, .ref a_t_work, .ref a_t_book, .int v_t_doings, .ref a_t_kept, .ref a_t_isKept, .int v_t_seen, .ref a_t_seenWhat, .ref a_t_seenV, .ref a_t_seenIs, .long v_t_seed, .ref a_t_label, .ref a_t_finds, .ref a_t_reason, .ref a_t_caseFirst, .int v_t_cases, .ref a_t_brief, .ref a_t_printed, .int v_t_printedSize, .ref a_t_renamed, .ref a_t_worth, .int v_t_lastReason])), (a_t_caseFirst, .inl (cI, 32, .inl r_t_caseFirst)), (a_t_finds, .inl (cI, 32, .inl r_t_finds)), (a_t_label, .inl (cI, 32, .inl r_t_label)), (a_t_page, .inl (cI, 265, .inl r_t_page)), (a_t_reason, .inl (cI, 32, .inl r_t_reason)), (a_t_worth, .inl (cI, 256, .inl r_t_worth))] H) _ hS => ?_)
          refine lv_imul hx hb dX7_share_115 ?_
          refine lv_aload_n hx hb dX7_share_116 rfl (lv_at hl 1 rfl) ?_
          refine va_get (D := D) (ci := 6) (v := .ref a_t_worth) (C := RX7) (T := TX7) (N := 28) hx hb hts hinX7 hown hK.1 hP 0 rfl rfl 26 (by decide) fl_65 (fun _ h9 => h9) rfl dX7_share_117 ?_
          refine lv_iload hx hb dX7_share_120 (lv_at hl 6 rfl) ?_
          refine lv_iconst (v := (1)) hx hb dX7_share_122 (by decide) ?_
          refine lv_iload_n hx hb dX7_share_123 rfl (lv_at hl 2 rfl) ?_
          refine lv_ishl hx hb dX7_share_124 ?_
          refine lv_ior hx hb dX7_share_125 ?_
          obtain ⟨hi14, w13, ew13, hf⟩ := pn_rd_at hf
          refine pn_ldI hx hb hK.1 hP 6 0 rfl rfl hi14 ew13 dX7_share_126 ?_
          refine lv_aload_n hx hb dX7_share_127 rfl (lv_at hl 1 rfl) ?_
          refine va_get (D := D) (ci := 6) (v := .ref a_t_worth) (C := RX7) (T := TX7) (N := 28) hx hb hts hinX7 hown hK.1 hP 0 rfl rfl 26 (by decide) fl_65 (fun _ h9 => h9) rfl dX7_share_128 ?_
          refine lv_iload hx hb dX7_share_131 (lv_at hl 6 rfl) ?_
          obtain ⟨hi16, w15, ew15, hf⟩ := pn_rd_at hf
          refine pn_ldI hx hb hK.1 hP 6 0 rfl rfl hi16 ew15 dX7_share_133 ?_
          refine lv_isub hx hb dX7_share_134 ?_
          refine lv_imul hx hb dX7_share_135 ?_
          refine lv_iadd hx hb dX7_share_136 ?_
          refine lv_topi (fun z17 ez17 => ?_)
          have hf := pn_nm_at ez17 hf
          refine lv_istore (lv' := [(4, .int z17), (6, .int ru8), (0, .ref a_t), (1, .int p1), (2, .int p2), (3, .int x3), (5, .int x5)]) hx hb dX7_share_137 hl (by decide) rfl (fun ls hl => ?_)
          obtain ⟨z18, ez18⟩ : ∃ y : Int32, y = x5 + (1) := ⟨_, rfl⟩
          have hf := pn_nm_at ez18 hf
          refine lv_iinc (v := z18) (lv' := [(5, .int z18), (4, .int z17), (6, .int ru8), (0, .ref a_t), (1, .int p1), (2, .int p2), (3, .int x3)]) hx hb dX7_share_139 hl (k := 6) rfl (by rw [ez18]; rfl) (by decide) rfl (fun ls hl => ?_)
          refine lv_goto (tgt := 71) hx hb dX7_share_142 (by decide) ?_
          exact ih x3 z17 z18 v_t_thrown v_t_cases v_t_lastReason r_t_caseFirst r_t_finds r_t_label r_t_reason r_t_worth X H locs ls hf hP hS (lv_sub hl [3, 4, 5, 6, 1, 0] rfl) kx145
        · have hf := pn_ifn c10 hf
          refine lv_iconst (v := (0)) hx hb dX7_share_97 (by decide) ?_
          refine lv_goto (tgt := 136) hx hb dX7_share_98 (by decide) ?_
          refine lv_iadd hx hb dX7_share_136 ?_
          refine lv_topi (fun z19 ez19 => ?_)
          have hf := pn_nm_at ez19 hf
          refine lv_istore (lv' := [(4, .int z19), (6, .int ru8), (0, .ref a_t), (1, .int p1), (2, .int p2), (3, .int x3), (5, .int x5)]) hx hb dX7_share_137 hl (by decide) rfl (fun ls hl => ?_)
          obtain ⟨z20, ez20⟩ : ∃ y : Int32, y = x5 + (1) := ⟨_, rfl⟩
          have hf := pn_nm_at ez20 hf
          refine lv_iinc (v := z20) (lv' := [(5, .int z20), (4, .int z19), (6, .int ru8), (0, .ref a_t), (1, .int p1), (2, .int p2), (3, .int x3)]) hx hb dX7_share_139 hl (k := 6) rfl (by rw [ez20]; rfl) (by decide) rfl (fun ls hl => ?_)
          refine lv_goto (tgt := 71) hx hb dX7_share_142 (by decide) ?_
          exact ih x3 z19 z20 v_t_thrown v_t_cases v_t_lastReason r_t_caseFirst r_t_finds r_t_label r_t_reason r_t_worth X H locs ls hf hP hS (lv_sub hl [3, 4, 5, 6, 1, 0] rfl) kx145
  refine lv_aload_n hx hb dX7_share_0 rfl (lv_at hl 0 rfl) ?_
  refine lv_iconst (v := (0)) hx hb dX7_share_1 (by decide) ?_
  refine va_put (D := D) (ci := 6) (v := .int (0 : Int32)) (ty := .int) (C := RX7) (T := TX7) (N := 28) hx hb hts hinX7 tyX7 tyX7_ok nmX7 hown hK.1 hP (hD.addr rfl) hS 0 rfl rfl 0 (by decide) fl_68 (fun _ h9 => h9) rfl (by decide +kernel) rfl rfl (Nat.le_of_ble_eq_true rfl) dX7_share_2 (fun H locs (hP : va_P D vwCl [(a_t, .inr (6, [.int ((0 : Int32)), .ref a_t_text, .int v_t_textSize, .int v_t_place, .ref a_t_readPage, .ref a_t_page, .ref a_t_trial, .ref a_t_work, .ref a_t_book, .int v_t_doings, .ref a_t_kept, .ref a_t_isKept, .int v_t_seen, .ref a_t_seenWhat, .ref a_t_seenV, .ref a_t_seenIs, .long v_t_seed, .ref a_t_label, .ref a_t_finds, .ref a_t_reason, .ref a_t_caseFirst, .int v_t_cases, .ref a_t_brief, .ref a_t_printed, .int v_t_printedSize, .ref a_t_renamed, .ref a_t_worth, .int v_t_lastReason])), (a_t_caseFirst, .inl (cI, 32, .inl r_t_caseFirst)), (a_t_finds, .inl (cI, 32, .inl r_t_finds)), (a_t_label, .inl (cI, 32, .inl r_t_label)), (a_t_page, .inl (cI, 265, .inl r_t_page)), (a_t_reason, .inl (cI, 32, .inl r_t_reason)), (a_t_worth, .inl (cI, 256, .inl r_t_worth))] H) _ hS => ?_)
  refine lv_aload_n hx hb dX7_share_5 rfl (lv_at hl 0 rfl) ?_
  refine va_get (D := D) (ci := 6) (v := .ref a_t_page) (C := RX7) (T := TX7) (N := 28) hx hb hts hinX7 hown hK.1 hP 0 rfl rfl 5 (by decide) fl_16 (fun _ h9 => h9) rfl dX7_share_6 ?_
  refine lv_iconst (v := (0)) hx hb dX7_share_9 (by decide) ?_
  obtain ⟨hi22, w21, ew21, hf⟩ := pn_rd_at hf
  refine pn_ldI hx hb hK.1 hP 4 0 rfl rfl hi22 ew21 dX7_share_10 ?_
  refine lv_istore_n (lv' := [(3, .int w21), (0, .ref a_t), (1, .int p1), (2, .int p2)]) hx hb dX7_share_11 rfl hl (by decide) rfl (fun ls hl => ?_)
  refine lv_iload_n hx hb dX7_share_12 rfl (lv_at hl 2 rfl) ?_
  refine lv_i2l hx hb dX7_share_13 rfl ?_
  refine lv_lconst (v := 0) hx hb dX7_share_14 (by decide) ?_
  refine lv_iload_n hx hb dX7_share_15 rfl (lv_at hl 0 rfl) ?_
  refine lv_iconst (v := (1)) hx hb dX7_share_16 (by decide) ?_
  refine lv_isub hx hb dX7_share_17 ?_
  refine lv_i2l hx hb dX7_share_18 rfl ?_
  obtain ⟨ru23, hu23, hf⟩ := pn_bd1_at hf
  refine pn_calli [] (va_runS (As := [.long p1.toInt64, .long (0 : Int64), .long ((w21 - (1 : Int32)).toInt64)]) (rest := []) ⟨hx, hb, hml, hown, hts⟩ (c_X7_in l D cI cJ cZ H.size p1.toInt64 (0 : Int64) ((w21 - (1 : Int32)).toInt64) ru23 hu23) (va_cwS 3 hts gX7_share_X7_in rfl rfl rfl hdX7_in ⟨Nat.le_of_ble_eq_true rfl, Nat.le_of_ble_eq_true rfl⟩) (pn_preS [] hP (hD.addr rfl) hK rfl rfl) rfl rfl hl.1 rfl (lv_room (Nat.le_of_ble_eq_true rfl)) dX7_share_19 ⟨Nat.zero_le _, Nat.zero_le _⟩) hP (hD.addr rfl) hS hA rfl rfl rfl (fun H locs (hP : va_P D vwCl [(a_t, .inr (6, [.int ((0 : Int32)), .ref a_t_text, .int v_t_textSize, .int v_t_place, .ref a_t_readPage, .ref a_t_page, .ref a_t_trial, .ref a_t_work, .ref a_t_book, .int v_t_doings, .ref a_t_kept, .ref a_t_isKept, .int v_t_seen, .ref a_t_seenWhat, .ref a_t_seenV, .ref a_t_seenIs, .long v_t_seed, .ref a_t_label, .ref a_t_finds, .ref a_t_reason, .ref a_t_caseFirst, .int v_t_cases, .ref a_t_brief, .ref a_t_printed, .int v_t_printedSize, .ref a_t_renamed, .ref a_t_worth, .int v_t_lastReason])), (a_t_caseFirst, .inl (cI, 32, .inl r_t_caseFirst)), (a_t_finds, .inl (cI, 32, .inl r_t_finds)), (a_t_label, .inl (cI, 32, .inl r_t_label)), (a_t_page, .inl (cI, 265, .inl r_t_page)), (a_t_reason, .inl (cI, 32, .inl r_t_reason)), (a_t_worth, .inl (cI, 256, .inl r_t_worth))] H) _ hS => ?_)
  refine lv_if_ne (tgt := 27) hx hb dX7_share_22 (by decide) (fun c24 => ?_) (fun c24 => ?_)
  · have hf := pn_ifp c24 hf
    refine lv_iconst (v := (0)) hx hb dX7_share_27 (by decide) ?_
    refine lv_istore (lv' := [(4, .int (0 : Int32)), (3, .int w21), (0, .ref a_t), (1, .int p1), (2, .int p2)]) hx hb dX7_share_28 hl (by decide) rfl (fun ls hl => ?_)
    obtain ⟨X30, hX30, hf⟩ := pn_bd1_at hf
    refine lp30 N w21 (0 : Int32) (0 : Int32) v_t_cases v_t_lastReason r_t_caseFirst r_t_finds r_t_label r_t_reason r_t_worth X30 H locs ls hX30 hP hS (lv_sub hl [2, 3, 4, 1, 0] rfl) ?_
    · intro v_t_cases_w25 v_t_lastReason_w25 r_t_caseFirst_w25 r_t_finds_w25 r_t_label_w25 r_t_reason_w25 r_t_worth_w25 H locs ls eX hP hS hl
      rw [eX] at hf
      have hf := pn_u7_at hf
      refine lv_iconst (v := (0)) hx hb dX7_share_65 (by decide) ?_
      refine lv_istore (lv' := [(4, .int (0 : Int32)), (0, .ref a_t), (1, .int p1), (2, .int p2), (3, .int w21)]) hx hb dX7_share_66 hl (by decide) rfl (fun ls hl => ?_)
      refine lv_iconst (v := (0)) hx hb dX7_share_68 (by decide) ?_
      refine lv_istore (lv' := [(5, .int (0 : Int32)), (4, .int (0 : Int32)), (0, .ref a_t), (1, .int p1), (2, .int p2), (3, .int w21)]) hx hb dX7_share_69 hl (by decide) rfl (fun ls hl => ?_)
      obtain ⟨X71, hX71, hf⟩ := pn_bd1_at hf
      refine lp71 N w21 (0 : Int32) (0 : Int32) (0 : Int32) v_t_cases_w25 v_t_lastReason_w25 r_t_caseFirst_w25 r_t_finds_w25 r_t_label_w25 r_t_reason_w25 r_t_worth_w25 X71 H locs ls hX71 hP hS (lv_sub hl [2, 3, 4, 5, 1, 0] rfl) ?_
      · intro x4_w26 H locs ls eX hP hS hl
        rw [eX] at hf
        have hf := pn_u1_at hf
        refine lv_iload hx hb dX7_share_145 (lv_at hl 2 rfl) ?_
        refine lv_iload_n hx hb dX7_share_147 rfl (lv_at hl 1 rfl) ?_
        obtain ⟨ru27, hu27, hf⟩ := pn_bd1_at hf
        refine pn_calli [] (va_runS (As := [.int w21]) (rest := [.int x4_w26]) ⟨hx, hb, hml, hown, hts⟩ (c_X7_factorial l D cI cJ cZ H.size N w21 ru27 hu27) (va_cwS 1 hts gX7_share_X7_factorial rfl rfl rfl hdX7_factorial ⟨Nat.le_of_ble_eq_true rfl, Nat.le_of_ble_eq_true rfl⟩) (pn_preS [] hP (hD.addr rfl) hK rfl rfl) rfl rfl hl.1 rfl (lv_room (Nat.le_of_ble_eq_true rfl)) dX7_share_148 ⟨Nat.zero_le _, Nat.zero_le _⟩) hP (hD.addr rfl) hS hA rfl rfl rfl (fun H locs (hP : va_P D vwCl [(a_t, .inr (6, [.int ((0 : Int32)), .ref a_t_text, .int v_t_textSize, .int v_t_place, .ref a_t_readPage, .ref a_t_page, .ref a_t_trial, .ref a_t_work, .ref a_t_book, .int v_t_doings, .ref a_t_kept, .ref a_t_isKept, .int v_t_seen, .ref a_t_seenWhat, .ref a_t_seenV, .ref a_t_seenIs, .long v_t_seed, .ref a_t_label, .ref a_t_finds, .ref a_t_reason, .ref a_t_caseFirst, .int v_t_cases_w25, .ref a_t_brief, .ref a_t_printed, .int v_t_printedSize, .ref a_t_renamed, .ref a_t_worth, .int v_t_lastReason_w25])), (a_t_caseFirst, .inl (cI, 32, .inl r_t_caseFirst_w25)), (a_t_finds, .inl (cI, 32, .inl r_t_finds_w25)), (a_t_label, .inl (cI, 32, .inl r_t_label_w25)), (a_t_page, .inl (cI, 265, .inl r_t_page)), (a_t_reason, .inl (cI, 32, .inl r_t_reason_w25)), (a_t_worth, .inl (cI, 256, .inl r_t_worth_w25))] H) _ hS => ?_)
        refine lv_iload_n hx hb dX7_share_151 rfl (lv_at hl 0 rfl) ?_
        obtain ⟨ru28, hu28, hf⟩ := pn_bd1_at hf
        refine pn_calli [] (va_runS (As := [.int x4_w26, .int ru27, .int p2]) (rest := []) ⟨hx, hb, hml, hown, hts⟩ (c_X7_fraction l D cI cJ cZ H.size N x4_w26 ru27 p2 ru28 hu28) (va_cwS 3 hts gX7_share_X7_fraction rfl rfl rfl hdX7_fraction ⟨Nat.le_of_ble_eq_true rfl, Nat.le_of_ble_eq_true rfl⟩) (pn_preS [] hP (hD.addr rfl) hK rfl rfl) rfl rfl hl.1 rfl (lv_room (Nat.le_of_ble_eq_true rfl)) dX7_share_152 ⟨Nat.zero_le _, Nat.zero_le _⟩) hP (hD.addr rfl) hS hA rfl rfl rfl (fun H locs (hP : va_P D vwCl [(a_t, .inr (6, [.int ((0 : Int32)), .ref a_t_text, .int v_t_textSize, .int v_t_place, .ref a_t_readPage, .ref a_t_page, .ref a_t_trial, .ref a_t_work, .ref a_t_book, .int v_t_doings, .ref a_t_kept, .ref a_t_isKept, .int v_t_seen, .ref a_t_seenWhat, .ref a_t_seenV, .ref a_t_seenIs, .long v_t_seed, .ref a_t_label, .ref a_t_finds, .ref a_t_reason, .ref a_t_caseFirst, .int v_t_cases_w25, .ref a_t_brief, .ref a_t_printed, .int v_t_printedSize, .ref a_t_renamed, .ref a_t_worth, .int v_t_lastReason_w25])), (a_t_caseFirst, .inl (cI, 32, .inl r_t_caseFirst_w25)), (a_t_finds, .inl (cI, 32, .inl r_t_finds_w25)), (a_t_label, .inl (cI, 32, .inl r_t_label_w25)), (a_t_page, .inl (cI, 265, .inl r_t_page)), (a_t_reason, .inl (cI, 32, .inl r_t_reason_w25)), (a_t_worth, .inl (cI, 256, .inl r_t_worth_w25))] H) _ hS => ?_)
        cases hf
        rw [hQ]
        exact pn_reti hx hb hr hlocks hP hS rfl dX7_share_155
  · have hf := pn_ifq c24 hf
    refine lv_iconst (v := (-1)) hx hb dX7_share_25 (by decide) ?_
    cases hf
    rw [hQ]
    exact pn_reti hx hb hr hlocks hP hS rfl dX7_share_26
def j_X7_lost_72 (rc : Int32 → Int32 → Int32 → Int32 → (Nat → Int32) → (Nat → Int32) → (Nat → Int32) → (Nat → Int32) → Option (Int32 × Int32 × Int32 × (Nat → Int32) × (Nat → Int32) × (Nat → Int32) × (Nat → Int32))) (x3 : Int32) (N : Nat) (p1 : Int32) (x4 : Int32) (x5 : Int32) (s0 : Int32) (v_t_cases : Int32) (v_t_lastReason : Int32) (r_t_caseFirst : Nat → Int32) (r_t_finds : Nat → Int32) (r_t_label : Nat → Int32) (r_t_reason : Nat → Int32) : Option (Int32 × Int32 × Int32 × (Nat → Int32) × (Nat → Int32) × (Nat → Int32) × (Nat → Int32)) :=
  if s0 = 0 then
  pn_nm (x4 + (0 : Int32)) fun z2 =>
  pn_nm (x5 + (1 : Int32)) fun z3 =>
  rc z2 z3 v_t_cases v_t_lastReason r_t_caseFirst r_t_finds r_t_label r_t_reason
  else
  pn_bd1 (f_X7_ones N x5) fun ru4 =>
  pn_bd1 (f_X7_power N ((10 : Int32) - p1) ru4) fun ru5 =>
  pn_bd1 (f_X7_ones N x5) fun ru6 =>
  pn_bd1 (f_X7_power N p1 (x3 - ru6)) fun ru7 =>
  pn_nm (x4 + (ru5 * ru7)) fun z8 =>
  pn_nm (x5 + (1 : Int32)) fun z9 =>
  rc z8 z9 v_t_cases v_t_lastReason r_t_caseFirst r_t_finds r_t_label r_t_reason
def lp_X7_lost_33 (N : Nat) (r_t_page : Nat → Int32) (p1 : Int32) (x3 : Int32) : Nat → Int32 → Int32 → Int32 → Int32 → (Nat → Int32) → (Nat → Int32) → (Nat → Int32) → (Nat → Int32) → Option (Int32 × Int32 × Int32 × (Nat → Int32) × (Nat → Int32) × (Nat → Int32) × (Nat → Int32))
  | 0, _, _, _, _, _, _, _, _ => none
  | n + 1, x4, x5, v_t_cases, v_t_lastReason, r_t_caseFirst, r_t_finds, r_t_label, r_t_reason =>
    if ((1 : Int32) <<< (x3 &&& 31)) ≤ x5 then
  some (x4, v_t_cases, v_t_lastReason, r_t_caseFirst, r_t_finds, r_t_label, r_t_reason)
  else
  pn_bd6 (f_X7_find N v_t_cases v_t_lastReason r_t_caseFirst r_t_finds r_t_label r_t_reason r_t_page x5) fun v_t_cases_u11 v_t_lastReason_u11 r_t_caseFirst_u11 r_t_finds_u11 r_t_label_u11 r_t_reason_u11 =>
  pn_bd1 (f_X7_manyFound N r_t_finds_u11) fun ru12 =>
  pn_bd1 (f_X7_manyRefs N r_t_page x5) fun ru13 =>
  if ¬ ru12 = ru13 then
  j_X7_lost_72 (lp_X7_lost_33 N r_t_page p1 x3 n) x3 N p1 x4 x5 (0 : Int32) v_t_cases_u11 v_t_lastReason_u11 r_t_caseFirst_u11 r_t_finds_u11 r_t_label_u11 r_t_reason_u11
  else
  j_X7_lost_72 (lp_X7_lost_33 N r_t_page p1 x3 n) x3 N p1 x4 x5 (1 : Int32) v_t_cases_u11 v_t_lastReason_u11 r_t_caseFirst_u11 r_t_finds_u11 r_t_label_u11 r_t_reason_u11
def f_X7_lost (N : Nat) (v_t_thrown : Int32) (v_t_cases : Int32) (v_t_lastReason : Int32) (r_t_caseFirst : Nat → Int32) (r_t_finds : Nat → Int32) (r_t_label : Nat → Int32) (r_t_page : Nat → Int32) (r_t_reason : Nat → Int32) (p1 : Int32) (p2 : Int32) : Option (Int32 × Int32 × Int32 × Int32 × (Nat → Int32) × (Nat → Int32) × (Nat → Int32) × (Nat → Int32)) :=
  pn_bd1 (f_X7_in p1.toInt64 (0 : Int64) (10 : Int64)) fun ru15 =>
  if ¬ ru15 = 0 then
  pn_rd 265 r_t_page (0 : Int32) fun w17 =>
  pn_bd1 (lp_X7_lost_33 N r_t_page p1 w17 N (0 : Int32) (0 : Int32) v_t_cases v_t_lastReason r_t_caseFirst r_t_finds r_t_label r_t_reason) (fun X33 => (pn_u7 fun x4_w19 v_t_cases_w19 v_t_lastReason_w19 r_t_caseFirst_w19 r_t_finds_w19 r_t_label_w19 r_t_reason_w19 => pn_bd1 (f_X7_power N (10 : Int32) w17) fun ru20 =>
  pn_bd1 (f_X7_fraction N x4_w19 ru20 p2) fun ru21 =>
  some (ru21, (0 : Int32), v_t_cases_w19, v_t_lastReason_w19, r_t_caseFirst_w19, r_t_finds_w19, r_t_label_w19, r_t_reason_w19)) X33)
  else
  some ((-2 : Int32), (0 : Int32), v_t_cases, v_t_lastReason, r_t_caseFirst, r_t_finds, r_t_label, r_t_reason)
set_option maxHeartbeats 4000000 in
set_option maxRecDepth 100000 in
theorem c_X7_lost (l : Launch) (D : va_G) (cI cJ cZ : ClassId) (a_t a_t_text a_t_readPage a_t_page a_t_trial a_t_work a_t_book a_t_kept a_t_isKept a_t_seenWhat a_t_seenV a_t_seenIs a_t_label a_t_finds a_t_reason a_t_caseFirst a_t_brief a_t_printed a_t_renamed a_t_worth : Nat) (sz : Nat) (v_t_textSize : Int32) (v_t_place : Int32) (v_t_doings : Int32) (v_t_seen : Int32) (v_t_seed : Int64) (v_t_printedSize : Int32) (N : Nat) (v_t_thrown : Int32) (v_t_cases : Int32) (v_t_lastReason : Int32) (r_t_caseFirst : Nat → Int32) (r_t_finds : Nat → Int32) (r_t_label : Nat → Int32) (r_t_page : Nat → Int32) (r_t_reason : Nat → Int32) (p1 : Int32) (p2 : Int32) (rR : Int32) (o_t_thrown : Int32) (o_t_cases : Int32) (o_t_lastReason : Int32) (o_t_caseFirst : Nat → Int32) (o_t_finds : Nat → Int32) (o_t_label : Nat → Int32) (o_t_reason : Nat → Int32) (hf : f_X7_lost N v_t_thrown v_t_cases v_t_lastReason r_t_caseFirst r_t_finds r_t_label r_t_page r_t_reason p1 p2 = some (rR, o_t_thrown, o_t_cases, o_t_lastReason, o_t_caseFirst, o_t_finds, o_t_label, o_t_reason)) : Met l yX7_lost wsX7_lost { frames := 6, cells := 0, slots := 0, locals := 147 } (pn_Pc D cI cJ cZ [.ref a_t, .int p1, .int p2] [(a_t, .inr (6, [.int v_t_thrown, .ref a_t_text, .int v_t_textSize, .int v_t_place, .ref a_t_readPage, .ref a_t_page, .ref a_t_trial, .ref a_t_work, .ref a_t_book, .int v_t_doings, .ref a_t_kept, .ref a_t_isKept, .int v_t_seen, .ref a_t_seenWhat, .ref a_t_seenV, .ref a_t_seenIs, .long v_t_seed, .ref a_t_label, .ref a_t_finds, .ref a_t_reason, .ref a_t_caseFirst, .int v_t_cases, .ref a_t_brief, .ref a_t_printed, .int v_t_printedSize, .ref a_t_renamed, .ref a_t_worth, .int v_t_lastReason])), (a_t_caseFirst, .inl (cI, 32, .inl r_t_caseFirst)), (a_t_finds, .inl (cI, 32, .inl r_t_finds)), (a_t_label, .inl (cI, 32, .inl r_t_label)), (a_t_page, .inl (cI, 265, .inl r_t_page)), (a_t_reason, .inl (cI, 32, .inl r_t_reason))] sz) (pn_Qi D rR [(a_t, .inr (6, [.int o_t_thrown, .ref a_t_text, .int v_t_textSize, .int v_t_place, .ref a_t_readPage, .ref a_t_page, .ref a_t_trial, .ref a_t_work, .ref a_t_book, .int v_t_doings, .ref a_t_kept, .ref a_t_isKept, .int v_t_seen, .ref a_t_seenWhat, .ref a_t_seenV, .ref a_t_seenIs, .long v_t_seed, .ref a_t_label, .ref a_t_finds, .ref a_t_reason, .ref a_t_caseFirst, .int o_t_cases, .ref a_t_brief, .ref a_t_printed, .int v_t_printedSize, .ref a_t_renamed, .ref a_t_worth, .int o_t_lastReason])), (a_t_caseFirst, .inl (cI, 32, .inl o_t_caseFirst)), (a_t_finds, .inl (cI, 32, .inl o_t_finds)), (a_t_label, .inl (cI, 32, .inl o_t_label)), (a_t_page, .inl (cI, 265, .inl r_t_page)), (a_t_reason, .inl (cI, 32, .inl o_t_reason))] (va_A [(a_t, .inr (6, [.int v_t_thrown, .ref a_t_text, .int v_t_textSize, .int v_t_place, .ref a_t_readPage, .ref a_t_page, .ref a_t_trial, .ref a_t_work, .ref a_t_book, .int v_t_doings, .ref a_t_kept, .ref a_t_isKept, .int v_t_seen, .ref a_t_seenWhat, .ref a_t_seenV, .ref a_t_seenIs, .long v_t_seed, .ref a_t_label, .ref a_t_finds, .ref a_t_reason, .ref a_t_caseFirst, .int v_t_cases, .ref a_t_brief, .ref a_t_printed, .int v_t_printedSize, .ref a_t_renamed, .ref a_t_worth, .int v_t_lastReason])), (a_t_caseFirst, .inl (cI, 32, .inl r_t_caseFirst)), (a_t_finds, .inl (cI, 32, .inl r_t_finds)), (a_t_label, .inl (cI, 32, .inl r_t_label)), (a_t_page, .inl (cI, 265, .inl r_t_page)), (a_t_reason, .inl (cI, 32, .inl r_t_reason))] sz)) 0 0 (va_A [(a_t, .inr (6, [.int v_t_thrown, .ref a_t_text, .int v_t_textSize, .int v_t_place, .ref a_t_readPage, .ref a_t_page, .ref a_t_trial, .ref a_t_work, .ref a_t_book, .int v_t_doings, .ref a_t_kept, .ref a_t_isKept, .int v_t_seen, .ref a_t_seenWhat, .ref a_t_seenV, .ref a_t_seenIs, .long v_t_seed, .ref a_t_label, .ref a_t_finds, .ref a_t_reason, .ref a_t_caseFirst, .int v_t_cases, .ref a_t_brief, .ref a_t_printed, .int v_t_printedSize, .ref a_t_renamed, .ref a_t_worth, .int v_t_lastReason])), (a_t_caseFirst, .inl (cI, 32, .inl r_t_caseFirst)), (a_t_finds, .inl (cI, 32, .inl r_t_finds)), (a_t_label, .inl (cI, 32, .inl r_t_label)), (a_t_page, .inl (cI, 265, .inl r_t_page)), (a_t_reason, .inl (cI, 32, .inl r_t_reason))] sz) := by
  refine pn_entry (cc := cX7_lost) (maxL := 7) (ret := (some .int)) (Qf := pn_Qi D rR [(a_t, .inr (6, [.int o_t_thrown, .ref a_t_text, .int v_t_textSize, .int v_t_place, .ref a_t_readPage, .ref a_t_page, .ref a_t_trial, .ref a_t_work, .ref a_t_book, .int v_t_doings, .ref a_t_kept, .ref a_t_isKept, .int v_t_seen, .ref a_t_seenWhat, .ref a_t_seenV, .ref a_t_seenIs, .long v_t_seed, .ref a_t_label, .ref a_t_finds, .ref a_t_reason, .ref a_t_caseFirst, .int o_t_cases, .ref a_t_brief, .ref a_t_printed, .int v_t_printedSize, .ref a_t_renamed, .ref a_t_worth, .int o_t_lastReason])), (a_t_caseFirst, .inl (cI, 32, .inl o_t_caseFirst)), (a_t_finds, .inl (cI, 32, .inl o_t_finds)), (a_t_label, .inl (cI, 32, .inl o_t_label)), (a_t_page, .inl (cI, 265, .inl r_t_page)), (a_t_reason, .inl (cI, 32, .inl o_t_reason))]) (by decide) rfl (Nat.le_of_ble_eq_true rfl) ?_
  intro p e s m args below meth c A ls H locs Qm hQ hx hb hr hlocks hml hown hts hK hP hD hA hS hl
  have hl : lv_has ls 7 [(0, .ref a_t), (1, .int p1), (2, .int p2)] := hl
  have hinX7 : ∀ w ∈ wsX70, w ∈ wsX7_lost := by decide +kernel
  have fl_16 := hts (.fieldLink RX7 16 "PointingNotesModel" "page" "[I") (by decide +kernel)
  have fl_68 := hts (.fieldLink RX7 68 "PointingNotesModel" "thrown" "I") (by decide +kernel)
  have kl_328 := hts (.constantLong RX7 328 (10)) (by decide +kernel)
  rw [f_X7_lost] at hf
  have lp33 : ∀ (n : Nat) (x3 : Int32) (x4 : Int32) (x5 : Int32) (v_t_thrown : Int32) (v_t_cases : Int32) (v_t_lastReason : Int32) (r_t_caseFirst : Nat → Int32) (r_t_finds : Nat → Int32) (r_t_label : Nat → Int32) (r_t_reason : Nat → Int32) (X : Int32 × Int32 × Int32 × (Nat → Int32) × (Nat → Int32) × (Nat → Int32) × (Nat → Int32)) (H : Heap) (locs : List Loc) (ls : Array Slot), lp_X7_lost_33 N r_t_page p1 x3 n x4 x5 v_t_cases v_t_lastReason r_t_caseFirst r_t_finds r_t_label r_t_reason = some X → va_P D vwCl [(a_t, .inr (6, [.int v_t_thrown, .ref a_t_text, .int v_t_textSize, .int v_t_place, .ref a_t_readPage, .ref a_t_page, .ref a_t_trial, .ref a_t_work, .ref a_t_book, .int v_t_doings, .ref a_t_kept, .ref a_t_isKept, .int v_t_seen, .ref a_t_seenWhat, .ref a_t_seenV, .ref a_t_seenIs, .long v_t_seed, .ref a_t_label, .ref a_t_finds, .ref a_t_reason, .ref a_t_caseFirst, .int v_t_cases, .ref a_t_brief, .ref a_t_printed, .int v_t_printedSize, .ref a_t_renamed, .ref a_t_worth, .int v_t_lastReason])), (a_t_caseFirst, .inl (cI, 32, .inl r_t_caseFirst)), (a_t_finds, .inl (cI, 32, .inl r_t_finds)), (a_t_label, .inl (cI, 32, .inl r_t_label)), (a_t_page, .inl (cI, 265, .inl r_t_page)), (a_t_reason, .inl (cI, 32, .inl r_t_reason))] H → va_S A s.heap H locs → lv_has ls 7 [(0, .ref a_t), (1, .int p1), (2, .int p2), (3, .int x3), (4, .int x4), (5, .int x5)] → (∀ (y4 : Int32) (v_t_cases' : Int32) (v_t_lastReason' : Int32) (r_t_caseFirst' : Nat → Int32) (r_t_finds' : Nat → Int32) (r_t_label' : Nat → Int32) (r_t_reason' : Nat → Int32) (H : Heap) (locs : List Loc) (ls : Array Slot), X = (y4, v_t_cases', v_t_lastReason', r_t_caseFirst', r_t_finds', r_t_label', r_t_reason') → va_P D vwCl [(a_t, .inr (6, [.int v_t_thrown, .ref a_t_text, .int v_t_textSize, .int v_t_place, .ref a_t_readPage, .ref a_t_page, .ref a_t_trial, .ref a_t_work, .ref a_t_book, .int v_t_doings, .ref a_t_kept, .ref a_t_isKept, .int v_t_seen, .ref a_t_seenWhat, .ref a_t_seenV, .ref a_t_seenIs, .long v_t_seed, .ref a_t_label, .ref a_t_finds, .ref a_t_reason, .ref a_t_caseFirst, .int (v_t_cases'), .ref a_t_brief, .ref a_t_printed, .int v_t_printedSize, .ref a_t_renamed, .ref a_t_worth, .int (v_t_lastReason')])), (a_t_caseFirst, .inl (cI, 32, .inl (r_t_caseFirst'))), (a_t_finds, .inl (cI, 32, .inl (r_t_finds'))), (a_t_label, .inl (cI, 32, .inl (r_t_label'))), (a_t_page, .inl (cI, 265, .inl r_t_page)), (a_t_reason, .inl (cI, 32, .inl (r_t_reason')))] H → va_S A s.heap H locs → lv_has ls 7 [(2, .int p2), (3, .int x3), (4, .int y4)] → W p l e { frames := 6, cells := 0, slots := 0, locals := 147 } s m args below meth c H locs 0 0 Qm (F0 m 118 ls [])) → W p l e { frames := 6, cells := 0, slots := 0, locals := 147 } s m args below meth c H locs 0 0 Qm (F0 m 33 ls []) := by
    intro n
    induction n with
    | zero => intro x3 x4 x5 v_t_thrown v_t_cases v_t_lastReason r_t_caseFirst r_t_finds r_t_label r_t_reason X H locs ls hf; cases hf
    | succ n ih =>
      intro x3 x4 x5 v_t_thrown v_t_cases v_t_lastReason r_t_caseFirst r_t_finds r_t_label r_t_reason X H locs ls hf hP hS hl kx118
      rw [lp_X7_lost_33] at hf
      have jn72 : ∀ (x4 : Int32) (x5 : Int32) (s0 : Int32) (v_t_cases : Int32) (v_t_lastReason : Int32) (r_t_caseFirst : Nat → Int32) (r_t_finds : Nat → Int32) (r_t_label : Nat → Int32) (r_t_reason : Nat → Int32) (H : Heap) (locs : List Loc) (ls : Array Slot), j_X7_lost_72 (lp_X7_lost_33 N r_t_page p1 x3 n) x3 N p1 x4 x5 s0 v_t_cases v_t_lastReason r_t_caseFirst r_t_finds r_t_label r_t_reason = some X → va_P D vwCl [(a_t, .inr (6, [.int v_t_thrown, .ref a_t_text, .int v_t_textSize, .int v_t_place, .ref a_t_readPage, .ref a_t_page, .ref a_t_trial, .ref a_t_work, .ref a_t_book, .int v_t_doings, .ref a_t_kept, .ref a_t_isKept, .int v_t_seen, .ref a_t_seenWhat, .ref a_t_seenV, .ref a_t_seenIs, .long v_t_seed, .ref a_t_label, .ref a_t_finds, .ref a_t_reason, .ref a_t_caseFirst, .int v_t_cases, .ref a_t_brief, .ref a_t_printed, .int v_t_printedSize, .ref a_t_renamed, .ref a_t_worth, .int v_t_lastReason])), (a_t_caseFirst, .inl (cI, 32, .inl r_t_caseFirst)), (a_t_finds, .inl (cI, 32, .inl r_t_finds)), (a_t_label, .inl (cI, 32, .inl r_t_label)), (a_t_page, .inl (cI, 265, .inl r_t_page)), (a_t_reason, .inl (cI, 32, .inl r_t_reason))] H → va_S A s.heap H locs → lv_has ls 7 [(0, .ref a_t), (1, .int p1), (2, .int p2), (3, .int x3), (4, .int x4), (5, .int x5)] → W p l e { frames := 6, cells := 0, slots := 0, locals := 147 } s m args below meth c H locs 0 0 Qm (F0 m 72 ls [.int s0]) := by
        intro x4 x5 s0 v_t_cases v_t_lastReason r_t_caseFirst r_t_finds r_t_label r_t_reason H locs ls hf hP hS hl
        rw [j_X7_lost_72] at hf
        refine lv_istore (lv' := [(6, .int s0), (0, .ref a_t), (1, .int p1), (2, .int p2), (3, .int x3), (4, .int x4), (5, .int x5)]) hx hb dX7_lost_72 hl (by decide) rfl (fun ls hl => ?_)
        refine lv_iload hx hb dX7_lost_74 (lv_at hl 5 rfl) ?_
        refine lv_iload hx hb dX7_lost_76 (lv_at hl 0 rfl) ?_
        refine lv_if_eq (tgt := 108) hx hb dX7_lost_78 (by decide) (fun c1 => ?_) (fun c1 => ?_)
        · have hf := pn_ifp c1 hf
          refine lv_iconst (v := (0)) hx hb dX7_lost_108 (by decide) ?_
          refine lv_iadd hx hb dX7_lost_109 ?_
          refine lv_topi (fun z2 ez2 => ?_)
          have hf := pn_nm_at ez2 hf
          refine lv_istore (lv' := [(4, .int z2), (6, .int s0), (0, .ref a_t), (1, .int p1), (2, .int p2), (3, .int x3), (5, .int x5)]) hx hb dX7_lost_110 hl (by decide) rfl (fun ls hl => ?_)
          obtain ⟨z3, ez3⟩ : ∃ y : Int32, y = x5 + (1) := ⟨_, rfl⟩
          have hf := pn_nm_at ez3 hf
          refine lv_iinc (v := z3) (lv' := [(5, .int z3), (4, .int z2), (6, .int s0), (0, .ref a_t), (1, .int p1), (2, .int p2), (3, .int x3)]) hx hb dX7_lost_112 hl (k := 6) rfl (by rw [ez3]; rfl) (by decide) rfl (fun ls hl => ?_)
          refine lv_goto (tgt := 33) hx hb dX7_lost_115 (by decide) ?_
          exact ih x3 z2 z3 v_t_thrown v_t_cases v_t_lastReason r_t_caseFirst r_t_finds r_t_label r_t_reason X H locs ls hf hP hS (lv_sub hl [3, 4, 5, 6, 1, 0] rfl) kx118
        · have hf := pn_ifn c1 hf
          refine lv_bipush (v := (10)) hx hb dX7_lost_81 (by decide) ?_
          refine lv_iload_n hx hb dX7_lost_83 rfl (lv_at hl 2 rfl) ?_
          refine lv_isub hx hb dX7_lost_84 ?_
          refine lv_iload hx hb dX7_lost_85 (lv_at hl 6 rfl) ?_
          obtain ⟨ru4, hu4, hf⟩ := pn_bd1_at hf
          refine pn_calli [] (va_runS (As := [.int x5]) (rest := [.int ((10 : Int32) - p1), .int x4]) ⟨hx, hb, hml, hown, hts⟩ (c_X7_ones l D cI cJ cZ H.size N x5 ru4 hu4) (va_cwS 1 hts gX7_lost_X7_ones rfl rfl rfl hdX7_ones ⟨Nat.le_of_ble_eq_true rfl, Nat.le_of_ble_eq_true rfl⟩) (pn_preS [] hP (hD.addr rfl) hK rfl rfl) rfl rfl hl.1 rfl (lv_room (Nat.le_of_ble_eq_true rfl)) dX7_lost_87 ⟨Nat.zero_le _, Nat.zero_le _⟩) hP (hD.addr rfl) hS hA rfl rfl rfl (fun H locs (hP : va_P D vwCl [(a_t, .inr (6, [.int v_t_thrown, .ref a_t_text, .int v_t_textSize, .int v_t_place, .ref a_t_readPage, .ref a_t_page, .ref a_t_trial, .ref a_t_work, .ref a_t_book, .int v_t_doings, .ref a_t_kept, .ref a_t_isKept, .int v_t_seen, .ref a_t_seenWhat, .ref a_t_seenV, .ref a_t_seenIs, .long v_t_seed, .ref a_t_label, .ref a_t_finds, .ref a_t_reason, .ref a_t_caseFirst, .int v_t_cases, .ref a_t_brief, .ref a_t_printed, .int v_t_printedSize, .ref a_t_renamed, .ref a_t_worth, .int v_t_lastReason])), (a_t_caseFirst, .inl (cI, 32, .inl r_t_caseFirst)), (a_t_finds, .inl (cI, 32, .inl r_t_finds)), (a_t_label, .inl (cI, 32, .inl r_t_label)), (a_t_page, .inl (cI, 265, .inl r_t_page)), (a_t_reason, .inl (cI, 32, .inl r_t_reason))] H) _ hS => ?_)
          obtain ⟨ru5, hu5, hf⟩ := pn_bd1_at hf
          refine pn_calli [] (va_runS (As := [.int ((10 : Int32) - p1), .int ru4]) (rest := [.int x4]) ⟨hx, hb, hml, hown, hts⟩ (c_X7_power l D cI cJ cZ H.size N ((10 : Int32) - p1) ru4 ru5 hu5) (va_cwS 2 hts gX7_lost_X7_power rfl rfl rfl hdX7_power ⟨Nat.le_of_ble_eq_true rfl, Nat.le_of_ble_eq_true rfl⟩) (pn_preS [] hP (hD.addr rfl) hK rfl rfl) rfl rfl hl.1 rfl (lv_room (Nat.le_of_ble_eq_true rfl)) dX7_lost_90 ⟨Nat.zero_le _, Nat.zero_le _⟩) hP (hD.addr rfl) hS hA rfl rfl rfl (fun H locs (hP : va_P D vwCl [(a_t, .inr (6, [.int v_t_thrown, .ref a_t_text, .int v_t_textSize, .int v_t_place, .ref a_t_readPage, .ref a_t_page, .ref a_t_trial, .ref a_t_work, .ref a_t_book, .int v_t_doings, .ref a_t_kept, .ref a_t_isKept, .int v_t_seen, .ref a_t_seenWhat, .ref a_t_seenV, .ref a_t_seenIs, .long v_t_seed, .ref a_t_label, .ref a_t_finds, .ref a_t_reason, .ref a_t_caseFirst, .int v_t_cases, .ref a_t_brief, .ref a_t_printed, .int v_t_printedSize, .ref a_t_renamed, .ref a_t_worth, .int v_t_lastReason])), (a_t_caseFirst, .inl (cI, 32, .inl r_t_caseFirst)), (a_t_finds, .inl (cI, 32, .inl r_t_finds)), (a_t_label, .inl (cI, 32, .inl r_t_label)), (a_t_page, .inl (cI, 265, .inl r_t_page)), (a_t_reason, .inl (cI, 32, .inl r_t_reason))] H) _ hS => ?_)
          refine lv_iload_n hx hb dX7_lost_93 rfl (lv_at hl 2 rfl) ?_
          refine lv_iload_n hx hb dX7_lost_94 rfl (lv_at hl 4 rfl) ?_
          refine lv_iload hx hb dX7_lost_95 (lv_at hl 6 rfl) ?_
          obtain ⟨ru6, hu6, hf⟩ := pn_bd1_at hf
          refine pn_calli [] (va_runS (As := [.int x5]) (rest := [.int x3, .int p1, .int ru5, .int x4]) ⟨hx, hb, hml, hown, hts⟩ (c_X7_ones l D cI cJ cZ H.size N x5 ru6 hu6) (va_cwS 1 hts gX7_lost_X7_ones rfl rfl rfl hdX7_ones ⟨Nat.le_of_ble_eq_true rfl, Nat.le_of_ble_eq_true rfl⟩) (pn_preS [] hP (hD.addr rfl) hK rfl rfl) rfl rfl hl.1 rfl (lv_room (Nat.le_of_ble_eq_true rfl)) dX7_lost_97 ⟨Nat.zero_le _, Nat.zero_le _⟩) hP (hD.addr rfl) hS hA rfl rfl rfl (fun H locs (hP : va_P D vwCl [(a_t, .inr (6, [.int v_t_thrown, .ref a_t_text, .int v_t_textSize, .int v_t_place, .ref a_t_readPage, .ref a_t_page, .ref a_t_trial, .ref a_t_work, .ref a_t_book, .int v_t_doings, .ref a_t_kept, .ref a_t_isKept, .int v_t_seen, .ref a_t_seenWhat, .ref a_t_seenV, .ref a_t_seenIs, .long v_t_seed, .ref a_t_label, .ref a_t_finds, .ref a_t_reason, .ref a_t_caseFirst, .int v_t_cases, .ref a_t_brief, .ref a_t_printed, .int v_t_printedSize, .ref a_t_renamed, .ref a_t_worth, .int v_t_lastReason])), (a_t_caseFirst, .inl (cI, 32, .inl r_t_caseFirst)), (a_t_finds, .inl (cI, 32, .inl r_t_finds)), (a_t_label, .inl (cI, 32, .inl r_t_label)), (a_t_page, .inl (cI, 265, .inl r_t_page)), (a_t_reason, .inl (cI, 32, .inl r_t_reason))] H) _ hS => ?_)
          refine lv_isub hx hb dX7_lost_100 ?_
          obtain ⟨ru7, hu7, hf⟩ := pn_bd1_at hf
          refine pn_calli [] (va_runS (As := [.int p1, .int (x3 - ru6)]) (rest := [.int ru5, .int x4]) ⟨hx, hb, hml, hown, hts⟩ (c_X7_power l D cI cJ cZ H.size N p1 (x3 - ru6) ru7 hu7) (va_cwS 2 hts gX7_lost_X7_power rfl rfl rfl hdX7_power ⟨Nat.le_of_ble_eq_true rfl, Nat.le_of_ble_eq_true rfl⟩) (pn_preS [] hP (hD.addr rfl) hK rfl rfl) rfl rfl hl.1 rfl (lv_room (Nat.le_of_ble_eq_true rfl)) dX7_lost_101 ⟨Nat.zero_le _, Nat.zero_le _⟩) hP (hD.addr rfl) hS hA rfl rfl rfl (fun H locs (hP : va_P D vwCl [(a_t, .inr (6, [.int v_t_thrown, .ref a_t_text, .int v_t_textSize, .int v_t_place, .ref a_t_readPage, .ref a_t_page, .ref a_t_trial, .ref a_t_work, .ref a_t_book, .int v_t_doings, .ref a_t_kept, .ref a_t_isKept, .int v_t_seen, .ref a_t_seenWhat, .ref a_t_seenV, .ref a_t_seenIs, .long v_t_seed, .ref a_t_label, .ref a_t_finds, .ref a_t_reason, .ref a_t_caseFirst, .int v_t_cases, .ref a_t_brief, .ref a_t_printed, .int v_t_printedSize, .ref a_t_renamed, .ref a_t_worth, .int v_t_lastReason])), (a_t_caseFirst, .inl (cI, 32, .inl r_t_caseFirst)), (a_t_finds, .inl (cI, 32, .inl r_t_finds)), (a_t_label, .inl (cI, 32, .inl r_t_label)), (a_t_page, .inl (cI, 265, .inl r_t_page)), (a_t_reason, .inl (cI, 32, .inl r_t_reason))] H) _ hS => ?_)
          refine lv_imul hx hb dX7_lost_104 ?_
          refine lv_goto (tgt := 109) hx hb dX7_lost_105 (by decide) ?_
          refine lv_iadd hx hb dX7_lost_109 ?_
          refine lv_topi (fun z8 ez8 => ?_)
          have hf := pn_nm_at ez8 hf
          refine lv_istore (lv' := [(4, .int z8), (6, .int s0), (0, .ref a_t), (1, .int p1), (2, .int p2), (3, .int x3), (5, .int x5)]) hx hb dX7_lost_110 hl (by decide) rfl (fun ls hl => ?_)
          obtain ⟨z9, ez9⟩ : ∃ y : Int32, y = x5 + (1) := ⟨_, rfl⟩
          have hf := pn_nm_at ez9 hf
          refine lv_iinc (v := z9) (lv' := [(5, .int z9), (4, .int z8), (6, .int s0), (0, .ref a_t), (1, .int p1), (2, .int p2), (3, .int x3)]) hx hb dX7_lost_112 hl (k := 6) rfl (by rw [ez9]; rfl) (by decide) rfl (fun ls hl => ?_)
          refine lv_goto (tgt := 33) hx hb dX7_lost_115 (by decide) ?_
          exact ih x3 z8 z9 v_t_thrown v_t_cases v_t_lastReason r_t_caseFirst r_t_finds r_t_label r_t_reason X H locs ls hf hP hS (lv_sub hl [3, 4, 5, 6, 1, 0] rfl) kx118
      refine lv_iload hx hb dX7_lost_33 (lv_at hl 5 rfl) ?_
      refine lv_iconst (v := (1)) hx hb dX7_lost_35 (by decide) ?_
      refine lv_iload_n hx hb dX7_lost_36 rfl (lv_at hl 3 rfl) ?_
      refine lv_ishl hx hb dX7_lost_37 ?_
      refine lv_icmp_ge (tgt := 118) hx hb dX7_lost_38 (by decide) (fun c10 => ?_) (fun c10 => ?_)
      · have hf := pn_ifp c10 hf
        exact kx118 x4 v_t_cases v_t_lastReason r_t_caseFirst r_t_finds r_t_label r_t_reason H locs ls (Option.some.inj hf).symm hP hS (lv_sub hl [2, 3, 4] rfl)
      · have hf := pn_ifn c10 hf
        refine lv_aload_n hx hb dX7_lost_41 rfl (lv_at hl 0 rfl) ?_
        refine lv_aload_n hx hb dX7_lost_42 rfl (lv_at hl 0 rfl) ?_
        refine va_get (D := D) (ci := 6) (v := .ref a_t_page) (C := RX7) (T := TX7) (N := 28) hx hb hts hinX7 hown hK.1 hP 0 rfl rfl 5 (by decide) fl_16 (fun _ h9 => h9) rfl dX7_lost_43 ?_
        refine lv_iload hx hb dX7_lost_46 (lv_at hl 5 rfl) ?_
        obtain ⟨v_t_cases_u11, v_t_lastReason_u11, r_t_caseFirst_u11, r_t_finds_u11, r_t_label_u11, r_t_reason_u11, hu11, hf⟩ := pn_bd6_at hf
        refine pn_callv [0, 1, 2, 3, 5, 4] (va_runV (As := [.ref a_t_page, .int x5]) (rest := []) ⟨hx, hb, hml, hown, hts⟩ (c_X7_find l D cI cJ cZ a_t a_t_text a_t_readPage a_t_page a_t_trial a_t_work a_t_book a_t_kept a_t_isKept a_t_seenWhat a_t_seenV a_t_seenIs a_t_label a_t_finds a_t_reason a_t_caseFirst a_t_brief a_t_printed a_t_renamed a_t_worth a_t_page H.size v_t_thrown v_t_textSize v_t_place v_t_doings v_t_seen v_t_seed v_t_printedSize N v_t_cases v_t_lastReason r_t_caseFirst r_t_finds r_t_label r_t_reason r_t_page x5 v_t_cases_u11 v_t_lastReason_u11 r_t_caseFirst_u11 r_t_finds_u11 r_t_label_u11 r_t_reason_u11 hu11) (cwV 2 hts gX7_lost_X7_find rfl rfl rfl hdX7_find ⟨Nat.le_of_ble_eq_true rfl, Nat.le_of_ble_eq_true rfl⟩) (pn_preV [0, 1, 2, 3, 5, 4] hP (hD.addr rfl) hK rfl rfl (q0 := 0) (ci := 6) rfl rfl) rfl rfl hl.1 rfl (lv_room (Nat.le_of_ble_eq_true rfl)) dX7_lost_48 ⟨Nat.zero_le _, Nat.zero_le _⟩) hP (hD.addr rfl) hS hA rfl rfl rfl (fun H locs (hP : va_P D vwCl [(a_t, .inr (6, [.int v_t_thrown, .ref a_t_text, .int v_t_textSize, .int v_t_place, .ref a_t_readPage, .ref a_t_page, .ref a_t_trial, .ref a_t_work, .ref a_t_book, .int v_t_doings, .ref a_t_kept, .ref a_t_isKept, .int v_t_seen, .ref a_t_seenWhat, .ref a_t_seenV, .ref a_t_seenIs, .long v_t_seed, .ref a_t_label, .ref a_t_finds, .ref a_t_reason, .ref a_t_caseFirst, .int v_t_cases_u11, .ref a_t_brief, .ref a_t_printed, .int v_t_printedSize, .ref a_t_renamed, .ref a_t_worth, .int v_t_lastReason_u11])), (a_t_caseFirst, .inl (cI, 32, .inl r_t_caseFirst_u11)), (a_t_finds, .inl (cI, 32, .inl r_t_finds_u11)), (a_t_label, .inl (cI, 32, .inl r_t_label_u11)), (a_t_page, .inl (cI, 265, .inl r_t_page)), (a_t_reason, .inl (cI, 32, .inl r_t_reason_u11))] H) _ hS => ?_)
        refine lv_aload_n hx hb dX7_lost_51 rfl (lv_at hl 0 rfl) ?_
        obtain ⟨ru12, hu12, hf⟩ := pn_bd1_at hf
        refine pn_calli [0, 2] (va_runV (As := []) (rest := []) ⟨hx, hb, hml, hown, hts⟩ (c_X7_manyFound l D cI cJ cZ a_t a_t_text a_t_readPage a_t_page a_t_trial a_t_work a_t_book a_t_kept a_t_isKept a_t_seenWhat a_t_seenV a_t_seenIs a_t_label a_t_finds a_t_reason a_t_caseFirst a_t_brief a_t_printed a_t_renamed a_t_worth H.size v_t_thrown v_t_textSize v_t_place v_t_doings v_t_seen v_t_seed v_t_cases_u11 v_t_printedSize v_t_lastReason_u11 N r_t_finds_u11 ru12 hu12) (cwV 0 hts gX7_lost_X7_manyFound rfl rfl rfl hdX7_manyFound ⟨Nat.le_of_ble_eq_true rfl, Nat.le_of_ble_eq_true rfl⟩) (pn_preV [0, 2] hP (hD.addr rfl) hK rfl rfl (q0 := 0) (ci := 6) rfl rfl) rfl rfl hl.1 rfl (lv_room (Nat.le_of_ble_eq_true rfl)) dX7_lost_52 ⟨Nat.zero_le _, Nat.zero_le _⟩) hP (hD.addr rfl) hS hA rfl rfl rfl (fun H locs (hP : va_P D vwCl [(a_t, .inr (6, [.int v_t_thrown, .ref a_t_text, .int v_t_textSize, .int v_t_place, .ref a_t_readPage, .ref a_t_page, .ref a_t_trial, .ref a_t_work, .ref a_t_book, .int v_t_doings, .ref a_t_kept, .ref a_t_isKept, .int v_t_seen, .ref a_t_seenWhat, .ref a_t_seenV, .ref a_t_seenIs, .long v_t_seed, .ref a_t_label, .ref a_t_finds, .ref a_t_reason, .ref a_t_caseFirst, .int v_t_cases_u11, .ref a_t_brief, .ref a_t_printed, .int v_t_printedSize, .ref a_t_renamed, .ref a_t_worth, .int v_t_lastReason_u11])), (a_t_caseFirst, .inl (cI, 32, .inl r_t_caseFirst_u11)), (a_t_finds, .inl (cI, 32, .inl r_t_finds_u11)), (a_t_label, .inl (cI, 32, .inl r_t_label_u11)), (a_t_page, .inl (cI, 265, .inl r_t_page)), (a_t_reason, .inl (cI, 32, .inl r_t_reason_u11))] H) _ hS => ?_)
        refine lv_aload_n hx hb dX7_lost_55 rfl (lv_at hl 0 rfl) ?_
        refine va_get (D := D) (ci := 6) (v := .ref a_t_page) (C := RX7) (T := TX7) (N := 28) hx hb hts hinX7 hown hK.1 hP 0 rfl rfl 5 (by decide) fl_16 (fun _ h9 => h9) rfl dX7_lost_56 ?_
        refine lv_iload hx hb dX7_lost_59 (lv_at hl 5 rfl) ?_
        obtain ⟨ru13, hu13, hf⟩ := pn_bd1_at hf
        refine pn_calli [4] (va_runS (As := [.ref a_t_page, .int x5]) (rest := [.int ru12]) ⟨hx, hb, hml, hown, hts⟩ (c_X7_manyRefs l D cI cJ cZ a_t_page H.size N r_t_page x5 ru13 hu13) (va_cwS 2 hts gX7_lost_X7_manyRefs rfl rfl rfl hdX7_manyRefs ⟨Nat.le_of_ble_eq_true rfl, Nat.le_of_ble_eq_true rfl⟩) (pn_preS [4] hP (hD.addr rfl) hK rfl rfl) rfl rfl hl.1 rfl (lv_room (Nat.le_of_ble_eq_true rfl)) dX7_lost_61 ⟨Nat.zero_le _, Nat.zero_le _⟩) hP (hD.addr rfl) hS hA rfl rfl rfl (fun H locs (hP : va_P D vwCl [(a_t, .inr (6, [.int v_t_thrown, .ref a_t_text, .int v_t_textSize, .int v_t_place, .ref a_t_readPage, .ref a_t_page, .ref a_t_trial, .ref a_t_work, .ref a_t_book, .int v_t_doings, .ref a_t_kept, .ref a_t_isKept, .int v_t_seen, .ref a_t_seenWhat, .ref a_t_seenV, .ref a_t_seenIs, .long v_t_seed, .ref a_t_label, .ref a_t_finds, .ref a_t_reason, .ref a_t_caseFirst, .int v_t_cases_u11, .ref a_t_brief, .ref a_t_printed, .int v_t_printedSize, .ref a_t_renamed, .ref a_t_worth, .int v_t_lastReason_u11])), (a_t_caseFirst, .inl (cI, 32, .inl r_t_caseFirst_u11)), (a_t_finds, .inl (cI, 32, .inl r_t_finds_u11)), (a_t_label, .inl (cI, 32, .inl r_t_label_u11)), (a_t_page, .inl (cI, 265, .inl r_t_page)), (a_t_reason, .inl (cI, 32, .inl r_t_reason_u11))] H) _ hS => ?_)
        refine lv_icmp_ne (tgt := 71) hx hb dX7_lost_64 (by decide) (fun c14 => ?_) (fun c14 => ?_)
        · have hf := pn_ifp c14 hf
          refine lv_iconst (v := (0)) hx hb dX7_lost_71 (by decide) ?_
          exact jn72 x4 x5 (0 : Int32) v_t_cases_u11 v_t_lastReason_u11 r_t_caseFirst_u11 r_t_finds_u11 r_t_label_u11 r_t_reason_u11 H locs ls hf hP hS (lv_sub hl [0, 1, 2, 3, 4, 5] rfl)
        · have hf := pn_ifq c14 hf
          refine lv_iconst (v := (1)) hx hb dX7_lost_67 (by decide) ?_
          refine lv_goto (tgt := 72) hx hb dX7_lost_68 (by decide) ?_
          exact jn72 x4 x5 (1 : Int32) v_t_cases_u11 v_t_lastReason_u11 r_t_caseFirst_u11 r_t_finds_u11 r_t_label_u11 r_t_reason_u11 H locs ls hf hP hS (lv_sub hl [0, 1, 2, 3, 4, 5] rfl)
  refine lv_aload_n hx hb dX7_lost_0 rfl (lv_at hl 0 rfl) ?_
  refine lv_iconst (v := (0)) hx hb dX7_lost_1 (by decide) ?_
  refine va_put (D := D) (ci := 6) (v := .int (0 : Int32)) (ty := .int) (C := RX7) (T := TX7) (N := 28) hx hb hts hinX7 tyX7 tyX7_ok nmX7 hown hK.1 hP (hD.addr rfl) hS 0 rfl rfl 0 (by decide) fl_68 (fun _ h9 => h9) rfl (by decide +kernel) rfl rfl (Nat.le_of_ble_eq_true rfl) dX7_lost_2 (fun H locs (hP : va_P D vwCl [(a_t, .inr (6, [.int ((0 : Int32)), .ref a_t_text, .int v_t_textSize, .int v_t_place, .ref a_t_readPage, .ref a_t_page, .ref a_t_trial, .ref a_t_work, .ref a_t_book, .int v_t_doings, .ref a_t_kept, .ref a_t_isKept, .int v_t_seen, .ref a_t_seenWhat, .ref a_t_seenV, .ref a_t_seenIs, .long v_t_seed, .ref a_t_label, .ref a_t_finds, .ref a_t_reason, .ref a_t_caseFirst, .int v_t_cases, .ref a_t_brief, .ref a_t_printed, .int v_t_printedSize, .ref a_t_renamed, .ref a_t_worth, .int v_t_lastReason])), (a_t_caseFirst, .inl (cI, 32, .inl r_t_caseFirst)), (a_t_finds, .inl (cI, 32, .inl r_t_finds)), (a_t_label, .inl (cI, 32, .inl r_t_label)), (a_t_page, .inl (cI, 265, .inl r_t_page)), (a_t_reason, .inl (cI, 32, .inl r_t_reason))] H) _ hS => ?_)
  refine lv_iload_n hx hb dX7_lost_5 rfl (lv_at hl 1 rfl) ?_
  refine lv_i2l hx hb dX7_lost_6 rfl ?_
  refine lv_lconst (v := 0) hx hb dX7_lost_7 (by decide) ?_
  refine lv_ldc2 hx hb hown kl_328 dX7_lost_8 ?_
  obtain ⟨ru15, hu15, hf⟩ := pn_bd1_at hf
  refine pn_calli [] (va_runS (As := [.long p1.toInt64, .long (0 : Int64), .long (10 : Int64)]) (rest := []) ⟨hx, hb, hml, hown, hts⟩ (c_X7_in l D cI cJ cZ H.size p1.toInt64 (0 : Int64) (10 : Int64) ru15 hu15) (va_cwS 3 hts gX7_lost_X7_in rfl rfl rfl hdX7_in ⟨Nat.le_of_ble_eq_true rfl, Nat.le_of_ble_eq_true rfl⟩) (pn_preS [] hP (hD.addr rfl) hK rfl rfl) rfl rfl hl.1 rfl (lv_room (Nat.le_of_ble_eq_true rfl)) dX7_lost_11 ⟨Nat.zero_le _, Nat.zero_le _⟩) hP (hD.addr rfl) hS hA rfl rfl rfl (fun H locs (hP : va_P D vwCl [(a_t, .inr (6, [.int ((0 : Int32)), .ref a_t_text, .int v_t_textSize, .int v_t_place, .ref a_t_readPage, .ref a_t_page, .ref a_t_trial, .ref a_t_work, .ref a_t_book, .int v_t_doings, .ref a_t_kept, .ref a_t_isKept, .int v_t_seen, .ref a_t_seenWhat, .ref a_t_seenV, .ref a_t_seenIs, .long v_t_seed, .ref a_t_label, .ref a_t_finds, .ref a_t_reason, .ref a_t_caseFirst, .int v_t_cases, .ref a_t_brief, .ref a_t_printed, .int v_t_printedSize, .ref a_t_renamed, .ref a_t_worth, .int v_t_lastReason])), (a_t_caseFirst, .inl (cI, 32, .inl r_t_caseFirst)), (a_t_finds, .inl (cI, 32, .inl r_t_finds)), (a_t_label, .inl (cI, 32, .inl r_t_label)), (a_t_page, .inl (cI, 265, .inl r_t_page)), (a_t_reason, .inl (cI, 32, .inl r_t_reason))] H) _ hS => ?_)
  refine lv_if_ne (tgt := 20) hx hb dX7_lost_14 (by decide) (fun c16 => ?_) (fun c16 => ?_)
  · have hf := pn_ifp c16 hf
    refine lv_aload_n hx hb dX7_lost_20 rfl (lv_at hl 0 rfl) ?_
    refine va_get (D := D) (ci := 6) (v := .ref a_t_page) (C := RX7) (T := TX7) (N := 28) hx hb hts hinX7 hown hK.1 hP 0 rfl rfl 5 (by decide) fl_16 (fun _ h9 => h9) rfl dX7_lost_21 ?_
    refine lv_iconst (v := (0)) hx hb dX7_lost_24 (by decide) ?_
    obtain ⟨hi18, w17, ew17, hf⟩ := pn_rd_at hf
    refine pn_ldI hx hb hK.1 hP 4 0 rfl rfl hi18 ew17 dX7_lost_25 ?_
    refine lv_istore_n (lv' := [(3, .int w17), (0, .ref a_t), (1, .int p1), (2, .int p2)]) hx hb dX7_lost_26 rfl hl (by decide) rfl (fun ls hl => ?_)
    refine lv_iconst (v := (0)) hx hb dX7_lost_27 (by decide) ?_
    refine lv_istore (lv' := [(4, .int (0 : Int32)), (3, .int w17), (0, .ref a_t), (1, .int p1), (2, .int p2)]) hx hb dX7_lost_28 hl (by decide) rfl (fun ls hl => ?_)
    refine lv_iconst (v := (0)) hx hb dX7_lost_30 (by decide) ?_
    refine lv_istore (lv' := [(5, .int (0 : Int32)), (4, .int (0 : Int32)), (3, .int w17), (0, .ref a_t), (1, .int p1), (2, .int p2)]) hx hb dX7_lost_31 hl (by decide) rfl (fun ls hl => ?_)
    obtain ⟨X33, hX33, hf⟩ := pn_bd1_at hf
    refine lp33 N w17 (0 : Int32) (0 : Int32) (0 : Int32) v_t_cases v_t_lastReason r_t_caseFirst r_t_finds r_t_label r_t_reason X33 H locs ls hX33 hP hS (lv_sub hl [3, 4, 5, 2, 1, 0] rfl) ?_
    · intro x4_w19 v_t_cases_w19 v_t_lastReason_w19 r_t_caseFirst_w19 r_t_finds_w19 r_t_label_w19 r_t_reason_w19 H locs ls eX hP hS hl
      rw [eX] at hf
      have hf := pn_u7_at hf
      refine lv_iload hx hb dX7_lost_118 (lv_at hl 2 rfl) ?_
      refine lv_bipush (v := (10)) hx hb dX7_lost_120 (by decide) ?_
      refine lv_iload_n hx hb dX7_lost_122 rfl (lv_at hl 1 rfl) ?_
      obtain ⟨ru20, hu20, hf⟩ := pn_bd1_at hf
      refine pn_calli [] (va_runS (As := [.int (10 : Int32), .int w17]) (rest := [.int x4_w19]) ⟨hx, hb, hml, hown, hts⟩ (c_X7_power l D cI cJ cZ H.size N (10 : Int32) w17 ru20 hu20) (va_cwS 2 hts gX7_lost_X7_power rfl rfl rfl hdX7_power ⟨Nat.le_of_ble_eq_true rfl, Nat.le_of_ble_eq_true rfl⟩) (pn_preS [] hP (hD.addr rfl) hK rfl rfl) rfl rfl hl.1 rfl (lv_room (Nat.le_of_ble_eq_true rfl)) dX7_lost_123 ⟨Nat.zero_le _, Nat.zero_le _⟩) hP (hD.addr rfl) hS hA rfl rfl rfl (fun H locs (hP : va_P D vwCl [(a_t, .inr (6, [.int ((0 : Int32)), .ref a_t_text, .int v_t_textSize, .int v_t_place, .ref a_t_readPage, .ref a_t_page, .ref a_t_trial, .ref a_t_work, .ref a_t_book, .int v_t_doings, .ref a_t_kept, .ref a_t_isKept, .int v_t_seen, .ref a_t_seenWhat, .ref a_t_seenV, .ref a_t_seenIs, .long v_t_seed, .ref a_t_label, .ref a_t_finds, .ref a_t_reason, .ref a_t_caseFirst, .int v_t_cases_w19, .ref a_t_brief, .ref a_t_printed, .int v_t_printedSize, .ref a_t_renamed, .ref a_t_worth, .int v_t_lastReason_w19])), (a_t_caseFirst, .inl (cI, 32, .inl r_t_caseFirst_w19)), (a_t_finds, .inl (cI, 32, .inl r_t_finds_w19)), (a_t_label, .inl (cI, 32, .inl r_t_label_w19)), (a_t_page, .inl (cI, 265, .inl r_t_page)), (a_t_reason, .inl (cI, 32, .inl r_t_reason_w19))] H) _ hS => ?_)
      refine lv_iload_n hx hb dX7_lost_126 rfl (lv_at hl 0 rfl) ?_
      obtain ⟨ru21, hu21, hf⟩ := pn_bd1_at hf
      refine pn_calli [] (va_runS (As := [.int x4_w19, .int ru20, .int p2]) (rest := []) ⟨hx, hb, hml, hown, hts⟩ (c_X7_fraction l D cI cJ cZ H.size N x4_w19 ru20 p2 ru21 hu21) (va_cwS 3 hts gX7_lost_X7_fraction rfl rfl rfl hdX7_fraction ⟨Nat.le_of_ble_eq_true rfl, Nat.le_of_ble_eq_true rfl⟩) (pn_preS [] hP (hD.addr rfl) hK rfl rfl) rfl rfl hl.1 rfl (lv_room (Nat.le_of_ble_eq_true rfl)) dX7_lost_127 ⟨Nat.zero_le _, Nat.zero_le _⟩) hP (hD.addr rfl) hS hA rfl rfl rfl (fun H locs (hP : va_P D vwCl [(a_t, .inr (6, [.int ((0 : Int32)), .ref a_t_text, .int v_t_textSize, .int v_t_place, .ref a_t_readPage, .ref a_t_page, .ref a_t_trial, .ref a_t_work, .ref a_t_book, .int v_t_doings, .ref a_t_kept, .ref a_t_isKept, .int v_t_seen, .ref a_t_seenWhat, .ref a_t_seenV, .ref a_t_seenIs, .long v_t_seed, .ref a_t_label, .ref a_t_finds, .ref a_t_reason, .ref a_t_caseFirst, .int v_t_cases_w19, .ref a_t_brief, .ref a_t_printed, .int v_t_printedSize, .ref a_t_renamed, .ref a_t_worth, .int v_t_lastReason_w19])), (a_t_caseFirst, .inl (cI, 32, .inl r_t_caseFirst_w19)), (a_t_finds, .inl (cI, 32, .inl r_t_finds_w19)), (a_t_label, .inl (cI, 32, .inl r_t_label_w19)), (a_t_page, .inl (cI, 265, .inl r_t_page)), (a_t_reason, .inl (cI, 32, .inl r_t_reason_w19))] H) _ hS => ?_)
      cases hf
      rw [hQ]
      exact pn_reti hx hb hr hlocks hP hS rfl dX7_lost_130
  · have hf := pn_ifq c16 hf
    refine lv_bipush (v := (-2)) hx hb dX7_lost_17 (by decide) ?_
    cases hf
    rw [hQ]
    exact pn_reti hx hb hr hlocks hP hS rfl dX7_lost_19
def f_X7_seed (v_t_thrown : Int32) (v_t_seed : Int64) (p1 : Int64) : Option (Int64 × Int32 × Int64) :=
  some (v_t_seed, (0 : Int32), p1)
set_option maxHeartbeats 4000000 in
set_option maxRecDepth 100000 in
theorem c_X7_seed (l : Launch) (D : va_G) (cI cJ cZ : ClassId) (a_t a_t_text a_t_readPage a_t_page a_t_trial a_t_work a_t_book a_t_kept a_t_isKept a_t_seenWhat a_t_seenV a_t_seenIs a_t_label a_t_finds a_t_reason a_t_caseFirst a_t_brief a_t_printed a_t_renamed a_t_worth : Nat) (sz : Nat) (v_t_textSize : Int32) (v_t_place : Int32) (v_t_doings : Int32) (v_t_seen : Int32) (v_t_cases : Int32) (v_t_printedSize : Int32) (v_t_lastReason : Int32) (v_t_thrown : Int32) (v_t_seed : Int64) (p1 : Int64) (rR : Int64) (o_t_thrown : Int32) (o_t_seed : Int64) (hf : f_X7_seed v_t_thrown v_t_seed p1 = some (rR, o_t_thrown, o_t_seed)) : Met l yX7_seed wsX7_seed { frames := 0, cells := 0, slots := 0, locals := 0 } (pn_Pc D cI cJ cZ [.ref a_t, .long p1] [(a_t, .inr (6, [.int v_t_thrown, .ref a_t_text, .int v_t_textSize, .int v_t_place, .ref a_t_readPage, .ref a_t_page, .ref a_t_trial, .ref a_t_work, .ref a_t_book, .int v_t_doings, .ref a_t_kept, .ref a_t_isKept, .int v_t_seen, .ref a_t_seenWhat, .ref a_t_seenV, .ref a_t_seenIs, .long v_t_seed, .ref a_t_label, .ref a_t_finds, .ref a_t_reason, .ref a_t_caseFirst, .int v_t_cases, .ref a_t_brief, .ref a_t_printed, .int v_t_printedSize, .ref a_t_renamed, .ref a_t_worth, .int v_t_lastReason]))] sz) (pn_Ql D rR [(a_t, .inr (6, [.int o_t_thrown, .ref a_t_text, .int v_t_textSize, .int v_t_place, .ref a_t_readPage, .ref a_t_page, .ref a_t_trial, .ref a_t_work, .ref a_t_book, .int v_t_doings, .ref a_t_kept, .ref a_t_isKept, .int v_t_seen, .ref a_t_seenWhat, .ref a_t_seenV, .ref a_t_seenIs, .long o_t_seed, .ref a_t_label, .ref a_t_finds, .ref a_t_reason, .ref a_t_caseFirst, .int v_t_cases, .ref a_t_brief, .ref a_t_printed, .int v_t_printedSize, .ref a_t_renamed, .ref a_t_worth, .int v_t_lastReason]))] (va_A [(a_t, .inr (6, [.int v_t_thrown, .ref a_t_text, .int v_t_textSize, .int v_t_place, .ref a_t_readPage, .ref a_t_page, .ref a_t_trial, .ref a_t_work, .ref a_t_book, .int v_t_doings, .ref a_t_kept, .ref a_t_isKept, .int v_t_seen, .ref a_t_seenWhat, .ref a_t_seenV, .ref a_t_seenIs, .long v_t_seed, .ref a_t_label, .ref a_t_finds, .ref a_t_reason, .ref a_t_caseFirst, .int v_t_cases, .ref a_t_brief, .ref a_t_printed, .int v_t_printedSize, .ref a_t_renamed, .ref a_t_worth, .int v_t_lastReason]))] sz)) 0 0 (va_A [(a_t, .inr (6, [.int v_t_thrown, .ref a_t_text, .int v_t_textSize, .int v_t_place, .ref a_t_readPage, .ref a_t_page, .ref a_t_trial, .ref a_t_work, .ref a_t_book, .int v_t_doings, .ref a_t_kept, .ref a_t_isKept, .int v_t_seen, .ref a_t_seenWhat, .ref a_t_seenV, .ref a_t_seenIs, .long v_t_seed, .ref a_t_label, .ref a_t_finds, .ref a_t_reason, .ref a_t_caseFirst, .int v_t_cases, .ref a_t_brief, .ref a_t_printed, .int v_t_printedSize, .ref a_t_renamed, .ref a_t_worth, .int v_t_lastReason]))] sz) := by
  refine pn_entry (cc := cX7_seed) (maxL := 5) (ret := (some .long)) (Qf := pn_Ql D rR [(a_t, .inr (6, [.int o_t_thrown, .ref a_t_text, .int v_t_textSize, .int v_t_place, .ref a_t_readPage, .ref a_t_page, .ref a_t_trial, .ref a_t_work, .ref a_t_book, .int v_t_doings, .ref a_t_kept, .ref a_t_isKept, .int v_t_seen, .ref a_t_seenWhat, .ref a_t_seenV, .ref a_t_seenIs, .long o_t_seed, .ref a_t_label, .ref a_t_finds, .ref a_t_reason, .ref a_t_caseFirst, .int v_t_cases, .ref a_t_brief, .ref a_t_printed, .int v_t_printedSize, .ref a_t_renamed, .ref a_t_worth, .int v_t_lastReason]))]) (by decide) rfl (Nat.le_of_ble_eq_true rfl) ?_
  intro p e s m args below meth c A ls H locs Qm hQ hx hb hr hlocks hml hown hts hK hP hD hA hS hl
  have hl : lv_has ls 5 [(0, .ref a_t), (1, .long p1)] := hl
  have hinX7 : ∀ w ∈ wsX70, w ∈ wsX7_seed := by decide +kernel
  have fl_68 := hts (.fieldLink RX7 68 "PointingNotesModel" "thrown" "I") (by decide +kernel)
  have fl_333 := hts (.fieldLink RX7 333 "PointingNotesModel" "seed" "J") (by decide +kernel)
  rw [f_X7_seed] at hf
  refine lv_aload_n hx hb dX7_seed_0 rfl (lv_at hl 0 rfl) ?_
  refine lv_iconst (v := (0)) hx hb dX7_seed_1 (by decide) ?_
  refine va_put (D := D) (ci := 6) (v := .int (0 : Int32)) (ty := .int) (C := RX7) (T := TX7) (N := 28) hx hb hts hinX7 tyX7 tyX7_ok nmX7 hown hK.1 hP (hD.addr rfl) hS 0 rfl rfl 0 (by decide) fl_68 (fun _ h9 => h9) rfl (by decide +kernel) rfl rfl (Nat.le_of_ble_eq_true rfl) dX7_seed_2 (fun H locs (hP : va_P D vwCl [(a_t, .inr (6, [.int ((0 : Int32)), .ref a_t_text, .int v_t_textSize, .int v_t_place, .ref a_t_readPage, .ref a_t_page, .ref a_t_trial, .ref a_t_work, .ref a_t_book, .int v_t_doings, .ref a_t_kept, .ref a_t_isKept, .int v_t_seen, .ref a_t_seenWhat, .ref a_t_seenV, .ref a_t_seenIs, .long v_t_seed, .ref a_t_label, .ref a_t_finds, .ref a_t_reason, .ref a_t_caseFirst, .int v_t_cases, .ref a_t_brief, .ref a_t_printed, .int v_t_printedSize, .ref a_t_renamed, .ref a_t_worth, .int v_t_lastReason]))] H) _ hS => ?_)
  refine lv_aload_n hx hb dX7_seed_5 rfl (lv_at hl 0 rfl) ?_
  refine va_get (D := D) (ci := 6) (v := .long v_t_seed) (C := RX7) (T := TX7) (N := 28) hx hb hts hinX7 hown hK.1 hP 0 rfl rfl 16 (by decide) fl_333 (fun _ h9 => h9) rfl dX7_seed_6 ?_
  refine lv_lstore_n (lv' := [(3, .long v_t_seed), (0, .ref a_t), (1, .long p1)]) hx hb dX7_seed_9 rfl hl (by decide) rfl (fun ls hl => ?_)
  refine lv_aload_n hx hb dX7_seed_10 rfl (lv_at hl 1 rfl) ?_
  refine lv_lload_n hx hb dX7_seed_11 rfl (lv_at hl 2 rfl) ?_
  refine va_put (D := D) (ci := 6) (v := .long p1) (ty := .long) (C := RX7) (T := TX7) (N := 28) hx hb hts hinX7 tyX7 tyX7_ok nmX7 hown hK.1 hP (hD.addr rfl) hS 0 rfl rfl 16 (by decide) fl_333 (fun _ h9 => h9) rfl (by decide +kernel) rfl rfl (Nat.le_of_ble_eq_true rfl) dX7_seed_12 (fun H locs (hP : va_P D vwCl [(a_t, .inr (6, [.int ((0 : Int32)), .ref a_t_text, .int v_t_textSize, .int v_t_place, .ref a_t_readPage, .ref a_t_page, .ref a_t_trial, .ref a_t_work, .ref a_t_book, .int v_t_doings, .ref a_t_kept, .ref a_t_isKept, .int v_t_seen, .ref a_t_seenWhat, .ref a_t_seenV, .ref a_t_seenIs, .long p1, .ref a_t_label, .ref a_t_finds, .ref a_t_reason, .ref a_t_caseFirst, .int v_t_cases, .ref a_t_brief, .ref a_t_printed, .int v_t_printedSize, .ref a_t_renamed, .ref a_t_worth, .int v_t_lastReason]))] H) _ hS => ?_)
  refine lv_lload_n hx hb dX7_seed_15 rfl (lv_at hl 0 rfl) ?_
  cases hf
  rw [hQ]
  exact pn_retl hx hb hr hlocks hP hS rfl dX7_seed_16
