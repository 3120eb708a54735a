theorem hdX4_reportsOf : yX4_reportsOf.cls = RX4 ∧ yX4_reportsOf.cls ≠ "java/lang/invoke/MethodHandle" ∧ yX4_reportsOf.cls ≠ "java/lang/invoke/VarHandle" ∧ (parseMethodDescriptor yX4_reportsOf.desc).map (fun d => d.parameters.length) = some 1 := by decide +kernel
theorem hdX4_clashes : yX4_clashes.cls = RX4 ∧ yX4_clashes.cls ≠ "java/lang/invoke/MethodHandle" ∧ yX4_clashes.cls ≠ "java/lang/invoke/VarHandle" ∧ (parseMethodDescriptor yX4_clashes.desc).map (fun d => d.parameters.length) = some 1 := by decide +kernel
theorem hdX4_clashing : yX4_clashing.cls = RX4 ∧ yX4_clashing.cls ≠ "java/lang/invoke/MethodHandle" ∧ yX4_clashing.cls ≠ "java/lang/invoke/VarHandle" ∧ (parseMethodDescriptor yX4_clashing.desc).map (fun d => d.parameters.length) = some 0 := by decide +kernel
theorem hdX4_isFoundByNote : yX4_isFoundByNote.cls = RX4 ∧ yX4_isFoundByNote.cls ≠ "java/lang/invoke/MethodHandle" ∧ yX4_isFoundByNote.cls ≠ "java/lang/invoke/VarHandle" ∧ (parseMethodDescriptor yX4_isFoundByNote.desc).map (fun d => d.parameters.length) = some 2 := by decide +kernel
theorem hdX4_notesFinding : yX4_notesFinding.cls = RX4 ∧ yX4_notesFinding.cls ≠ "java/lang/invoke/MethodHandle" ∧ yX4_notesFinding.cls ≠ "java/lang/invoke/VarHandle" ∧ (parseMethodDescriptor yX4_notesFinding.desc).map (fun d => d.parameters.length) = some 1 := by decide +kernel
theorem hdX4_referencesFinding : yX4_referencesFinding.cls = RX4 ∧ yX4_referencesFinding.cls ≠ "java/lang/invoke/MethodHandle" ∧ yX4_referencesFinding.cls ≠ "java/lang/invoke/VarHandle" ∧ (parseMethodDescriptor yX4_referencesFinding.desc).map (fun d => d.parameters.length) = some 1 := by decide +kernel
theorem hdX4_sortKey : yX4_sortKey.cls = RX4 ∧ yX4_sortKey.cls ≠ "java/lang/invoke/MethodHandle" ∧ yX4_sortKey.cls ≠ "java/lang/invoke/VarHandle" ∧ (parseMethodDescriptor yX4_sortKey.desc).map (fun d => d.parameters.length) = some 1 := by decide +kernel
theorem hdX4_rankOf : yX4_rankOf.cls = RX4 ∧ yX4_rankOf.cls ≠ "java/lang/invoke/MethodHandle" ∧ yX4_rankOf.cls ≠ "java/lang/invoke/VarHandle" ∧ (parseMethodDescriptor yX4_rankOf.desc).map (fun d => d.parameters.length) = some 1 := by decide +kernel
theorem hdX4_hasReportOf : yX4_hasReportOf.cls = RX4 ∧ yX4_hasReportOf.cls ≠ "java/lang/invoke/MethodHandle" ∧ yX4_hasReportOf.cls ≠ "java/lang/invoke/VarHandle" ∧ (parseMethodDescriptor yX4_hasReportOf.desc).map (fun d => d.parameters.length) = some 3 := by decide +kernel
theorem hdX4_isTrueOf : yX4_isTrueOf.cls = RX4 ∧ yX4_isTrueOf.cls ≠ "java/lang/invoke/MethodHandle" ∧ yX4_isTrueOf.cls ≠ "java/lang/invoke/VarHandle" ∧ (parseMethodDescriptor yX4_isTrueOf.desc).map (fun d => d.parameters.length) = some 3 := by decide +kernel
theorem hdX4_lengthened : yX4_lengthened.cls = RX4 ∧ yX4_lengthened.cls ≠ "java/lang/invoke/MethodHandle" ∧ yX4_lengthened.cls ≠ "java/lang/invoke/VarHandle" ∧ (parseMethodDescriptor yX4_lengthened.desc).map (fun d => d.parameters.length) = some 1 := by decide +kernel
theorem hdX4_isCoveredBefore : yX4_isCoveredBefore.cls = RX4 ∧ yX4_isCoveredBefore.cls ≠ "java/lang/invoke/MethodHandle" ∧ yX4_isCoveredBefore.cls ≠ "java/lang/invoke/VarHandle" ∧ (parseMethodDescriptor yX4_isCoveredBefore.desc).map (fun d => d.parameters.length) = some 1 := by decide +kernel
theorem hdX4_citedBefore : yX4_citedBefore.cls = RX4 ∧ yX4_citedBefore.cls ≠ "java/lang/invoke/MethodHandle" ∧ yX4_citedBefore.cls ≠ "java/lang/invoke/VarHandle" ∧ (parseMethodDescriptor yX4_citedBefore.desc).map (fun d => d.parameters.length) = some 1 := by decide +kernel
def j_X4_reportsOf_49 (rc : Int32 → Int32 → Option (Int32)) (N : Nat) (v_t_cases : Int32) (r_t_members : Nat → Int32) (r_t_paper_cites : Nat → Int64) (p1 : Int32) (x2 : Int32) (x3 : Int32) (x4 : Int64) : Option (Int32) :=
  pn_bd1 (f_X0_other x4) fun ru1 =>
  if ru1 = 0 then
  pn_nm (x3 + (1 : Int32)) fun z3 =>
  rc x2 z3
  else
  pn_bd1 (f_X0_other x4) fun ru4 =>
  pn_bd1 (f_X4_isFirstWith N v_t_cases r_t_members r_t_paper_cites p1 x3 ru4) fun ru5 =>
  if ru5 = 0 then
  pn_nm (x3 + (1 : Int32)) fun z7 =>
  rc x2 z7
  else
  pn_nm (x2 + (1 : Int32)) fun z8 =>
  pn_nm (x3 + (1 : Int32)) fun z9 =>
  rc z8 z9
def lp_X4_reportsOf_4 (N : Nat) (v_t_cases : Int32) (r_t_members : Nat → Int32) (r_t_paper_cites : Nat → Int64) (p1 : Int32) : Nat → Int32 → Int32 → Option (Int32)
  | 0, _, _ => none
  | n + 1, x2, x3 =>
    if (32 : Int32) ≤ x3 then
  some x2
  else
  pn_bd1 (f_X4_isMember v_t_cases r_t_members p1 x3) fun ru11 =>
  if ¬ ru11 = 0 then
  pn_bd1 (f_X1_cite r_t_paper_cites x3) fun ru13 =>
  pn_bd1 (f_X0_report ru13) fun ru14 =>
  pn_bd1 (f_X4_isFirstWith N v_t_cases r_t_members r_t_paper_cites p1 x3 ru14) fun ru15 =>
  if ru15 = 0 then
  j_X4_reportsOf_49 (lp_X4_reportsOf_4 N v_t_cases r_t_members r_t_paper_cites p1 n) N v_t_cases r_t_members r_t_paper_cites p1 x2 x3 ru13
  else
  pn_nm (x2 + (1 : Int32)) fun z17 =>
  j_X4_reportsOf_49 (lp_X4_reportsOf_4 N v_t_cases r_t_members r_t_paper_cites p1 n) N v_t_cases r_t_members r_t_paper_cites p1 z17 x3 ru13
  else
  pn_nm (x3 + (1 : Int32)) fun z18 =>
  lp_X4_reportsOf_4 N v_t_cases r_t_members r_t_paper_cites p1 n x2 z18
def f_X4_reportsOf (N : Nat) (v_t_cases : Int32) (r_t_members : Nat → Int32) (r_t_paper_cites : Nat → Int64) (p1 : Int32) : Option (Int32) :=
  pn_bd1 (lp_X4_reportsOf_4 N v_t_cases r_t_members r_t_paper_cites p1 N (0 : Int32) (0 : Int32)) (fun X4 => (pn_u1 fun x2_w19 => some x2_w19) X4)
set_option maxHeartbeats 4000000 in
set_option maxRecDepth 100000 in
theorem c_X4_reportsOf (l : Launch) (D : va_G) (cI cJ cZ : ClassId) (a_t a_t_paper a_t_linked a_t_caseAt a_t_reasonAt a_t_firstSlot a_t_members a_t_namedBy a_t_foundBy a_t_paper_sizes a_t_paper_cites : Nat) (sz : Nat) (v_t_linkedVersion : Int32) (v_t_studiedVersion : Int32) (v_t_present : Int32) (v_t_fulls : Int32) (v_t_cited : Int32) (v_t_alive : Int32) (v_t_dead : Int32) (v_t_paper_notes : Int32) (v_t_paper_version : Int32) (N : Nat) (v_t_cases : Int32) (r_t_members : Nat → Int32) (r_t_paper_cites : Nat → Int64) (p1 : Int32) (rR : Int32) (hf : f_X4_reportsOf N v_t_cases r_t_members r_t_paper_cites p1 = some rR) : Met l yX4_reportsOf wsX4_reportsOf { frames := 3, cells := 0, slots := 0, locals := 67 } (pn_Pc D cI cJ cZ [.ref a_t, .int p1] [(a_t, .inr (3, [.ref a_t_paper, .ref a_t_linked, .ref a_t_caseAt, .ref a_t_reasonAt, .ref a_t_firstSlot, .ref a_t_members, .ref a_t_namedBy, .ref a_t_foundBy, .int v_t_linkedVersion, .int v_t_studiedVersion, .int v_t_present, .int v_t_fulls, .int v_t_cases, .int v_t_cited, .int v_t_alive, .int v_t_dead])), (a_t_members, .inl (cI, 32, .inl r_t_members)), (a_t_paper, .inr (0, [.ref a_t_paper_sizes, .ref a_t_paper_cites, .int v_t_paper_notes, .int v_t_paper_version])), (a_t_paper_cites, .inl (cJ, 32, .inr (.inl r_t_paper_cites)))] sz) (pn_Qi D rR [(a_t, .inr (3, [.ref a_t_paper, .ref a_t_linked, .ref a_t_caseAt, .ref a_t_reasonAt, .ref a_t_firstSlot, .ref a_t_members, .ref a_t_namedBy, .ref a_t_foundBy, .int v_t_linkedVersion, .int v_t_studiedVersion, .int v_t_present, .int v_t_fulls, .int v_t_cases, .int v_t_cited, .int v_t_alive, .int v_t_dead])), (a_t_members, .inl (cI, 32, .inl r_t_members)), (a_t_paper, .inr (0, [.ref a_t_paper_sizes, .ref a_t_paper_cites, .int v_t_paper_notes, .int v_t_paper_version])), (a_t_paper_cites, .inl (cJ, 32, .inr (.inl r_t_paper_cites)))] (va_A [(a_t, .inr (3, [.ref a_t_paper, .ref a_t_linked, .ref a_t_caseAt, .ref a_t_reasonAt, .ref a_t_firstSlot, .ref a_t_members, .ref a_t_namedBy, .ref a_t_foundBy, .int v_t_linkedVersion, .int v_t_studiedVersion, .int v_t_present, .int v_t_fulls, .int v_t_cases, .int v_t_cited, .int v_t_alive, .int v_t_dead])), (a_t_members, .inl (cI, 32, .inl r_t_members)), (a_t_paper, .inr (0, [.ref a_t_paper_sizes, .ref a_t_paper_cites, .int v_t_paper_notes, .int v_t_paper_version])), (a_t_paper_cites, .inl (cJ, 32, .inr (.inl r_t_paper_cites)))] sz)) 0 0 (va_A [(a_t, .inr (3, [.ref a_t_paper, .ref a_t_linked, .ref a_t_caseAt, .ref a_t_reasonAt, .ref a_t_firstSlot, .ref a_t_members, .ref a_t_namedBy, .ref a_t_foundBy, .int v_t_linkedVersion, .int v_t_studiedVersion, .int v_t_present, .int v_t_fulls, .int v_t_cases, .int v_t_cited, .int v_t_alive, .int v_t_dead])), (a_t_members, .inl (cI, 32, .inl r_t_members)), (a_t_paper, .inr (0, [.ref a_t_paper_sizes, .ref a_t_paper_cites, .int v_t_paper_notes, .int v_t_paper_version])), (a_t_paper_cites, .inl (cJ, 32, .inr (.inl r_t_paper_cites)))] sz) := by
  refine pn_entry (cc := cX4_reportsOf) (maxL := 6) (ret := (some .int)) (Qf := pn_Qi D rR [(a_t, .inr (3, [.ref a_t_paper, .ref a_t_linked, .ref a_t_caseAt, .ref a_t_reasonAt, .ref a_t_firstSlot, .ref a_t_members, .ref a_t_namedBy, .ref a_t_foundBy, .int v_t_linkedVersion, .int v_t_studiedVersion, .int v_t_present, .int v_t_fulls, .int v_t_cases, .int v_t_cited, .int v_t_alive, .int v_t_dead])), (a_t_members, .inl (cI, 32, .inl r_t_members)), (a_t_paper, .inr (0, [.ref a_t_paper_sizes, .ref a_t_paper_cites, .int v_t_paper_notes, .int v_t_paper_version])), (a_t_paper_cites, .inl (cJ, 32, .inr (.inl r_t_paper_cites)))]) (by decide) rfl (Nat.le_of_ble_eq_true rfl) ?_
  intro p e s m args below meth c A ls H locs Qm hQ hx hb hr hlocks hml hown hts hK hP hD hA hS hl
  have hl : lv_has ls 6 [(0, .ref a_t), (1, .int p1)] := hl
  have hinX4 : ∀ w ∈ wsX40, w ∈ wsX4_reportsOf := by decide +kernel
  have fl_12 := hts (.fieldLink RX4 12 "PointingNotes$Study" "paper" "LPointingNotes$Paper;") (by decide +kernel)
  rw [f_X4_reportsOf] at hf
  have lp4 : ∀ (n : Nat) (x2 : Int32) (x3 : Int32) (X : Int32) (H : Heap) (locs : List Loc) (ls : Array Slot), lp_X4_reportsOf_4 N v_t_cases r_t_members r_t_paper_cites p1 n x2 x3 = some X → va_P D vwCl [(a_t, .inr (3, [.ref a_t_paper, .ref a_t_linked, .ref a_t_caseAt, .ref a_t_reasonAt, .ref a_t_firstSlot, .ref a_t_members, .ref a_t_namedBy, .ref a_t_foundBy, .int v_t_linkedVersion, .int v_t_studiedVersion, .int v_t_present, .int v_t_fulls, .int v_t_cases, .int v_t_cited, .int v_t_alive, .int v_t_dead])), (a_t_members, .inl (cI, 32, .inl r_t_members)), (a_t_paper, .inr (0, [.ref a_t_paper_sizes, .ref a_t_paper_cites, .int v_t_paper_notes, .int v_t_paper_version])), (a_t_paper_cites, .inl (cJ, 32, .inr (.inl r_t_paper_cites)))] H → va_S A s.heap H locs → lv_has ls 6 [(0, .ref a_t), (1, .int p1), (2, .int x2), (3, .int x3)] → (∀ (y2 : Int32)  (H : Heap) (locs : List Loc) (ls : Array Slot), X = y2 → va_P D vwCl [(a_t, .inr (3, [.ref a_t_paper, .ref a_t_linked, .ref a_t_caseAt, .ref a_t_reasonAt, .ref a_t_firstSlot, .ref a_t_members, .ref a_t_namedBy, .ref a_t_foundBy, .int v_t_linkedVersion, .int v_t_studiedVersion, .int v_t_present, .int v_t_fulls, .int v_t_cases, .int v_t_cited, .int v_t_alive, .int v_t_dead])), (a_t_members, .inl (cI, 32, .inl r_t_members)), (a_t_paper, .inr (0, [.ref a_t_paper_sizes, .ref a_t_paper_cites, .int v_t_paper_notes, .int v_t_paper_version])), (a_t_paper_cites, .inl (cJ, 32, .inr (.inl r_t_paper_cites)))] H → va_S A s.heap H locs → lv_has ls 6 [(2, .int y2)] → W p l e { frames := 3, cells := 0, slots := 0, locals := 67 } s m args below meth c H locs 0 0 Qm (F0 m 80 ls [])) → W p l e { frames := 3, cells := 0, slots := 0, locals := 67 } s m args below meth c H locs 0 0 Qm (F0 m 4 ls []) := by
    intro n
    induction n with
    | zero => intro x2 x3 X H locs ls hf; cases hf
    | succ n ih =>
      intro x2 x3 X H locs ls hf hP hS hl kx80
      rw [lp_X4_reportsOf_4] at hf
      have jn49 : ∀ (x2 : Int32) (x3 : Int32) (x4 : Int64) (H : Heap) (locs : List Loc) (ls : Array Slot), j_X4_reportsOf_49 (lp_X4_reportsOf_4 N v_t_cases r_t_members r_t_paper_cites p1 n) N v_t_cases r_t_members r_t_paper_cites p1 x2 x3 x4 = some X → va_P D vwCl [(a_t, .inr (3, [.ref a_t_paper, .ref a_t_linked, .ref a_t_caseAt, .ref a_t_reasonAt, .ref a_t_firstSlot, .ref a_t_members, .ref a_t_namedBy, .ref a_t_foundBy, .int v_t_linkedVersion, .int v_t_studiedVersion, .int v_t_present, .int v_t_fulls, .int v_t_cases, .int v_t_cited, .int v_t_alive, .int v_t_dead])), (a_t_members, .inl (cI, 32, .inl r_t_members)), (a_t_paper, .inr (0, [.ref a_t_paper_sizes, .ref a_t_paper_cites, .int v_t_paper_notes, .int v_t_paper_version])), (a_t_paper_cites, .inl (cJ, 32, .inr (.inl r_t_paper_cites)))] H → va_S A s.heap H locs → lv_has ls 6 [(0, .ref a_t), (1, .int p1), (2, .int x2), (3, .int x3), (4, .long x4)] → W p l e { frames := 3, cells := 0, slots := 0, locals := 67 } s m args below meth c H locs 0 0 Qm (F0 m 49 ls []) := by
        intro x2 x3 x4 H locs ls hf hP hS hl
        rw [j_X4_reportsOf_49] at hf
        refine lv_lload hx hb dX4_reportsOf_49 (lv_at hl 4 rfl) ?_
        obtain ⟨ru1, hu1, hf⟩ := pn_bd1_at hf
        refine pn_calli [] (va_runS (As := [.long x4]) (rest := []) ⟨hx, hb, hml, hown, hts⟩ (c_X0_other l D cI cJ cZ H.size x4 ru1 hu1) (va_cwS 1 hts gX4_reportsOf_X0_other rfl rfl rfl hdX0_other ⟨Nat.le_of_ble_eq_true rfl, Nat.le_of_ble_eq_true rfl⟩) (pn_preS [] hP (hD.addr rfl) hK rfl rfl) rfl rfl hl.1 rfl (lv_room (Nat.le_of_ble_eq_true rfl)) dX4_reportsOf_51 ⟨Nat.zero_le _, Nat.zero_le _⟩) hP (hD.addr rfl) hS hA rfl rfl rfl (fun H locs (hP : va_P D vwCl [(a_t, .inr (3, [.ref a_t_paper, .ref a_t_linked, .ref a_t_caseAt, .ref a_t_reasonAt, .ref a_t_firstSlot, .ref a_t_members, .ref a_t_namedBy, .ref a_t_foundBy, .int v_t_linkedVersion, .int v_t_studiedVersion, .int v_t_present, .int v_t_fulls, .int v_t_cases, .int v_t_cited, .int v_t_alive, .int v_t_dead])), (a_t_members, .inl (cI, 32, .inl r_t_members)), (a_t_paper, .inr (0, [.ref a_t_paper_sizes, .ref a_t_paper_cites, .int v_t_paper_notes, .int v_t_paper_version])), (a_t_paper_cites, .inl (cJ, 32, .inr (.inl r_t_paper_cites)))] H) _ hS => ?_)
        refine lv_if_eq (tgt := 74) hx hb dX4_reportsOf_54 (by decide) (fun c2 => ?_) (fun c2 => ?_)
        · have hf := pn_ifp c2 hf
          obtain ⟨z3, ez3⟩ : ∃ y : Int32, y = x3 + (1) := ⟨_, rfl⟩
          have hf := pn_nm_at ez3 hf
          refine lv_iinc (v := z3) (lv' := [(3, .int z3), (0, .ref a_t), (1, .int p1), (2, .int x2), (4, .long x4)]) hx hb dX4_reportsOf_74 hl (k := 3) rfl (by rw [ez3]; rfl) (by decide) rfl (fun ls hl => ?_)
          refine lv_goto (tgt := 4) hx hb dX4_reportsOf_77 (by decide) ?_
          exact ih x2 z3 X H locs ls hf hP hS (lv_sub hl [1, 2, 3, 0] rfl) kx80
        · have hf := pn_ifn c2 hf
          refine lv_aload_n hx hb dX4_reportsOf_57 rfl (lv_at hl 0 rfl) ?_
          refine lv_iload_n hx hb dX4_reportsOf_58 rfl (lv_at hl 1 rfl) ?_
          refine lv_iload_n hx hb dX4_reportsOf_59 rfl (lv_at hl 3 rfl) ?_
          refine lv_lload hx hb dX4_reportsOf_60 (lv_at hl 4 rfl) ?_
          obtain ⟨ru4, hu4, hf⟩ := pn_bd1_at hf
          refine pn_calli [] (va_runS (As := [.long x4]) (rest := [.int x3, .int p1, .ref a_t]) ⟨hx, hb, hml, hown, hts⟩ (c_X0_other l D cI cJ cZ H.size x4 ru4 hu4) (va_cwS 1 hts gX4_reportsOf_X0_other rfl rfl rfl hdX0_other ⟨Nat.le_of_ble_eq_true rfl, Nat.le_of_ble_eq_true rfl⟩) (pn_preS [] hP (hD.addr rfl) hK rfl rfl) rfl rfl hl.1 rfl (lv_room (Nat.le_of_ble_eq_true rfl)) dX4_reportsOf_62 ⟨Nat.zero_le _, Nat.zero_le _⟩) hP (hD.addr rfl) hS hA rfl rfl rfl (fun H locs (hP : va_P D vwCl [(a_t, .inr (3, [.ref a_t_paper, .ref a_t_linked, .ref a_t_caseAt, .ref a_t_reasonAt, .ref a_t_firstSlot, .ref a_t_members, .ref a_t_namedBy, .ref a_t_foundBy, .int v_t_linkedVersion, .int v_t_studiedVersion, .int v_t_present, .int v_t_fulls, .int v_t_cases, .int v_t_cited, .int v_t_alive, .int v_t_dead])), (a_t_members, .inl (cI, 32, .inl r_t_members)), (a_t_paper, .inr (0, [.ref a_t_paper_sizes, .ref a_t_paper_cites, .int v_t_paper_notes, .int v_t_paper_version])), (a_t_paper_cites, .inl (cJ, 32, .inr (.inl r_t_paper_cites)))] H) _ hS => ?_)
          obtain ⟨ru5, hu5, hf⟩ := pn_bd1_at hf
          refine pn_calli [0, 1, 2, 3] (va_runV (As := [.int p1, .int x3, .int ru4]) (rest := []) ⟨hx, hb, hml, hown, hts⟩ (c_X4_isFirstWith l D cI cJ cZ a_t a_t_paper a_t_linked a_t_caseAt a_t_reasonAt a_t_firstSlot a_t_members a_t_namedBy a_t_foundBy a_t_paper_sizes a_t_paper_cites H.size v_t_linkedVersion v_t_studiedVersion v_t_present v_t_fulls v_t_cited v_t_alive v_t_dead v_t_paper_notes v_t_paper_version N v_t_cases r_t_members r_t_paper_cites p1 x3 ru4 ru5 hu5) (cwV 3 hts gX4_reportsOf_X4_isFirstWith rfl rfl rfl hdX4_isFirstWith ⟨Nat.le_of_ble_eq_true rfl, Nat.le_of_ble_eq_true rfl⟩) (pn_preV [0, 1, 2, 3] hP (hD.addr rfl) hK rfl rfl (q0 := 0) (ci := 3) rfl rfl) rfl rfl hl.1 rfl (lv_room (Nat.le_of_ble_eq_true rfl)) dX4_reportsOf_65 ⟨Nat.zero_le _, Nat.zero_le _⟩) hP (hD.addr rfl) hS hA rfl rfl rfl (fun H locs (hP : va_P D vwCl [(a_t, .inr (3, [.ref a_t_paper, .ref a_t_linked, .ref a_t_caseAt, .ref a_t_reasonAt, .ref a_t_firstSlot, .ref a_t_members, .ref a_t_namedBy, .ref a_t_foundBy, .int v_t_linkedVersion, .int v_t_studiedVersion, .int v_t_present, .int v_t_fulls, .int v_t_cases, .int v_t_cited, .int v_t_alive, .int v_t_dead])), (a_t_members, .inl (cI, 32, .inl r_t_members)), (a_t_paper, .inr (0, [.ref a_t_paper_sizes, .ref a_t_paper_cites, .int v_t_paper_notes, .int v_t_paper_version])), (a_t_paper_cites, .inl (cJ, 32, .inr (.inl r_t_paper_cites)))] H) _ hS => ?_)
          refine lv_if_eq (tgt := 74) hx hb dX4_reportsOf_68 (by decide) (fun c6 => ?_) (fun c6 => ?_)
          · have hf := pn_ifp c6 hf
            obtain ⟨z7, ez7⟩ : ∃ y : Int32, y = x3 + (1) := ⟨_, rfl⟩
            have hf := pn_nm_at ez7 hf
            refine lv_iinc (v := z7) (lv' := [(3, .int z7), (0, .ref a_t), (1, .int p1), (2, .int x2), (4, .long x4)]) hx hb dX4_reportsOf_74 hl (k := 3) rfl (by rw [ez7]; rfl) (by decide) rfl (fun ls hl => ?_)
            refine lv_goto (tgt := 4) hx hb dX4_reportsOf_77 (by decide) ?_
            exact ih x2 z7 X H locs ls hf hP hS (lv_sub hl [1, 2, 3, 0] rfl) kx80
          · have hf := pn_ifn c6 hf
            obtain ⟨z8, ez8⟩ : ∃ y : Int32, y = x2 + (1) := ⟨_, rfl⟩
            have hf := pn_nm_at ez8 hf
            refine lv_iinc (v := z8) (lv' := [(2, .int z8), (0, .ref a_t), (1, .int p1), (3, .int x3), (4, .long x4)]) hx hb dX4_reportsOf_71 hl (k := 2) rfl (by rw [ez8]; rfl) (by decide) rfl (fun ls hl => ?_)
            obtain ⟨z9, ez9⟩ : ∃ y : Int32, y = x3 + (1) := ⟨_, rfl⟩
            have hf := pn_nm_at ez9 hf
            refine lv_iinc (v := z9) (lv' := [(3, .int z9), (2, .int z8), (0, .ref a_t), (1, .int p1), (4, .long x4)]) hx hb dX4_reportsOf_74 hl (k := 3) rfl (by rw [ez9]; rfl) (by decide) rfl (fun ls hl => ?_)
            refine lv_goto (tgt := 4) hx hb dX4_reportsOf_77 (by decide) ?_
            exact ih z8 z9 X H locs ls hf hP hS (lv_sub hl [2, 3, 1, 0] rfl) kx80
      refine lv_iload_n hx hb dX4_reportsOf_4 rfl (lv_at hl 3 rfl) ?_
      refine lv_bipush (v := (32)) hx hb dX4_reportsOf_5 (by decide) ?_
      refine lv_icmp_ge (tgt := 80) hx hb dX4_reportsOf_7 (by decide) (fun c10 => ?_) (fun c10 => ?_)
      · have hf := pn_ifp c10 hf
        exact kx80 x2 H locs ls (Option.some.inj hf).symm hP hS (lv_sub hl [2] rfl)
      · have hf := pn_ifn c10 hf
        refine lv_aload_n hx hb dX4_reportsOf_10 rfl (lv_at hl 0 rfl) ?_
        refine lv_iload_n hx hb dX4_reportsOf_11 rfl (lv_at hl 1 rfl) ?_
        refine lv_iload_n hx hb dX4_reportsOf_12 rfl (lv_at hl 3 rfl) ?_
        obtain ⟨ru11, hu11, hf⟩ := pn_bd1_at hf
        refine pn_calli [0, 1] (va_runV (As := [.int p1, .int x3]) (rest := []) ⟨hx, hb, hml, hown, hts⟩ (c_X4_isMember l D cI cJ cZ a_t a_t_paper a_t_linked a_t_caseAt a_t_reasonAt a_t_firstSlot a_t_members a_t_namedBy a_t_foundBy H.size v_t_linkedVersion v_t_studiedVersion v_t_present v_t_fulls v_t_cited v_t_alive v_t_dead v_t_cases r_t_members p1 x3 ru11 hu11) (cwV 2 hts gX4_reportsOf_X4_isMember rfl rfl rfl hdX4_isMember ⟨Nat.le_of_ble_eq_true rfl, Nat.le_of_ble_eq_true rfl⟩) (pn_preV [0, 1] hP (hD.addr rfl) hK rfl rfl (q0 := 0) (ci := 3) rfl rfl) rfl rfl hl.1 rfl (lv_room (Nat.le_of_ble_eq_true rfl)) dX4_reportsOf_13 ⟨Nat.zero_le _, Nat.zero_le _⟩) hP (hD.addr rfl) hS hA rfl rfl rfl (fun H locs (hP : va_P D vwCl [(a_t, .inr (3, [.ref a_t_paper, .ref a_t_linked, .ref a_t_caseAt, .ref a_t_reasonAt, .ref a_t_firstSlot, .ref a_t_members, .ref a_t_namedBy, .ref a_t_foundBy, .int v_t_linkedVersion, .int v_t_studiedVersion, .int v_t_present, .int v_t_fulls, .int v_t_cases, .int v_t_cited, .int v_t_alive, .int v_t_dead])), (a_t_members, .inl (cI, 32, .inl r_t_members)), (a_t_paper, .inr (0, [.ref a_t_paper_sizes, .ref a_t_paper_cites, .int v_t_paper_notes, .int v_t_paper_version])), (a_t_paper_cites, .inl (cJ, 32, .inr (.inl r_t_paper_cites)))] H) _ hS => ?_)
        refine lv_if_ne (tgt := 22) hx hb dX4_reportsOf_16 (by decide) (fun c12 => ?_) (fun c12 => ?_)
        · have hf := pn_ifp c12 hf
          refine lv_aload_n hx hb dX4_reportsOf_22 rfl (lv_at hl 0 rfl) ?_
          refine va_get (D := D) (ci := 3) (v := .ref a_t_paper) (C := RX4) (T := TX4) (N := 16) hx hb hts hinX4 hown hK.1 hP 0 rfl rfl 0 (by decide) fl_12 (fun _ h9 => h9) rfl dX4_reportsOf_23 ?_
          refine lv_iload_n hx hb dX4_reportsOf_26 rfl (lv_at hl 3 rfl) ?_
          obtain ⟨ru13, hu13, hf⟩ := pn_bd1_at hf
          refine pn_calll [2, 3] (va_runV (As := [.int x3]) (rest := []) ⟨hx, hb, hml, hown, hts⟩ (c_X1_cite l D cI cJ cZ a_t_paper a_t_paper_sizes a_t_paper_cites H.size v_t_paper_notes v_t_paper_version r_t_paper_cites x3 ru13 hu13) (cwV 1 hts gX4_reportsOf_X1_cite rfl rfl rfl hdX1_cite ⟨Nat.le_of_ble_eq_true rfl, Nat.le_of_ble_eq_true rfl⟩) (pn_preV [2, 3] hP (hD.addr rfl) hK rfl rfl (q0 := 2) (ci := 0) rfl rfl) rfl rfl hl.1 rfl (lv_room (Nat.le_of_ble_eq_true rfl)) dX4_reportsOf_27 ⟨Nat.zero_le _, Nat.zero_le _⟩) hP (hD.addr rfl) hS hA rfl rfl rfl (fun H locs (hP : va_P D vwCl [(a_t, .inr (3, [.ref a_t_paper, .ref a_t_linked, .ref a_t_caseAt, .ref a_t_reasonAt, .ref a_t_firstSlot, .ref a_t_members, .ref a_t_namedBy, .ref a_t_foundBy, .int v_t_linkedVersion, .int v_t_studiedVersion, .int v_t_present, .int v_t_fulls, .int v_t_cases, .int v_t_cited, .int v_t_alive, .int v_t_dead])), (a_t_members, .inl (cI, 32, .inl r_t_members)), (a_t_paper, .inr (0, [.ref a_t_paper_sizes, .ref a_t_paper_cites, .int v_t_paper_notes, .int v_t_paper_version])), (a_t_paper_cites, .inl (cJ, 32, .inr (.inl r_t_paper_cites)))] H) _ hS => ?_)
          refine lv_lstore (lv' := [(4, .long ru13), (0, .ref a_t), (1, .int p1), (2, .int x2), (3, .int x3)]) hx hb dX4_reportsOf_30 hl (by decide) rfl (fun ls hl => ?_)
          refine lv_aload_n hx hb dX4_reportsOf_32 rfl (lv_at hl 1 rfl) ?_
          refine lv_iload_n hx hb dX4_reportsOf_33 rfl (lv_at hl 2 rfl) ?_
          refine lv_iload_n hx hb dX4_reportsOf_34 rfl (lv_at hl 4 rfl) ?_
          refine lv_lload hx hb dX4_reportsOf_35 (lv_at hl 0 rfl) ?_
          obtain ⟨ru14, hu14, hf⟩ := pn_bd1_at hf
          refine pn_calli [] (va_runS (As := [.long ru13]) (rest := [.int x3, .int p1, .ref a_t]) ⟨hx, hb, hml, hown, hts⟩ (c_X0_report l D cI cJ cZ H.size ru13 ru14 hu14) (va_cwS 1 hts gX4_reportsOf_X0_report rfl rfl rfl hdX0_report ⟨Nat.le_of_ble_eq_true rfl, Nat.le_of_ble_eq_true rfl⟩) (pn_preS [] hP (hD.addr rfl) hK rfl rfl) rfl rfl hl.1 rfl (lv_room (Nat.le_of_ble_eq_true rfl)) dX4_reportsOf_37 ⟨Nat.zero_le _, Nat.zero_le _⟩) hP (hD.addr rfl) hS hA rfl rfl rfl (fun H locs (hP : va_P D vwCl [(a_t, .inr (3, [.ref a_t_paper, .ref a_t_linked, .ref a_t_caseAt, .ref a_t_reasonAt, .ref a_t_firstSlot, .ref a_t_members, .ref a_t_namedBy, .ref a_t_foundBy, .int v_t_linkedVersion, .int v_t_studiedVersion, .int v_t_present, .int v_t_fulls, .int v_t_cases, .int v_t_cited, .int v_t_alive, .int v_t_dead])), (a_t_members, .inl (cI, 32, .inl r_t_members)), (a_t_paper, .inr (0, [.ref a_t_paper_sizes, .ref a_t_paper_cites, .int v_t_paper_notes, .int v_t_paper_version])), (a_t_paper_cites, .inl (cJ, 32, .inr (.inl r_t_paper_cites)))] H) _ hS => ?_)
          obtain ⟨ru15, hu15, hf⟩ := pn_bd1_at hf
          refine pn_calli [0, 1, 2, 3] (va_runV (As := [.int p1, .int x3, .int ru14]) (rest := []) ⟨hx, hb, hml, hown, hts⟩ (c_X4_isFirstWith l D cI cJ cZ a_t a_t_paper a_t_linked a_t_caseAt a_t_reasonAt a_t_firstSlot a_t_members a_t_namedBy a_t_foundBy a_t_paper_sizes a_t_paper_cites H.size v_t_linkedVersion v_t_studiedVersion v_t_present v_t_fulls v_t_cited v_t_alive v_t_dead v_t_paper_notes v_t_paper_version N v_t_cases r_t_members r_t_paper_cites p1 x3 ru14 ru15 hu15) (cwV 3 hts gX4_reportsOf_X4_isFirstWith rfl rfl rfl hdX4_isFirstWith ⟨Nat.le_of_ble_eq_true rfl, Nat.le_of_ble_eq_true rfl⟩) (pn_preV [0, 1, 2, 3] hP (hD.addr rfl) hK rfl rfl (q0 := 0) (ci := 3) rfl rfl) rfl rfl hl.1 rfl (lv_room (Nat.le_of_ble_eq_true rfl)) dX4_reportsOf_40 ⟨Nat.zero_le _, Nat.zero_le _⟩) hP (hD.addr rfl) hS hA rfl rfl rfl (fun H locs (hP : va_P D vwCl [(a_t, .inr (3, [.ref a_t_paper, .ref a_t_linked, .ref a_t_caseAt, .ref a_t_reasonAt, .ref a_t_firstSlot, .ref a_t_members, .ref a_t_namedBy, .ref a_t_foundBy, .int v_t_linkedVersion, .int v_t_studiedVersion, .int v_t_present, .int v_t_fulls, .int v_t_cases, .int v_t_cited, .int v_t_alive, .int v_t_dead])), (a_t_members, .inl (cI, 32, .inl r_t_members)), (a_t_paper, .inr (0, [.ref a_t_paper_sizes, .ref a_t_paper_cites, .int v_t_paper_notes, .int v_t_paper_version])), (a_t_paper_cites, .inl (cJ, 32, .inr (.inl r_t_paper_cites)))] H) _ hS => ?_)
          refine lv_if_eq (tgt := 49) hx hb dX4_reportsOf_43 (by decide) (fun c16 => ?_) (fun c16 => ?_)
          · have hf := pn_ifp c16 hf
            exact jn49 x2 x3 ru13 H locs ls hf hP hS (lv_sub hl [1, 2, 3, 4, 0] rfl)
          · have hf := pn_ifn c16 hf
            obtain ⟨z17, ez17⟩ : ∃ y : Int32, y = x2 + (1) := ⟨_, rfl⟩
            have hf := pn_nm_at ez17 hf
            refine lv_iinc (v := z17) (lv' := [(2, .int z17), (4, .long ru13), (0, .ref a_t), (1, .int p1), (3, .int x3)]) hx hb dX4_reportsOf_46 hl (k := 3) rfl (by rw [ez17]; rfl) (by decide) rfl (fun ls hl => ?_)
            exact jn49 z17 x3 ru13 H locs ls hf hP hS (lv_sub hl [2, 3, 0, 4, 1] rfl)
        · have hf := pn_ifq c12 hf
          refine lv_goto (tgt := 74) hx hb dX4_reportsOf_19 (by decide) ?_
          obtain ⟨z18, ez18⟩ : ∃ y : Int32, y = x3 + (1) := ⟨_, rfl⟩
          have hf := pn_nm_at ez18 hf
          refine lv_iinc (v := z18) (lv' := [(3, .int z18), (0, .ref a_t), (1, .int p1), (2, .int x2)]) hx hb dX4_reportsOf_74 hl (k := 3) rfl (by rw [ez18]; rfl) (by decide) rfl (fun ls hl => ?_)
          refine lv_goto (tgt := 4) hx hb dX4_reportsOf_77 (by decide) ?_
          exact ih x2 z18 X H locs ls hf hP hS (lv_sub hl [1, 2, 3, 0] rfl) kx80
  refine lv_iconst (v := (0)) hx hb dX4_reportsOf_0 (by decide) ?_
  refine lv_istore_n (lv' := [(2, .int (0 : Int32)), (0, .ref a_t), (1, .int p1)]) hx hb dX4_reportsOf_1 rfl hl (by decide) rfl (fun ls hl => ?_)
  refine lv_iconst (v := (0)) hx hb dX4_reportsOf_2 (by decide) ?_
  refine lv_istore_n (lv' := [(3, .int (0 : Int32)), (2, .int (0 : Int32)), (0, .ref a_t), (1, .int p1)]) hx hb dX4_reportsOf_3 rfl hl (by decide) rfl (fun ls hl => ?_)
  obtain ⟨X4, hX4, hf⟩ := pn_bd1_at hf
  refine lp4 N (0 : Int32) (0 : Int32) X4 H locs ls hX4 hP hS (lv_sub hl [2, 3, 1, 0] rfl) ?_
  · intro x2_w19 H locs ls eX hP hS hl
    rw [eX] at hf
    have hf := pn_u1_at hf
    refine lv_iload_n hx hb dX4_reportsOf_80 rfl (lv_at hl 0 rfl) ?_
    cases hf
    rw [hQ]
    exact pn_reti hx hb hr hlocks hP hS rfl dX4_reportsOf_81
def lp_X4_clashes_2 (v_t_cases : Int32) (r_t_firstSlot : Nat → Int32) (r_t_members : Nat → Int32) (r_t_paper_cites : Nat → Int64) (p1 : Int32) : Nat → Int32 → Option (Unit ⊕ Unit)
  | 0, _ => none
  | n + 1, x2 =>
    if (32 : Int32) ≤ x2 then
  some (.inr ())
  else
  pn_bd1 (f_X4_isMember v_t_cases r_t_members p1 x2) fun ru2 =>
  if ¬ ru2 = 0 then
  pn_bd1 (f_X1_cite r_t_paper_cites x2) fun ru4 =>
  pn_bd1 (f_X4_firstCite v_t_cases r_t_firstSlot r_t_paper_cites p1) fun ru5 =>
  pn_bd1 (f_X0_haveSameName ru4 ru5) fun ru6 =>
  if ¬ ru6 = 0 then
  pn_nm (x2 + (1 : Int32)) fun z8 =>
  lp_X4_clashes_2 v_t_cases r_t_firstSlot r_t_members r_t_paper_cites p1 n z8
  else
  some (.inl ())
  else
  pn_nm (x2 + (1 : Int32)) fun z9 =>
  lp_X4_clashes_2 v_t_cases r_t_firstSlot r_t_members r_t_paper_cites p1 n z9
def f_X4_clashes (N : Nat) (v_t_cases : Int32) (r_t_firstSlot : Nat → Int32) (r_t_members : Nat → Int32) (r_t_paper_cites : Nat → Int64) (p1 : Int32) : Option (Int32) :=
  pn_bd1 (lp_X4_clashes_2 v_t_cases r_t_firstSlot r_t_members r_t_paper_cites p1 N (0 : Int32)) (fun X2 => pn_s2 X2 (pn_u0 (some (1 : Int32))) (fun Y2_0 => (pn_u0 (some (0 : Int32))) Y2_0))
set_option maxHeartbeats 4000000 in
set_option maxRecDepth 100000 in
theorem c_X4_clashes (l : Launch) (D : va_G) (cI cJ cZ : ClassId) (a_t a_t_paper a_t_linked a_t_caseAt a_t_reasonAt a_t_firstSlot a_t_members a_t_namedBy a_t_foundBy a_t_paper_sizes a_t_paper_cites : Nat) (sz : Nat) (v_t_linkedVersion : Int32) (v_t_studiedVersion : Int32) (v_t_present : Int32) (v_t_fulls : Int32) (v_t_cited : Int32) (v_t_alive : Int32) (v_t_dead : Int32) (v_t_paper_notes : Int32) (v_t_paper_version : Int32) (N : Nat) (v_t_cases : Int32) (r_t_firstSlot : Nat → Int32) (r_t_members : Nat → Int32) (r_t_paper_cites : Nat → Int64) (p1 : Int32) (rR : Int32) (hf : f_X4_clashes N v_t_cases r_t_firstSlot r_t_members r_t_paper_cites p1 = some rR) : Met l yX4_clashes wsX4_clashes { frames := 2, cells := 0, slots := 0, locals := 44 } (pn_Pc D cI cJ cZ [.ref a_t, .int p1] [(a_t, .inr (3, [.ref a_t_paper, .ref a_t_linked, .ref a_t_caseAt, .ref a_t_reasonAt, .ref a_t_firstSlot, .ref a_t_members, .ref a_t_namedBy, .ref a_t_foundBy, .int v_t_linkedVersion, .int v_t_studiedVersion, .int v_t_present, .int v_t_fulls, .int v_t_cases, .int v_t_cited, .int v_t_alive, .int v_t_dead])), (a_t_firstSlot, .inl (cI, 32, .inl r_t_firstSlot)), (a_t_members, .inl (cI, 32, .inl r_t_members)), (a_t_paper, .inr (0, [.ref a_t_paper_sizes, .ref a_t_paper_cites, .int v_t_paper_notes, .int v_t_paper_version])), (a_t_paper_cites, .inl (cJ, 32, .inr (.inl r_t_paper_cites)))] sz) (pn_Qi D rR [(a_t, .inr (3, [.ref a_t_paper, .ref a_t_linked, .ref a_t_caseAt, .ref a_t_reasonAt, .ref a_t_firstSlot, .ref a_t_members, .ref a_t_namedBy, .ref a_t_foundBy, .int v_t_linkedVersion, .int v_t_studiedVersion, .int v_t_present, .int v_t_fulls, .int v_t_cases, .int v_t_cited, .int v_t_alive, .int v_t_dead])), (a_t_firstSlot, .inl (cI, 32, .inl r_t_firstSlot)), (a_t_members, .inl (cI, 32, .inl r_t_members)), (a_t_paper, .inr (0, [.ref a_t_paper_sizes, .ref a_t_paper_cites, .int v_t_paper_notes, .int v_t_paper_version])), (a_t_paper_cites, .inl (cJ, 32, .inr (.inl r_t_paper_cites)))] (va_A [(a_t, .inr (3, [.ref a_t_paper, .ref a_t_linked, .ref a_t_caseAt, .ref a_t_reasonAt, .ref a_t_firstSlot, .ref a_t_members, .ref a_t_namedBy, .ref a_t_foundBy, .int v_t_linkedVersion, .int v_t_studiedVersion, .int v_t_present, .int v_t_fulls, .int v_t_cases, .int v_t_cited, .int v_t_alive, .int v_t_dead])), (a_t_firstSlot, .inl (cI, 32, .inl r_t_firstSlot)), (a_t_members, .inl (cI, 32, .inl r_t_members)), (a_t_paper, .inr (0, [.ref a_t_paper_sizes, .ref a_t_paper_cites, .int v_t_paper_notes, .int v_t_paper_version])), (a_t_paper_cites, .inl (cJ, 32, .inr (.inl r_t_paper_cites)))] sz)) 0 0 (va_A [(a_t, .inr (3, [.ref a_t_paper, .ref a_t_linked, .ref a_t_caseAt, .ref a_t_reasonAt, .ref a_t_firstSlot, .ref a_t_members, .ref a_t_namedBy, .ref a_t_foundBy, .int v_t_linkedVersion, .int v_t_studiedVersion, .int v_t_present, .int v_t_fulls, .int v_t_cases, .int v_t_cited, .int v_t_alive, .int v_t_dead])), (a_t_firstSlot, .inl (cI, 32, .inl r_t_firstSlot)), (a_t_members, .inl (cI, 32, .inl r_t_members)), (a_t_paper, .inr (0, [.ref a_t_paper_sizes, .ref a_t_paper_cites, .int v_t_paper_notes, .int v_t_paper_version])), (a_t_paper_cites, .inl (cJ, 32, .inr (.inl r_t_paper_cites)))] sz) := by
  refine pn_entry (cc := cX4_clashes) (maxL := 3) (ret := (some .boolean)) (Qf := pn_Qi D rR [(a_t, .inr (3, [.ref a_t_paper, .ref a_t_linked, .ref a_t_caseAt, .ref a_t_reasonAt, .ref a_t_firstSlot, .ref a_t_members, .ref a_t_namedBy, .ref a_t_foundBy, .int v_t_linkedVersion, .int v_t_studiedVersion, .int v_t_present, .int v_t_fulls, .int v_t_cases, .int v_t_cited, .int v_t_alive, .int v_t_dead])), (a_t_firstSlot, .inl (cI, 32, .inl r_t_firstSlot)), (a_t_members, .inl (cI, 32, .inl r_t_members)), (a_t_paper, .inr (0, [.ref a_t_paper_sizes, .ref a_t_paper_cites, .int v_t_paper_notes, .int v_t_paper_version])), (a_t_paper_cites, .inl (cJ, 32, .inr (.inl r_t_paper_cites)))]) (by decide) rfl (Nat.le_of_ble_eq_true rfl) ?_
  intro p e s m args below meth c A ls H locs Qm hQ hx hb hr hlocks hml hown hts hK hP hD hA hS hl
  have hl : lv_has ls 3 [(0, .ref a_t), (1, .int p1)] := hl
  have hinX4 : ∀ w ∈ wsX40, w ∈ wsX4_clashes := by decide +kernel
  have fl_12 := hts (.fieldLink RX4 12 "PointingNotes$Study" "paper" "LPointingNotes$Paper;") (by decide +kernel)
  rw [f_X4_clashes] at hf
  have lp2 : ∀ (n : Nat) (x2 : Int32) (X : Unit ⊕ Unit) (H : Heap) (locs : List Loc) (ls : Array Slot), lp_X4_clashes_2 v_t_cases r_t_firstSlot r_t_members r_t_paper_cites p1 n x2 = some X → va_P D vwCl [(a_t, .inr (3, [.ref a_t_paper, .ref a_t_linked, .ref a_t_caseAt, .ref a_t_reasonAt, .ref a_t_firstSlot, .ref a_t_members, .ref a_t_namedBy, .ref a_t_foundBy, .int v_t_linkedVersion, .int v_t_studiedVersion, .int v_t_present, .int v_t_fulls, .int v_t_cases, .int v_t_cited, .int v_t_alive, .int v_t_dead])), (a_t_firstSlot, .inl (cI, 32, .inl r_t_firstSlot)), (a_t_members, .inl (cI, 32, .inl r_t_members)), (a_t_paper, .inr (0, [.ref a_t_paper_sizes, .ref a_t_paper_cites, .int v_t_paper_notes, .int v_t_paper_version])), (a_t_paper_cites, .inl (cJ, 32, .inr (.inl r_t_paper_cites)))] H → va_S A s.heap H locs → lv_has ls 3 [(0, .ref a_t), (1, .int p1), (2, .int x2)] → (∀   (H : Heap) (locs : List Loc) (ls : Array Slot), X = .inl () → va_P D vwCl [(a_t, .inr (3, [.ref a_t_paper, .ref a_t_linked, .ref a_t_caseAt, .ref a_t_reasonAt, .ref a_t_firstSlot, .ref a_t_members, .ref a_t_namedBy, .ref a_t_foundBy, .int v_t_linkedVersion, .int v_t_studiedVersion, .int v_t_present, .int v_t_fulls, .int v_t_cases, .int v_t_cited, .int v_t_alive, .int v_t_dead])), (a_t_firstSlot, .inl (cI, 32, .inl r_t_firstSlot)), (a_t_members, .inl (cI, 32, .inl r_t_members)), (a_t_paper, .inr (0, [.ref a_t_paper_sizes, .ref a_t_paper_cites, .int v_t_paper_notes, .int v_t_paper_version])), (a_t_paper_cites, .inl (cJ, 32, .inr (.inl r_t_paper_cites)))] H → va_S A s.heap H locs → lv_has ls 3 [] → W p l e { frames := 2, cells := 0, slots := 0, locals := 44 } s m args below meth c H locs 0 0 Qm (F0 m 39 ls [])) → (∀   (H : Heap) (locs : List Loc) (ls : Array Slot), X = .inr () → va_P D vwCl [(a_t, .inr (3, [.ref a_t_paper, .ref a_t_linked, .ref a_t_caseAt, .ref a_t_reasonAt, .ref a_t_firstSlot, .ref a_t_members, .ref a_t_namedBy, .ref a_t_foundBy, .int v_t_linkedVersion, .int v_t_studiedVersion, .int v_t_present, .int v_t_fulls, .int v_t_cases, .int v_t_cited, .int v_t_alive, .int v_t_dead])), (a_t_firstSlot, .inl (cI, 32, .inl r_t_firstSlot)), (a_t_members, .inl (cI, 32, .inl r_t_members)), (a_t_paper, .inr (0, [.ref a_t_paper_sizes, .ref a_t_paper_cites, .int v_t_paper_notes, .int v_t_paper_version])), (a_t_paper_cites, .inl (cJ, 32, .inr (.inl r_t_paper_cites)))] H → va_S A s.heap H locs → lv_has ls 3 [] → W p l e { frames := 2, cells := 0, slots := 0, locals := 44 } s m args below meth c H locs 0 0 Qm (F0 m 47 ls [])) → W p l e { frames := 2, cells := 0, slots := 0, locals := 44 } s m args below meth c H locs 0 0 Qm (F0 m 2 ls []) := by
    intro n
    induction n with
    | zero => intro x2 X H locs ls hf; cases hf
    | succ n ih =>
      intro x2 X H locs ls hf hP hS hl kx39 kx47
      rw [lp_X4_clashes_2] at hf
      refine lv_iload_n hx hb dX4_clashes_2 rfl (lv_at hl 2 rfl) ?_
      refine lv_bipush (v := (32)) hx hb dX4_clashes_3 (by decide) ?_
      refine lv_icmp_ge (tgt := 47) hx hb dX4_clashes_5 (by decide) (fun c1 => ?_) (fun c1 => ?_)
      · have hf := pn_ifp c1 hf
        exact kx47  H locs ls (Option.some.inj hf).symm hP hS (lv_sub hl [] rfl)
      · have hf := pn_ifn c1 hf
        refine lv_aload_n hx hb dX4_clashes_8 rfl (lv_at hl 0 rfl) ?_
        refine lv_iload_n hx hb dX4_clashes_9 rfl (lv_at hl 1 rfl) ?_
        refine lv_iload_n hx hb dX4_clashes_10 rfl (lv_at hl 2 rfl) ?_
        obtain ⟨ru2, hu2, hf⟩ := pn_bd1_at hf
        refine pn_calli [0, 2] (va_runV (As := [.int p1, .int x2]) (rest := []) ⟨hx, hb, hml, hown, hts⟩ (c_X4_isMember l D cI cJ cZ a_t a_t_paper a_t_linked a_t_caseAt a_t_reasonAt a_t_firstSlot a_t_members a_t_namedBy a_t_foundBy H.size v_t_linkedVersion v_t_studiedVersion v_t_present v_t_fulls v_t_cited v_t_alive v_t_dead v_t_cases r_t_members p1 x2 ru2 hu2) (cwV 2 hts gX4_clashes_X4_isMember rfl rfl rfl hdX4_isMember ⟨Nat.le_of_ble_eq_true rfl, Nat.le_of_ble_eq_true rfl⟩) (pn_preV [0, 2] hP (hD.addr rfl) hK rfl rfl (q0 := 0) (ci := 3) rfl rfl) rfl rfl hl.1 rfl (lv_room (Nat.le_of_ble_eq_true rfl)) dX4_clashes_11 ⟨Nat.zero_le _, Nat.zero_le _⟩) hP (hD.addr rfl) hS hA rfl rfl rfl (fun H locs (hP : va_P D vwCl [(a_t, .inr (3, [.ref a_t_paper, .ref a_t_linked, .ref a_t_caseAt, .ref a_t_reasonAt, .ref a_t_firstSlot, .ref a_t_members, .ref a_t_namedBy, .ref a_t_foundBy, .int v_t_linkedVersion, .int v_t_studiedVersion, .int v_t_present, .int v_t_fulls, .int v_t_cases, .int v_t_cited, .int v_t_alive, .int v_t_dead])), (a_t_firstSlot, .inl (cI, 32, .inl r_t_firstSlot)), (a_t_members, .inl (cI, 32, .inl r_t_members)), (a_t_paper, .inr (0, [.ref a_t_paper_sizes, .ref a_t_paper_cites, .int v_t_paper_notes, .int v_t_paper_version])), (a_t_paper_cites, .inl (cJ, 32, .inr (.inl r_t_paper_cites)))] H) _ hS => ?_)
        refine lv_if_ne (tgt := 20) hx hb dX4_clashes_14 (by decide) (fun c3 => ?_) (fun c3 => ?_)
        · have hf := pn_ifp c3 hf
          refine lv_aload_n hx hb dX4_clashes_20 rfl (lv_at hl 0 rfl) ?_
          refine va_get (D := D) (ci := 3) (v := .ref a_t_paper) (C := RX4) (T := TX4) (N := 16) hx hb hts hinX4 hown hK.1 hP 0 rfl rfl 0 (by decide) fl_12 (fun _ h9 => h9) rfl dX4_clashes_21 ?_
          refine lv_iload_n hx hb dX4_clashes_24 rfl (lv_at hl 2 rfl) ?_
          obtain ⟨ru4, hu4, hf⟩ := pn_bd1_at hf
          refine pn_calll [3, 4] (va_runV (As := [.int x2]) (rest := []) ⟨hx, hb, hml, hown, hts⟩ (c_X1_cite l D cI cJ cZ a_t_paper a_t_paper_sizes a_t_paper_cites H.size v_t_paper_notes v_t_paper_version r_t_paper_cites x2 ru4 hu4) (cwV 1 hts gX4_clashes_X1_cite rfl rfl rfl hdX1_cite ⟨Nat.le_of_ble_eq_true rfl, Nat.le_of_ble_eq_true rfl⟩) (pn_preV [3, 4] hP (hD.addr rfl) hK rfl rfl (q0 := 3) (ci := 0) rfl rfl) rfl rfl hl.1 rfl (lv_room (Nat.le_of_ble_eq_true rfl)) dX4_clashes_25 ⟨Nat.zero_le _, Nat.zero_le _⟩) hP (hD.addr rfl) hS hA rfl rfl rfl (fun H locs (hP : va_P D vwCl [(a_t, .inr (3, [.ref a_t_paper, .ref a_t_linked, .ref a_t_caseAt, .ref a_t_reasonAt, .ref a_t_firstSlot, .ref a_t_members, .ref a_t_namedBy, .ref a_t_foundBy, .int v_t_linkedVersion, .int v_t_studiedVersion, .int v_t_present, .int v_t_fulls, .int v_t_cases, .int v_t_cited, .int v_t_alive, .int v_t_dead])), (a_t_firstSlot, .inl (cI, 32, .inl r_t_firstSlot)), (a_t_members, .inl (cI, 32, .inl r_t_members)), (a_t_paper, .inr (0, [.ref a_t_paper_sizes, .ref a_t_paper_cites, .int v_t_paper_notes, .int v_t_paper_version])), (a_t_paper_cites, .inl (cJ, 32, .inr (.inl r_t_paper_cites)))] H) _ hS => ?_)
          refine lv_aload_n hx hb dX4_clashes_28 rfl (lv_at hl 0 rfl) ?_
          refine lv_iload_n hx hb dX4_clashes_29 rfl (lv_at hl 1 rfl) ?_
          obtain ⟨ru5, hu5, hf⟩ := pn_bd1_at hf
          refine pn_calll [0, 1, 3, 4] (va_runV (As := [.int p1]) (rest := [.long ru4]) ⟨hx, hb, hml, hown, hts⟩ (c_X4_firstCite l D cI cJ cZ a_t a_t_paper a_t_linked a_t_caseAt a_t_reasonAt a_t_firstSlot a_t_members a_t_namedBy a_t_foundBy a_t_paper_sizes a_t_paper_cites H.size v_t_linkedVersion v_t_studiedVersion v_t_present v_t_fulls v_t_cited v_t_alive v_t_dead v_t_paper_notes v_t_paper_version v_t_cases r_t_firstSlot r_t_paper_cites p1 ru5 hu5) (cwV 1 hts gX4_clashes_X4_firstCite rfl rfl rfl hdX4_firstCite ⟨Nat.le_of_ble_eq_true rfl, Nat.le_of_ble_eq_true rfl⟩) (pn_preV [0, 1, 3, 4] hP (hD.addr rfl) hK rfl rfl (q0 := 0) (ci := 3) rfl rfl) rfl rfl hl.1 rfl (lv_room (Nat.le_of_ble_eq_true rfl)) dX4_clashes_30 ⟨Nat.zero_le _, Nat.zero_le _⟩) hP (hD.addr rfl) hS hA rfl rfl rfl (fun H locs (hP : va_P D vwCl [(a_t, .inr (3, [.ref a_t_paper, .ref a_t_linked, .ref a_t_caseAt, .ref a_t_reasonAt, .ref a_t_firstSlot, .ref a_t_members, .ref a_t_namedBy, .ref a_t_foundBy, .int v_t_linkedVersion, .int v_t_studiedVersion, .int v_t_present, .int v_t_fulls, .int v_t_cases, .int v_t_cited, .int v_t_alive, .int v_t_dead])), (a_t_firstSlot, .inl (cI, 32, .inl r_t_firstSlot)), (a_t_members, .inl (cI, 32, .inl r_t_members)), (a_t_paper, .inr (0, [.ref a_t_paper_sizes, .ref a_t_paper_cites, .int v_t_paper_notes, .int v_t_paper_version])), (a_t_paper_cites, .inl (cJ, 32, .inr (.inl r_t_paper_cites)))] H) _ hS => ?_)
          obtain ⟨ru6, hu6, hf⟩ := pn_bd1_at hf
          refine pn_calli [] (va_runS (As := [.long ru4, .long ru5]) (rest := []) ⟨hx, hb, hml, hown, hts⟩ (c_X0_haveSameName l D cI cJ cZ H.size ru4 ru5 ru6 hu6) (va_cwS 2 hts gX4_clashes_X0_haveSameName rfl rfl rfl hdX0_haveSameName ⟨Nat.le_of_ble_eq_true rfl, Nat.le_of_ble_eq_true rfl⟩) (pn_preS [] hP (hD.addr rfl) hK rfl rfl) rfl rfl hl.1 rfl (lv_room (Nat.le_of_ble_eq_true rfl)) dX4_clashes_33 ⟨Nat.zero_le _, Nat.zero_le _⟩) hP (hD.addr rfl) hS hA rfl rfl rfl (fun H locs (hP : va_P D vwCl [(a_t, .inr (3, [.ref a_t_paper, .ref a_t_linked, .ref a_t_caseAt, .ref a_t_reasonAt, .ref a_t_firstSlot, .ref a_t_members, .ref a_t_namedBy, .ref a_t_foundBy, .int v_t_linkedVersion, .int v_t_studiedVersion, .int v_t_present, .int v_t_fulls, .int v_t_cases, .int v_t_cited, .int v_t_alive, .int v_t_dead])), (a_t_firstSlot, .inl (cI, 32, .inl r_t_firstSlot)), (a_t_members, .inl (cI, 32, .inl r_t_members)), (a_t_paper, .inr (0, [.ref a_t_paper_sizes, .ref a_t_paper_cites, .int v_t_paper_notes, .int v_t_paper_version])), (a_t_paper_cites, .inl (cJ, 32, .inr (.inl r_t_paper_cites)))] H) _ hS => ?_)
          refine lv_if_ne (tgt := 41) hx hb dX4_clashes_36 (by decide) (fun c7 => ?_) (fun c7 => ?_)
          · have hf := pn_ifp c7 hf
            obtain ⟨z8, ez8⟩ : ∃ y : Int32, y = x2 + (1) := ⟨_, rfl⟩
            have hf := pn_nm_at ez8 hf
            refine lv_iinc (v := z8) (lv' := [(2, .int z8), (0, .ref a_t), (1, .int p1)]) hx hb dX4_clashes_41 hl (k := 2) rfl (by rw [ez8]; rfl) (by decide) rfl (fun ls hl => ?_)
            refine lv_goto (tgt := 2) hx hb dX4_clashes_44 (by decide) ?_
            exact ih z8 X H locs ls hf hP hS (lv_sub hl [1, 2, 0] rfl) kx39 kx47
          · have hf := pn_ifq c7 hf
            exact kx39  H locs ls (Option.some.inj hf).symm hP hS (lv_sub hl [] rfl)
        · have hf := pn_ifq c3 hf
          refine lv_goto (tgt := 41) hx hb dX4_clashes_17 (by decide) ?_
          obtain ⟨z9, ez9⟩ : ∃ y : Int32, y = x2 + (1) := ⟨_, rfl⟩
          have hf := pn_nm_at ez9 hf
          refine lv_iinc (v := z9) (lv' := [(2, .int z9), (0, .ref a_t), (1, .int p1)]) hx hb dX4_clashes_41 hl (k := 2) rfl (by rw [ez9]; rfl) (by decide) rfl (fun ls hl => ?_)
          refine lv_goto (tgt := 2) hx hb dX4_clashes_44 (by decide) ?_
          exact ih z9 X H locs ls hf hP hS (lv_sub hl [1, 2, 0] rfl) kx39 kx47
  refine lv_iconst (v := (0)) hx hb dX4_clashes_0 (by decide) ?_
  refine lv_istore_n (lv' := [(2, .int (0 : Int32)), (0, .ref a_t), (1, .int p1)]) hx hb dX4_clashes_1 rfl hl (by decide) rfl (fun ls hl => ?_)
  obtain ⟨X2, hX2, hf⟩ := pn_bd1_at hf
  refine lp2 N (0 : Int32) X2 H locs ls hX2 hP hS (lv_sub hl [1, 2, 0] rfl) ?_ ?_
  · intro  H locs ls eX hP hS hl
    rw [eX] at hf
    have hf := pn_s2_l hf
    have hf := pn_u0_at hf
    refine lv_iconst (v := (1)) hx hb dX4_clashes_39 (by decide) ?_
    cases hf
    rw [hQ]
    exact pn_retz hx hb hr hlocks hP hS rfl rfl dX4_clashes_40
  · intro  H locs ls eX hP hS hl
    rw [eX] at hf
    have hf := pn_s2_r hf
    have hf := pn_u0_at hf
    refine lv_iconst (v := (0)) hx hb dX4_clashes_47 (by decide) ?_
    cases hf
    rw [hQ]
    exact pn_retz hx hb hr hlocks hP hS rfl rfl dX4_clashes_48
def lp_X4_clashing_4 (N : Nat) (v_t_cases : Int32) (r_t_firstSlot : Nat → Int32) (r_t_members : Nat → Int32) (r_t_paper_cites : Nat → Int64) : Nat → Int32 → Int32 → Option (Int32)
  | 0, _, _ => none
  | n + 1, x1, x2 =>
    if v_t_cases ≤ x2 then
  some x1
  else
  pn_bd1 (f_X4_clashes N v_t_cases r_t_firstSlot r_t_members r_t_paper_cites x2) fun ru2 =>
  if ru2 = 0 then
  pn_nm (x2 + (1 : Int32)) fun z4 =>
  lp_X4_clashing_4 N v_t_cases r_t_firstSlot r_t_members r_t_paper_cites n x1 z4
  else
  pn_nm (x1 + (1 : Int32)) fun z5 =>
  pn_nm (x2 + (1 : Int32)) fun z6 =>
  lp_X4_clashing_4 N v_t_cases r_t_firstSlot r_t_members r_t_paper_cites n z5 z6
def f_X4_clashing (N : Nat) (v_t_cases : Int32) (r_t_firstSlot : Nat → Int32) (r_t_members : Nat → Int32) (r_t_paper_cites : Nat → Int64) : Option (Int32) :=
  pn_bd1 (lp_X4_clashing_4 N v_t_cases r_t_firstSlot r_t_members r_t_paper_cites N (0 : Int32) (0 : Int32)) (fun X4 => (pn_u1 fun x1_w7 => some x1_w7) X4)
set_option maxHeartbeats 4000000 in
set_option maxRecDepth 100000 in
theorem c_X4_clashing (l : Launch) (D : va_G) (cI cJ cZ : ClassId) (a_t a_t_paper a_t_linked a_t_caseAt a_t_reasonAt a_t_firstSlot a_t_members a_t_namedBy a_t_foundBy a_t_paper_sizes a_t_paper_cites : Nat) (sz : Nat) (v_t_linkedVersion : Int32) (v_t_studiedVersion : Int32) (v_t_present : Int32) (v_t_fulls : Int32) (v_t_cited : Int32) (v_t_alive : Int32) (v_t_dead : Int32) (v_t_paper_notes : Int32) (v_t_paper_version : Int32) (N : Nat) (v_t_cases : Int32) (r_t_firstSlot : Nat → Int32) (r_t_members : Nat → Int32) (r_t_paper_cites : Nat → Int64) (rR : Int32) (hf : f_X4_clashing N v_t_cases r_t_firstSlot r_t_members r_t_paper_cites = some rR) : Met l yX4_clashing wsX4_clashing { frames := 3, cells := 0, slots := 0, locals := 66 } (pn_Pc D cI cJ cZ [.ref a_t] [(a_t, .inr (3, [.ref a_t_paper, .ref a_t_linked, .ref a_t_caseAt, .ref a_t_reasonAt, .ref a_t_firstSlot, .ref a_t_members, .ref a_t_namedBy, .ref a_t_foundBy, .int v_t_linkedVersion, .int v_t_studiedVersion, .int v_t_present, .int v_t_fulls, .int v_t_cases, .int v_t_cited, .int v_t_alive, .int v_t_dead])), (a_t_firstSlot, .inl (cI, 32, .inl r_t_firstSlot)), (a_t_members, .inl (cI, 32, .inl r_t_members)), (a_t_paper, .inr (0, [.ref a_t_paper_sizes, .ref a_t_paper_cites, .int v_t_paper_notes, .int v_t_paper_version])), (a_t_paper_cites, .inl (cJ, 32, .inr (.inl r_t_paper_cites)))] sz) (pn_Qi D rR [(a_t, .inr (3, [.ref a_t_paper, .ref a_t_linked, .ref a_t_caseAt, .ref a_t_reasonAt, .ref a_t_firstSlot, .ref a_t_members, .ref a_t_namedBy, .ref a_t_foundBy, .int v_t_linkedVersion, .int v_t_studiedVersion, .int v_t_present, .int v_t_fulls, .int v_t_cases, .int v_t_cited, .int v_t_alive, .int v_t_dead])), (a_t_firstSlot, .inl (cI, 32, .inl r_t_firstSlot)), (a_t_members, .inl (cI, 32, .inl r_t_members)), (a_t_paper, .inr (0, [.ref a_t_paper_sizes, .ref a_t_paper_cites, .int v_t_paper_notes, .int v_t_paper_version])), (a_t_paper_cites, .inl (cJ, 32, .inr (.inl r_t_paper_cites)))] (va_A [(a_t, .inr (3, [.ref a_t_paper, .ref a_t_linked, .ref a_t_caseAt, .ref a_t_reasonAt, .ref a_t_firstSlot, .ref a_t_members, .ref a_t_namedBy, .ref a_t_foundBy, .int v_t_linkedVersion, .int v_t_studiedVersion, .int v_t_present, .int v_t_fulls, .int v_t_cases, .int v_t_cited, .int v_t_alive, .int v_t_dead])), (a_t_firstSlot, .inl (cI, 32, .inl r_t_firstSlot)), (a_t_members, .inl (cI, 32, .inl r_t_members)), (a_t_paper, .inr (0, [.ref a_t_paper_sizes, .ref a_t_paper_cites, .int v_t_paper_notes, .int v_t_paper_version])), (a_t_paper_cites, .inl (cJ, 32, .inr (.inl r_t_paper_cites)))] sz)) 0 0 (va_A [(a_t, .inr (3, [.ref a_t_paper, .ref a_t_linked, .ref a_t_caseAt, .ref a_t_reasonAt, .ref a_t_firstSlot, .ref a_t_members, .ref a_t_namedBy, .ref a_t_foundBy, .int v_t_linkedVersion, .int v_t_studiedVersion, .int v_t_present, .int v_t_fulls, .int v_t_cases, .int v_t_cited, .int v_t_alive, .int v_t_dead])), (a_t_firstSlot, .inl (cI, 32, .inl r_t_firstSlot)), (a_t_members, .inl (cI, 32, .inl r_t_members)), (a_t_paper, .inr (0, [.ref a_t_paper_sizes, .ref a_t_paper_cites, .int v_t_paper_notes, .int v_t_paper_version])), (a_t_paper_cites, .inl (cJ, 32, .inr (.inl r_t_paper_cites)))] sz) := by
  refine pn_entry (cc := cX4_clashing) (maxL := 3) (ret := (some .int)) (Qf := pn_Qi D rR [(a_t, .inr (3, [.ref a_t_paper, .ref a_t_linked, .ref a_t_caseAt, .ref a_t_reasonAt, .ref a_t_firstSlot, .ref a_t_members, .ref a_t_namedBy, .ref a_t_foundBy, .int v_t_linkedVersion, .int v_t_studiedVersion, .int v_t_present, .int v_t_fulls, .int v_t_cases, .int v_t_cited, .int v_t_alive, .int v_t_dead])), (a_t_firstSlot, .inl (cI, 32, .inl r_t_firstSlot)), (a_t_members, .inl (cI, 32, .inl r_t_members)), (a_t_paper, .inr (0, [.ref a_t_paper_sizes, .ref a_t_paper_cites, .int v_t_paper_notes, .int v_t_paper_version])), (a_t_paper_cites, .inl (cJ, 32, .inr (.inl r_t_paper_cites)))]) (by decide) rfl (Nat.le_of_ble_eq_true rfl) ?_
  intro p e s m args below meth c A ls H locs Qm hQ hx hb hr hlocks hml hown hts hK hP hD hA hS hl
  have hl : lv_has ls 3 [(0, .ref a_t)] := hl
  have hinX4 : ∀ w ∈ wsX40, w ∈ wsX4_clashing := by decide +kernel
  have fl_47 := hts (.fieldLink RX4 47 "PointingNotes$Study" "cases" "I") (by decide +kernel)
  rw [f_X4_clashing] at hf
  have lp4 : ∀ (n : Nat) (x1 : Int32) (x2 : Int32) (X : Int32) (H : Heap) (locs : List Loc) (ls : Array Slot), lp_X4_clashing_4 N v_t_cases r_t_firstSlot r_t_members r_t_paper_cites n x1 x2 = some X → va_P D vwCl [(a_t, .inr (3, [.ref a_t_paper, .ref a_t_linked, .ref a_t_caseAt, .ref a_t_reasonAt, .ref a_t_firstSlot, .ref a_t_members, .ref a_t_namedBy, .ref a_t_foundBy, .int v_t_linkedVersion, .int v_t_studiedVersion, .int v_t_present, .int v_t_fulls, .int v_t_cases, .int v_t_cited, .int v_t_alive, .int v_t_dead])), (a_t_firstSlot, .inl (cI, 32, .inl r_t_firstSlot)), (a_t_members, .inl (cI, 32, .inl r_t_members)), (a_t_paper, .inr (0, [.ref a_t_paper_sizes, .ref a_t_paper_cites, .int v_t_paper_notes, .int v_t_paper_version])), (a_t_paper_cites, .inl (cJ, 32, .inr (.inl r_t_paper_cites)))] H → va_S A s.heap H locs → lv_has ls 3 [(0, .ref a_t), (1, .int x1), (2, .int x2)] → (∀ (y1 : Int32)  (H : Heap) (locs : List Loc) (ls : Array Slot), X = y1 → va_P D vwCl [(a_t, .inr (3, [.ref a_t_paper, .ref a_t_linked, .ref a_t_caseAt, .ref a_t_reasonAt, .ref a_t_firstSlot, .ref a_t_members, .ref a_t_namedBy, .ref a_t_foundBy, .int v_t_linkedVersion, .int v_t_studiedVersion, .int v_t_present, .int v_t_fulls, .int v_t_cases, .int v_t_cited, .int v_t_alive, .int v_t_dead])), (a_t_firstSlot, .inl (cI, 32, .inl r_t_firstSlot)), (a_t_members, .inl (cI, 32, .inl r_t_members)), (a_t_paper, .inr (0, [.ref a_t_paper_sizes, .ref a_t_paper_cites, .int v_t_paper_notes, .int v_t_paper_version])), (a_t_paper_cites, .inl (cJ, 32, .inr (.inl r_t_paper_cites)))] H → va_S A s.heap H locs → lv_has ls 3 [(1, .int y1)] → W p l e { frames := 3, cells := 0, slots := 0, locals := 66 } s m args below meth c H locs 0 0 Qm (F0 m 29 ls [])) → W p l e { frames := 3, cells := 0, slots := 0, locals := 66 } s m args below meth c H locs 0 0 Qm (F0 m 4 ls []) := by
    intro n
    induction n with
    | zero => intro x1 x2 X H locs ls hf; cases hf
    | succ n ih =>
      intro x1 x2 X H locs ls hf hP hS hl kx29
      rw [lp_X4_clashing_4] at hf
      refine lv_iload_n hx hb dX4_clashing_4 rfl (lv_at hl 2 rfl) ?_
      refine lv_aload_n hx hb dX4_clashing_5 rfl (lv_at hl 0 rfl) ?_
      refine va_get (D := D) (ci := 3) (v := .int v_t_cases) (C := RX4) (T := TX4) (N := 16) hx hb hts hinX4 hown hK.1 hP 0 rfl rfl 12 (by decide) fl_47 (fun _ h9 => h9) rfl dX4_clashing_6 ?_
      refine lv_icmp_ge (tgt := 29) hx hb dX4_clashing_9 (by decide) (fun c1 => ?_) (fun c1 => ?_)
      · have hf := pn_ifp c1 hf
        exact kx29 x1 H locs ls (Option.some.inj hf).symm hP hS (lv_sub hl [1] rfl)
      · have hf := pn_ifn c1 hf
        refine lv_aload_n hx hb dX4_clashing_12 rfl (lv_at hl 0 rfl) ?_
        refine lv_iload_n hx hb dX4_clashing_13 rfl (lv_at hl 2 rfl) ?_
        obtain ⟨ru2, hu2, hf⟩ := pn_bd1_at hf
        refine pn_calli [0, 1, 2, 3, 4] (va_runV (As := [.int x2]) (rest := []) ⟨hx, hb, hml, hown, hts⟩ (c_X4_clashes l D cI cJ cZ a_t a_t_paper a_t_linked a_t_caseAt a_t_reasonAt a_t_firstSlot a_t_members a_t_namedBy a_t_foundBy a_t_paper_sizes a_t_paper_cites H.size v_t_linkedVersion v_t_studiedVersion v_t_present v_t_fulls v_t_cited v_t_alive v_t_dead v_t_paper_notes v_t_paper_version N v_t_cases r_t_firstSlot r_t_members r_t_paper_cites x2 ru2 hu2) (cwV 1 hts gX4_clashing_X4_clashes rfl rfl rfl hdX4_clashes ⟨Nat.le_of_ble_eq_true rfl, Nat.le_of_ble_eq_true rfl⟩) (pn_preV [0, 1, 2, 3, 4] hP (hD.addr rfl) hK rfl rfl (q0 := 0) (ci := 3) rfl rfl) rfl rfl hl.1 rfl (lv_room (Nat.le_of_ble_eq_true rfl)) dX4_clashing_14 ⟨Nat.zero_le _, Nat.zero_le _⟩) hP (hD.addr rfl) hS hA rfl rfl rfl (fun H locs (hP : va_P D vwCl [(a_t, .inr (3, [.ref a_t_paper, .ref a_t_linked, .ref a_t_caseAt, .ref a_t_reasonAt, .ref a_t_firstSlot, .ref a_t_members, .ref a_t_namedBy, .ref a_t_foundBy, .int v_t_linkedVersion, .int v_t_studiedVersion, .int v_t_present, .int v_t_fulls, .int v_t_cases, .int v_t_cited, .int v_t_alive, .int v_t_dead])), (a_t_firstSlot, .inl (cI, 32, .inl r_t_firstSlot)), (a_t_members, .inl (cI, 32, .inl r_t_members)), (a_t_paper, .inr (0, [.ref a_t_paper_sizes, .ref a_t_paper_cites, .int v_t_paper_notes, .int v_t_paper_version])), (a_t_paper_cites, .inl (cJ, 32, .inr (.inl r_t_paper_cites)))] H) _ hS => ?_)
        refine lv_if_eq (tgt := 23) hx hb dX4_clashing_17 (by decide) (fun c3 => ?_) (fun c3 => ?_)
        · have hf := pn_ifp c3 hf
          obtain ⟨z4, ez4⟩ : ∃ y : Int32, y = x2 + (1) := ⟨_, rfl⟩
          have hf := pn_nm_at ez4 hf
          refine lv_iinc (v := z4) (lv' := [(2, .int z4), (0, .ref a_t), (1, .int x1)]) hx hb dX4_clashing_23 hl (k := 2) rfl (by rw [ez4]; rfl) (by decide) rfl (fun ls hl => ?_)
          refine lv_goto (tgt := 4) hx hb dX4_clashing_26 (by decide) ?_
          exact ih x1 z4 X H locs ls hf hP hS (lv_sub hl [1, 2, 0] rfl) kx29
        · have hf := pn_ifn c3 hf
          obtain ⟨z5, ez5⟩ : ∃ y : Int32, y = x1 + (1) := ⟨_, rfl⟩
          have hf := pn_nm_at ez5 hf
          refine lv_iinc (v := z5) (lv' := [(1, .int z5), (0, .ref a_t), (2, .int x2)]) hx hb dX4_clashing_20 hl (k := 1) rfl (by rw [ez5]; rfl) (by decide) rfl (fun ls hl => ?_)
          obtain ⟨z6, ez6⟩ : ∃ y : Int32, y = x2 + (1) := ⟨_, rfl⟩
          have hf := pn_nm_at ez6 hf
          refine lv_iinc (v := z6) (lv' := [(2, .int z6), (1, .int z5), (0, .ref a_t)]) hx hb dX4_clashing_23 hl (k := 2) rfl (by rw [ez6]; rfl) (by decide) rfl (fun ls hl => ?_)
          refine lv_goto (tgt := 4) hx hb dX4_clashing_26 (by decide) ?_
          exact ih z5 z6 X H locs ls hf hP hS (lv_sub hl [2, 1, 0] rfl) kx29
  refine lv_iconst (v := (0)) hx hb dX4_clashing_0 (by decide) ?_
  refine lv_istore_n (lv' := [(1, .int (0 : Int32)), (0, .ref a_t)]) hx hb dX4_clashing_1 rfl hl (by decide) rfl (fun ls hl => ?_)
  refine lv_iconst (v := (0)) hx hb dX4_clashing_2 (by decide) ?_
  refine lv_istore_n (lv' := [(2, .int (0 : Int32)), (1, .int (0 : Int32)), (0, .ref a_t)]) hx hb dX4_clashing_3 rfl hl (by decide) rfl (fun ls hl => ?_)
  obtain ⟨X4, hX4, hf⟩ := pn_bd1_at hf
  refine lp4 N (0 : Int32) (0 : Int32) X4 H locs ls hX4 hP hS (lv_sub hl [2, 1, 0] rfl) ?_
  · intro x1_w7 H locs ls eX hP hS hl
    rw [eX] at hf
    have hf := pn_u1_at hf
    refine lv_iload_n hx hb dX4_clashing_29 rfl (lv_at hl 0 rfl) ?_
    cases hf
    rw [hQ]
    exact pn_reti hx hb hr hlocks hP hS rfl dX4_clashing_30
def f_X4_isFoundByNote (r_t_foundBy : Nat → Int32) (p1 : Int32) (p2 : Int32) : Option (Int32) :=
  pn_bd1 (f_X4_foundByNote r_t_foundBy p2) fun ru1 =>
  if ¬ ((ru1 >>> (p1 &&& 31)) &&& (1 : Int32)) = (1 : Int32) then
  some (0 : Int32)
  else
  some (1 : Int32)
set_option maxHeartbeats 4000000 in
set_option maxRecDepth 100000 in
theorem c_X4_isFoundByNote (l : Launch) (D : va_G) (cI cJ cZ : ClassId) (a_t a_t_paper a_t_linked a_t_caseAt a_t_reasonAt a_t_firstSlot a_t_members a_t_namedBy a_t_foundBy : Nat) (sz : Nat) (v_t_linkedVersion : Int32) (v_t_studiedVersion : Int32) (v_t_present : Int32) (v_t_fulls : Int32) (v_t_cases : Int32) (v_t_cited : Int32) (v_t_alive : Int32) (v_t_dead : Int32) (r_t_foundBy : Nat → Int32) (p1 : Int32) (p2 : Int32) (rR : Int32) (hf : f_X4_isFoundByNote r_t_foundBy p1 p2 = some rR) : Met l yX4_isFoundByNote wsX4_isFoundByNote { frames := 1, cells := 0, slots := 0, locals := 21 } (pn_Pc D cI cJ cZ [.ref a_t, .int p1, .int p2] [(a_t, .inr (3, [.ref a_t_paper, .ref a_t_linked, .ref a_t_caseAt, .ref a_t_reasonAt, .ref a_t_firstSlot, .ref a_t_members, .ref a_t_namedBy, .ref a_t_foundBy, .int v_t_linkedVersion, .int v_t_studiedVersion, .int v_t_present, .int v_t_fulls, .int v_t_cases, .int v_t_cited, .int v_t_alive, .int v_t_dead])), (a_t_foundBy, .inl (cI, 8, .inl r_t_foundBy))] sz) (pn_Qi D rR [(a_t, .inr (3, [.ref a_t_paper, .ref a_t_linked, .ref a_t_caseAt, .ref a_t_reasonAt, .ref a_t_firstSlot, .ref a_t_members, .ref a_t_namedBy, .ref a_t_foundBy, .int v_t_linkedVersion, .int v_t_studiedVersion, .int v_t_present, .int v_t_fulls, .int v_t_cases, .int v_t_cited, .int v_t_alive, .int v_t_dead])), (a_t_foundBy, .inl (cI, 8, .inl r_t_foundBy))] (va_A [(a_t, .inr (3, [.ref a_t_paper, .ref a_t_linked, .ref a_t_caseAt, .ref a_t_reasonAt, .ref a_t_firstSlot, .ref a_t_members, .ref a_t_namedBy, .ref a_t_foundBy, .int v_t_linkedVersion, .int v_t_studiedVersion, .int v_t_present, .int v_t_fulls, .int v_t_cases, .int v_t_cited, .int v_t_alive, .int v_t_dead])), (a_t_foundBy, .inl (cI, 8, .inl r_t_foundBy))] sz)) 0 0 (va_A [(a_t, .inr (3, [.ref a_t_paper, .ref a_t_linked, .ref a_t_caseAt, .ref a_t_reasonAt, .ref a_t_firstSlot, .ref a_t_members, .ref a_t_namedBy, .ref a_t_foundBy, .int v_t_linkedVersion, .int v_t_studiedVersion, .int v_t_present, .int v_t_fulls, .int v_t_cases, .int v_t_cited, .int v_t_alive, .int v_t_dead])), (a_t_foundBy, .inl (cI, 8, .inl r_t_foundBy))] sz) := by
  refine pn_entry (cc := cX4_isFoundByNote) (maxL := 3) (ret := (some .boolean)) (Qf := pn_Qi D rR [(a_t, .inr (3, [.ref a_t_paper, .ref a_t_linked, .ref a_t_caseAt, .ref a_t_reasonAt, .ref a_t_firstSlot, .ref a_t_members, .ref a_t_namedBy, .ref a_t_foundBy, .int v_t_linkedVersion, .int v_t_studiedVersion, .int v_t_present, .int v_t_fulls, .int v_t_cases, .int v_t_cited, .int v_t_alive, .int v_t_dead])), (a_t_foundBy, .inl (cI, 8, .inl r_t_foundBy))]) (by decide) rfl (Nat.le_of_ble_eq_true rfl) ?_
  intro p e s m args below meth c A ls H locs Qm hQ hx hb hr hlocks hml hown hts hK hP hD hA hS hl
  have hl : lv_has ls 3 [(0, .ref a_t), (1, .int p1), (2, .int p2)] := hl
  rw [f_X4_isFoundByNote] at hf
  refine lv_aload_n hx hb dX4_isFoundByNote_0 rfl (lv_at hl 0 rfl) ?_
  refine lv_iload_n hx hb dX4_isFoundByNote_1 rfl (lv_at hl 2 rfl) ?_
  obtain ⟨ru1, hu1, hf⟩ := pn_bd1_at hf
  refine pn_calli [0, 1] (va_runV (As := [.int p2]) (rest := []) ⟨hx, hb, hml, hown, hts⟩ (c_X4_foundByNote l D cI cJ cZ a_t a_t_paper a_t_linked a_t_caseAt a_t_reasonAt a_t_firstSlot a_t_members a_t_namedBy a_t_foundBy H.size v_t_linkedVersion v_t_studiedVersion v_t_present v_t_fulls v_t_cases v_t_cited v_t_alive v_t_dead r_t_foundBy p2 ru1 hu1) (cwV 1 hts gX4_isFoundByNote_X4_foundByNote rfl rfl rfl hdX4_foundByNote ⟨Nat.le_of_ble_eq_true rfl, Nat.le_of_ble_eq_true rfl⟩) (pn_preV [0, 1] hP (hD.addr rfl) hK rfl rfl (q0 := 0) (ci := 3) rfl rfl) rfl rfl hl.1 rfl (lv_room (Nat.le_of_ble_eq_true rfl)) dX4_isFoundByNote_2 ⟨Nat.zero_le _, Nat.zero_le _⟩) hP (hD.addr rfl) hS hA rfl rfl rfl (fun H locs (hP : va_P D vwCl [(a_t, .inr (3, [.ref a_t_paper, .ref a_t_linked, .ref a_t_caseAt, .ref a_t_reasonAt, .ref a_t_firstSlot, .ref a_t_members, .ref a_t_namedBy, .ref a_t_foundBy, .int v_t_linkedVersion, .int v_t_studiedVersion, .int v_t_present, .int v_t_fulls, .int v_t_cases, .int v_t_cited, .int v_t_alive, .int v_t_dead])), (a_t_foundBy, .inl (cI, 8, .inl r_t_foundBy))] H) _ hS => ?_)
  refine lv_iload_n hx hb dX4_isFoundByNote_5 rfl (lv_at hl 1 rfl) ?_
  refine lv_ishr hx hb dX4_isFoundByNote_6 ?_
  refine lv_iconst (v := (1)) hx hb dX4_isFoundByNote_7 (by decide) ?_
  refine lv_iand hx hb dX4_isFoundByNote_8 ?_
  refine lv_iconst (v := (1)) hx hb dX4_isFoundByNote_9 (by decide) ?_
  refine lv_icmp_ne (tgt := 17) hx hb dX4_isFoundByNote_10 (by decide) (fun c2 => ?_) (fun c2 => ?_)
  · have hf := pn_ifp c2 hf
    refine lv_iconst (v := (0)) hx hb dX4_isFoundByNote_17 (by decide) ?_
    cases hf
    rw [hQ]
    exact pn_retz hx hb hr hlocks hP hS rfl rfl dX4_isFoundByNote_18
  · have hf := pn_ifq c2 hf
    refine lv_iconst (v := (1)) hx hb dX4_isFoundByNote_13 (by decide) ?_
    refine lv_goto (tgt := 18) hx hb dX4_isFoundByNote_14 (by decide) ?_
    cases hf
    rw [hQ]
    exact pn_retz hx hb hr hlocks hP hS rfl rfl dX4_isFoundByNote_18
def lp_X4_notesFinding_4 (r_t_foundBy : Nat → Int32) (p1 : Int32) : Nat → Int32 → Int32 → Option (Int32)
  | 0, _, _ => none
  | n + 1, x2, x3 =>
    if (8 : Int32) ≤ x3 then
  some x2
  else
  pn_bd1 (f_X4_isFoundByNote r_t_foundBy p1 x3) fun ru2 =>
  if ru2 = 0 then
  pn_nm (x3 + (1 : Int32)) fun z4 =>
  lp_X4_notesFinding_4 r_t_foundBy p1 n x2 z4
  else
  pn_nm (x2 ||| ((1 : Int32) <<< (x3 &&& 31))) fun z5 =>
  pn_nm (x3 + (1 : Int32)) fun z6 =>
  lp_X4_notesFinding_4 r_t_foundBy p1 n z5 z6
def f_X4_notesFinding (N : Nat) (r_t_foundBy : Nat → Int32) (p1 : Int32) : Option (Int32) :=
  pn_bd1 (lp_X4_notesFinding_4 r_t_foundBy p1 N (0 : Int32) (0 : Int32)) (fun X4 => (pn_u1 fun x2_w7 => some x2_w7) X4)
set_option maxHeartbeats 4000000 in
set_option maxRecDepth 100000 in
theorem c_X4_notesFinding (l : Launch) (D : va_G) (cI cJ cZ : ClassId) (a_t a_t_paper a_t_linked a_t_caseAt a_t_reasonAt a_t_firstSlot a_t_members a_t_namedBy a_t_foundBy : Nat) (sz : Nat) (v_t_linkedVersion : Int32) (v_t_studiedVersion : Int32) (v_t_present : Int32) (v_t_fulls : Int32) (v_t_cases : Int32) (v_t_cited : Int32) (v_t_alive : Int32) (v_t_dead : Int32) (N : Nat) (r_t_foundBy : Nat → Int32) (p1 : Int32) (rR : Int32) (hf : f_X4_notesFinding N r_t_foundBy p1 = some rR) : Met l yX4_notesFinding wsX4_notesFinding { frames := 2, cells := 0, slots := 0, locals := 43 } (pn_Pc D cI cJ cZ [.ref a_t, .int p1] [(a_t, .inr (3, [.ref a_t_paper, .ref a_t_linked, .ref a_t_caseAt, .ref a_t_reasonAt, .ref a_t_firstSlot, .ref a_t_members, .ref a_t_namedBy, .ref a_t_foundBy, .int v_t_linkedVersion, .int v_t_studiedVersion, .int v_t_present, .int v_t_fulls, .int v_t_cases, .int v_t_cited, .int v_t_alive, .int v_t_dead])), (a_t_foundBy, .inl (cI, 8, .inl r_t_foundBy))] sz) (pn_Qi D rR [(a_t, .inr (3, [.ref a_t_paper, .ref a_t_linked, .ref a_t_caseAt, .ref a_t_reasonAt, .ref a_t_firstSlot, .ref a_t_members, .ref a_t_namedBy, .ref a_t_foundBy, .int v_t_linkedVersion, .int v_t_studiedVersion, .int v_t_present, .int v_t_fulls, .int v_t_cases, .int v_t_cited, .int v_t_alive, .int v_t_dead])), (a_t_foundBy, .inl (cI, 8, .inl r_t_foundBy))] (va_A [(a_t, .inr (3, [.ref a_t_paper, .ref a_t_linked, .ref a_t_caseAt, .ref a_t_reasonAt, .ref a_t_firstSlot, .ref a_t_members, .ref a_t_namedBy, .ref a_t_foundBy, .int v_t_linkedVersion, .int v_t_studiedVersion, .int v_t_present, .int v_t_fulls, .int v_t_cases, .int v_t_cited, .int v_t_alive, .int v_t_dead])), (a_t_foundBy, .inl (cI, 8, .inl r_t_foundBy))] sz)) 0 0 (va_A [(a_t, .inr (3, [.ref a_t_paper, .ref a_t_linked, .ref a_t_caseAt, .ref a_t_reasonAt, .ref a_t_firstSlot, .ref a_t_members, .ref a_t_namedBy, .ref a_t_foundBy, .int v_t_linkedVersion, .int v_t_studiedVersion, .int v_t_present, .int v_t_fulls, .int v_t_cases, .int v_t_cited, .int v_t_alive, .int v_t_dead])), (a_t_foundBy, .inl (cI, 8, .inl r_t_foundBy))] sz) := by
  refine pn_entry (cc := cX4_notesFinding) (maxL := 4) (ret := (some .int)) (Qf := pn_Qi D rR [(a_t, .inr (3, [.ref a_t_paper, .ref a_t_linked, .ref a_t_caseAt, .ref a_t_reasonAt, .ref a_t_firstSlot, .ref a_t_members, .ref a_t_namedBy, .ref a_t_foundBy, .int v_t_linkedVersion, .int v_t_studiedVersion, .int v_t_present, .int v_t_fulls, .int v_t_cases, .int v_t_cited, .int v_t_alive, .int v_t_dead])), (a_t_foundBy, .inl (cI, 8, .inl r_t_foundBy))]) (by decide) rfl (Nat.le_of_ble_eq_true rfl) ?_
  intro p e s m args below meth c A ls H locs Qm hQ hx hb hr hlocks hml hown hts hK hP hD hA hS hl
  have hl : lv_has ls 4 [(0, .ref a_t), (1, .int p1)] := hl
  rw [f_X4_notesFinding] at hf
  have lp4 : ∀ (n : Nat) (x2 : Int32) (x3 : Int32) (X : Int32) (H : Heap) (locs : List Loc) (ls : Array Slot), lp_X4_notesFinding_4 r_t_foundBy p1 n x2 x3 = some X → va_P D vwCl [(a_t, .inr (3, [.ref a_t_paper, .ref a_t_linked, .ref a_t_caseAt, .ref a_t_reasonAt, .ref a_t_firstSlot, .ref a_t_members, .ref a_t_namedBy, .ref a_t_foundBy, .int v_t_linkedVersion, .int v_t_studiedVersion, .int v_t_present, .int v_t_fulls, .int v_t_cases, .int v_t_cited, .int v_t_alive, .int v_t_dead])), (a_t_foundBy, .inl (cI, 8, .inl r_t_foundBy))] H → va_S A s.heap H locs → lv_has ls 4 [(0, .ref a_t), (1, .int p1), (2, .int x2), (3, .int x3)] → (∀ (y2 : Int32)  (H : Heap) (locs : List Loc) (ls : Array Slot), X = y2 → va_P D vwCl [(a_t, .inr (3, [.ref a_t_paper, .ref a_t_linked, .ref a_t_caseAt, .ref a_t_reasonAt, .ref a_t_firstSlot, .ref a_t_members, .ref a_t_namedBy, .ref a_t_foundBy, .int v_t_linkedVersion, .int v_t_studiedVersion, .int v_t_present, .int v_t_fulls, .int v_t_cases, .int v_t_cited, .int v_t_alive, .int v_t_dead])), (a_t_foundBy, .inl (cI, 8, .inl r_t_foundBy))] H → va_S A s.heap H locs → lv_has ls 4 [(2, .int y2)] → W p l e { frames := 2, cells := 0, slots := 0, locals := 43 } s m args below meth c H locs 0 0 Qm (F0 m 31 ls [])) → W p l e { frames := 2, cells := 0, slots := 0, locals := 43 } s m args below meth c H locs 0 0 Qm (F0 m 4 ls []) := by
    intro n
    induction n with
    | zero => intro x2 x3 X H locs ls hf; cases hf
    | succ n ih =>
      intro x2 x3 X H locs ls hf hP hS hl kx31
      rw [lp_X4_notesFinding_4] at hf
      refine lv_iload_n hx hb dX4_notesFinding_4 rfl (lv_at hl 3 rfl) ?_
      refine lv_bipush (v := (8)) hx hb dX4_notesFinding_5 (by decide) ?_
      refine lv_icmp_ge (tgt := 31) hx hb dX4_notesFinding_7 (by decide) (fun c1 => ?_) (fun c1 => ?_)
      · have hf := pn_ifp c1 hf
        exact kx31 x2 H locs ls (Option.some.inj hf).symm hP hS (lv_sub hl [2] rfl)
      · have hf := pn_ifn c1 hf
        refine lv_aload_n hx hb dX4_notesFinding_10 rfl (lv_at hl 0 rfl) ?_
        refine lv_iload_n hx hb dX4_notesFinding_11 rfl (lv_at hl 1 rfl) ?_
        refine lv_iload_n hx hb dX4_notesFinding_12 rfl (lv_at hl 3 rfl) ?_
        obtain ⟨ru2, hu2, hf⟩ := pn_bd1_at hf
        refine pn_calli [0, 1] (va_runV (As := [.int p1, .int x3]) (rest := []) ⟨hx, hb, hml, hown, hts⟩ (c_X4_isFoundByNote l D cI cJ cZ a_t a_t_paper a_t_linked a_t_caseAt a_t_reasonAt a_t_firstSlot a_t_members a_t_namedBy a_t_foundBy H.size v_t_linkedVersion v_t_studiedVersion v_t_present v_t_fulls v_t_cases v_t_cited v_t_alive v_t_dead r_t_foundBy p1 x3 ru2 hu2) (cwV 2 hts gX4_notesFinding_X4_isFoundByNote rfl rfl rfl hdX4_isFoundByNote ⟨Nat.le_of_ble_eq_true rfl, Nat.le_of_ble_eq_true rfl⟩) (pn_preV [0, 1] hP (hD.addr rfl) hK rfl rfl (q0 := 0) (ci := 3) rfl rfl) rfl rfl hl.1 rfl (lv_room (Nat.le_of_ble_eq_true rfl)) dX4_notesFinding_13 ⟨Nat.zero_le _, Nat.zero_le _⟩) hP (hD.addr rfl) hS hA rfl rfl rfl (fun H locs (hP : va_P D vwCl [(a_t, .inr (3, [.ref a_t_paper, .ref a_t_linked, .ref a_t_caseAt, .ref a_t_reasonAt, .ref a_t_firstSlot, .ref a_t_members, .ref a_t_namedBy, .ref a_t_foundBy, .int v_t_linkedVersion, .int v_t_studiedVersion, .int v_t_present, .int v_t_fulls, .int v_t_cases, .int v_t_cited, .int v_t_alive, .int v_t_dead])), (a_t_foundBy, .inl (cI, 8, .inl r_t_foundBy))] H) _ hS => ?_)
        refine lv_if_eq (tgt := 25) hx hb dX4_notesFinding_16 (by decide) (fun c3 => ?_) (fun c3 => ?_)
        · have hf := pn_ifp c3 hf
          obtain ⟨z4, ez4⟩ : ∃ y : Int32, y = x3 + (1) := ⟨_, rfl⟩
          have hf := pn_nm_at ez4 hf
          refine lv_iinc (v := z4) (lv' := [(3, .int z4), (0, .ref a_t), (1, .int p1), (2, .int x2)]) hx hb dX4_notesFinding_25 hl (k := 3) rfl (by rw [ez4]; rfl) (by decide) rfl (fun ls hl => ?_)
          refine lv_goto (tgt := 4) hx hb dX4_notesFinding_28 (by decide) ?_
          exact ih x2 z4 X H locs ls hf hP hS (lv_sub hl [1, 2, 3, 0] rfl) kx31
        · have hf := pn_ifn c3 hf
          refine lv_iload_n hx hb dX4_notesFinding_19 rfl (lv_at hl 2 rfl) ?_
          refine lv_iconst (v := (1)) hx hb dX4_notesFinding_20 (by decide) ?_
          refine lv_iload_n hx hb dX4_notesFinding_21 rfl (lv_at hl 3 rfl) ?_
          refine lv_ishl hx hb dX4_notesFinding_22 ?_
          refine lv_ior hx hb dX4_notesFinding_23 ?_
          refine lv_topi (fun z5 ez5 => ?_)
          have hf := pn_nm_at ez5 hf
          refine lv_istore_n (lv' := [(2, .int z5), (0, .ref a_t), (1, .int p1), (3, .int x3)]) hx hb dX4_notesFinding_24 rfl hl (by decide) rfl (fun ls hl => ?_)
          obtain ⟨z6, ez6⟩ : ∃ y : Int32, y = x3 + (1) := ⟨_, rfl⟩
          have hf := pn_nm_at ez6 hf
          refine lv_iinc (v := z6) (lv' := [(3, .int z6), (2, .int z5), (0, .ref a_t), (1, .int p1)]) hx hb dX4_notesFinding_25 hl (k := 3) rfl (by rw [ez6]; rfl) (by decide) rfl (fun ls hl => ?_)
          refine lv_goto (tgt := 4) hx hb dX4_notesFinding_28 (by decide) ?_
          exact ih z5 z6 X H locs ls hf hP hS (lv_sub hl [2, 3, 1, 0] rfl) kx31
  refine lv_iconst (v := (0)) hx hb dX4_notesFinding_0 (by decide) ?_
  refine lv_istore_n (lv' := [(2, .int (0 : Int32)), (0, .ref a_t), (1, .int p1)]) hx hb dX4_notesFinding_1 rfl hl (by decide) rfl (fun ls hl => ?_)
  refine lv_iconst (v := (0)) hx hb dX4_notesFinding_2 (by decide) ?_
  refine lv_istore_n (lv' := [(3, .int (0 : Int32)), (2, .int (0 : Int32)), (0, .ref a_t), (1, .int p1)]) hx hb dX4_notesFinding_3 rfl hl (by decide) rfl (fun ls hl => ?_)
  obtain ⟨X4, hX4, hf⟩ := pn_bd1_at hf
  refine lp4 N (0 : Int32) (0 : Int32) X4 H locs ls hX4 hP hS (lv_sub hl [2, 3, 1, 0] rfl) ?_
  · intro x2_w7 H locs ls eX hP hS hl
    rw [eX] at hf
    have hf := pn_u1_at hf
    refine lv_iload_n hx hb dX4_notesFinding_31 rfl (lv_at hl 0 rfl) ?_
    cases hf
    rw [hQ]
    exact pn_reti hx hb hr hlocks hP hS rfl dX4_notesFinding_32
def lp_X4_referencesFinding_4 (r_t_caseAt : Nat → Int32) (v_t_paper_notes : Int32) (r_t_paper_sizes : Nat → Int32) (p1 : Int32) : Nat → Int32 → Int32 → Option (Int32)
  | 0, _, _ => none
  | n + 1, x2, x3 =>
    if (32 : Int32) ≤ x3 then
  some x2
  else
  pn_bd1 (f_X1_hasSlot v_t_paper_notes r_t_paper_sizes x3) fun ru2 =>
  if ru2 = 0 then
  pn_nm (x3 + (1 : Int32)) fun z4 =>
  lp_X4_referencesFinding_4 r_t_caseAt v_t_paper_notes r_t_paper_sizes p1 n x2 z4
  else
  pn_bd1 (f_X4_caseOf r_t_caseAt x3) fun ru5 =>
  if ¬ ru5 = p1 then
  pn_nm (x3 + (1 : Int32)) fun z7 =>
  lp_X4_referencesFinding_4 r_t_caseAt v_t_paper_notes r_t_paper_sizes p1 n x2 z7
  else
  pn_nm (x2 + (1 : Int32)) fun z8 =>
  pn_nm (x3 + (1 : Int32)) fun z9 =>
  lp_X4_referencesFinding_4 r_t_caseAt v_t_paper_notes r_t_paper_sizes p1 n z8 z9
def f_X4_referencesFinding (N : Nat) (r_t_caseAt : Nat → Int32) (v_t_paper_notes : Int32) (r_t_paper_sizes : Nat → Int32) (p1 : Int32) : Option (Int32) :=
  pn_bd1 (lp_X4_referencesFinding_4 r_t_caseAt v_t_paper_notes r_t_paper_sizes p1 N (0 : Int32) (0 : Int32)) (fun X4 => (pn_u1 fun x2_w10 => some x2_w10) X4)
set_option maxHeartbeats 4000000 in
set_option maxRecDepth 100000 in
theorem c_X4_referencesFinding (l : Launch) (D : va_G) (cI cJ cZ : ClassId) (a_t a_t_paper a_t_linked a_t_caseAt a_t_reasonAt a_t_firstSlot a_t_members a_t_namedBy a_t_foundBy a_t_paper_sizes a_t_paper_cites : Nat) (sz : Nat) (v_t_linkedVersion : Int32) (v_t_studiedVersion : Int32) (v_t_present : Int32) (v_t_fulls : Int32) (v_t_cases : Int32) (v_t_cited : Int32) (v_t_alive : Int32) (v_t_dead : Int32) (v_t_paper_version : Int32) (N : Nat) (r_t_caseAt : Nat → Int32) (v_t_paper_notes : Int32) (r_t_paper_sizes : Nat → Int32) (p1 : Int32) (rR : Int32) (hf : f_X4_referencesFinding N r_t_caseAt v_t_paper_notes r_t_paper_sizes p1 = some rR) : Met l yX4_referencesFinding wsX4_referencesFinding { frames := 2, cells := 0, slots := 0, locals := 42 } (pn_Pc D cI cJ cZ [.ref a_t, .int p1] [(a_t, .inr (3, [.ref a_t_paper, .ref a_t_linked, .ref a_t_caseAt, .ref a_t_reasonAt, .ref a_t_firstSlot, .ref a_t_members, .ref a_t_namedBy, .ref a_t_foundBy, .int v_t_linkedVersion, .int v_t_studiedVersion, .int v_t_present, .int v_t_fulls, .int v_t_cases, .int v_t_cited, .int v_t_alive, .int v_t_dead])), (a_t_caseAt, .inl (cI, 32, .inl r_t_caseAt)), (a_t_paper, .inr (0, [.ref a_t_paper_sizes, .ref a_t_paper_cites, .int v_t_paper_notes, .int v_t_paper_version])), (a_t_paper_sizes, .inl (cI, 8, .inl r_t_paper_sizes))] sz) (pn_Qi D rR [(a_t, .inr (3, [.ref a_t_paper, .ref a_t_linked, .ref a_t_caseAt, .ref a_t_reasonAt, .ref a_t_firstSlot, .ref a_t_members, .ref a_t_namedBy, .ref a_t_foundBy, .int v_t_linkedVersion, .int v_t_studiedVersion, .int v_t_present, .int v_t_fulls, .int v_t_cases, .int v_t_cited, .int v_t_alive, .int v_t_dead])), (a_t_caseAt, .inl (cI, 32, .inl r_t_caseAt)), (a_t_paper, .inr (0, [.ref a_t_paper_sizes, .ref a_t_paper_cites, .int v_t_paper_notes, .int v_t_paper_version])), (a_t_paper_sizes, .inl (cI, 8, .inl r_t_paper_sizes))] (va_A [(a_t, .inr (3, [.ref a_t_paper, .ref a_t_linked, .ref a_t_caseAt, .ref a_t_reasonAt, .ref a_t_firstSlot, .ref a_t_members, .ref a_t_namedBy, .ref a_t_foundBy, .int v_t_linkedVersion, .int v_t_studiedVersion, .int v_t_present, .int v_t_fulls, .int v_t_cases, .int v_t_cited, .int v_t_alive, .int v_t_dead])), (a_t_caseAt, .inl (cI, 32, .inl r_t_caseAt)), (a_t_paper, .inr (0, [.ref a_t_paper_sizes, .ref a_t_paper_cites, .int v_t_paper_notes, .int v_t_paper_version])), (a_t_paper_sizes, .inl (cI, 8, .inl r_t_paper_sizes))] sz)) 0 0 (va_A [(a_t, .inr (3, [.ref a_t_paper, .ref a_t_linked, .ref a_t_caseAt, .ref a_t_reasonAt, .ref a_t_firstSlot, .ref a_t_members, .ref a_t_namedBy, .ref a_t_foundBy, .int v_t_linkedVersion, .int v_t_studiedVersion, .int v_t_present, .int v_t_fulls, .int v_t_cases, .int v_t_cited, .int v_t_alive, .int v_t_dead])), (a_t_caseAt, .inl (cI, 32, .inl r_t_caseAt)), (a_t_paper, .inr (0, [.ref a_t_paper_sizes, .ref a_t_paper_cites, .int v_t_paper_notes, .int v_t_paper_version])), (a_t_paper_sizes, .inl (cI, 8, .inl r_t_paper_sizes))] sz) := by
  refine pn_entry (cc := cX4_referencesFinding) (maxL := 4) (ret := (some .int)) (Qf := pn_Qi D rR [(a_t, .inr (3, [.ref a_t_paper, .ref a_t_linked, .ref a_t_caseAt, .ref a_t_reasonAt, .ref a_t_firstSlot, .ref a_t_members, .ref a_t_namedBy, .ref a_t_foundBy, .int v_t_linkedVersion, .int v_t_studiedVersion, .int v_t_present, .int v_t_fulls, .int v_t_cases, .int v_t_cited, .int v_t_alive, .int v_t_dead])), (a_t_caseAt, .inl (cI, 32, .inl r_t_caseAt)), (a_t_paper, .inr (0, [.ref a_t_paper_sizes, .ref a_t_paper_cites, .int v_t_paper_notes, .int v_t_paper_version])), (a_t_paper_sizes, .inl (cI, 8, .inl r_t_paper_sizes))]) (by decide) rfl (Nat.le_of_ble_eq_true rfl) ?_
  intro p e s m args below meth c A ls H locs Qm hQ hx hb hr hlocks hml hown hts hK hP hD hA hS hl
  have hl : lv_has ls 4 [(0, .ref a_t), (1, .int p1)] := hl
  have hinX4 : ∀ w ∈ wsX40, w ∈ wsX4_referencesFinding := by decide +kernel
  have fl_12 := hts (.fieldLink RX4 12 "PointingNotes$Study" "paper" "LPointingNotes$Paper;") (by decide +kernel)
  rw [f_X4_referencesFinding] at hf
  have lp4 : ∀ (n : Nat) (x2 : Int32) (x3 : Int32) (X : Int32) (H : Heap) (locs : List Loc) (ls : Array Slot), lp_X4_referencesFinding_4 r_t_caseAt v_t_paper_notes r_t_paper_sizes p1 n x2 x3 = some X → va_P D vwCl [(a_t, .inr (3, [.ref a_t_paper, .ref a_t_linked, .ref a_t_caseAt, .ref a_t_reasonAt, .ref a_t_firstSlot, .ref a_t_members, .ref a_t_namedBy, .ref a_t_foundBy, .int v_t_linkedVersion, .int v_t_studiedVersion, .int v_t_present, .int v_t_fulls, .int v_t_cases, .int v_t_cited, .int v_t_alive, .int v_t_dead])), (a_t_caseAt, .inl (cI, 32, .inl r_t_caseAt)), (a_t_paper, .inr (0, [.ref a_t_paper_sizes, .ref a_t_paper_cites, .int v_t_paper_notes, .int v_t_paper_version])), (a_t_paper_sizes, .inl (cI, 8, .inl r_t_paper_sizes))] H → va_S A s.heap H locs → lv_has ls 4 [(0, .ref a_t), (1, .int p1), (2, .int x2), (3, .int x3)] → (∀ (y2 : Int32)  (H : Heap) (locs : List Loc) (ls : Array Slot), X = y2 → va_P D vwCl [(a_t, .inr (3, [.ref a_t_paper, .ref a_t_linked, .ref a_t_caseAt, .ref a_t_reasonAt, .ref a_t_firstSlot, .ref a_t_members, .ref a_t_namedBy, .ref a_t_foundBy, .int v_t_linkedVersion, .int v_t_studiedVersion, .int v_t_present, .int v_t_fulls, .int v_t_cases, .int v_t_cited, .int v_t_alive, .int v_t_dead])), (a_t_caseAt, .inl (cI, 32, .inl r_t_caseAt)), (a_t_paper, .inr (0, [.ref a_t_paper_sizes, .ref a_t_paper_cites, .int v_t_paper_notes, .int v_t_paper_version])), (a_t_paper_sizes, .inl (cI, 8, .inl r_t_paper_sizes))] H → va_S A s.heap H locs → lv_has ls 4 [(2, .int y2)] → W p l e { frames := 2, cells := 0, slots := 0, locals := 42 } s m args below meth c H locs 0 0 Qm (F0 m 39 ls [])) → W p l e { frames := 2, cells := 0, slots := 0, locals := 42 } s m args below meth c H locs 0 0 Qm (F0 m 4 ls []) := by
    intro n
    induction n with
    | zero => intro x2 x3 X H locs ls hf; cases hf
    | succ n ih =>
      intro x2 x3 X H locs ls hf hP hS hl kx39
      rw [lp_X4_referencesFinding_4] at hf
      refine lv_iload_n hx hb dX4_referencesFinding_4 rfl (lv_at hl 3 rfl) ?_
      refine lv_bipush (v := (32)) hx hb dX4_referencesFinding_5 (by decide) ?_
      refine lv_icmp_ge (tgt := 39) hx hb dX4_referencesFinding_7 (by decide) (fun c1 => ?_) (fun c1 => ?_)
      · have hf := pn_ifp c1 hf
        exact kx39 x2 H locs ls (Option.some.inj hf).symm hP hS (lv_sub hl [2] rfl)
      · have hf := pn_ifn c1 hf
        refine lv_aload_n hx hb dX4_referencesFinding_10 rfl (lv_at hl 0 rfl) ?_
        refine va_get (D := D) (ci := 3) (v := .ref a_t_paper) (C := RX4) (T := TX4) (N := 16) hx hb hts hinX4 hown hK.1 hP 0 rfl rfl 0 (by decide) fl_12 (fun _ h9 => h9) rfl dX4_referencesFinding_11 ?_
        refine lv_iload_n hx hb dX4_referencesFinding_14 rfl (lv_at hl 3 rfl) ?_
        obtain ⟨ru2, hu2, hf⟩ := pn_bd1_at hf
        refine pn_calli [2, 3] (va_runV (As := [.int x3]) (rest := []) ⟨hx, hb, hml, hown, hts⟩ (c_X1_hasSlot l D cI cJ cZ a_t_paper a_t_paper_sizes a_t_paper_cites H.size v_t_paper_version v_t_paper_notes r_t_paper_sizes x3 ru2 hu2) (cwV 1 hts gX4_referencesFinding_X1_hasSlot rfl rfl rfl hdX1_hasSlot ⟨Nat.le_of_ble_eq_true rfl, Nat.le_of_ble_eq_true rfl⟩) (pn_preV [2, 3] hP (hD.addr rfl) hK rfl rfl (q0 := 2) (ci := 0) rfl rfl) rfl rfl hl.1 rfl (lv_room (Nat.le_of_ble_eq_true rfl)) dX4_referencesFinding_15 ⟨Nat.zero_le _, Nat.zero_le _⟩) hP (hD.addr rfl) hS hA rfl rfl rfl (fun H locs (hP : va_P D vwCl [(a_t, .inr (3, [.ref a_t_paper, .ref a_t_linked, .ref a_t_caseAt, .ref a_t_reasonAt, .ref a_t_firstSlot, .ref a_t_members, .ref a_t_namedBy, .ref a_t_foundBy, .int v_t_linkedVersion, .int v_t_studiedVersion, .int v_t_present, .int v_t_fulls, .int v_t_cases, .int v_t_cited, .int v_t_alive, .int v_t_dead])), (a_t_caseAt, .inl (cI, 32, .inl r_t_caseAt)), (a_t_paper, .inr (0, [.ref a_t_paper_sizes, .ref a_t_paper_cites, .int v_t_paper_notes, .int v_t_paper_version])), (a_t_paper_sizes, .inl (cI, 8, .inl r_t_paper_sizes))] H) _ hS => ?_)
        refine lv_if_eq (tgt := 33) hx hb dX4_referencesFinding_18 (by decide) (fun c3 => ?_) (fun c3 => ?_)
        · have hf := pn_ifp c3 hf
          obtain ⟨z4, ez4⟩ : ∃ y : Int32, y = x3 + (1) := ⟨_, rfl⟩
          have hf := pn_nm_at ez4 hf
          refine lv_iinc (v := z4) (lv' := [(3, .int z4), (0, .ref a_t), (1, .int p1), (2, .int x2)]) hx hb dX4_referencesFinding_33 hl (k := 3) rfl (by rw [ez4]; rfl) (by decide) rfl (fun ls hl => ?_)
          refine lv_goto (tgt := 4) hx hb dX4_referencesFinding_36 (by decide) ?_
          exact ih x2 z4 X H locs ls hf hP hS (lv_sub hl [1, 2, 3, 0] rfl) kx39
        · have hf := pn_ifn c3 hf
          refine lv_aload_n hx hb dX4_referencesFinding_21 rfl (lv_at hl 0 rfl) ?_
          refine lv_iload_n hx hb dX4_referencesFinding_22 rfl (lv_at hl 3 rfl) ?_
          obtain ⟨ru5, hu5, hf⟩ := pn_bd1_at hf
          refine pn_calli [0, 1] (va_runV (As := [.int x3]) (rest := []) ⟨hx, hb, hml, hown, hts⟩ (c_X4_caseOf l D cI cJ cZ a_t a_t_paper a_t_linked a_t_caseAt a_t_reasonAt a_t_firstSlot a_t_members a_t_namedBy a_t_foundBy H.size v_t_linkedVersion v_t_studiedVersion v_t_present v_t_fulls v_t_cases v_t_cited v_t_alive v_t_dead r_t_caseAt x3 ru5 hu5) (cwV 1 hts gX4_referencesFinding_X4_caseOf rfl rfl rfl hdX4_caseOf ⟨Nat.le_of_ble_eq_true rfl, Nat.le_of_ble_eq_true rfl⟩) (pn_preV [0, 1] hP (hD.addr rfl) hK rfl rfl (q0 := 0) (ci := 3) rfl rfl) rfl rfl hl.1 rfl (lv_room (Nat.le_of_ble_eq_true rfl)) dX4_referencesFinding_23 ⟨Nat.zero_le _, Nat.zero_le _⟩) hP (hD.addr rfl) hS hA rfl rfl rfl (fun H locs (hP : va_P D vwCl [(a_t, .inr (3, [.ref a_t_paper, .ref a_t_linked, .ref a_t_caseAt, .ref a_t_reasonAt, .ref a_t_firstSlot, .ref a_t_members, .ref a_t_namedBy, .ref a_t_foundBy, .int v_t_linkedVersion, .int v_t_studiedVersion, .int v_t_present, .int v_t_fulls, .int v_t_cases, .int v_t_cited, .int v_t_alive, .int v_t_dead])), (a_t_caseAt, .inl (cI, 32, .inl r_t_caseAt)), (a_t_paper, .inr (0, [.ref a_t_paper_sizes, .ref a_t_paper_cites, .int v_t_paper_notes, .int v_t_paper_version])), (a_t_paper_sizes, .inl (cI, 8, .inl r_t_paper_sizes))] H) _ hS => ?_)
          refine lv_iload_n hx hb dX4_referencesFinding_26 rfl (lv_at hl 1 rfl) ?_
          refine lv_icmp_ne (tgt := 33) hx hb dX4_referencesFinding_27 (by decide) (fun c6 => ?_) (fun c6 => ?_)
          · have hf := pn_ifp c6 hf
            obtain ⟨z7, ez7⟩ : ∃ y : Int32, y = x3 + (1) := ⟨_, rfl⟩
            have hf := pn_nm_at ez7 hf
            refine lv_iinc (v := z7) (lv' := [(3, .int z7), (0, .ref a_t), (1, .int p1), (2, .int x2)]) hx hb dX4_referencesFinding_33 hl (k := 3) rfl (by rw [ez7]; rfl) (by decide) rfl (fun ls hl => ?_)
            refine lv_goto (tgt := 4) hx hb dX4_referencesFinding_36 (by decide) ?_
            exact ih x2 z7 X H locs ls hf hP hS (lv_sub hl [1, 2, 3, 0] rfl) kx39
          · have hf := pn_ifq c6 hf
            obtain ⟨z8, ez8⟩ : ∃ y : Int32, y = x2 + (1) := ⟨_, rfl⟩
            have hf := pn_nm_at ez8 hf
            refine lv_iinc (v := z8) (lv' := [(2, .int z8), (0, .ref a_t), (1, .int p1), (3, .int x3)]) hx hb dX4_referencesFinding_30 hl (k := 2) rfl (by rw [ez8]; rfl) (by decide) rfl (fun ls hl => ?_)
            obtain ⟨z9, ez9⟩ : ∃ y : Int32, y = x3 + (1) := ⟨_, rfl⟩
            have hf := pn_nm_at ez9 hf
            refine lv_iinc (v := z9) (lv' := [(3, .int z9), (2, .int z8), (0, .ref a_t), (1, .int p1)]) hx hb dX4_referencesFinding_33 hl (k := 3) rfl (by rw [ez9]; rfl) (by decide) rfl (fun ls hl => ?_)
            refine lv_goto (tgt := 4) hx hb dX4_referencesFinding_36 (by decide) ?_
            exact ih z8 z9 X H locs ls hf hP hS (lv_sub hl [2, 3, 1, 0] rfl) kx39
  refine lv_iconst (v := (0)) hx hb dX4_referencesFinding_0 (by decide) ?_
  refine lv_istore_n (lv' := [(2, .int (0 : Int32)), (0, .ref a_t), (1, .int p1)]) hx hb dX4_referencesFinding_1 rfl hl (by decide) rfl (fun ls hl => ?_)
  refine lv_iconst (v := (0)) hx hb dX4_referencesFinding_2 (by decide) ?_
  refine lv_istore_n (lv' := [(3, .int (0 : Int32)), (2, .int (0 : Int32)), (0, .ref a_t), (1, .int p1)]) hx hb dX4_referencesFinding_3 rfl hl (by decide) rfl (fun ls hl => ?_)
  obtain ⟨X4, hX4, hf⟩ := pn_bd1_at hf
  refine lp4 N (0 : Int32) (0 : Int32) X4 H locs ls hX4 hP hS (lv_sub hl [2, 3, 1, 0] rfl) ?_
  · intro x2_w10 H locs ls eX hP hS hl
    rw [eX] at hf
    have hf := pn_u1_at hf
    refine lv_iload_n hx hb dX4_referencesFinding_39 rfl (lv_at hl 0 rfl) ?_
    cases hf
    rw [hQ]
    exact pn_reti hx hb hr hlocks hP hS rfl dX4_referencesFinding_40
def j_X4_sortKey_26 (x2 : Int64) (x4 : Int32) (s0 : Int32) : Option (Int32) :=
  pn_bd1 (f_X0_first x2) fun ru1 =>
  pn_bd1 (f_X0_second x2) fun ru2 =>
  pn_nm (((6 : Int32) * ru1) + ru2) fun z3 =>
  some ((((10000 : Int32) * (((2 : Int32) * z3) + s0)) + x4) - ((100 : Int32) * s0))
def f_X4_sortKey (v_t_cases : Int32) (r_t_firstSlot : Nat → Int32) (r_t_paper_cites : Nat → Int64) (p1 : Int32) : Option (Int32) :=
  pn_bd1 (f_X4_firstCite v_t_cases r_t_firstSlot r_t_paper_cites p1) fun ru4 =>
  pn_bd1 (f_X0_report ru4) fun ru5 =>
  pn_bd1 (f_X6_isOfSeries ru5 (0 : Int32)) fun ru6 =>
  if ru6 = 0 then
  j_X4_sortKey_26 ru4 ru5 (1 : Int32)
  else
  j_X4_sortKey_26 ru4 ru5 (0 : Int32)
set_option maxHeartbeats 4000000 in
set_option maxRecDepth 100000 in
theorem c_X4_sortKey (l : Launch) (D : va_G) (cI cJ cZ : ClassId) (a_t a_t_paper a_t_linked a_t_caseAt a_t_reasonAt a_t_firstSlot a_t_members a_t_namedBy a_t_foundBy a_t_paper_sizes a_t_paper_cites : Nat) (sz : Nat) (v_t_linkedVersion : Int32) (v_t_studiedVersion : Int32) (v_t_present : Int32) (v_t_fulls : Int32) (v_t_cited : Int32) (v_t_alive : Int32) (v_t_dead : Int32) (v_t_paper_notes : Int32) (v_t_paper_version : Int32) (v_t_cases : Int32) (r_t_firstSlot : Nat → Int32) (r_t_paper_cites : Nat → Int64) (p1 : Int32) (rR : Int32) (hf : f_X4_sortKey v_t_cases r_t_firstSlot r_t_paper_cites p1 = some rR) : Met l yX4_sortKey wsX4_sortKey { frames := 2, cells := 0, slots := 0, locals := 42 } (pn_Pc D cI cJ cZ [.ref a_t, .int p1] [(a_t, .inr (3, [.ref a_t_paper, .ref a_t_linked, .ref a_t_caseAt, .ref a_t_reasonAt, .ref a_t_firstSlot, .ref a_t_members, .ref a_t_namedBy, .ref a_t_foundBy, .int v_t_linkedVersion, .int v_t_studiedVersion, .int v_t_present, .int v_t_fulls, .int v_t_cases, .int v_t_cited, .int v_t_alive, .int v_t_dead])), (a_t_firstSlot, .inl (cI, 32, .inl r_t_firstSlot)), (a_t_paper, .inr (0, [.ref a_t_paper_sizes, .ref a_t_paper_cites, .int v_t_paper_notes, .int v_t_paper_version])), (a_t_paper_cites, .inl (cJ, 32, .inr (.inl r_t_paper_cites)))] sz) (pn_Qi D rR [(a_t, .inr (3, [.ref a_t_paper, .ref a_t_linked, .ref a_t_caseAt, .ref a_t_reasonAt, .ref a_t_firstSlot, .ref a_t_members, .ref a_t_namedBy, .ref a_t_foundBy, .int v_t_linkedVersion, .int v_t_studiedVersion, .int v_t_present, .int v_t_fulls, .int v_t_cases, .int v_t_cited, .int v_t_alive, .int v_t_dead])), (a_t_firstSlot, .inl (cI, 32, .inl r_t_firstSlot)), (a_t_paper, .inr (0, [.ref a_t_paper_sizes, .ref a_t_paper_cites, .int v_t_paper_notes, .int v_t_paper_version])), (a_t_paper_cites, .inl (cJ, 32, .inr (.inl r_t_paper_cites)))] (va_A [(a_t, .inr (3, [.ref a_t_paper, .ref a_t_linked, .ref a_t_caseAt, .ref a_t_reasonAt, .ref a_t_firstSlot, .ref a_t_members, .ref a_t_namedBy, .ref a_t_foundBy, .int v_t_linkedVersion, .int v_t_studiedVersion, .int v_t_present, .int v_t_fulls, .int v_t_cases, .int v_t_cited, .int v_t_alive, .int v_t_dead])), (a_t_firstSlot, .inl (cI, 32, .inl r_t_firstSlot)), (a_t_paper, .inr (0, [.ref a_t_paper_sizes, .ref a_t_paper_cites, .int v_t_paper_notes, .int v_t_paper_version])), (a_t_paper_cites, .inl (cJ, 32, .inr (.inl r_t_paper_cites)))] sz)) 0 0 (va_A [(a_t, .inr (3, [.ref a_t_paper, .ref a_t_linked, .ref a_t_caseAt, .ref a_t_reasonAt, .ref a_t_firstSlot, .ref a_t_members, .ref a_t_namedBy, .ref a_t_foundBy, .int v_t_linkedVersion, .int v_t_studiedVersion, .int v_t_present, .int v_t_fulls, .int v_t_cases, .int v_t_cited, .int v_t_alive, .int v_t_dead])), (a_t_firstSlot, .inl (cI, 32, .inl r_t_firstSlot)), (a_t_paper, .inr (0, [.ref a_t_paper_sizes, .ref a_t_paper_cites, .int v_t_paper_notes, .int v_t_paper_version])), (a_t_paper_cites, .inl (cJ, 32, .inr (.inl r_t_paper_cites)))] sz) := by
  refine pn_entry (cc := cX4_sortKey) (maxL := 7) (ret := (some .int)) (Qf := pn_Qi D rR [(a_t, .inr (3, [.ref a_t_paper, .ref a_t_linked, .ref a_t_caseAt, .ref a_t_reasonAt, .ref a_t_firstSlot, .ref a_t_members, .ref a_t_namedBy, .ref a_t_foundBy, .int v_t_linkedVersion, .int v_t_studiedVersion, .int v_t_present, .int v_t_fulls, .int v_t_cases, .int v_t_cited, .int v_t_alive, .int v_t_dead])), (a_t_firstSlot, .inl (cI, 32, .inl r_t_firstSlot)), (a_t_paper, .inr (0, [.ref a_t_paper_sizes, .ref a_t_paper_cites, .int v_t_paper_notes, .int v_t_paper_version])), (a_t_paper_cites, .inl (cJ, 32, .inr (.inl r_t_paper_cites)))]) (by decide) rfl (Nat.le_of_ble_eq_true rfl) ?_
  intro p e s m args below meth c A ls H locs Qm hQ hx hb hr hlocks hml hown hts hK hP hD hA hS hl
  have hl : lv_has ls 7 [(0, .ref a_t), (1, .int p1)] := hl
  have ini_X6_isOfSeries := hts (.initialized RX6) (by decide +kernel)
  have st_X6_isOfSeries := hts (.static yX6_isOfSeries) (by decide +kernel)
  rw [f_X4_sortKey] at hf
  have jn26 : ∀ (x2 : Int64) (x4 : Int32) (s0 : Int32) (H : Heap) (locs : List Loc) (ls : Array Slot), j_X4_sortKey_26 x2 x4 s0 = some rR → va_P D vwCl [(a_t, .inr (3, [.ref a_t_paper, .ref a_t_linked, .ref a_t_caseAt, .ref a_t_reasonAt, .ref a_t_firstSlot, .ref a_t_members, .ref a_t_namedBy, .ref a_t_foundBy, .int v_t_linkedVersion, .int v_t_studiedVersion, .int v_t_present, .int v_t_fulls, .int v_t_cases, .int v_t_cited, .int v_t_alive, .int v_t_dead])), (a_t_firstSlot, .inl (cI, 32, .inl r_t_firstSlot)), (a_t_paper, .inr (0, [.ref a_t_paper_sizes, .ref a_t_paper_cites, .int v_t_paper_notes, .int v_t_paper_version])), (a_t_paper_cites, .inl (cJ, 32, .inr (.inl r_t_paper_cites)))] H → va_S A s.heap H locs → lv_has ls 7 [(2, .long x2), (4, .int x4)] → W p l e { frames := 2, cells := 0, slots := 0, locals := 42 } s m args below meth c H locs 0 0 Qm (F0 m 26 ls [.int s0]) := by
    intro x2 x4 s0 H locs ls hf hP hS hl
    rw [j_X4_sortKey_26] at hf
    refine lv_istore (lv' := [(5, .int s0), (2, .long x2), (4, .int x4)]) hx hb dX4_sortKey_26 hl (by decide) rfl (fun ls hl => ?_)
    refine lv_bipush (v := (6)) hx hb dX4_sortKey_28 (by decide) ?_
    refine lv_lload_n hx hb dX4_sortKey_30 rfl (lv_at hl 1 rfl) ?_
    obtain ⟨ru1, hu1, hf⟩ := pn_bd1_at hf
    refine pn_calli [] (va_runS (As := [.long x2]) (rest := [.int (6 : Int32)]) ⟨hx, hb, hml, hown, hts⟩ (c_X0_first l D cI cJ cZ H.size x2 ru1 hu1) (va_cwS 1 hts gX4_sortKey_X0_first rfl rfl rfl hdX0_first ⟨Nat.le_of_ble_eq_true rfl, Nat.le_of_ble_eq_true rfl⟩) (pn_preS [] hP (hD.addr rfl) hK rfl rfl) rfl rfl hl.1 rfl (lv_room (Nat.le_of_ble_eq_true rfl)) dX4_sortKey_31 ⟨Nat.zero_le _, Nat.zero_le _⟩) hP (hD.addr rfl) hS hA rfl rfl rfl (fun H locs (hP : va_P D vwCl [(a_t, .inr (3, [.ref a_t_paper, .ref a_t_linked, .ref a_t_caseAt, .ref a_t_reasonAt, .ref a_t_firstSlot, .ref a_t_members, .ref a_t_namedBy, .ref a_t_foundBy, .int v_t_linkedVersion, .int v_t_studiedVersion, .int v_t_present, .int v_t_fulls, .int v_t_cases, .int v_t_cited, .int v_t_alive, .int v_t_dead])), (a_t_firstSlot, .inl (cI, 32, .inl r_t_firstSlot)), (a_t_paper, .inr (0, [.ref a_t_paper_sizes, .ref a_t_paper_cites, .int v_t_paper_notes, .int v_t_paper_version])), (a_t_paper_cites, .inl (cJ, 32, .inr (.inl r_t_paper_cites)))] H) _ hS => ?_)
    refine lv_imul hx hb dX4_sortKey_34 ?_
    refine lv_lload_n hx hb dX4_sortKey_35 rfl (lv_at hl 1 rfl) ?_
    obtain ⟨ru2, hu2, hf⟩ := pn_bd1_at hf
    refine pn_calli [] (va_runS (As := [.long x2]) (rest := [.int ((6 : Int32) * ru1)]) ⟨hx, hb, hml, hown, hts⟩ (c_X0_second l D cI cJ cZ H.size x2 ru2 hu2) (va_cwS 1 hts gX4_sortKey_X0_second rfl rfl rfl hdX0_second ⟨Nat.le_of_ble_eq_true rfl, Nat.le_of_ble_eq_true rfl⟩) (pn_preS [] hP (hD.addr rfl) hK rfl rfl) rfl rfl hl.1 rfl (lv_room (Nat.le_of_ble_eq_true rfl)) dX4_sortKey_36 ⟨Nat.zero_le _, Nat.zero_le _⟩) hP (hD.addr rfl) hS hA rfl rfl rfl (fun H locs (hP : va_P D vwCl [(a_t, .inr (3, [.ref a_t_paper, .ref a_t_linked, .ref a_t_caseAt, .ref a_t_reasonAt, .ref a_t_firstSlot, .ref a_t_members, .ref a_t_namedBy, .ref a_t_foundBy, .int v_t_linkedVersion, .int v_t_studiedVersion, .int v_t_present, .int v_t_fulls, .int v_t_cases, .int v_t_cited, .int v_t_alive, .int v_t_dead])), (a_t_firstSlot, .inl (cI, 32, .inl r_t_firstSlot)), (a_t_paper, .inr (0, [.ref a_t_paper_sizes, .ref a_t_paper_cites, .int v_t_paper_notes, .int v_t_paper_version])), (a_t_paper_cites, .inl (cJ, 32, .inr (.inl r_t_paper_cites)))] H) _ hS => ?_)
    refine lv_iadd hx hb dX4_sortKey_39 ?_
    refine lv_topi (fun z3 ez3 => ?_)
    have hf := pn_nm_at ez3 hf
    refine lv_istore (lv' := [(6, .int z3), (5, .int s0), (2, .long x2), (4, .int x4)]) hx hb dX4_sortKey_40 hl (by decide) rfl (fun ls hl => ?_)
    refine lv_sipush (v := (10000)) hx hb dX4_sortKey_42 (by decide) ?_
    refine lv_iconst (v := (2)) hx hb dX4_sortKey_45 (by decide) ?_
    refine lv_iload hx hb dX4_sortKey_46 (lv_at hl 0 rfl) ?_
    refine lv_imul hx hb dX4_sortKey_48 ?_
    refine lv_iload hx hb dX4_sortKey_49 (lv_at hl 1 rfl) ?_
    refine lv_iadd hx hb dX4_sortKey_51 ?_
    refine lv_imul hx hb dX4_sortKey_52 ?_
    refine lv_iload hx hb dX4_sortKey_53 (lv_at hl 3 rfl) ?_
    refine lv_iadd hx hb dX4_sortKey_55 ?_
    refine lv_bipush (v := (100)) hx hb dX4_sortKey_56 (by decide) ?_
    refine lv_iload hx hb dX4_sortKey_58 (lv_at hl 1 rfl) ?_
    refine lv_imul hx hb dX4_sortKey_60 ?_
    refine lv_isub hx hb dX4_sortKey_61 ?_
    cases hf
    rw [hQ]
    exact pn_reti hx hb hr hlocks hP hS rfl dX4_sortKey_62
  refine lv_aload_n hx hb dX4_sortKey_0 rfl (lv_at hl 0 rfl) ?_
  refine lv_iload_n hx hb dX4_sortKey_1 rfl (lv_at hl 1 rfl) ?_
  obtain ⟨ru4, hu4, hf⟩ := pn_bd1_at hf
  refine pn_calll [0, 1, 2, 3] (va_runV (As := [.int p1]) (rest := []) ⟨hx, hb, hml, hown, hts⟩ (c_X4_firstCite l D cI cJ cZ a_t a_t_paper a_t_linked a_t_caseAt a_t_reasonAt a_t_firstSlot a_t_members a_t_namedBy a_t_foundBy a_t_paper_sizes a_t_paper_cites H.size v_t_linkedVersion v_t_studiedVersion v_t_present v_t_fulls v_t_cited v_t_alive v_t_dead v_t_paper_notes v_t_paper_version v_t_cases r_t_firstSlot r_t_paper_cites p1 ru4 hu4) (cwV 1 hts gX4_sortKey_X4_firstCite rfl rfl rfl hdX4_firstCite ⟨Nat.le_of_ble_eq_true rfl, Nat.le_of_ble_eq_true rfl⟩) (pn_preV [0, 1, 2, 3] hP (hD.addr rfl) hK rfl rfl (q0 := 0) (ci := 3) rfl rfl) rfl rfl hl.1 rfl (lv_room (Nat.le_of_ble_eq_true rfl)) dX4_sortKey_2 ⟨Nat.zero_le _, Nat.zero_le _⟩) hP (hD.addr rfl) hS hA rfl rfl rfl (fun H locs (hP : va_P D vwCl [(a_t, .inr (3, [.ref a_t_paper, .ref a_t_linked, .ref a_t_caseAt, .ref a_t_reasonAt, .ref a_t_firstSlot, .ref a_t_members, .ref a_t_namedBy, .ref a_t_foundBy, .int v_t_linkedVersion, .int v_t_studiedVersion, .int v_t_present, .int v_t_fulls, .int v_t_cases, .int v_t_cited, .int v_t_alive, .int v_t_dead])), (a_t_firstSlot, .inl (cI, 32, .inl r_t_firstSlot)), (a_t_paper, .inr (0, [.ref a_t_paper_sizes, .ref a_t_paper_cites, .int v_t_paper_notes, .int v_t_paper_version])), (a_t_paper_cites, .inl (cJ, 32, .inr (.inl r_t_paper_cites)))] H) _ hS => ?_)
  refine lv_lstore_n (lv' := [(2, .long ru4), (0, .ref a_t), (1, .int p1)]) hx hb dX4_sortKey_5 rfl hl (by decide) rfl (fun ls hl => ?_)
  refine lv_lload_n hx hb dX4_sortKey_6 rfl (lv_at hl 0 rfl) ?_
  obtain ⟨ru5, hu5, hf⟩ := pn_bd1_at hf
  refine pn_calli [] (va_runS (As := [.long ru4]) (rest := []) ⟨hx, hb, hml, hown, hts⟩ (c_X0_report l D cI cJ cZ H.size ru4 ru5 hu5) (va_cwS 1 hts gX4_sortKey_X0_report rfl rfl rfl hdX0_report ⟨Nat.le_of_ble_eq_true rfl, Nat.le_of_ble_eq_true rfl⟩) (pn_preS [] hP (hD.addr rfl) hK rfl rfl) rfl rfl hl.1 rfl (lv_room (Nat.le_of_ble_eq_true rfl)) dX4_sortKey_7 ⟨Nat.zero_le _, Nat.zero_le _⟩) hP (hD.addr rfl) hS hA rfl rfl rfl (fun H locs (hP : va_P D vwCl [(a_t, .inr (3, [.ref a_t_paper, .ref a_t_linked, .ref a_t_caseAt, .ref a_t_reasonAt, .ref a_t_firstSlot, .ref a_t_members, .ref a_t_namedBy, .ref a_t_foundBy, .int v_t_linkedVersion, .int v_t_studiedVersion, .int v_t_present, .int v_t_fulls, .int v_t_cases, .int v_t_cited, .int v_t_alive, .int v_t_dead])), (a_t_firstSlot, .inl (cI, 32, .inl r_t_firstSlot)), (a_t_paper, .inr (0, [.ref a_t_paper_sizes, .ref a_t_paper_cites, .int v_t_paper_notes, .int v_t_paper_version])), (a_t_paper_cites, .inl (cJ, 32, .inr (.inl r_t_paper_cites)))] H) _ hS => ?_)
  refine lv_istore (lv' := [(4, .int ru5), (2, .long ru4), (0, .ref a_t), (1, .int p1)]) hx hb dX4_sortKey_10 hl (by decide) rfl (fun ls hl => ?_)
  refine lv_iload hx hb dX4_sortKey_12 (lv_at hl 0 rfl) ?_
  refine lv_iconst (v := (0)) hx hb dX4_sortKey_14 (by decide) ?_
  obtain ⟨ru6, hu6, hf⟩ := pn_bd1_at hf
  refine pn_calli [] (va_runSN (As := [.int ru5, .int (0 : Int32)]) (rest := []) ⟨hx, hb, hml, hown, hts⟩ (c_X6_isOfSeries l D cI cJ cZ H.size ru5 (0 : Int32) ru6 hu6) ⟨va_cnB 2 hts gX4_sortKey_X6_isOfSeries_n209 rfl rfl rfl hK.2.2.2.1 ini_X6_isOfSeries hdX6_isOfSeries ⟨Nat.le_of_ble_eq_true rfl, Nat.le_of_ble_eq_true rfl⟩, st_X6_isOfSeries, trivial⟩ (pn_preS [] hP (hD.addr rfl) hK rfl rfl) rfl rfl hl.1 rfl (lv_room (Nat.le_of_ble_eq_true rfl)) dX4_sortKey_15 ⟨Nat.zero_le _, Nat.zero_le _⟩) hP (hD.addr rfl) hS hA rfl rfl rfl (fun H locs (hP : va_P D vwCl [(a_t, .inr (3, [.ref a_t_paper, .ref a_t_linked, .ref a_t_caseAt, .ref a_t_reasonAt, .ref a_t_firstSlot, .ref a_t_members, .ref a_t_namedBy, .ref a_t_foundBy, .int v_t_linkedVersion, .int v_t_studiedVersion, .int v_t_present, .int v_t_fulls, .int v_t_cases, .int v_t_cited, .int v_t_alive, .int v_t_dead])), (a_t_firstSlot, .inl (cI, 32, .inl r_t_firstSlot)), (a_t_paper, .inr (0, [.ref a_t_paper_sizes, .ref a_t_paper_cites, .int v_t_paper_notes, .int v_t_paper_version])), (a_t_paper_cites, .inl (cJ, 32, .inr (.inl r_t_paper_cites)))] H) _ hS => ?_)
  refine lv_if_eq (tgt := 25) hx hb dX4_sortKey_18 (by decide) (fun c7 => ?_) (fun c7 => ?_)
  · have hf := pn_ifp c7 hf
    refine lv_iconst (v := (1)) hx hb dX4_sortKey_25 (by decide) ?_
    exact jn26 ru4 ru5 (1 : Int32) H locs ls hf hP hS (lv_sub hl [1, 0] rfl)
  · have hf := pn_ifn c7 hf
    refine lv_iconst (v := (0)) hx hb dX4_sortKey_21 (by decide) ?_
    refine lv_goto (tgt := 26) hx hb dX4_sortKey_22 (by decide) ?_
    exact jn26 ru4 ru5 (0 : Int32) H locs ls hf hP hS (lv_sub hl [1, 0] rfl)
def lp_X4_rankOf_4 (v_t_cases : Int32) (r_t_firstSlot : Nat → Int32) (r_t_paper_cites : Nat → Int64) (p1 : Int32) : Nat → Int32 → Int32 → Option (Int32)
  | 0, _, _ => none
  | n + 1, x2, x3 =>
    if v_t_cases ≤ x3 then
  some x2
  else
  pn_bd1 (f_X4_sortKey v_t_cases r_t_firstSlot r_t_paper_cites x3) fun ru2 =>
  pn_bd1 (f_X4_sortKey v_t_cases r_t_firstSlot r_t_paper_cites p1) fun ru3 =>
  if ru3 ≤ ru2 then
  pn_nm (x3 + (1 : Int32)) fun z5 =>
  lp_X4_rankOf_4 v_t_cases r_t_firstSlot r_t_paper_cites p1 n x2 z5
  else
  pn_nm (x2 + (1 : Int32)) fun z6 =>
  pn_nm (x3 + (1 : Int32)) fun z7 =>
  lp_X4_rankOf_4 v_t_cases r_t_firstSlot r_t_paper_cites p1 n z6 z7
def f_X4_rankOf (N : Nat) (v_t_cases : Int32) (r_t_firstSlot : Nat → Int32) (r_t_paper_cites : Nat → Int64) (p1 : Int32) : Option (Int32) :=
  pn_bd1 (lp_X4_rankOf_4 v_t_cases r_t_firstSlot r_t_paper_cites p1 N (0 : Int32) (0 : Int32)) (fun X4 => (pn_u1 fun x2_w8 => some x2_w8) X4)
set_option maxHeartbeats 4000000 in
set_option maxRecDepth 100000 in
theorem c_X4_rankOf (l : Launch) (D : va_G) (cI cJ cZ : ClassId) (a_t a_t_paper a_t_linked a_t_caseAt a_t_reasonAt a_t_firstSlot a_t_members a_t_namedBy a_t_foundBy a_t_paper_sizes a_t_paper_cites : Nat) (sz : Nat) (v_t_linkedVersion : Int32) (v_t_studiedVersion : Int32) (v_t_present : Int32) (v_t_fulls : Int32) (v_t_cited : Int32) (v_t_alive : Int32) (v_t_dead : Int32) (v_t_paper_notes : Int32) (v_t_paper_version : Int32) (N : Nat) (v_t_cases : Int32) (r_t_firstSlot : Nat → Int32) (r_t_paper_cites : Nat → Int64) (p1 : Int32) (rR : Int32) (hf : f_X4_rankOf N v_t_cases r_t_firstSlot r_t_paper_cites p1 = some rR) : Met l yX4_rankOf wsX4_rankOf { frames := 3, cells := 0, slots := 0, locals := 68 } (pn_Pc D cI cJ cZ [.ref a_t, .int p1] [(a_t, .inr (3, [.ref a_t_paper, .ref a_t_linked, .ref a_t_caseAt, .ref a_t_reasonAt, .ref a_t_firstSlot, .ref a_t_members, .ref a_t_namedBy, .ref a_t_foundBy, .int v_t_linkedVersion, .int v_t_studiedVersion, .int v_t_present, .int v_t_fulls, .int v_t_cases, .int v_t_cited, .int v_t_alive, .int v_t_dead])), (a_t_firstSlot, .inl (cI, 32, .inl r_t_firstSlot)), (a_t_paper, .inr (0, [.ref a_t_paper_sizes, .ref a_t_paper_cites, .int v_t_paper_notes, .int v_t_paper_version])), (a_t_paper_cites, .inl (cJ, 32, .inr (.inl r_t_paper_cites)))] sz) (pn_Qi D rR [(a_t, .inr (3, [.ref a_t_paper, .ref a_t_linked, .ref a_t_caseAt, .ref a_t_reasonAt, .ref a_t_firstSlot, .ref a_t_members, .ref a_t_namedBy, .ref a_t_foundBy, .int v_t_linkedVersion, .int v_t_studiedVersion, .int v_t_present, .int v_t_fulls, .int v_t_cases, .int v_t_cited, .int v_t_alive, .int v_t_dead])), (a_t_firstSlot, .inl (cI, 32, .inl r_t_firstSlot)), (a_t_paper, .inr (0, [.ref a_t_paper_sizes, .ref a_t_paper_cites, .int v_t_paper_notes, .int v_t_paper_version])), (a_t_paper_cites, .inl (cJ, 32, .inr (.inl r_t_paper_cites)))] (va_A [(a_t, .inr (3, [.ref a_t_paper, .ref a_t_linked, .ref a_t_caseAt, .ref a_t_reasonAt, .ref a_t_firstSlot, .ref a_t_members, .ref a_t_namedBy, .ref a_t_foundBy, .int v_t_linkedVersion, .int v_t_studiedVersion, .int v_t_present, .int v_t_fulls, .int v_t_cases, .int v_t_cited, .int v_t_alive, .int v_t_dead])), (a_t_firstSlot, .inl (cI, 32, .inl r_t_firstSlot)), (a_t_paper, .inr (0, [.ref a_t_paper_sizes, .ref a_t_paper_cites, .int v_t_paper_notes, .int v_t_paper_version])), (a_t_paper_cites, .inl (cJ, 32, .inr (.inl r_t_paper_cites)))] sz)) 0 0 (va_A [(a_t, .inr (3, [.ref a_t_paper, .ref a_t_linked, .ref a_t_caseAt, .ref a_t_reasonAt, .ref a_t_firstSlot, .ref a_t_members, .ref a_t_namedBy, .ref a_t_foundBy, .int v_t_linkedVersion, .int v_t_studiedVersion, .int v_t_present, .int v_t_fulls, .int v_t_cases, .int v_t_cited, .int v_t_alive, .int v_t_dead])), (a_t_firstSlot, .inl (cI, 32, .inl r_t_firstSlot)), (a_t_paper, .inr (0, [.ref a_t_paper_sizes, .ref a_t_paper_cites, .int v_t_paper_notes, .int v_t_paper_version])), (a_t_paper_cites, .inl (cJ, 32, .inr (.inl r_t_paper_cites)))] sz) := by
  refine pn_entry (cc := cX4_rankOf) (maxL := 4) (ret := (some .int)) (Qf := pn_Qi D rR [(a_t, .inr (3, [.ref a_t_paper, .ref a_t_linked, .ref a_t_caseAt, .ref a_t_reasonAt, .ref a_t_firstSlot, .ref a_t_members, .ref a_t_namedBy, .ref a_t_foundBy, .int v_t_linkedVersion, .int v_t_studiedVersion, .int v_t_present, .int v_t_fulls, .int v_t_cases, .int v_t_cited, .int v_t_alive, .int v_t_dead])), (a_t_firstSlot, .inl (cI, 32, .inl r_t_firstSlot)), (a_t_paper, .inr (0, [.ref a_t_paper_sizes, .ref a_t_paper_cites, .int v_t_paper_notes, .int v_t_paper_version])), (a_t_paper_cites, .inl (cJ, 32, .inr (.inl r_t_paper_cites)))]) (by decide) rfl (Nat.le_of_ble_eq_true rfl) ?_
  intro p e s m args below meth c A ls H locs Qm hQ hx hb hr hlocks hml hown hts hK hP hD hA hS hl
  have hl : lv_has ls 4 [(0, .ref a_t), (1, .int p1)] := hl
  have hinX4 : ∀ w ∈ wsX40, w ∈ wsX4_rankOf := by decide +kernel
  have fl_47 := hts (.fieldLink RX4 47 "PointingNotes$Study" "cases" "I") (by decide +kernel)
  rw [f_X4_rankOf] at hf
  have lp4 : ∀ (n : Nat) (x2 : Int32) (x3 : Int32) (X : Int32) (H : Heap) (locs : List Loc) (ls : Array Slot), lp_X4_rankOf_4 v_t_cases r_t_firstSlot r_t_paper_cites p1 n x2 x3 = some X → va_P D vwCl [(a_t, .inr (3, [.ref a_t_paper, .ref a_t_linked, .ref a_t_caseAt, .ref a_t_reasonAt, .ref a_t_firstSlot, .ref a_t_members, .ref a_t_namedBy, .ref a_t_foundBy, .int v_t_linkedVersion, .int v_t_studiedVersion, .int v_t_present, .int v_t_fulls, .int v_t_cases, .int v_t_cited, .int v_t_alive, .int v_t_dead])), (a_t_firstSlot, .inl (cI, 32, .inl r_t_firstSlot)), (a_t_paper, .inr (0, [.ref a_t_paper_sizes, .ref a_t_paper_cites, .int v_t_paper_notes, .int v_t_paper_version])), (a_t_paper_cites, .inl (cJ, 32, .inr (.inl r_t_paper_cites)))] H → va_S A s.heap H locs → lv_has ls 4 [(0, .ref a_t), (1, .int p1), (2, .int x2), (3, .int x3)] → (∀ (y2 : Int32)  (H : Heap) (locs : List Loc) (ls : Array Slot), X = y2 → va_P D vwCl [(a_t, .inr (3, [.ref a_t_paper, .ref a_t_linked, .ref a_t_caseAt, .ref a_t_reasonAt, .ref a_t_firstSlot, .ref a_t_members, .ref a_t_namedBy, .ref a_t_foundBy, .int v_t_linkedVersion, .int v_t_studiedVersion, .int v_t_present, .int v_t_fulls, .int v_t_cases, .int v_t_cited, .int v_t_alive, .int v_t_dead])), (a_t_firstSlot, .inl (cI, 32, .inl r_t_firstSlot)), (a_t_paper, .inr (0, [.ref a_t_paper_sizes, .ref a_t_paper_cites, .int v_t_paper_notes, .int v_t_paper_version])), (a_t_paper_cites, .inl (cJ, 32, .inr (.inl r_t_paper_cites)))] H → va_S A s.heap H locs → lv_has ls 4 [(2, .int y2)] → W p l e { frames := 3, cells := 0, slots := 0, locals := 68 } s m args below meth c H locs 0 0 Qm (F0 m 34 ls [])) → W p l e { frames := 3, cells := 0, slots := 0, locals := 68 } s m args below meth c H locs 0 0 Qm (F0 m 4 ls []) := by
    intro n
    induction n with
    | zero => intro x2 x3 X H locs ls hf; cases hf
    | succ n ih =>
      intro x2 x3 X H locs ls hf hP hS hl kx34
      rw [lp_X4_rankOf_4] at hf
      refine lv_iload_n hx hb dX4_rankOf_4 rfl (lv_at hl 3 rfl) ?_
      refine lv_aload_n hx hb dX4_rankOf_5 rfl (lv_at hl 0 rfl) ?_
      refine va_get (D := D) (ci := 3) (v := .int v_t_cases) (C := RX4) (T := TX4) (N := 16) hx hb hts hinX4 hown hK.1 hP 0 rfl rfl 12 (by decide) fl_47 (fun _ h9 => h9) rfl dX4_rankOf_6 ?_
      refine lv_icmp_ge (tgt := 34) hx hb dX4_rankOf_9 (by decide) (fun c1 => ?_) (fun c1 => ?_)
      · have hf := pn_ifp c1 hf
        exact kx34 x2 H locs ls (Option.some.inj hf).symm hP hS (lv_sub hl [2] rfl)
      · have hf := pn_ifn c1 hf
        refine lv_aload_n hx hb dX4_rankOf_12 rfl (lv_at hl 0 rfl) ?_
        refine lv_iload_n hx hb dX4_rankOf_13 rfl (lv_at hl 3 rfl) ?_
        obtain ⟨ru2, hu2, hf⟩ := pn_bd1_at hf
        refine pn_calli [0, 1, 2, 3] (va_runV (As := [.int x3]) (rest := []) ⟨hx, hb, hml, hown, hts⟩ (c_X4_sortKey l D cI cJ cZ a_t a_t_paper a_t_linked a_t_caseAt a_t_reasonAt a_t_firstSlot a_t_members a_t_namedBy a_t_foundBy a_t_paper_sizes a_t_paper_cites H.size v_t_linkedVersion v_t_studiedVersion v_t_present v_t_fulls v_t_cited v_t_alive v_t_dead v_t_paper_notes v_t_paper_version v_t_cases r_t_firstSlot r_t_paper_cites x3 ru2 hu2) (cwV 1 hts gX4_rankOf_X4_sortKey rfl rfl rfl hdX4_sortKey ⟨Nat.le_of_ble_eq_true rfl, Nat.le_of_ble_eq_true rfl⟩) (pn_preV [0, 1, 2, 3] hP (hD.addr rfl) hK rfl rfl (q0 := 0) (ci := 3) rfl rfl) rfl rfl hl.1 rfl (lv_room (Nat.le_of_ble_eq_true rfl)) dX4_rankOf_14 ⟨Nat.zero_le _, Nat.zero_le _⟩) hP (hD.addr rfl) hS hA rfl rfl rfl (fun H locs (hP : va_P D vwCl [(a_t, .inr (3, [.ref a_t_paper, .ref a_t_linked, .ref a_t_caseAt, .ref a_t_reasonAt, .ref a_t_firstSlot, .ref a_t_members, .ref a_t_namedBy, .ref a_t_foundBy, .int v_t_linkedVersion, .int v_t_studiedVersion, .int v_t_present, .int v_t_fulls, .int v_t_cases, .int v_t_cited, .int v_t_alive, .int v_t_dead])), (a_t_firstSlot, .inl (cI, 32, .inl r_t_firstSlot)), (a_t_paper, .inr (0, [.ref a_t_paper_sizes, .ref a_t_paper_cites, .int v_t_paper_notes, .int v_t_paper_version])), (a_t_paper_cites, .inl (cJ, 32, .inr (.inl r_t_paper_cites)))] H) _ hS => ?_)
        refine lv_aload_n hx hb dX4_rankOf_17 rfl (lv_at hl 0 rfl) ?_
        refine lv_iload_n hx hb dX4_rankOf_18 rfl (lv_at hl 1 rfl) ?_
        obtain ⟨ru3, hu3, hf⟩ := pn_bd1_at hf
        refine pn_calli [0, 1, 2, 3] (va_runV (As := [.int p1]) (rest := [.int ru2]) ⟨hx, hb, hml, hown, hts⟩ (c_X4_sortKey l D cI cJ cZ a_t a_t_paper a_t_linked a_t_caseAt a_t_reasonAt a_t_firstSlot a_t_members a_t_namedBy a_t_foundBy a_t_paper_sizes a_t_paper_cites H.size v_t_linkedVersion v_t_studiedVersion v_t_present v_t_fulls v_t_cited v_t_alive v_t_dead v_t_paper_notes v_t_paper_version v_t_cases r_t_firstSlot r_t_paper_cites p1 ru3 hu3) (cwV 1 hts gX4_rankOf_X4_sortKey rfl rfl rfl hdX4_sortKey ⟨Nat.le_of_ble_eq_true rfl, Nat.le_of_ble_eq_true rfl⟩) (pn_preV [0, 1, 2, 3] hP (hD.addr rfl) hK rfl rfl (q0 := 0) (ci := 3) rfl rfl) rfl rfl hl.1 rfl (lv_room (Nat.le_of_ble_eq_true rfl)) dX4_rankOf_19 ⟨Nat.zero_le _, Nat.zero_le _⟩) hP (hD.addr rfl) hS hA rfl rfl rfl (fun H locs (hP : va_P D vwCl [(a_t, .inr (3, [.ref a_t_paper, .ref a_t_linked, .ref a_t_caseAt, .ref a_t_reasonAt, .ref a_t_firstSlot, .ref a_t_members, .ref a_t_namedBy, .ref a_t_foundBy, .int v_t_linkedVersion, .int v_t_studiedVersion, .int v_t_present, .int v_t_fulls, .int v_t_cases, .int v_t_cited, .int v_t_alive, .int v_t_dead])), (a_t_firstSlot, .inl (cI, 32, .inl r_t_firstSlot)), (a_t_paper, .inr (0, [.ref a_t_paper_sizes, .ref a_t_paper_cites, .int v_t_paper_notes, .int v_t_paper_version])), (a_t_paper_cites, .inl (cJ, 32, .inr (.inl r_t_paper_cites)))] H) _ hS => ?_)
        refine lv_icmp_ge (tgt := 28) hx hb dX4_rankOf_22 (by decide) (fun c4 => ?_) (fun c4 => ?_)
        · have hf := pn_ifp c4 hf
          obtain ⟨z5, ez5⟩ : ∃ y : Int32, y = x3 + (1) := ⟨_, rfl⟩
          have hf := pn_nm_at ez5 hf
          refine lv_iinc (v := z5) (lv' := [(3, .int z5), (0, .ref a_t), (1, .int p1), (2, .int x2)]) hx hb dX4_rankOf_28 hl (k := 3) rfl (by rw [ez5]; rfl) (by decide) rfl (fun ls hl => ?_)
          refine lv_goto (tgt := 4) hx hb dX4_rankOf_31 (by decide) ?_
          exact ih x2 z5 X H locs ls hf hP hS (lv_sub hl [1, 2, 3, 0] rfl) kx34
        · have hf := pn_ifn c4 hf
          obtain ⟨z6, ez6⟩ : ∃ y : Int32, y = x2 + (1) := ⟨_, rfl⟩
          have hf := pn_nm_at ez6 hf
          refine lv_iinc (v := z6) (lv' := [(2, .int z6), (0, .ref a_t), (1, .int p1), (3, .int x3)]) hx hb dX4_rankOf_25 hl (k := 2) rfl (by rw [ez6]; rfl) (by decide) rfl (fun ls hl => ?_)
          obtain ⟨z7, ez7⟩ : ∃ y : Int32, y = x3 + (1) := ⟨_, rfl⟩
          have hf := pn_nm_at ez7 hf
          refine lv_iinc (v := z7) (lv' := [(3, .int z7), (2, .int z6), (0, .ref a_t), (1, .int p1)]) hx hb dX4_rankOf_28 hl (k := 3) rfl (by rw [ez7]; rfl) (by decide) rfl (fun ls hl => ?_)
          refine lv_goto (tgt := 4) hx hb dX4_rankOf_31 (by decide) ?_
          exact ih z6 z7 X H locs ls hf hP hS (lv_sub hl [2, 3, 1, 0] rfl) kx34
  refine lv_iconst (v := (0)) hx hb dX4_rankOf_0 (by decide) ?_
  refine lv_istore_n (lv' := [(2, .int (0 : Int32)), (0, .ref a_t), (1, .int p1)]) hx hb dX4_rankOf_1 rfl hl (by decide) rfl (fun ls hl => ?_)
  refine lv_iconst (v := (0)) hx hb dX4_rankOf_2 (by decide) ?_
  refine lv_istore_n (lv' := [(3, .int (0 : Int32)), (2, .int (0 : Int32)), (0, .ref a_t), (1, .int p1)]) hx hb dX4_rankOf_3 rfl hl (by decide) rfl (fun ls hl => ?_)
  obtain ⟨X4, hX4, hf⟩ := pn_bd1_at hf
  refine lp4 N (0 : Int32) (0 : Int32) X4 H locs ls hX4 hP hS (lv_sub hl [2, 3, 1, 0] rfl) ?_
  · intro x2_w8 H locs ls eX hP hS hl
    rw [eX] at hf
    have hf := pn_u1_at hf
    refine lv_iload_n hx hb dX4_rankOf_34 rfl (lv_at hl 0 rfl) ?_
    cases hf
    rw [hQ]
    exact pn_reti hx hb hr hlocks hP hS rfl dX4_rankOf_35
def j_X4_hasReportOf_65 (rc : Int32 → Option (Unit ⊕ Unit ⊕ Unit)) (p2 : Int32) (p3 : Int32) (x4 : Int32) (x5 : Int64) : Option (Unit ⊕ Unit ⊕ Unit) :=
  if ¬ p2 = (4 : Int32) then
  pn_nm (x4 + (1 : Int32)) fun z2 =>
  rc z2
  else
  pn_bd1 (f_X0_report x5) fun ru3 =>
  pn_bd1 (f_X6_isOfSeries ru3 p3) fun ru4 =>
  if ¬ ru4 = 0 then
  some (.inr (.inl ()))
  else
  pn_bd1 (f_X0_other x5) fun ru6 =>
  pn_bd1 (f_X6_isOfSeries ru6 p3) fun ru7 =>
  if ru7 = 0 then
  pn_nm (x4 + (1 : Int32)) fun z9 =>
  rc z9
  else
  some (.inr (.inl ()))
def lp_X4_hasReportOf_3 (v_t_cases : Int32) (r_t_members : Nat → Int32) (r_t_paper_cites : Nat → Int64) (p1 : Int32) (p2 : Int32) (p3 : Int32) : Nat → Int32 → Option (Unit ⊕ Unit ⊕ Unit)
  | 0, _ => none
  | n + 1, x4 =>
    if (32 : Int32) ≤ x4 then
  some (.inr (.inr ()))
  else
  pn_bd1 (f_X4_isMember v_t_cases r_t_members p1 x4) fun ru11 =>
  if ¬ ru11 = 0 then
  pn_bd1 (f_X1_cite r_t_paper_cites x4) fun ru13 =>
  if ¬ p2 = (3 : Int32) then
  j_X4_hasReportOf_65 (lp_X4_hasReportOf_3 v_t_cases r_t_members r_t_paper_cites p1 p2 p3 n) p2 p3 x4 ru13
  else
  pn_bd1 (f_X0_report ru13) fun ru15 =>
  pn_bd1 (f_X6_isOfVolume ru15 p3) fun ru16 =>
  if ¬ ru16 = 0 then
  some (.inl ())
  else
  pn_bd1 (f_X0_other ru13) fun ru18 =>
  pn_bd1 (f_X6_isOfVolume ru18 p3) fun ru19 =>
  if ru19 = 0 then
  j_X4_hasReportOf_65 (lp_X4_hasReportOf_3 v_t_cases r_t_members r_t_paper_cites p1 p2 p3 n) p2 p3 x4 ru13
  else
  some (.inl ())
  else
  pn_nm (x4 + (1 : Int32)) fun z21 =>
  lp_X4_hasReportOf_3 v_t_cases r_t_members r_t_paper_cites p1 p2 p3 n z21
def f_X4_hasReportOf (N : Nat) (v_t_cases : Int32) (r_t_members : Nat → Int32) (r_t_paper_cites : Nat → Int64) (p1 : Int32) (p2 : Int32) (p3 : Int32) : Option (Int32) :=
  pn_bd1 (lp_X4_hasReportOf_3 v_t_cases r_t_members r_t_paper_cites p1 p2 p3 N (0 : Int32)) (fun X3 => pn_s2 X3 (pn_u0 (some (1 : Int32))) (fun Y3_0 => pn_s2 Y3_0 (pn_u0 (some (1 : Int32))) (fun Y3_1 => (pn_u0 (some (0 : Int32))) Y3_1)))
set_option maxHeartbeats 4000000 in
set_option maxRecDepth 100000 in
theorem c_X4_hasReportOf (l : Launch) (D : va_G) (cI cJ cZ : ClassId) (a_t a_t_paper a_t_linked a_t_caseAt a_t_reasonAt a_t_firstSlot a_t_members a_t_namedBy a_t_foundBy a_t_paper_sizes a_t_paper_cites : Nat) (sz : Nat) (v_t_linkedVersion : Int32) (v_t_studiedVersion : Int32) (v_t_present : Int32) (v_t_fulls : Int32) (v_t_cited : Int32) (v_t_alive : Int32) (v_t_dead : Int32) (v_t_paper_notes : Int32) (v_t_paper_version : Int32) (N : Nat) (v_t_cases : Int32) (r_t_members : Nat → Int32) (r_t_paper_cites : Nat → Int64) (p1 : Int32) (p2 : Int32) (p3 : Int32) (rR : Int32) (hf : f_X4_hasReportOf N v_t_cases r_t_members r_t_paper_cites p1 p2 p3 = some rR) : Met l yX4_hasReportOf wsX4_hasReportOf { frames := 2, cells := 0, slots := 0, locals := 43 } (pn_Pc D cI cJ cZ [.ref a_t, .int p1, .int p2, .int p3] [(a_t, .inr (3, [.ref a_t_paper, .ref a_t_linked, .ref a_t_caseAt, .ref a_t_reasonAt, .ref a_t_firstSlot, .ref a_t_members, .ref a_t_namedBy, .ref a_t_foundBy, .int v_t_linkedVersion, .int v_t_studiedVersion, .int v_t_present, .int v_t_fulls, .int v_t_cases, .int v_t_cited, .int v_t_alive, .int v_t_dead])), (a_t_members, .inl (cI, 32, .inl r_t_members)), (a_t_paper, .inr (0, [.ref a_t_paper_sizes, .ref a_t_paper_cites, .int v_t_paper_notes, .int v_t_paper_version])), (a_t_paper_cites, .inl (cJ, 32, .inr (.inl r_t_paper_cites)))] sz) (pn_Qi D rR [(a_t, .inr (3, [.ref a_t_paper, .ref a_t_linked, .ref a_t_caseAt, .ref a_t_reasonAt, .ref a_t_firstSlot, .ref a_t_members, .ref a_t_namedBy, .ref a_t_foundBy, .int v_t_linkedVersion, .int v_t_studiedVersion, .int v_t_present, .int v_t_fulls, .int v_t_cases, .int v_t_cited, .int v_t_alive, .int v_t_dead])), (a_t_members, .inl (cI, 32, .inl r_t_members)), (a_t_paper, .inr (0, [.ref a_t_paper_sizes, .ref a_t_paper_cites, .int v_t_paper_notes, .int v_t_paper_version])), (a_t_paper_cites, .inl (cJ, 32, .inr (.inl r_t_paper_cites)))] (va_A [(a_t, .inr (3, [.ref a_t_paper, .ref a_t_linked, .ref a_t_caseAt, .ref a_t_reasonAt, .ref a_t_firstSlot, .ref a_t_members, .ref a_t_namedBy, .ref a_t_foundBy, .int v_t_linkedVersion, .int v_t_studiedVersion, .int v_t_present, .int v_t_fulls, .int v_t_cases, .int v_t_cited, .int v_t_alive, .int v_t_dead])), (a_t_members, .inl (cI, 32, .inl r_t_members)), (a_t_paper, .inr (0, [.ref a_t_paper_sizes, .ref a_t_paper_cites, .int v_t_paper_notes, .int v_t_paper_version])), (a_t_paper_cites, .inl (cJ, 32, .inr (.inl r_t_paper_cites)))] sz)) 0 0 (va_A [(a_t, .inr (3, [.ref a_t_paper, .ref a_t_linked, .ref a_t_caseAt, .ref a_t_reasonAt, .ref a_t_firstSlot, .ref a_t_members, .ref a_t_namedBy, .ref a_t_foundBy, .int v_t_linkedVersion, .int v_t_studiedVersion, .int v_t_present, .int v_t_fulls, .int v_t_cases, .int v_t_cited, .int v_t_alive, .int v_t_dead])), (a_t_members, .inl (cI, 32, .inl r_t_members)), (a_t_paper, .inr (0, [.ref a_t_paper_sizes, .ref a_t_paper_cites, .int v_t_paper_notes, .int v_t_paper_version])), (a_t_paper_cites, .inl (cJ, 32, .inr (.inl r_t_paper_cites)))] sz) := by
  refine pn_entry (cc := cX4_hasReportOf) (maxL := 7) (ret := (some .boolean)) (Qf := pn_Qi D rR [(a_t, .inr (3, [.ref a_t_paper, .ref a_t_linked, .ref a_t_caseAt, .ref a_t_reasonAt, .ref a_t_firstSlot, .ref a_t_members, .ref a_t_namedBy, .ref a_t_foundBy, .int v_t_linkedVersion, .int v_t_studiedVersion, .int v_t_present, .int v_t_fulls, .int v_t_cases, .int v_t_cited, .int v_t_alive, .int v_t_dead])), (a_t_members, .inl (cI, 32, .inl r_t_members)), (a_t_paper, .inr (0, [.ref a_t_paper_sizes, .ref a_t_paper_cites, .int v_t_paper_notes, .int v_t_paper_version])), (a_t_paper_cites, .inl (cJ, 32, .inr (.inl r_t_paper_cites)))]) (by decide) rfl (Nat.le_of_ble_eq_true rfl) ?_
  intro p e s m args below meth c A ls H locs Qm hQ hx hb hr hlocks hml hown hts hK hP hD hA hS hl
  have hl : lv_has ls 7 [(0, .ref a_t), (1, .int p1), (2, .int p2), (3, .int p3)] := hl
  have hinX4 : ∀ w ∈ wsX40, w ∈ wsX4_hasReportOf := by decide +kernel
  have fl_12 := hts (.fieldLink RX4 12 "PointingNotes$Study" "paper" "LPointingNotes$Paper;") (by decide +kernel)
  have ini_X6_isOfVolume := hts (.initialized RX6) (by decide +kernel)
  have st_X6_isOfVolume := hts (.static yX6_isOfVolume) (by decide +kernel)
  have ini_X6_isOfSeries := hts (.initialized RX6) (by decide +kernel)
  have st_X6_isOfSeries := hts (.static yX6_isOfSeries) (by decide +kernel)
  rw [f_X4_hasReportOf] at hf
  have lp3 : ∀ (n : Nat) (x4 : Int32) (X : Unit ⊕ Unit ⊕ Unit) (H : Heap) (locs : List Loc) (ls : Array Slot), lp_X4_hasReportOf_3 v_t_cases r_t_members r_t_paper_cites p1 p2 p3 n x4 = some X → va_P D vwCl [(a_t, .inr (3, [.ref a_t_paper, .ref a_t_linked, .ref a_t_caseAt, .ref a_t_reasonAt, .ref a_t_firstSlot, .ref a_t_members, .ref a_t_namedBy, .ref a_t_foundBy, .int v_t_linkedVersion, .int v_t_studiedVersion, .int v_t_present, .int v_t_fulls, .int v_t_cases, .int v_t_cited, .int v_t_alive, .int v_t_dead])), (a_t_members, .inl (cI, 32, .inl r_t_members)), (a_t_paper, .inr (0, [.ref a_t_paper_sizes, .ref a_t_paper_cites, .int v_t_paper_notes, .int v_t_paper_version])), (a_t_paper_cites, .inl (cJ, 32, .inr (.inl r_t_paper_cites)))] H → va_S A s.heap H locs → lv_has ls 7 [(0, .ref a_t), (1, .int p1), (2, .int p2), (3, .int p3), (4, .int x4)] → (∀   (H : Heap) (locs : List Loc) (ls : Array Slot), X = .inl () → va_P D vwCl [(a_t, .inr (3, [.ref a_t_paper, .ref a_t_linked, .ref a_t_caseAt, .ref a_t_reasonAt, .ref a_t_firstSlot, .ref a_t_members, .ref a_t_namedBy, .ref a_t_foundBy, .int v_t_linkedVersion, .int v_t_studiedVersion, .int v_t_present, .int v_t_fulls, .int v_t_cases, .int v_t_cited, .int v_t_alive, .int v_t_dead])), (a_t_members, .inl (cI, 32, .inl r_t_members)), (a_t_paper, .inr (0, [.ref a_t_paper_sizes, .ref a_t_paper_cites, .int v_t_paper_notes, .int v_t_paper_version])), (a_t_paper_cites, .inl (cJ, 32, .inr (.inl r_t_paper_cites)))] H → va_S A s.heap H locs → lv_has ls 7 [] → W p l e { frames := 2, cells := 0, slots := 0, locals := 43 } s m args below meth c H locs 0 0 Qm (F0 m 63 ls [])) → (∀   (H : Heap) (locs : List Loc) (ls : Array Slot), X = .inr (.inl ()) → va_P D vwCl [(a_t, .inr (3, [.ref a_t_paper, .ref a_t_linked, .ref a_t_caseAt, .ref a_t_reasonAt, .ref a_t_firstSlot, .ref a_t_members, .ref a_t_namedBy, .ref a_t_foundBy, .int v_t_linkedVersion, .int v_t_studiedVersion, .int v_t_present, .int v_t_fulls, .int v_t_cases, .int v_t_cited, .int v_t_alive, .int v_t_dead])), (a_t_members, .inl (cI, 32, .inl r_t_members)), (a_t_paper, .inr (0, [.ref a_t_paper_sizes, .ref a_t_paper_cites, .int v_t_paper_notes, .int v_t_paper_version])), (a_t_paper_cites, .inl (cJ, 32, .inr (.inl r_t_paper_cites)))] H → va_S A s.heap H locs → lv_has ls 7 [] → W p l e { frames := 2, cells := 0, slots := 0, locals := 43 } s m args below meth c H locs 0 0 Qm (F0 m 94 ls [])) → (∀   (H : Heap) (locs : List Loc) (ls : Array Slot), X = .inr (.inr ()) → va_P D vwCl [(a_t, .inr (3, [.ref a_t_paper, .ref a_t_linked, .ref a_t_caseAt, .ref a_t_reasonAt, .ref a_t_firstSlot, .ref a_t_members, .ref a_t_namedBy, .ref a_t_foundBy, .int v_t_linkedVersion, .int v_t_studiedVersion, .int v_t_present, .int v_t_fulls, .int v_t_cases, .int v_t_cited, .int v_t_alive, .int v_t_dead])), (a_t_members, .inl (cI, 32, .inl r_t_members)), (a_t_paper, .inr (0, [.ref a_t_paper_sizes, .ref a_t_paper_cites, .int v_t_paper_notes, .int v_t_paper_version])), (a_t_paper_cites, .inl (cJ, 32, .inr (.inl r_t_paper_cites)))] H → va_S A s.heap H locs → lv_has ls 7 [] → W p l e { frames := 2, cells := 0, slots := 0, locals := 43 } s m args below meth c H locs 0 0 Qm (F0 m 102 ls [])) → W p l e { frames := 2, cells := 0, slots := 0, locals := 43 } s m args below meth c H locs 0 0 Qm (F0 m 3 ls []) := by
    intro n
    induction n with
    | zero => intro x4 X H locs ls hf; cases hf
    | succ n ih =>
      intro x4 X H locs ls hf hP hS hl kx63 kx94 kx102
      rw [lp_X4_hasReportOf_3] at hf
      have jn65 : ∀ (x4 : Int32) (x5 : Int64) (H : Heap) (locs : List Loc) (ls : Array Slot), j_X4_hasReportOf_65 (lp_X4_hasReportOf_3 v_t_cases r_t_members r_t_paper_cites p1 p2 p3 n) p2 p3 x4 x5 = some X → va_P D vwCl [(a_t, .inr (3, [.ref a_t_paper, .ref a_t_linked, .ref a_t_caseAt, .ref a_t_reasonAt, .ref a_t_firstSlot, .ref a_t_members, .ref a_t_namedBy, .ref a_t_foundBy, .int v_t_linkedVersion, .int v_t_studiedVersion, .int v_t_present, .int v_t_fulls, .int v_t_cases, .int v_t_cited, .int v_t_alive, .int v_t_dead])), (a_t_members, .inl (cI, 32, .inl r_t_members)), (a_t_paper, .inr (0, [.ref a_t_paper_sizes, .ref a_t_paper_cites, .int v_t_paper_notes, .int v_t_paper_version])), (a_t_paper_cites, .inl (cJ, 32, .inr (.inl r_t_paper_cites)))] H → va_S A s.heap H locs → lv_has ls 7 [(0, .ref a_t), (1, .int p1), (2, .int p2), (3, .int p3), (4, .int x4), (5, .long x5)] → W p l e { frames := 2, cells := 0, slots := 0, locals := 43 } s m args below meth c H locs 0 0 Qm (F0 m 65 ls []) := by
        intro x4 x5 H locs ls hf hP hS hl
        rw [j_X4_hasReportOf_65] at hf
        refine lv_iload_n hx hb dX4_hasReportOf_65 rfl (lv_at hl 2 rfl) ?_
        refine lv_iconst (v := (4)) hx hb dX4_hasReportOf_66 (by decide) ?_
        refine lv_icmp_ne (tgt := 96) hx hb dX4_hasReportOf_67 (by decide) (fun c1 => ?_) (fun c1 => ?_)
        · have hf := pn_ifp c1 hf
          obtain ⟨z2, ez2⟩ : ∃ y : Int32, y = x4 + (1) := ⟨_, rfl⟩
          have hf := pn_nm_at ez2 hf
          refine lv_iinc (v := z2) (lv' := [(4, .int z2), (0, .ref a_t), (1, .int p1), (2, .int p2), (3, .int p3), (5, .long x5)]) hx hb dX4_hasReportOf_96 hl (k := 4) rfl (by rw [ez2]; rfl) (by decide) rfl (fun ls hl => ?_)
          refine lv_goto (tgt := 3) hx hb dX4_hasReportOf_99 (by decide) ?_
          exact ih z2 X H locs ls hf hP hS (lv_sub hl [1, 2, 3, 4, 0] rfl) kx63 kx94 kx102
        · have hf := pn_ifq c1 hf
          refine lv_lload hx hb dX4_hasReportOf_70 (lv_at hl 5 rfl) ?_
          obtain ⟨ru3, hu3, hf⟩ := pn_bd1_at hf
          refine pn_calli [] (va_runS (As := [.long x5]) (rest := []) ⟨hx, hb, hml, hown, hts⟩ (c_X0_report l D cI cJ cZ H.size x5 ru3 hu3) (va_cwS 1 hts gX4_hasReportOf_X0_report rfl rfl rfl hdX0_report ⟨Nat.le_of_ble_eq_true rfl, Nat.le_of_ble_eq_true rfl⟩) (pn_preS [] hP (hD.addr rfl) hK rfl rfl) rfl rfl hl.1 rfl (lv_room (Nat.le_of_ble_eq_true rfl)) dX4_hasReportOf_72 ⟨Nat.zero_le _, Nat.zero_le _⟩) hP (hD.addr rfl) hS hA rfl rfl rfl (fun H locs (hP : va_P D vwCl [(a_t, .inr (3, [.ref a_t_paper, .ref a_t_linked, .ref a_t_caseAt, .ref a_t_reasonAt, .ref a_t_firstSlot, .ref a_t_members, .ref a_t_namedBy, .ref a_t_foundBy, .int v_t_linkedVersion, .int v_t_studiedVersion, .int v_t_present, .int v_t_fulls, .int v_t_cases, .int v_t_cited, .int v_t_alive, .int v_t_dead])), (a_t_members, .inl (cI, 32, .inl r_t_members)), (a_t_paper, .inr (0, [.ref a_t_paper_sizes, .ref a_t_paper_cites, .int v_t_paper_notes, .int v_t_paper_version])), (a_t_paper_cites, .inl (cJ, 32, .inr (.inl r_t_paper_cites)))] H) _ hS => ?_)
          refine lv_iload_n hx hb dX4_hasReportOf_75 rfl (lv_at hl 3 rfl) ?_
          obtain ⟨ru4, hu4, hf⟩ := pn_bd1_at hf
          refine pn_calli [] (va_runSN (As := [.int ru3, .int p3]) (rest := []) ⟨hx, hb, hml, hown, hts⟩ (c_X6_isOfSeries l D cI cJ cZ H.size ru3 p3 ru4 hu4) ⟨va_cnB 2 hts gX4_hasReportOf_X6_isOfSeries_n209 rfl rfl rfl hK.2.2.2.1 ini_X6_isOfSeries hdX6_isOfSeries ⟨Nat.le_of_ble_eq_true rfl, Nat.le_of_ble_eq_true rfl⟩, st_X6_isOfSeries, trivial⟩ (pn_preS [] hP (hD.addr rfl) hK rfl rfl) rfl rfl hl.1 rfl (lv_room (Nat.le_of_ble_eq_true rfl)) dX4_hasReportOf_76 ⟨Nat.zero_le _, Nat.zero_le _⟩) hP (hD.addr rfl) hS hA rfl rfl rfl (fun H locs (hP : va_P D vwCl [(a_t, .inr (3, [.ref a_t_paper, .ref a_t_linked, .ref a_t_caseAt, .ref a_t_reasonAt, .ref a_t_firstSlot, .ref a_t_members, .ref a_t_namedBy, .ref a_t_foundBy, .int v_t_linkedVersion, .int v_t_studiedVersion, .int v_t_present, .int v_t_fulls, .int v_t_cases, .int v_t_cited, .int v_t_alive, .int v_t_dead])), (a_t_members, .inl (cI, 32, .inl r_t_members)), (a_t_paper, .inr (0, [.ref a_t_paper_sizes, .ref a_t_paper_cites, .int v_t_paper_notes, .int v_t_paper_version])), (a_t_paper_cites, .inl (cJ, 32, .inr (.inl r_t_paper_cites)))] H) _ hS => ?_)
          refine lv_if_ne (tgt := 94) hx hb dX4_hasReportOf_79 (by decide) (fun c5 => ?_) (fun c5 => ?_)
          · have hf := pn_ifp c5 hf
            exact kx94  H locs ls (Option.some.inj hf).symm hP hS (lv_sub hl [] rfl)
          · have hf := pn_ifq c5 hf
            refine lv_lload hx hb dX4_hasReportOf_82 (lv_at hl 5 rfl) ?_
            obtain ⟨ru6, hu6, hf⟩ := pn_bd1_at hf
            refine pn_calli [] (va_runS (As := [.long x5]) (rest := []) ⟨hx, hb, hml, hown, hts⟩ (c_X0_other l D cI cJ cZ H.size x5 ru6 hu6) (va_cwS 1 hts gX4_hasReportOf_X0_other rfl rfl rfl hdX0_other ⟨Nat.le_of_ble_eq_true rfl, Nat.le_of_ble_eq_true rfl⟩) (pn_preS [] hP (hD.addr rfl) hK rfl rfl) rfl rfl hl.1 rfl (lv_room (Nat.le_of_ble_eq_true rfl)) dX4_hasReportOf_84 ⟨Nat.zero_le _, Nat.zero_le _⟩) hP (hD.addr rfl) hS hA rfl rfl rfl (fun H locs (hP : va_P D vwCl [(a_t, .inr (3, [.ref a_t_paper, .ref a_t_linked, .ref a_t_caseAt, .ref a_t_reasonAt, .ref a_t_firstSlot, .ref a_t_members, .ref a_t_namedBy, .ref a_t_foundBy, .int v_t_linkedVersion, .int v_t_studiedVersion, .int v_t_present, .int v_t_fulls, .int v_t_cases, .int v_t_cited, .int v_t_alive, .int v_t_dead])), (a_t_members, .inl (cI, 32, .inl r_t_members)), (a_t_paper, .inr (0, [.ref a_t_paper_sizes, .ref a_t_paper_cites, .int v_t_paper_notes, .int v_t_paper_version])), (a_t_paper_cites, .inl (cJ, 32, .inr (.inl r_t_paper_cites)))] H) _ hS => ?_)
            refine lv_iload_n hx hb dX4_hasReportOf_87 rfl (lv_at hl 3 rfl) ?_
            obtain ⟨ru7, hu7, hf⟩ := pn_bd1_at hf
            refine pn_calli [] (va_runSN (As := [.int ru6, .int p3]) (rest := []) ⟨hx, hb, hml, hown, hts⟩ (c_X6_isOfSeries l D cI cJ cZ H.size ru6 p3 ru7 hu7) ⟨va_cnB 2 hts gX4_hasReportOf_X6_isOfSeries_n209 rfl rfl rfl hK.2.2.2.1 ini_X6_isOfSeries hdX6_isOfSeries ⟨Nat.le_of_ble_eq_true rfl, Nat.le_of_ble_eq_true rfl⟩, st_X6_isOfSeries, trivial⟩ (pn_preS [] hP (hD.addr rfl) hK rfl rfl) rfl rfl hl.1 rfl (lv_room (Nat.le_of_ble_eq_true rfl)) dX4_hasReportOf_88 ⟨Nat.zero_le _, Nat.zero_le _⟩) hP (hD.addr rfl) hS hA rfl rfl rfl (fun H locs (hP : va_P D vwCl [(a_t, .inr (3, [.ref a_t_paper, .ref a_t_linked, .ref a_t_caseAt, .ref a_t_reasonAt, .ref a_t_firstSlot, .ref a_t_members, .ref a_t_namedBy, .ref a_t_foundBy, .int v_t_linkedVersion, .int v_t_studiedVersion, .int v_t_present, .int v_t_fulls, .int v_t_cases, .int v_t_cited, .int v_t_alive, .int v_t_dead])), (a_t_members, .inl (cI, 32, .inl r_t_members)), (a_t_paper, .inr (0, [.ref a_t_paper_sizes, .ref a_t_paper_cites, .int v_t_paper_notes, .int v_t_paper_version])), (a_t_paper_cites, .inl (cJ, 32, .inr (.inl r_t_paper_cites)))] H) _ hS => ?_)
            refine lv_if_eq (tgt := 96) hx hb dX4_hasReportOf_91 (by decide) (fun c8 => ?_) (fun c8 => ?_)
            · have hf := pn_ifp c8 hf
              obtain ⟨z9, ez9⟩ : ∃ y : Int32, y = x4 + (1) := ⟨_, rfl⟩
              have hf := pn_nm_at ez9 hf
              refine lv_iinc (v := z9) (lv' := [(4, .int z9), (0, .ref a_t), (1, .int p1), (2, .int p2), (3, .int p3), (5, .long x5)]) hx hb dX4_hasReportOf_96 hl (k := 4) rfl (by rw [ez9]; rfl) (by decide) rfl (fun ls hl => ?_)
              refine lv_goto (tgt := 3) hx hb dX4_hasReportOf_99 (by decide) ?_
              exact ih z9 X H locs ls hf hP hS (lv_sub hl [1, 2, 3, 4, 0] rfl) kx63 kx94 kx102
            · have hf := pn_ifn c8 hf
              exact kx94  H locs ls (Option.some.inj hf).symm hP hS (lv_sub hl [] rfl)
      refine lv_iload hx hb dX4_hasReportOf_3 (lv_at hl 4 rfl) ?_
      refine lv_bipush (v := (32)) hx hb dX4_hasReportOf_5 (by decide) ?_
      refine lv_icmp_ge (tgt := 102) hx hb dX4_hasReportOf_7 (by decide) (fun c10 => ?_) (fun c10 => ?_)
      · have hf := pn_ifp c10 hf
        exact kx102  H locs ls (Option.some.inj hf).symm hP hS (lv_sub hl [] rfl)
      · have hf := pn_ifn c10 hf
        refine lv_aload_n hx hb dX4_hasReportOf_10 rfl (lv_at hl 0 rfl) ?_
        refine lv_iload_n hx hb dX4_hasReportOf_11 rfl (lv_at hl 1 rfl) ?_
        refine lv_iload hx hb dX4_hasReportOf_12 (lv_at hl 4 rfl) ?_
        obtain ⟨ru11, hu11, hf⟩ := pn_bd1_at hf
        refine pn_calli [0, 1] (va_runV (As := [.int p1, .int x4]) (rest := []) ⟨hx, hb, hml, hown, hts⟩ (c_X4_isMember l D cI cJ cZ a_t a_t_paper a_t_linked a_t_caseAt a_t_reasonAt a_t_firstSlot a_t_members a_t_namedBy a_t_foundBy H.size v_t_linkedVersion v_t_studiedVersion v_t_present v_t_fulls v_t_cited v_t_alive v_t_dead v_t_cases r_t_members p1 x4 ru11 hu11) (cwV 2 hts gX4_hasReportOf_X4_isMember rfl rfl rfl hdX4_isMember ⟨Nat.le_of_ble_eq_true rfl, Nat.le_of_ble_eq_true rfl⟩) (pn_preV [0, 1] hP (hD.addr rfl) hK rfl rfl (q0 := 0) (ci := 3) rfl rfl) rfl rfl hl.1 rfl (lv_room (Nat.le_of_ble_eq_true rfl)) dX4_hasReportOf_14 ⟨Nat.zero_le _, Nat.zero_le _⟩) hP (hD.addr rfl) hS hA rfl rfl rfl (fun H locs (hP : va_P D vwCl [(a_t, .inr (3, [.ref a_t_paper, .ref a_t_linked, .ref a_t_caseAt, .ref a_t_reasonAt, .ref a_t_firstSlot, .ref a_t_members, .ref a_t_namedBy, .ref a_t_foundBy, .int v_t_linkedVersion, .int v_t_studiedVersion, .int v_t_present, .int v_t_fulls, .int v_t_cases, .int v_t_cited, .int v_t_alive, .int v_t_dead])), (a_t_members, .inl (cI, 32, .inl r_t_members)), (a_t_paper, .inr (0, [.ref a_t_paper_sizes, .ref a_t_paper_cites, .int v_t_paper_notes, .int v_t_paper_version])), (a_t_paper_cites, .inl (cJ, 32, .inr (.inl r_t_paper_cites)))] H) _ hS => ?_)
        refine lv_if_ne (tgt := 23) hx hb dX4_hasReportOf_17 (by decide) (fun c12 => ?_) (fun c12 => ?_)
        · have hf := pn_ifp c12 hf
          refine lv_aload_n hx hb dX4_hasReportOf_23 rfl (lv_at hl 0 rfl) ?_
          refine va_get (D := D) (ci := 3) (v := .ref a_t_paper) (C := RX4) (T := TX4) (N := 16) hx hb hts hinX4 hown hK.1 hP 0 rfl rfl 0 (by decide) fl_12 (fun _ h9 => h9) rfl dX4_hasReportOf_24 ?_
          refine lv_iload hx hb dX4_hasReportOf_27 (lv_at hl 4 rfl) ?_
          obtain ⟨ru13, hu13, hf⟩ := pn_bd1_at hf
          refine pn_calll [2, 3] (va_runV (As := [.int x4]) (rest := []) ⟨hx, hb, hml, hown, hts⟩ (c_X1_cite l D cI cJ cZ a_t_paper a_t_paper_sizes a_t_paper_cites H.size v_t_paper_notes v_t_paper_version r_t_paper_cites x4 ru13 hu13) (cwV 1 hts gX4_hasReportOf_X1_cite rfl rfl rfl hdX1_cite ⟨Nat.le_of_ble_eq_true rfl, Nat.le_of_ble_eq_true rfl⟩) (pn_preV [2, 3] hP (hD.addr rfl) hK rfl rfl (q0 := 2) (ci := 0) rfl rfl) rfl rfl hl.1 rfl (lv_room (Nat.le_of_ble_eq_true rfl)) dX4_hasReportOf_29 ⟨Nat.zero_le _, Nat.zero_le _⟩) hP (hD.addr rfl) hS hA rfl rfl rfl (fun H locs (hP : va_P D vwCl [(a_t, .inr (3, [.ref a_t_paper, .ref a_t_linked, .ref a_t_caseAt, .ref a_t_reasonAt, .ref a_t_firstSlot, .ref a_t_members, .ref a_t_namedBy, .ref a_t_foundBy, .int v_t_linkedVersion, .int v_t_studiedVersion, .int v_t_present, .int v_t_fulls, .int v_t_cases, .int v_t_cited, .int v_t_alive, .int v_t_dead])), (a_t_members, .inl (cI, 32, .inl r_t_members)), (a_t_paper, .inr (0, [.ref a_t_paper_sizes, .ref a_t_paper_cites, .int v_t_paper_notes, .int v_t_paper_version])), (a_t_paper_cites, .inl (cJ, 32, .inr (.inl r_t_paper_cites)))] H) _ hS => ?_)
          refine lv_lstore (lv' := [(5, .long ru13), (0, .ref a_t), (1, .int p1), (2, .int p2), (3, .int p3), (4, .int x4)]) hx hb dX4_hasReportOf_32 hl (by decide) rfl (fun ls hl => ?_)
          refine lv_iload_n hx hb dX4_hasReportOf_34 rfl (lv_at hl 3 rfl) ?_
          refine lv_iconst (v := (3)) hx hb dX4_hasReportOf_35 (by decide) ?_
          refine lv_icmp_ne (tgt := 65) hx hb dX4_hasReportOf_36 (by decide) (fun c14 => ?_) (fun c14 => ?_)
          · have hf := pn_ifp c14 hf
            exact jn65 x4 ru13 H locs ls hf hP hS (lv_sub hl [1, 2, 3, 4, 5, 0] rfl)
          · have hf := pn_ifq c14 hf
            refine lv_lload hx hb dX4_hasReportOf_39 (lv_at hl 0 rfl) ?_
            obtain ⟨ru15, hu15, hf⟩ := pn_bd1_at hf
            refine pn_calli [] (va_runS (As := [.long ru13]) (rest := []) ⟨hx, hb, hml, hown, hts⟩ (c_X0_report l D cI cJ cZ H.size ru13 ru15 hu15) (va_cwS 1 hts gX4_hasReportOf_X0_report rfl rfl rfl hdX0_report ⟨Nat.le_of_ble_eq_true rfl, Nat.le_of_ble_eq_true rfl⟩) (pn_preS [] hP (hD.addr rfl) hK rfl rfl) rfl rfl hl.1 rfl (lv_room (Nat.le_of_ble_eq_true rfl)) dX4_hasReportOf_41 ⟨Nat.zero_le _, Nat.zero_le _⟩) hP (hD.addr rfl) hS hA rfl rfl rfl (fun H locs (hP : va_P D vwCl [(a_t, .inr (3, [.ref a_t_paper, .ref a_t_linked, .ref a_t_caseAt, .ref a_t_reasonAt, .ref a_t_firstSlot, .ref a_t_members, .ref a_t_namedBy, .ref a_t_foundBy, .int v_t_linkedVersion, .int v_t_studiedVersion, .int v_t_present, .int v_t_fulls, .int v_t_cases, .int v_t_cited, .int v_t_alive, .int v_t_dead])), (a_t_members, .inl (cI, 32, .inl r_t_members)), (a_t_paper, .inr (0, [.ref a_t_paper_sizes, .ref a_t_paper_cites, .int v_t_paper_notes, .int v_t_paper_version])), (a_t_paper_cites, .inl (cJ, 32, .inr (.inl r_t_paper_cites)))] H) _ hS => ?_)
            refine lv_iload_n hx hb dX4_hasReportOf_44 rfl (lv_at hl 4 rfl) ?_
            obtain ⟨ru16, hu16, hf⟩ := pn_bd1_at hf
            refine pn_calli [] (va_runSN (As := [.int ru15, .int p3]) (rest := []) ⟨hx, hb, hml, hown, hts⟩ (c_X6_isOfVolume l D cI cJ cZ H.size ru15 p3 ru16 hu16) ⟨va_cnB 2 hts gX4_hasReportOf_X6_isOfVolume_n218 rfl rfl rfl hK.2.2.2.2.2.2 ini_X6_isOfVolume hdX6_isOfVolume ⟨Nat.le_of_ble_eq_true rfl, Nat.le_of_ble_eq_true rfl⟩, st_X6_isOfVolume, trivial⟩ (pn_preS [] hP (hD.addr rfl) hK rfl rfl) rfl rfl hl.1 rfl (lv_room (Nat.le_of_ble_eq_true rfl)) dX4_hasReportOf_45 ⟨Nat.zero_le _, Nat.zero_le _⟩) hP (hD.addr rfl) hS hA rfl rfl rfl (fun H locs (hP : va_P D vwCl [(a_t, .inr (3, [.ref a_t_paper, .ref a_t_linked, .ref a_t_caseAt, .ref a_t_reasonAt, .ref a_t_firstSlot, .ref a_t_members, .ref a_t_namedBy, .ref a_t_foundBy, .int v_t_linkedVersion, .int v_t_studiedVersion, .int v_t_present, .int v_t_fulls, .int v_t_cases, .int v_t_cited, .int v_t_alive, .int v_t_dead])), (a_t_members, .inl (cI, 32, .inl r_t_members)), (a_t_paper, .inr (0, [.ref a_t_paper_sizes, .ref a_t_paper_cites, .int v_t_paper_notes, .int v_t_paper_version])), (a_t_paper_cites, .inl (cJ, 32, .inr (.inl r_t_paper_cites)))] H) _ hS => ?_)
            refine lv_if_ne (tgt := 63) hx hb dX4_hasReportOf_48 (by decide) (fun c17 => ?_) (fun c17 => ?_)
            · have hf := pn_ifp c17 hf
              exact kx63  H locs ls (Option.some.inj hf).symm hP hS (lv_sub hl [] rfl)
            · have hf := pn_ifq c17 hf
              refine lv_lload hx hb dX4_hasReportOf_51 (lv_at hl 0 rfl) ?_
              obtain ⟨ru18, hu18, hf⟩ := pn_bd1_at hf
              refine pn_calli [] (va_runS (As := [.long ru13]) (rest := []) ⟨hx, hb, hml, hown, hts⟩ (c_X0_other l D cI cJ cZ H.size ru13 ru18 hu18) (va_cwS 1 hts gX4_hasReportOf_X0_other rfl rfl rfl hdX0_other ⟨Nat.le_of_ble_eq_true rfl, Nat.le_of_ble_eq_true rfl⟩) (pn_preS [] hP (hD.addr rfl) hK rfl rfl) rfl rfl hl.1 rfl (lv_room (Nat.le_of_ble_eq_true rfl)) dX4_hasReportOf_53 ⟨Nat.zero_le _, Nat.zero_le _⟩) hP (hD.addr rfl) hS hA rfl rfl rfl (fun H locs (hP : va_P D vwCl [(a_t, .inr (3, [.ref a_t_paper, .ref a_t_linked, .ref a_t_caseAt, .ref a_t_reasonAt, .ref a_t_firstSlot, .ref a_t_members, .ref a_t_namedBy, .ref a_t_foundBy, .int v_t_linkedVersion, .int v_t_studiedVersion, .int v_t_present, .int v_t_fulls, .int v_t_cases, .int v_t_cited, .int v_t_alive, .int v_t_dead])), (a_t_members, .inl (cI, 32, .inl r_t_members)), (a_t_paper, .inr (0, [.ref a_t_paper_sizes, .ref a_t_paper_cites, .int v_t_paper_notes, .int v_t_paper_version])), (a_t_paper_cites, .inl (cJ, 32, .inr (.inl r_t_paper_cites)))] H) _ hS => ?_)
              refine lv_iload_n hx hb dX4_hasReportOf_56 rfl (lv_at hl 4 rfl) ?_
              obtain ⟨ru19, hu19, hf⟩ := pn_bd1_at hf
              refine pn_calli [] (va_runSN (As := [.int ru18, .int p3]) (rest := []) ⟨hx, hb, hml, hown, hts⟩ (c_X6_isOfVolume l D cI cJ cZ H.size ru18 p3 ru19 hu19) ⟨va_cnB 2 hts gX4_hasReportOf_X6_isOfVolume_n218 rfl rfl rfl hK.2.2.2.2.2.2 ini_X6_isOfVolume hdX6_isOfVolume ⟨Nat.le_of_ble_eq_true rfl, Nat.le_of_ble_eq_true rfl⟩, st_X6_isOfVolume, trivial⟩ (pn_preS [] hP (hD.addr rfl) hK rfl rfl) rfl rfl hl.1 rfl (lv_room (Nat.le_of_ble_eq_true rfl)) dX4_hasReportOf_57 ⟨Nat.zero_le _, Nat.zero_le _⟩) hP (hD.addr rfl) hS hA rfl rfl rfl (fun H locs (hP : va_P D vwCl [(a_t, .inr (3, [.ref a_t_paper, .ref a_t_linked, .ref a_t_caseAt, .ref a_t_reasonAt, .ref a_t_firstSlot, .ref a_t_members, .ref a_t_namedBy, .ref a_t_foundBy, .int v_t_linkedVersion, .int v_t_studiedVersion, .int v_t_present, .int v_t_fulls, .int v_t_cases, .int v_t_cited, .int v_t_alive, .int v_t_dead])), (a_t_members, .inl (cI, 32, .inl r_t_members)), (a_t_paper, .inr (0, [.ref a_t_paper_sizes, .ref a_t_paper_cites, .int v_t_paper_notes, .int v_t_paper_version])), (a_t_paper_cites, .inl (cJ, 32, .inr (.inl r_t_paper_cites)))] H) _ hS => ?_)
              refine lv_if_eq (tgt := 65) hx hb dX4_hasReportOf_60 (by decide) (fun c20 => ?_) (fun c20 => ?_)
              · have hf := pn_ifp c20 hf
                exact jn65 x4 ru13 H locs ls hf hP hS (lv_sub hl [1, 2, 3, 4, 5, 0] rfl)
              · have hf := pn_ifn c20 hf
                exact kx63  H locs ls (Option.some.inj hf).symm hP hS (lv_sub hl [] rfl)
        · have hf := pn_ifq c12 hf
          refine lv_goto (tgt := 96) hx hb dX4_hasReportOf_20 (by decide) ?_
          obtain ⟨z21, ez21⟩ : ∃ y : Int32, y = x4 + (1) := ⟨_, rfl⟩
          have hf := pn_nm_at ez21 hf
          refine lv_iinc (v := z21) (lv' := [(4, .int z21), (0, .ref a_t), (1, .int p1), (2, .int p2), (3, .int p3)]) hx hb dX4_hasReportOf_96 hl (k := 4) rfl (by rw [ez21]; rfl) (by decide) rfl (fun ls hl => ?_)
          refine lv_goto (tgt := 3) hx hb dX4_hasReportOf_99 (by decide) ?_
          exact ih z21 X H locs ls hf hP hS (lv_sub hl [1, 2, 3, 4, 0] rfl) kx63 kx94 kx102
  refine lv_iconst (v := (0)) hx hb dX4_hasReportOf_0 (by decide) ?_
  refine lv_istore (lv' := [(4, .int (0 : Int32)), (0, .ref a_t), (1, .int p1), (2, .int p2), (3, .int p3)]) hx hb dX4_hasReportOf_1 hl (by decide) rfl (fun ls hl => ?_)
  obtain ⟨X3, hX3, hf⟩ := pn_bd1_at hf
  refine lp3 N (0 : Int32) X3 H locs ls hX3 hP hS (lv_sub hl [1, 2, 3, 4, 0] rfl) ?_ ?_ ?_
  · intro  H locs ls eX hP hS hl
    rw [eX] at hf
    have hf := pn_s2_l hf
    have hf := pn_u0_at hf
    refine lv_iconst (v := (1)) hx hb dX4_hasReportOf_63 (by decide) ?_
    cases hf
    rw [hQ]
    exact pn_retz hx hb hr hlocks hP hS rfl rfl dX4_hasReportOf_64
  · intro  H locs ls eX hP hS hl
    rw [eX] at hf
    have hf := pn_s2_r hf
    have hf := pn_s2_l hf
    have hf := pn_u0_at hf
    refine lv_iconst (v := (1)) hx hb dX4_hasReportOf_94 (by decide) ?_
    cases hf
    rw [hQ]
    exact pn_retz hx hb hr hlocks hP hS rfl rfl dX4_hasReportOf_95
  · intro  H locs ls eX hP hS hl
    rw [eX] at hf
    have hf := pn_s2_r hf
    have hf := pn_s2_r hf
    have hf := pn_u0_at hf
    refine lv_iconst (v := (0)) hx hb dX4_hasReportOf_102 (by decide) ?_
    cases hf
    rw [hQ]
    exact pn_retz hx hb hr hlocks hP hS rfl rfl dX4_hasReportOf_103
def f_X4_isTrueOf (N : Nat) (v_t_cases : Int32) (r_t_firstSlot : Nat → Int32) (r_t_foundBy : Nat → Int32) (r_t_members : Nat → Int32) (r_t_paper_cites : Nat → Int64) (p1 : Int32) (p2 : Int32) (p3 : Int32) : Option (Int32) :=
  if p2 = 0 then
  pn_bd1 (f_X4_firstCite v_t_cases r_t_firstSlot r_t_paper_cites p1) fun ru2 =>
  pn_bd1 (f_X0_first ru2) fun ru3 =>
  if ¬ ru3 = p3 then
  some (0 : Int32)
  else
  some (1 : Int32)
  else if p2 = 1 then
  pn_bd1 (f_X4_firstCite v_t_cases r_t_firstSlot r_t_paper_cites p1) fun ru6 =>
  pn_bd1 (f_X0_second ru6) fun ru7 =>
  if ¬ ru7 = p3 then
  some (0 : Int32)
  else
  some (1 : Int32)
  else if p2 = 2 then
  pn_bd1 (f_X4_isFoundByNote r_t_foundBy p1 p3) fun ru10 =>
  pn_bz ru10 <|
  some ru10
  else pn_bd1 (f_X4_hasReportOf N v_t_cases r_t_members r_t_paper_cites p1 p2 p3) fun ru12 =>
  pn_bz ru12 <|
  some ru12
set_option maxHeartbeats 4000000 in
set_option maxRecDepth 100000 in
theorem c_X4_isTrueOf (l : Launch) (D : va_G) (cI cJ cZ : ClassId) (a_t a_t_paper a_t_linked a_t_caseAt a_t_reasonAt a_t_firstSlot a_t_members a_t_namedBy a_t_foundBy a_t_paper_sizes a_t_paper_cites : Nat) (sz : Nat) (v_t_linkedVersion : Int32) (v_t_studiedVersion : Int32) (v_t_present : Int32) (v_t_fulls : Int32) (v_t_cited : Int32) (v_t_alive : Int32) (v_t_dead : Int32) (v_t_paper_notes : Int32) (v_t_paper_version : Int32) (N : Nat) (v_t_cases : Int32) (r_t_firstSlot : Nat → Int32) (r_t_foundBy : Nat → Int32) (r_t_members : Nat → Int32) (r_t_paper_cites : Nat → Int64) (p1 : Int32) (p2 : Int32) (p3 : Int32) (rR : Int32) (hf : f_X4_isTrueOf N v_t_cases r_t_firstSlot r_t_foundBy r_t_members r_t_paper_cites p1 p2 p3 = some rR) : Met l yX4_isTrueOf wsX4_isTrueOf { frames := 3, cells := 0, slots := 0, locals := 69 } (pn_Pc D cI cJ cZ [.ref a_t, .int p1, .int p2, .int p3] [(a_t, .inr (3, [.ref a_t_paper, .ref a_t_linked, .ref a_t_caseAt, .ref a_t_reasonAt, .ref a_t_firstSlot, .ref a_t_members, .ref a_t_namedBy, .ref a_t_foundBy, .int v_t_linkedVersion, .int v_t_studiedVersion, .int v_t_present, .int v_t_fulls, .int v_t_cases, .int v_t_cited, .int v_t_alive, .int v_t_dead])), (a_t_firstSlot, .inl (cI, 32, .inl r_t_firstSlot)), (a_t_foundBy, .inl (cI, 8, .inl r_t_foundBy)), (a_t_members, .inl (cI, 32, .inl r_t_members)), (a_t_paper, .inr (0, [.ref a_t_paper_sizes, .ref a_t_paper_cites, .int v_t_paper_notes, .int v_t_paper_version])), (a_t_paper_cites, .inl (cJ, 32, .inr (.inl r_t_paper_cites)))] sz) (pn_Qi D rR [(a_t, .inr (3, [.ref a_t_paper, .ref a_t_linked, .ref a_t_caseAt, .ref a_t_reasonAt, .ref a_t_firstSlot, .ref a_t_members, .ref a_t_namedBy, .ref a_t_foundBy, .int v_t_linkedVersion, .int v_t_studiedVersion, .int v_t_present, .int v_t_fulls, .int v_t_cases, .int v_t_cited, .int v_t_alive, .int v_t_dead])), (a_t_firstSlot, .inl (cI, 32, .inl r_t_firstSlot)), (a_t_foundBy, .inl (cI, 8, .inl r_t_foundBy)), (a_t_members, .inl (cI, 32, .inl r_t_members)), (a_t_paper, .inr (0, [.ref a_t_paper_sizes, .ref a_t_paper_cites, .int v_t_paper_notes, .int v_t_paper_version])), (a_t_paper_cites, .inl (cJ, 32, .inr (.inl r_t_paper_cites)))] (va_A [(a_t, .inr (3, [.ref a_t_paper, .ref a_t_linked, .ref a_t_caseAt, .ref a_t_reasonAt, .ref a_t_firstSlot, .ref a_t_members, .ref a_t_namedBy, .ref a_t_foundBy, .int v_t_linkedVersion, .int v_t_studiedVersion, .int v_t_present, .int v_t_fulls, .int v_t_cases, .int v_t_cited, .int v_t_alive, .int v_t_dead])), (a_t_firstSlot, .inl (cI, 32, .inl r_t_firstSlot)), (a_t_foundBy, .inl (cI, 8, .inl r_t_foundBy)), (a_t_members, .inl (cI, 32, .inl r_t_members)), (a_t_paper, .inr (0, [.ref a_t_paper_sizes, .ref a_t_paper_cites, .int v_t_paper_notes, .int v_t_paper_version])), (a_t_paper_cites, .inl (cJ, 32, .inr (.inl r_t_paper_cites)))] sz)) 0 0 (va_A [(a_t, .inr (3, [.ref a_t_paper, .ref a_t_linked, .ref a_t_caseAt, .ref a_t_reasonAt, .ref a_t_firstSlot, .ref a_t_members, .ref a_t_namedBy, .ref a_t_foundBy, .int v_t_linkedVersion, .int v_t_studiedVersion, .int v_t_present, .int v_t_fulls, .int v_t_cases, .int v_t_cited, .int v_t_alive, .int v_t_dead])), (a_t_firstSlot, .inl (cI, 32, .inl r_t_firstSlot)), (a_t_foundBy, .inl (cI, 8, .inl r_t_foundBy)), (a_t_members, .inl (cI, 32, .inl r_t_members)), (a_t_paper, .inr (0, [.ref a_t_paper_sizes, .ref a_t_paper_cites, .int v_t_paper_notes, .int v_t_paper_version])), (a_t_paper_cites, .inl (cJ, 32, .inr (.inl r_t_paper_cites)))] sz) := by
  refine pn_entry (cc := cX4_isTrueOf) (maxL := 4) (ret := (some .boolean)) (Qf := pn_Qi D rR [(a_t, .inr (3, [.ref a_t_paper, .ref a_t_linked, .ref a_t_caseAt, .ref a_t_reasonAt, .ref a_t_firstSlot, .ref a_t_members, .ref a_t_namedBy, .ref a_t_foundBy, .int v_t_linkedVersion, .int v_t_studiedVersion, .int v_t_present, .int v_t_fulls, .int v_t_cases, .int v_t_cited, .int v_t_alive, .int v_t_dead])), (a_t_firstSlot, .inl (cI, 32, .inl r_t_firstSlot)), (a_t_foundBy, .inl (cI, 8, .inl r_t_foundBy)), (a_t_members, .inl (cI, 32, .inl r_t_members)), (a_t_paper, .inr (0, [.ref a_t_paper_sizes, .ref a_t_paper_cites, .int v_t_paper_notes, .int v_t_paper_version])), (a_t_paper_cites, .inl (cJ, 32, .inr (.inl r_t_paper_cites)))]) (by decide) rfl (Nat.le_of_ble_eq_true rfl) ?_
  intro p e s m args below meth c A ls H locs Qm hQ hx hb hr hlocks hml hown hts hK hP hD hA hS hl
  have hl : lv_has ls 4 [(0, .ref a_t), (1, .int p1), (2, .int p2), (3, .int p3)] := hl
  rw [f_X4_isTrueOf] at hf
  refine lv_iload_n hx hb dX4_isTrueOf_0 rfl (lv_at hl 2 rfl) ?_
  by_cases c1 : p2 = 0
  · have hf := pn_ifp c1 hf
    refine lv_tableIn (tgt := 28) hx hb dX4_isTrueOf_1 (by rw [c1]; decide) (by rw [c1]; decide) (by rw [c1]; rfl) (by decide) ?_
    refine lv_aload_n hx hb dX4_isTrueOf_28 rfl (lv_at hl 0 rfl) ?_
    refine lv_iload_n hx hb dX4_isTrueOf_29 rfl (lv_at hl 1 rfl) ?_
    obtain ⟨ru2, hu2, hf⟩ := pn_bd1_at hf
    refine pn_calll [0, 1, 4, 5] (va_runV (As := [.int p1]) (rest := []) ⟨hx, hb, hml, hown, hts⟩ (c_X4_firstCite l D cI cJ cZ a_t a_t_paper a_t_linked a_t_caseAt a_t_reasonAt a_t_firstSlot a_t_members a_t_namedBy a_t_foundBy a_t_paper_sizes a_t_paper_cites H.size v_t_linkedVersion v_t_studiedVersion v_t_present v_t_fulls v_t_cited v_t_alive v_t_dead v_t_paper_notes v_t_paper_version v_t_cases r_t_firstSlot r_t_paper_cites p1 ru2 hu2) (cwV 1 hts gX4_isTrueOf_X4_firstCite rfl rfl rfl hdX4_firstCite ⟨Nat.le_of_ble_eq_true rfl, Nat.le_of_ble_eq_true rfl⟩) (pn_preV [0, 1, 4, 5] hP (hD.addr rfl) hK rfl rfl (q0 := 0) (ci := 3) rfl rfl) rfl rfl hl.1 rfl (lv_room (Nat.le_of_ble_eq_true rfl)) dX4_isTrueOf_30 ⟨Nat.zero_le _, Nat.zero_le _⟩) hP (hD.addr rfl) hS hA rfl rfl rfl (fun H locs (hP : va_P D vwCl [(a_t, .inr (3, [.ref a_t_paper, .ref a_t_linked, .ref a_t_caseAt, .ref a_t_reasonAt, .ref a_t_firstSlot, .ref a_t_members, .ref a_t_namedBy, .ref a_t_foundBy, .int v_t_linkedVersion, .int v_t_studiedVersion, .int v_t_present, .int v_t_fulls, .int v_t_cases, .int v_t_cited, .int v_t_alive, .int v_t_dead])), (a_t_firstSlot, .inl (cI, 32, .inl r_t_firstSlot)), (a_t_foundBy, .inl (cI, 8, .inl r_t_foundBy)), (a_t_members, .inl (cI, 32, .inl r_t_members)), (a_t_paper, .inr (0, [.ref a_t_paper_sizes, .ref a_t_paper_cites, .int v_t_paper_notes, .int v_t_paper_version])), (a_t_paper_cites, .inl (cJ, 32, .inr (.inl r_t_paper_cites)))] H) _ hS => ?_)
    obtain ⟨ru3, hu3, hf⟩ := pn_bd1_at hf
    refine pn_calli [] (va_runS (As := [.long ru2]) (rest := []) ⟨hx, hb, hml, hown, hts⟩ (c_X0_first l D cI cJ cZ H.size ru2 ru3 hu3) (va_cwS 1 hts gX4_isTrueOf_X0_first rfl rfl rfl hdX0_first ⟨Nat.le_of_ble_eq_true rfl, Nat.le_of_ble_eq_true rfl⟩) (pn_preS [] hP (hD.addr rfl) hK rfl rfl) rfl rfl hl.1 rfl (lv_room (Nat.le_of_ble_eq_true rfl)) dX4_isTrueOf_33 ⟨Nat.zero_le _, Nat.zero_le _⟩) hP (hD.addr rfl) hS hA rfl rfl rfl (fun H locs (hP : va_P D vwCl [(a_t, .inr (3, [.ref a_t_paper, .ref a_t_linked, .ref a_t_caseAt, .ref a_t_reasonAt, .ref a_t_firstSlot, .ref a_t_members, .ref a_t_namedBy, .ref a_t_foundBy, .int v_t_linkedVersion, .int v_t_studiedVersion, .int v_t_present, .int v_t_fulls, .int v_t_cases, .int v_t_cited, .int v_t_alive, .int v_t_dead])), (a_t_firstSlot, .inl (cI, 32, .inl r_t_firstSlot)), (a_t_foundBy, .inl (cI, 8, .inl r_t_foundBy)), (a_t_members, .inl (cI, 32, .inl r_t_members)), (a_t_paper, .inr (0, [.ref a_t_paper_sizes, .ref a_t_paper_cites, .int v_t_paper_notes, .int v_t_paper_version])), (a_t_paper_cites, .inl (cJ, 32, .inr (.inl r_t_paper_cites)))] H) _ hS => ?_)
    refine lv_iload_n hx hb dX4_isTrueOf_36 rfl (lv_at hl 3 rfl) ?_
    refine lv_icmp_ne (tgt := 44) hx hb dX4_isTrueOf_37 (by decide) (fun c4 => ?_) (fun c4 => ?_)
    · have hf := pn_ifp c4 hf
      refine lv_iconst (v := (0)) hx hb dX4_isTrueOf_44 (by decide) ?_
      cases hf
      rw [hQ]
      exact pn_retz hx hb hr hlocks hP hS rfl rfl dX4_isTrueOf_45
    · have hf := pn_ifq c4 hf
      refine lv_iconst (v := (1)) hx hb dX4_isTrueOf_40 (by decide) ?_
      refine lv_goto (tgt := 45) hx hb dX4_isTrueOf_41 (by decide) ?_
      cases hf
      rw [hQ]
      exact pn_retz hx hb hr hlocks hP hS rfl rfl dX4_isTrueOf_45
  · have hf := pn_ifn c1 hf
    by_cases c5 : p2 = 1
    · have hf := pn_ifp c5 hf
      refine lv_tableIn (tgt := 46) hx hb dX4_isTrueOf_1 (by rw [c5]; decide) (by rw [c5]; decide) (by rw [c5]; rfl) (by decide) ?_
      refine lv_aload_n hx hb dX4_isTrueOf_46 rfl (lv_at hl 0 rfl) ?_
      refine lv_iload_n hx hb dX4_isTrueOf_47 rfl (lv_at hl 1 rfl) ?_
      obtain ⟨ru6, hu6, hf⟩ := pn_bd1_at hf
      refine pn_calll [0, 1, 4, 5] (va_runV (As := [.int p1]) (rest := []) ⟨hx, hb, hml, hown, hts⟩ (c_X4_firstCite l D cI cJ cZ a_t a_t_paper a_t_linked a_t_caseAt a_t_reasonAt a_t_firstSlot a_t_members a_t_namedBy a_t_foundBy a_t_paper_sizes a_t_paper_cites H.size v_t_linkedVersion v_t_studiedVersion v_t_present v_t_fulls v_t_cited v_t_alive v_t_dead v_t_paper_notes v_t_paper_version v_t_cases r_t_firstSlot r_t_paper_cites p1 ru6 hu6) (cwV 1 hts gX4_isTrueOf_X4_firstCite rfl rfl rfl hdX4_firstCite ⟨Nat.le_of_ble_eq_true rfl, Nat.le_of_ble_eq_true rfl⟩) (pn_preV [0, 1, 4, 5] hP (hD.addr rfl) hK rfl rfl (q0 := 0) (ci := 3) rfl rfl) rfl rfl hl.1 rfl (lv_room (Nat.le_of_ble_eq_true rfl)) dX4_isTrueOf_48 ⟨Nat.zero_le _, Nat.zero_le _⟩) hP (hD.addr rfl) hS hA rfl rfl rfl (fun H locs (hP : va_P D vwCl [(a_t, .inr (3, [.ref a_t_paper, .ref a_t_linked, .ref a_t_caseAt, .ref a_t_reasonAt, .ref a_t_firstSlot, .ref a_t_members, .ref a_t_namedBy, .ref a_t_foundBy, .int v_t_linkedVersion, .int v_t_studiedVersion, .int v_t_present, .int v_t_fulls, .int v_t_cases, .int v_t_cited, .int v_t_alive, .int v_t_dead])), (a_t_firstSlot, .inl (cI, 32, .inl r_t_firstSlot)), (a_t_foundBy, .inl (cI, 8, .inl r_t_foundBy)), (a_t_members, .inl (cI, 32, .inl r_t_members)), (a_t_paper, .inr (0, [.ref a_t_paper_sizes, .ref a_t_paper_cites, .int v_t_paper_notes, .int v_t_paper_version])), (a_t_paper_cites, .inl (cJ, 32, .inr (.inl r_t_paper_cites)))] H) _ hS => ?_)
      obtain ⟨ru7, hu7, hf⟩ := pn_bd1_at hf
      refine pn_calli [] (va_runS (As := [.long ru6]) (rest := []) ⟨hx, hb, hml, hown, hts⟩ (c_X0_second l D cI cJ cZ H.size ru6 ru7 hu7) (va_cwS 1 hts gX4_isTrueOf_X0_second rfl rfl rfl hdX0_second ⟨Nat.le_of_ble_eq_true rfl, Nat.le_of_ble_eq_true rfl⟩) (pn_preS [] hP (hD.addr rfl) hK rfl rfl) rfl rfl hl.1 rfl (lv_room (Nat.le_of_ble_eq_true rfl)) dX4_isTrueOf_51 ⟨Nat.zero_le _, Nat.zero_le _⟩) hP (hD.addr rfl) hS hA rfl rfl rfl (fun H locs (hP : va_P D vwCl [(a_t, .inr (3, [.ref a_t_paper, .ref a_t_linked, .ref a_t_caseAt, .ref a_t_reasonAt, .ref a_t_firstSlot, .ref a_t_members, .ref a_t_namedBy, .ref a_t_foundBy, .int v_t_linkedVersion, .int v_t_studiedVersion, .int v_t_present, .int v_t_fulls, .int v_t_cases, .int v_t_cited, .int v_t_alive, .int v_t_dead])), (a_t_firstSlot, .inl (cI, 32, .inl r_t_firstSlot)), (a_t_foundBy, .inl (cI, 8, .inl r_t_foundBy)), (a_t_members, .inl (cI, 32, .inl r_t_members)), (a_t_paper, .inr (0, [.ref a_t_paper_sizes, .ref a_t_paper_cites, .int v_t_paper_notes, .int v_t_paper_version])), (a_t_paper_cites, .inl (cJ, 32, .inr (.inl r_t_paper_cites)))] H) _ hS => ?_)
      refine lv_iload_n hx hb dX4_isTrueOf_54 rfl (lv_at hl 3 rfl) ?_
      refine lv_icmp_ne (tgt := 62) hx hb dX4_isTrueOf_55 (by decide) (fun c8 => ?_) (fun c8 => ?_)
      · have hf := pn_ifp c8 hf
        refine lv_iconst (v := (0)) hx hb dX4_isTrueOf_62 (by decide) ?_
        cases hf
        rw [hQ]
        exact pn_retz hx hb hr hlocks hP hS rfl rfl dX4_isTrueOf_63
      · have hf := pn_ifq c8 hf
        refine lv_iconst (v := (1)) hx hb dX4_isTrueOf_58 (by decide) ?_
        refine lv_goto (tgt := 63) hx hb dX4_isTrueOf_59 (by decide) ?_
        cases hf
        rw [hQ]
        exact pn_retz hx hb hr hlocks hP hS rfl rfl dX4_isTrueOf_63
    · have hf := pn_ifn c5 hf
      by_cases c9 : p2 = 2
      · have hf := pn_ifp c9 hf
        refine lv_tableIn (tgt := 64) hx hb dX4_isTrueOf_1 (by rw [c9]; decide) (by rw [c9]; decide) (by rw [c9]; rfl) (by decide) ?_
        refine lv_aload_n hx hb dX4_isTrueOf_64 rfl (lv_at hl 0 rfl) ?_
        refine lv_iload_n hx hb dX4_isTrueOf_65 rfl (lv_at hl 1 rfl) ?_
        refine lv_iload_n hx hb dX4_isTrueOf_66 rfl (lv_at hl 3 rfl) ?_
        obtain ⟨ru10, hu10, hf⟩ := pn_bd1_at hf
        refine pn_calli [0, 2] (va_runV (As := [.int p1, .int p3]) (rest := []) ⟨hx, hb, hml, hown, hts⟩ (c_X4_isFoundByNote l D cI cJ cZ a_t a_t_paper a_t_linked a_t_caseAt a_t_reasonAt a_t_firstSlot a_t_members a_t_namedBy a_t_foundBy H.size v_t_linkedVersion v_t_studiedVersion v_t_present v_t_fulls v_t_cases v_t_cited v_t_alive v_t_dead r_t_foundBy p1 p3 ru10 hu10) (cwV 2 hts gX4_isTrueOf_X4_isFoundByNote rfl rfl rfl hdX4_isFoundByNote ⟨Nat.le_of_ble_eq_true rfl, Nat.le_of_ble_eq_true rfl⟩) (pn_preV [0, 2] hP (hD.addr rfl) hK rfl rfl (q0 := 0) (ci := 3) rfl rfl) rfl rfl hl.1 rfl (lv_room (Nat.le_of_ble_eq_true rfl)) dX4_isTrueOf_67 ⟨Nat.zero_le _, Nat.zero_le _⟩) hP (hD.addr rfl) hS hA rfl rfl rfl (fun H locs (hP : va_P D vwCl [(a_t, .inr (3, [.ref a_t_paper, .ref a_t_linked, .ref a_t_caseAt, .ref a_t_reasonAt, .ref a_t_firstSlot, .ref a_t_members, .ref a_t_namedBy, .ref a_t_foundBy, .int v_t_linkedVersion, .int v_t_studiedVersion, .int v_t_present, .int v_t_fulls, .int v_t_cases, .int v_t_cited, .int v_t_alive, .int v_t_dead])), (a_t_firstSlot, .inl (cI, 32, .inl r_t_firstSlot)), (a_t_foundBy, .inl (cI, 8, .inl r_t_foundBy)), (a_t_members, .inl (cI, 32, .inl r_t_members)), (a_t_paper, .inr (0, [.ref a_t_paper_sizes, .ref a_t_paper_cites, .int v_t_paper_notes, .int v_t_paper_version])), (a_t_paper_cites, .inl (cJ, 32, .inr (.inl r_t_paper_cites)))] H) _ hS => ?_)
        obtain ⟨hn11, hf⟩ := pn_bz_at hf
        cases hf
        rw [hQ]
        exact pn_retz hx hb hr hlocks hP hS rfl hn11 dX4_isTrueOf_70
      · have hf := pn_ifn c9 hf
        refine lv_tableOut (tgt := 71) hx hb dX4_isTrueOf_1 (by have := lv_neT (a := 0) c1 (by decide); have := lv_neT (a := 1) c5 (by decide); have := lv_neT (a := 2) c9 (by decide); omega) (by decide) ?_
        refine lv_aload_n hx hb dX4_isTrueOf_71 rfl (lv_at hl 0 rfl) ?_
        refine lv_iload_n hx hb dX4_isTrueOf_72 rfl (lv_at hl 1 rfl) ?_
        refine lv_iload_n hx hb dX4_isTrueOf_73 rfl (lv_at hl 2 rfl) ?_
        refine lv_iload_n hx hb dX4_isTrueOf_74 rfl (lv_at hl 3 rfl) ?_
        obtain ⟨ru12, hu12, hf⟩ := pn_bd1_at hf
        refine pn_calli [0, 3, 4, 5] (va_runV (As := [.int p1, .int p2, .int p3]) (rest := []) ⟨hx, hb, hml, hown, hts⟩ (c_X4_hasReportOf l D cI cJ cZ a_t a_t_paper a_t_linked a_t_caseAt a_t_reasonAt a_t_firstSlot a_t_members a_t_namedBy a_t_foundBy a_t_paper_sizes a_t_paper_cites H.size v_t_linkedVersion v_t_studiedVersion v_t_present v_t_fulls v_t_cited v_t_alive v_t_dead v_t_paper_notes v_t_paper_version N v_t_cases r_t_members r_t_paper_cites p1 p2 p3 ru12 hu12) (cwV 3 hts gX4_isTrueOf_X4_hasReportOf rfl rfl rfl hdX4_hasReportOf ⟨Nat.le_of_ble_eq_true rfl, Nat.le_of_ble_eq_true rfl⟩) (pn_preV [0, 3, 4, 5] hP (hD.addr rfl) hK rfl rfl (q0 := 0) (ci := 3) rfl rfl) rfl rfl hl.1 rfl (lv_room (Nat.le_of_ble_eq_true rfl)) dX4_isTrueOf_75 ⟨Nat.zero_le _, Nat.zero_le _⟩) hP (hD.addr rfl) hS hA rfl rfl rfl (fun H locs (hP : va_P D vwCl [(a_t, .inr (3, [.ref a_t_paper, .ref a_t_linked, .ref a_t_caseAt, .ref a_t_reasonAt, .ref a_t_firstSlot, .ref a_t_members, .ref a_t_namedBy, .ref a_t_foundBy, .int v_t_linkedVersion, .int v_t_studiedVersion, .int v_t_present, .int v_t_fulls, .int v_t_cases, .int v_t_cited, .int v_t_alive, .int v_t_dead])), (a_t_firstSlot, .inl (cI, 32, .inl r_t_firstSlot)), (a_t_foundBy, .inl (cI, 8, .inl r_t_foundBy)), (a_t_members, .inl (cI, 32, .inl r_t_members)), (a_t_paper, .inr (0, [.ref a_t_paper_sizes, .ref a_t_paper_cites, .int v_t_paper_notes, .int v_t_paper_version])), (a_t_paper_cites, .inl (cJ, 32, .inr (.inl r_t_paper_cites)))] H) _ hS => ?_)
        obtain ⟨hn13, hf⟩ := pn_bz_at hf
        cases hf
        rw [hQ]
        exact pn_retz hx hb hr hlocks hP hS rfl hn13 dX4_isTrueOf_78
def f_X4_lengthened (v_t_cases : Int32) (r_t_caseAt : Nat → Int32) (r_t_firstSlot : Nat → Int32) (r_t_paper_cites : Nat → Int64) (p1 : Int32) : Option (Int64) :=
  pn_bd1 (f_X4_caseOf r_t_caseAt p1) fun ru1 =>
  pn_bd1 (f_X4_firstCite v_t_cases r_t_firstSlot r_t_paper_cites ru1) fun ru2 =>
  pn_bd1 (f_X1_cite r_t_paper_cites p1) fun ru3 =>
  pn_bd1 (f_X0_pin ru3) fun ru4 =>
  pn_bd1 (f_X0_withPin ru2 ru4) fun ru5 =>
  some ru5
set_option maxHeartbeats 4000000 in
set_option maxRecDepth 100000 in
theorem c_X4_lengthened (l : Launch) (D : va_G) (cI cJ cZ : ClassId) (a_t a_t_paper a_t_linked a_t_caseAt a_t_reasonAt a_t_firstSlot a_t_members a_t_namedBy a_t_foundBy a_t_paper_sizes a_t_paper_cites : Nat) (sz : Nat) (v_t_linkedVersion : Int32) (v_t_studiedVersion : Int32) (v_t_present : Int32) (v_t_fulls : Int32) (v_t_cited : Int32) (v_t_alive : Int32) (v_t_dead : Int32) (v_t_paper_notes : Int32) (v_t_paper_version : Int32) (v_t_cases : Int32) (r_t_caseAt : Nat → Int32) (r_t_firstSlot : Nat → Int32) (r_t_paper_cites : Nat → Int64) (p1 : Int32) (rR : Int64) (hf : f_X4_lengthened v_t_cases r_t_caseAt r_t_firstSlot r_t_paper_cites p1 = some rR) : Met l yX4_lengthened wsX4_lengthened { frames := 2, cells := 0, slots := 0, locals := 42 } (pn_Pc D cI cJ cZ [.ref a_t, .int p1] [(a_t, .inr (3, [.ref a_t_paper, .ref a_t_linked, .ref a_t_caseAt, .ref a_t_reasonAt, .ref a_t_firstSlot, .ref a_t_members, .ref a_t_namedBy, .ref a_t_foundBy, .int v_t_linkedVersion, .int v_t_studiedVersion, .int v_t_present, .int v_t_fulls, .int v_t_cases, .int v_t_cited, .int v_t_alive, .int v_t_dead])), (a_t_caseAt, .inl (cI, 32, .inl r_t_caseAt)), (a_t_firstSlot, .inl (cI, 32, .inl r_t_firstSlot)), (a_t_paper, .inr (0, [.ref a_t_paper_sizes, .ref a_t_paper_cites, .int v_t_paper_notes, .int v_t_paper_version])), (a_t_paper_cites, .inl (cJ, 32, .inr (.inl r_t_paper_cites)))] sz) (pn_Ql D rR [(a_t, .inr (3, [.ref a_t_paper, .ref a_t_linked, .ref a_t_caseAt, .ref a_t_reasonAt, .ref a_t_firstSlot, .ref a_t_members, .ref a_t_namedBy, .ref a_t_foundBy, .int v_t_linkedVersion, .int v_t_studiedVersion, .int v_t_present, .int v_t_fulls, .int v_t_cases, .int v_t_cited, .int v_t_alive, .int v_t_dead])), (a_t_caseAt, .inl (cI, 32, .inl r_t_caseAt)), (a_t_firstSlot, .inl (cI, 32, .inl r_t_firstSlot)), (a_t_paper, .inr (0, [.ref a_t_paper_sizes, .ref a_t_paper_cites, .int v_t_paper_notes, .int v_t_paper_version])), (a_t_paper_cites, .inl (cJ, 32, .inr (.inl r_t_paper_cites)))] (va_A [(a_t, .inr (3, [.ref a_t_paper, .ref a_t_linked, .ref a_t_caseAt, .ref a_t_reasonAt, .ref a_t_firstSlot, .ref a_t_members, .ref a_t_namedBy, .ref a_t_foundBy, .int v_t_linkedVersion, .int v_t_studiedVersion, .int v_t_present, .int v_t_fulls, .int v_t_cases, .int v_t_cited, .int v_t_alive, .int v_t_dead])), (a_t_caseAt, .inl (cI, 32, .inl r_t_caseAt)), (a_t_firstSlot, .inl (cI, 32, .inl r_t_firstSlot)), (a_t_paper, .inr (0, [.ref a_t_paper_sizes, .ref a_t_paper_cites, .int v_t_paper_notes, .int v_t_paper_version])), (a_t_paper_cites, .inl (cJ, 32, .inr (.inl r_t_paper_cites)))] sz)) 0 0 (va_A [(a_t, .inr (3, [.ref a_t_paper, .ref a_t_linked, .ref a_t_caseAt, .ref a_t_reasonAt, .ref a_t_firstSlot, .ref a_t_members, .ref a_t_namedBy, .ref a_t_foundBy, .int v_t_linkedVersion, .int v_t_studiedVersion, .int v_t_present, .int v_t_fulls, .int v_t_cases, .int v_t_cited, .int v_t_alive, .int v_t_dead])), (a_t_caseAt, .inl (cI, 32, .inl r_t_caseAt)), (a_t_firstSlot, .inl (cI, 32, .inl r_t_firstSlot)), (a_t_paper, .inr (0, [.ref a_t_paper_sizes, .ref a_t_paper_cites, .int v_t_paper_notes, .int v_t_paper_version])), (a_t_paper_cites, .inl (cJ, 32, .inr (.inl r_t_paper_cites)))] sz) := by
  refine pn_entry (cc := cX4_lengthened) (maxL := 2) (ret := (some .long)) (Qf := pn_Ql D rR [(a_t, .inr (3, [.ref a_t_paper, .ref a_t_linked, .ref a_t_caseAt, .ref a_t_reasonAt, .ref a_t_firstSlot, .ref a_t_members, .ref a_t_namedBy, .ref a_t_foundBy, .int v_t_linkedVersion, .int v_t_studiedVersion, .int v_t_present, .int v_t_fulls, .int v_t_cases, .int v_t_cited, .int v_t_alive, .int v_t_dead])), (a_t_caseAt, .inl (cI, 32, .inl r_t_caseAt)), (a_t_firstSlot, .inl (cI, 32, .inl r_t_firstSlot)), (a_t_paper, .inr (0, [.ref a_t_paper_sizes, .ref a_t_paper_cites, .int v_t_paper_notes, .int v_t_paper_version])), (a_t_paper_cites, .inl (cJ, 32, .inr (.inl r_t_paper_cites)))]) (by decide) rfl (Nat.le_of_ble_eq_true rfl) ?_
  intro p e s m args below meth c A ls H locs Qm hQ hx hb hr hlocks hml hown hts hK hP hD hA hS hl
  have hl : lv_has ls 2 [(0, .ref a_t), (1, .int p1)] := hl
  have hinX4 : ∀ w ∈ wsX40, w ∈ wsX4_lengthened := by decide +kernel
  have fl_12 := hts (.fieldLink RX4 12 "PointingNotes$Study" "paper" "LPointingNotes$Paper;") (by decide +kernel)
  rw [f_X4_lengthened] at hf
  refine lv_aload_n hx hb dX4_lengthened_0 rfl (lv_at hl 0 rfl) ?_
  refine lv_aload_n hx hb dX4_lengthened_1 rfl (lv_at hl 0 rfl) ?_
  refine lv_iload_n hx hb dX4_lengthened_2 rfl (lv_at hl 1 rfl) ?_
  obtain ⟨ru1, hu1, hf⟩ := pn_bd1_at hf
  refine pn_calli [0, 1] (va_runV (As := [.int p1]) (rest := [.ref a_t]) ⟨hx, hb, hml, hown, hts⟩ (c_X4_caseOf l D cI cJ cZ a_t a_t_paper a_t_linked a_t_caseAt a_t_reasonAt a_t_firstSlot a_t_members a_t_namedBy a_t_foundBy H.size v_t_linkedVersion v_t_studiedVersion v_t_present v_t_fulls v_t_cases v_t_cited v_t_alive v_t_dead r_t_caseAt p1 ru1 hu1) (cwV 1 hts gX4_lengthened_X4_caseOf rfl rfl rfl hdX4_caseOf ⟨Nat.le_of_ble_eq_true rfl, Nat.le_of_ble_eq_true rfl⟩) (pn_preV [0, 1] hP (hD.addr rfl) hK rfl rfl (q0 := 0) (ci := 3) rfl rfl) rfl rfl hl.1 rfl (lv_room (Nat.le_of_ble_eq_true rfl)) dX4_lengthened_3 ⟨Nat.zero_le _, Nat.zero_le _⟩) hP (hD.addr rfl) hS hA rfl rfl rfl (fun H locs (hP : va_P D vwCl [(a_t, .inr (3, [.ref a_t_paper, .ref a_t_linked, .ref a_t_caseAt, .ref a_t_reasonAt, .ref a_t_firstSlot, .ref a_t_members, .ref a_t_namedBy, .ref a_t_foundBy, .int v_t_linkedVersion, .int v_t_studiedVersion, .int v_t_present, .int v_t_fulls, .int v_t_cases, .int v_t_cited, .int v_t_alive, .int v_t_dead])), (a_t_caseAt, .inl (cI, 32, .inl r_t_caseAt)), (a_t_firstSlot, .inl (cI, 32, .inl r_t_firstSlot)), (a_t_paper, .inr (0, [.ref a_t_paper_sizes, .ref a_t_paper_cites, .int v_t_paper_notes, .int v_t_paper_version])), (a_t_paper_cites, .inl (cJ, 32, .inr (.inl r_t_paper_cites)))] H) _ hS => ?_)
  obtain ⟨ru2, hu2, hf⟩ := pn_bd1_at hf
  refine pn_calll [0, 2, 3, 4] (va_runV (As := [.int ru1]) (rest := []) ⟨hx, hb, hml, hown, hts⟩ (c_X4_firstCite l D cI cJ cZ a_t a_t_paper a_t_linked a_t_caseAt a_t_reasonAt a_t_firstSlot a_t_members a_t_namedBy a_t_foundBy a_t_paper_sizes a_t_paper_cites H.size v_t_linkedVersion v_t_studiedVersion v_t_present v_t_fulls v_t_cited v_t_alive v_t_dead v_t_paper_notes v_t_paper_version v_t_cases r_t_firstSlot r_t_paper_cites ru1 ru2 hu2) (cwV 1 hts gX4_lengthened_X4_firstCite rfl rfl rfl hdX4_firstCite ⟨Nat.le_of_ble_eq_true rfl, Nat.le_of_ble_eq_true rfl⟩) (pn_preV [0, 2, 3, 4] hP (hD.addr rfl) hK rfl rfl (q0 := 0) (ci := 3) rfl rfl) rfl rfl hl.1 rfl (lv_room (Nat.le_of_ble_eq_true rfl)) dX4_lengthened_6 ⟨Nat.zero_le _, Nat.zero_le _⟩) hP (hD.addr rfl) hS hA rfl rfl rfl (fun H locs (hP : va_P D vwCl [(a_t, .inr (3, [.ref a_t_paper, .ref a_t_linked, .ref a_t_caseAt, .ref a_t_reasonAt, .ref a_t_firstSlot, .ref a_t_members, .ref a_t_namedBy, .ref a_t_foundBy, .int v_t_linkedVersion, .int v_t_studiedVersion, .int v_t_present, .int v_t_fulls, .int v_t_cases, .int v_t_cited, .int v_t_alive, .int v_t_dead])), (a_t_caseAt, .inl (cI, 32, .inl r_t_caseAt)), (a_t_firstSlot, .inl (cI, 32, .inl r_t_firstSlot)), (a_t_paper, .inr (0, [.ref a_t_paper_sizes, .ref a_t_paper_cites, .int v_t_paper_notes, .int v_t_paper_version])), (a_t_paper_cites, .inl (cJ, 32, .inr (.inl r_t_paper_cites)))] H) _ hS => ?_)
  refine lv_aload_n hx hb dX4_lengthened_9 rfl (lv_at hl 0 rfl) ?_
  refine va_get (D := D) (ci := 3) (v := .ref a_t_paper) (C := RX4) (T := TX4) (N := 16) hx hb hts hinX4 hown hK.1 hP 0 rfl rfl 0 (by decide) fl_12 (fun _ h9 => h9) rfl dX4_lengthened_10 ?_
  refine lv_iload_n hx hb dX4_lengthened_13 rfl (lv_at hl 1 rfl) ?_
  obtain ⟨ru3, hu3, hf⟩ := pn_bd1_at hf
  refine pn_calll [3, 4] (va_runV (As := [.int p1]) (rest := [.long ru2]) ⟨hx, hb, hml, hown, hts⟩ (c_X1_cite l D cI cJ cZ a_t_paper a_t_paper_sizes a_t_paper_cites H.size v_t_paper_notes v_t_paper_version r_t_paper_cites p1 ru3 hu3) (cwV 1 hts gX4_lengthened_X1_cite rfl rfl rfl hdX1_cite ⟨Nat.le_of_ble_eq_true rfl, Nat.le_of_ble_eq_true rfl⟩) (pn_preV [3, 4] hP (hD.addr rfl) hK rfl rfl (q0 := 3) (ci := 0) rfl rfl) rfl rfl hl.1 rfl (lv_room (Nat.le_of_ble_eq_true rfl)) dX4_lengthened_14 ⟨Nat.zero_le _, Nat.zero_le _⟩) hP (hD.addr rfl) hS hA rfl rfl rfl (fun H locs (hP : va_P D vwCl [(a_t, .inr (3, [.ref a_t_paper, .ref a_t_linked, .ref a_t_caseAt, .ref a_t_reasonAt, .ref a_t_firstSlot, .ref a_t_members, .ref a_t_namedBy, .ref a_t_foundBy, .int v_t_linkedVersion, .int v_t_studiedVersion, .int v_t_present, .int v_t_fulls, .int v_t_cases, .int v_t_cited, .int v_t_alive, .int v_t_dead])), (a_t_caseAt, .inl (cI, 32, .inl r_t_caseAt)), (a_t_firstSlot, .inl (cI, 32, .inl r_t_firstSlot)), (a_t_paper, .inr (0, [.ref a_t_paper_sizes, .ref a_t_paper_cites, .int v_t_paper_notes, .int v_t_paper_version])), (a_t_paper_cites, .inl (cJ, 32, .inr (.inl r_t_paper_cites)))] H) _ hS => ?_)
  obtain ⟨ru4, hu4, hf⟩ := pn_bd1_at hf
  refine pn_calli [] (va_runS (As := [.long ru3]) (rest := [.long ru2]) ⟨hx, hb, hml, hown, hts⟩ (c_X0_pin l D cI cJ cZ H.size ru3 ru4 hu4) (va_cwS 1 hts gX4_lengthened_X0_pin rfl rfl rfl hdX0_pin ⟨Nat.le_of_ble_eq_true rfl, Nat.le_of_ble_eq_true rfl⟩) (pn_preS [] hP (hD.addr rfl) hK rfl rfl) rfl rfl hl.1 rfl (lv_room (Nat.le_of_ble_eq_true rfl)) dX4_lengthened_17 ⟨Nat.zero_le _, Nat.zero_le _⟩) hP (hD.addr rfl) hS hA rfl rfl rfl (fun H locs (hP : va_P D vwCl [(a_t, .inr (3, [.ref a_t_paper, .ref a_t_linked, .ref a_t_caseAt, .ref a_t_reasonAt, .ref a_t_firstSlot, .ref a_t_members, .ref a_t_namedBy, .ref a_t_foundBy, .int v_t_linkedVersion, .int v_t_studiedVersion, .int v_t_present, .int v_t_fulls, .int v_t_cases, .int v_t_cited, .int v_t_alive, .int v_t_dead])), (a_t_caseAt, .inl (cI, 32, .inl r_t_caseAt)), (a_t_firstSlot, .inl (cI, 32, .inl r_t_firstSlot)), (a_t_paper, .inr (0, [.ref a_t_paper_sizes, .ref a_t_paper_cites, .int v_t_paper_notes, .int v_t_paper_version])), (a_t_paper_cites, .inl (cJ, 32, .inr (.inl r_t_paper_cites)))] H) _ hS => ?_)
  obtain ⟨ru5, hu5, hf⟩ := pn_bd1_at hf
  refine pn_calll [] (va_runS (As := [.long ru2, .int ru4]) (rest := []) ⟨hx, hb, hml, hown, hts⟩ (c_X0_withPin l D cI cJ cZ H.size ru2 ru4 ru5 hu5) (va_cwS 2 hts gX4_lengthened_X0_withPin rfl rfl rfl hdX0_withPin ⟨Nat.le_of_ble_eq_true rfl, Nat.le_of_ble_eq_true rfl⟩) (pn_preS [] hP (hD.addr rfl) hK rfl rfl) rfl rfl hl.1 rfl (lv_room (Nat.le_of_ble_eq_true rfl)) dX4_lengthened_20 ⟨Nat.zero_le _, Nat.zero_le _⟩) hP (hD.addr rfl) hS hA rfl rfl rfl (fun H locs (hP : va_P D vwCl [(a_t, .inr (3, [.ref a_t_paper, .ref a_t_linked, .ref a_t_caseAt, .ref a_t_reasonAt, .ref a_t_firstSlot, .ref a_t_members, .ref a_t_namedBy, .ref a_t_foundBy, .int v_t_linkedVersion, .int v_t_studiedVersion, .int v_t_present, .int v_t_fulls, .int v_t_cases, .int v_t_cited, .int v_t_alive, .int v_t_dead])), (a_t_caseAt, .inl (cI, 32, .inl r_t_caseAt)), (a_t_firstSlot, .inl (cI, 32, .inl r_t_firstSlot)), (a_t_paper, .inr (0, [.ref a_t_paper_sizes, .ref a_t_paper_cites, .int v_t_paper_notes, .int v_t_paper_version])), (a_t_paper_cites, .inl (cJ, 32, .inr (.inl r_t_paper_cites)))] H) _ hS => ?_)
  cases hf
  rw [hQ]
  exact pn_retl hx hb hr hlocks hP hS rfl dX4_lengthened_23
def lp_X4_isCoveredBefore_2 (v_t_fulls : Int32) (r_t_paper_cites : Nat → Int64) (p1 : Int32) : Nat → Int32 → Option (Unit ⊕ Unit)
  | 0, _ => none
  | n + 1, x2 =>
    if p1 ≤ x2 then
  some (.inr ())
  else
  pn_bd1 (f_X4_isFull v_t_fulls x2) fun ru2 =>
  if ru2 = 0 then
  pn_nm (x2 + (1 : Int32)) fun z4 =>
  lp_X4_isCoveredBefore_2 v_t_fulls r_t_paper_cites p1 n z4
  else
  pn_bd1 (f_X1_cite r_t_paper_cites x2) fun ru5 =>
  pn_bd1 (f_X1_cite r_t_paper_cites p1) fun ru6 =>
  pn_bd1 (f_X0_hasAllOf ru5 ru6) fun ru7 =>
  if ru7 = 0 then
  pn_nm (x2 + (1 : Int32)) fun z9 =>
  lp_X4_isCoveredBefore_2 v_t_fulls r_t_paper_cites p1 n z9
  else
  some (.inl ())
def f_X4_isCoveredBefore (N : Nat) (v_t_fulls : Int32) (r_t_paper_cites : Nat → Int64) (p1 : Int32) : Option (Int32) :=
  pn_bd1 (lp_X4_isCoveredBefore_2 v_t_fulls r_t_paper_cites p1 N (0 : Int32)) (fun X2 => pn_s2 X2 (pn_u0 (some (1 : Int32))) (fun Y2_0 => (pn_u0 (some (0 : Int32))) Y2_0))
set_option maxHeartbeats 4000000 in
set_option maxRecDepth 100000 in
theorem c_X4_isCoveredBefore (l : Launch) (D : va_G) (cI cJ cZ : ClassId) (a_t a_t_paper a_t_linked a_t_caseAt a_t_reasonAt a_t_firstSlot a_t_members a_t_namedBy a_t_foundBy a_t_paper_sizes a_t_paper_cites : Nat) (sz : Nat) (v_t_linkedVersion : Int32) (v_t_studiedVersion : Int32) (v_t_present : Int32) (v_t_cases : Int32) (v_t_cited : Int32) (v_t_alive : Int32) (v_t_dead : Int32) (v_t_paper_notes : Int32) (v_t_paper_version : Int32) (N : Nat) (v_t_fulls : Int32) (r_t_paper_cites : Nat → Int64) (p1 : Int32) (rR : Int32) (hf : f_X4_isCoveredBefore N v_t_fulls r_t_paper_cites p1 = some rR) : Met l yX4_isCoveredBefore wsX4_isCoveredBefore { frames := 2, cells := 0, slots := 0, locals := 46 } (pn_Pc D cI cJ cZ [.ref a_t, .int p1] [(a_t, .inr (3, [.ref a_t_paper, .ref a_t_linked, .ref a_t_caseAt, .ref a_t_reasonAt, .ref a_t_firstSlot, .ref a_t_members, .ref a_t_namedBy, .ref a_t_foundBy, .int v_t_linkedVersion, .int v_t_studiedVersion, .int v_t_present, .int v_t_fulls, .int v_t_cases, .int v_t_cited, .int v_t_alive, .int v_t_dead])), (a_t_paper, .inr (0, [.ref a_t_paper_sizes, .ref a_t_paper_cites, .int v_t_paper_notes, .int v_t_paper_version])), (a_t_paper_cites, .inl (cJ, 32, .inr (.inl r_t_paper_cites)))] sz) (pn_Qi D rR [(a_t, .inr (3, [.ref a_t_paper, .ref a_t_linked, .ref a_t_caseAt, .ref a_t_reasonAt, .ref a_t_firstSlot, .ref a_t_members, .ref a_t_namedBy, .ref a_t_foundBy, .int v_t_linkedVersion, .int v_t_studiedVersion, .int v_t_present, .int v_t_fulls, .int v_t_cases, .int v_t_cited, .int v_t_alive, .int v_t_dead])), (a_t_paper, .inr (0, [.ref a_t_paper_sizes, .ref a_t_paper_cites, .int v_t_paper_notes, .int v_t_paper_version])), (a_t_paper_cites, .inl (cJ, 32, .inr (.inl r_t_paper_cites)))] (va_A [(a_t, .inr (3, [.ref a_t_paper, .ref a_t_linked, .ref a_t_caseAt, .ref a_t_reasonAt, .ref a_t_firstSlot, .ref a_t_members, .ref a_t_namedBy, .ref a_t_foundBy, .int v_t_linkedVersion, .int v_t_studiedVersion, .int v_t_present, .int v_t_fulls, .int v_t_cases, .int v_t_cited, .int v_t_alive, .int v_t_dead])), (a_t_paper, .inr (0, [.ref a_t_paper_sizes, .ref a_t_paper_cites, .int v_t_paper_notes, .int v_t_paper_version])), (a_t_paper_cites, .inl (cJ, 32, .inr (.inl r_t_paper_cites)))] sz)) 0 0 (va_A [(a_t, .inr (3, [.ref a_t_paper, .ref a_t_linked, .ref a_t_caseAt, .ref a_t_reasonAt, .ref a_t_firstSlot, .ref a_t_members, .ref a_t_namedBy, .ref a_t_foundBy, .int v_t_linkedVersion, .int v_t_studiedVersion, .int v_t_present, .int v_t_fulls, .int v_t_cases, .int v_t_cited, .int v_t_alive, .int v_t_dead])), (a_t_paper, .inr (0, [.ref a_t_paper_sizes, .ref a_t_paper_cites, .int v_t_paper_notes, .int v_t_paper_version])), (a_t_paper_cites, .inl (cJ, 32, .inr (.inl r_t_paper_cites)))] sz) := by
  refine pn_entry (cc := cX4_isCoveredBefore) (maxL := 3) (ret := (some .boolean)) (Qf := pn_Qi D rR [(a_t, .inr (3, [.ref a_t_paper, .ref a_t_linked, .ref a_t_caseAt, .ref a_t_reasonAt, .ref a_t_firstSlot, .ref a_t_members, .ref a_t_namedBy, .ref a_t_foundBy, .int v_t_linkedVersion, .int v_t_studiedVersion, .int v_t_present, .int v_t_fulls, .int v_t_cases, .int v_t_cited, .int v_t_alive, .int v_t_dead])), (a_t_paper, .inr (0, [.ref a_t_paper_sizes, .ref a_t_paper_cites, .int v_t_paper_notes, .int v_t_paper_version])), (a_t_paper_cites, .inl (cJ, 32, .inr (.inl r_t_paper_cites)))]) (by decide) rfl (Nat.le_of_ble_eq_true rfl) ?_
  intro p e s m args below meth c A ls H locs Qm hQ hx hb hr hlocks hml hown hts hK hP hD hA hS hl
  have hl : lv_has ls 3 [(0, .ref a_t), (1, .int p1)] := hl
  have hinX4 : ∀ w ∈ wsX40, w ∈ wsX4_isCoveredBefore := by decide +kernel
  have fl_12 := hts (.fieldLink RX4 12 "PointingNotes$Study" "paper" "LPointingNotes$Paper;") (by decide +kernel)
  rw [f_X4_isCoveredBefore] at hf
  have lp2 : ∀ (n : Nat) (x2 : Int32) (X : Unit ⊕ Unit) (H : Heap) (locs : List Loc) (ls : Array Slot), lp_X4_isCoveredBefore_2 v_t_fulls r_t_paper_cites p1 n x2 = some X → va_P D vwCl [(a_t, .inr (3, [.ref a_t_paper, .ref a_t_linked, .ref a_t_caseAt, .ref a_t_reasonAt, .ref a_t_firstSlot, .ref a_t_members, .ref a_t_namedBy, .ref a_t_foundBy, .int v_t_linkedVersion, .int v_t_studiedVersion, .int v_t_present, .int v_t_fulls, .int v_t_cases, .int v_t_cited, .int v_t_alive, .int v_t_dead])), (a_t_paper, .inr (0, [.ref a_t_paper_sizes, .ref a_t_paper_cites, .int v_t_paper_notes, .int v_t_paper_version])), (a_t_paper_cites, .inl (cJ, 32, .inr (.inl r_t_paper_cites)))] H → va_S A s.heap H locs → lv_has ls 3 [(0, .ref a_t), (1, .int p1), (2, .int x2)] → (∀   (H : Heap) (locs : List Loc) (ls : Array Slot), X = .inl () → va_P D vwCl [(a_t, .inr (3, [.ref a_t_paper, .ref a_t_linked, .ref a_t_caseAt, .ref a_t_reasonAt, .ref a_t_firstSlot, .ref a_t_members, .ref a_t_namedBy, .ref a_t_foundBy, .int v_t_linkedVersion, .int v_t_studiedVersion, .int v_t_present, .int v_t_fulls, .int v_t_cases, .int v_t_cited, .int v_t_alive, .int v_t_dead])), (a_t_paper, .inr (0, [.ref a_t_paper_sizes, .ref a_t_paper_cites, .int v_t_paper_notes, .int v_t_paper_version])), (a_t_paper_cites, .inl (cJ, 32, .inr (.inl r_t_paper_cites)))] H → va_S A s.heap H locs → lv_has ls 3 [] → W p l e { frames := 2, cells := 0, slots := 0, locals := 46 } s m args below meth c H locs 0 0 Qm (F0 m 37 ls [])) → (∀   (H : Heap) (locs : List Loc) (ls : Array Slot), X = .inr () → va_P D vwCl [(a_t, .inr (3, [.ref a_t_paper, .ref a_t_linked, .ref a_t_caseAt, .ref a_t_reasonAt, .ref a_t_firstSlot, .ref a_t_members, .ref a_t_namedBy, .ref a_t_foundBy, .int v_t_linkedVersion, .int v_t_studiedVersion, .int v_t_present, .int v_t_fulls, .int v_t_cases, .int v_t_cited, .int v_t_alive, .int v_t_dead])), (a_t_paper, .inr (0, [.ref a_t_paper_sizes, .ref a_t_paper_cites, .int v_t_paper_notes, .int v_t_paper_version])), (a_t_paper_cites, .inl (cJ, 32, .inr (.inl r_t_paper_cites)))] H → va_S A s.heap H locs → lv_has ls 3 [] → W p l e { frames := 2, cells := 0, slots := 0, locals := 46 } s m args below meth c H locs 0 0 Qm (F0 m 45 ls [])) → W p l e { frames := 2, cells := 0, slots := 0, locals := 46 } s m args below meth c H locs 0 0 Qm (F0 m 2 ls []) := by
    intro n
    induction n with
    | zero => intro x2 X H locs ls hf; cases hf
    | succ n ih =>
      intro x2 X H locs ls hf hP hS hl kx37 kx45
      rw [lp_X4_isCoveredBefore_2] at hf
      refine lv_iload_n hx hb dX4_isCoveredBefore_2 rfl (lv_at hl 2 rfl) ?_
      refine lv_iload_n hx hb dX4_isCoveredBefore_3 rfl (lv_at hl 1 rfl) ?_
      refine lv_icmp_ge (tgt := 45) hx hb dX4_isCoveredBefore_4 (by decide) (fun c1 => ?_) (fun c1 => ?_)
      · have hf := pn_ifp c1 hf
        exact kx45  H locs ls (Option.some.inj hf).symm hP hS (lv_sub hl [] rfl)
      · have hf := pn_ifn c1 hf
        refine lv_aload_n hx hb dX4_isCoveredBefore_7 rfl (lv_at hl 0 rfl) ?_
        refine lv_iload_n hx hb dX4_isCoveredBefore_8 rfl (lv_at hl 2 rfl) ?_
        obtain ⟨ru2, hu2, hf⟩ := pn_bd1_at hf
        refine pn_calli [0] (va_runV (As := [.int x2]) (rest := []) ⟨hx, hb, hml, hown, hts⟩ (c_X4_isFull l D cI cJ cZ a_t a_t_paper a_t_linked a_t_caseAt a_t_reasonAt a_t_firstSlot a_t_members a_t_namedBy a_t_foundBy H.size v_t_linkedVersion v_t_studiedVersion v_t_present v_t_cases v_t_cited v_t_alive v_t_dead v_t_fulls x2 ru2 hu2) (cwV 1 hts gX4_isCoveredBefore_X4_isFull rfl rfl rfl hdX4_isFull ⟨Nat.le_of_ble_eq_true rfl, Nat.le_of_ble_eq_true rfl⟩) (pn_preV [0] hP (hD.addr rfl) hK rfl rfl (q0 := 0) (ci := 3) rfl rfl) rfl rfl hl.1 rfl (lv_room (Nat.le_of_ble_eq_true rfl)) dX4_isCoveredBefore_9 ⟨Nat.zero_le _, Nat.zero_le _⟩) hP (hD.addr rfl) hS hA rfl rfl rfl (fun H locs (hP : va_P D vwCl [(a_t, .inr (3, [.ref a_t_paper, .ref a_t_linked, .ref a_t_caseAt, .ref a_t_reasonAt, .ref a_t_firstSlot, .ref a_t_members, .ref a_t_namedBy, .ref a_t_foundBy, .int v_t_linkedVersion, .int v_t_studiedVersion, .int v_t_present, .int v_t_fulls, .int v_t_cases, .int v_t_cited, .int v_t_alive, .int v_t_dead])), (a_t_paper, .inr (0, [.ref a_t_paper_sizes, .ref a_t_paper_cites, .int v_t_paper_notes, .int v_t_paper_version])), (a_t_paper_cites, .inl (cJ, 32, .inr (.inl r_t_paper_cites)))] H) _ hS => ?_)
        refine lv_if_eq (tgt := 39) hx hb dX4_isCoveredBefore_12 (by decide) (fun c3 => ?_) (fun c3 => ?_)
        · have hf := pn_ifp c3 hf
          obtain ⟨z4, ez4⟩ : ∃ y : Int32, y = x2 + (1) := ⟨_, rfl⟩
          have hf := pn_nm_at ez4 hf
          refine lv_iinc (v := z4) (lv' := [(2, .int z4), (0, .ref a_t), (1, .int p1)]) hx hb dX4_isCoveredBefore_39 hl (k := 2) rfl (by rw [ez4]; rfl) (by decide) rfl (fun ls hl => ?_)
          refine lv_goto (tgt := 2) hx hb dX4_isCoveredBefore_42 (by decide) ?_
          exact ih z4 X H locs ls hf hP hS (lv_sub hl [1, 2, 0] rfl) kx37 kx45
        · have hf := pn_ifn c3 hf
          refine lv_aload_n hx hb dX4_isCoveredBefore_15 rfl (lv_at hl 0 rfl) ?_
          refine va_get (D := D) (ci := 3) (v := .ref a_t_paper) (C := RX4) (T := TX4) (N := 16) hx hb hts hinX4 hown hK.1 hP 0 rfl rfl 0 (by decide) fl_12 (fun _ h9 => h9) rfl dX4_isCoveredBefore_16 ?_
          refine lv_iload_n hx hb dX4_isCoveredBefore_19 rfl (lv_at hl 2 rfl) ?_
          obtain ⟨ru5, hu5, hf⟩ := pn_bd1_at hf
          refine pn_calll [1, 2] (va_runV (As := [.int x2]) (rest := []) ⟨hx, hb, hml, hown, hts⟩ (c_X1_cite l D cI cJ cZ a_t_paper a_t_paper_sizes a_t_paper_cites H.size v_t_paper_notes v_t_paper_version r_t_paper_cites x2 ru5 hu5) (cwV 1 hts gX4_isCoveredBefore_X1_cite rfl rfl rfl hdX1_cite ⟨Nat.le_of_ble_eq_true rfl, Nat.le_of_ble_eq_true rfl⟩) (pn_preV [1, 2] hP (hD.addr rfl) hK rfl rfl (q0 := 1) (ci := 0) rfl rfl) rfl rfl hl.1 rfl (lv_room (Nat.le_of_ble_eq_true rfl)) dX4_isCoveredBefore_20 ⟨Nat.zero_le _, Nat.zero_le _⟩) hP (hD.addr rfl) hS hA rfl rfl rfl (fun H locs (hP : va_P D vwCl [(a_t, .inr (3, [.ref a_t_paper, .ref a_t_linked, .ref a_t_caseAt, .ref a_t_reasonAt, .ref a_t_firstSlot, .ref a_t_members, .ref a_t_namedBy, .ref a_t_foundBy, .int v_t_linkedVersion, .int v_t_studiedVersion, .int v_t_present, .int v_t_fulls, .int v_t_cases, .int v_t_cited, .int v_t_alive, .int v_t_dead])), (a_t_paper, .inr (0, [.ref a_t_paper_sizes, .ref a_t_paper_cites, .int v_t_paper_notes, .int v_t_paper_version])), (a_t_paper_cites, .inl (cJ, 32, .inr (.inl r_t_paper_cites)))] H) _ hS => ?_)
          refine lv_aload_n hx hb dX4_isCoveredBefore_23 rfl (lv_at hl 0 rfl) ?_
          refine va_get (D := D) (ci := 3) (v := .ref a_t_paper) (C := RX4) (T := TX4) (N := 16) hx hb hts hinX4 hown hK.1 hP 0 rfl rfl 0 (by decide) fl_12 (fun _ h9 => h9) rfl dX4_isCoveredBefore_24 ?_
          refine lv_iload_n hx hb dX4_isCoveredBefore_27 rfl (lv_at hl 1 rfl) ?_
          obtain ⟨ru6, hu6, hf⟩ := pn_bd1_at hf
          refine pn_calll [1, 2] (va_runV (As := [.int p1]) (rest := [.long ru5]) ⟨hx, hb, hml, hown, hts⟩ (c_X1_cite l D cI cJ cZ a_t_paper a_t_paper_sizes a_t_paper_cites H.size v_t_paper_notes v_t_paper_version r_t_paper_cites p1 ru6 hu6) (cwV 1 hts gX4_isCoveredBefore_X1_cite rfl rfl rfl hdX1_cite ⟨Nat.le_of_ble_eq_true rfl, Nat.le_of_ble_eq_true rfl⟩) (pn_preV [1, 2] hP (hD.addr rfl) hK rfl rfl (q0 := 1) (ci := 0) rfl rfl) rfl rfl hl.1 rfl (lv_room (Nat.le_of_ble_eq_true rfl)) dX4_isCoveredBefore_28 ⟨Nat.zero_le _, Nat.zero_le _⟩) hP (hD.addr rfl) hS hA rfl rfl rfl (fun H locs (hP : va_P D vwCl [(a_t, .inr (3, [.ref a_t_paper, .ref a_t_linked, .ref a_t_caseAt, .ref a_t_reasonAt, .ref a_t_firstSlot, .ref a_t_members, .ref a_t_namedBy, .ref a_t_foundBy, .int v_t_linkedVersion, .int v_t_studiedVersion, .int v_t_present, .int v_t_fulls, .int v_t_cases, .int v_t_cited, .int v_t_alive, .int v_t_dead])), (a_t_paper, .inr (0, [.ref a_t_paper_sizes, .ref a_t_paper_cites, .int v_t_paper_notes, .int v_t_paper_version])), (a_t_paper_cites, .inl (cJ, 32, .inr (.inl r_t_paper_cites)))] H) _ hS => ?_)
          obtain ⟨ru7, hu7, hf⟩ := pn_bd1_at hf
          refine pn_calli [] (va_runS (As := [.long ru5, .long ru6]) (rest := []) ⟨hx, hb, hml, hown, hts⟩ (c_X0_hasAllOf l D cI cJ cZ H.size ru5 ru6 ru7 hu7) (va_cwS 2 hts gX4_isCoveredBefore_X0_hasAllOf rfl rfl rfl hdX0_hasAllOf ⟨Nat.le_of_ble_eq_true rfl, Nat.le_of_ble_eq_true rfl⟩) (pn_preS [] hP (hD.addr rfl) hK rfl rfl) rfl rfl hl.1 rfl (lv_room (Nat.le_of_ble_eq_true rfl)) dX4_isCoveredBefore_31 ⟨Nat.zero_le _, Nat.zero_le _⟩) hP (hD.addr rfl) hS hA rfl rfl rfl (fun H locs (hP : va_P D vwCl [(a_t, .inr (3, [.ref a_t_paper, .ref a_t_linked, .ref a_t_caseAt, .ref a_t_reasonAt, .ref a_t_firstSlot, .ref a_t_members, .ref a_t_namedBy, .ref a_t_foundBy, .int v_t_linkedVersion, .int v_t_studiedVersion, .int v_t_present, .int v_t_fulls, .int v_t_cases, .int v_t_cited, .int v_t_alive, .int v_t_dead])), (a_t_paper, .inr (0, [.ref a_t_paper_sizes, .ref a_t_paper_cites, .int v_t_paper_notes, .int v_t_paper_version])), (a_t_paper_cites, .inl (cJ, 32, .inr (.inl r_t_paper_cites)))] H) _ hS => ?_)
          refine lv_if_eq (tgt := 39) hx hb dX4_isCoveredBefore_34 (by decide) (fun c8 => ?_) (fun c8 => ?_)
          · have hf := pn_ifp c8 hf
            obtain ⟨z9, ez9⟩ : ∃ y : Int32, y = x2 + (1) := ⟨_, rfl⟩
            have hf := pn_nm_at ez9 hf
            refine lv_iinc (v := z9) (lv' := [(2, .int z9), (0, .ref a_t), (1, .int p1)]) hx hb dX4_isCoveredBefore_39 hl (k := 2) rfl (by rw [ez9]; rfl) (by decide) rfl (fun ls hl => ?_)
            refine lv_goto (tgt := 2) hx hb dX4_isCoveredBefore_42 (by decide) ?_
            exact ih z9 X H locs ls hf hP hS (lv_sub hl [1, 2, 0] rfl) kx37 kx45
          · have hf := pn_ifn c8 hf
            exact kx37  H locs ls (Option.some.inj hf).symm hP hS (lv_sub hl [] rfl)
  refine lv_iconst (v := (0)) hx hb dX4_isCoveredBefore_0 (by decide) ?_
  refine lv_istore_n (lv' := [(2, .int (0 : Int32)), (0, .ref a_t), (1, .int p1)]) hx hb dX4_isCoveredBefore_1 rfl hl (by decide) rfl (fun ls hl => ?_)
  obtain ⟨X2, hX2, hf⟩ := pn_bd1_at hf
  refine lp2 N (0 : Int32) X2 H locs ls hX2 hP hS (lv_sub hl [1, 2, 0] rfl) ?_ ?_
  · intro  H locs ls eX hP hS hl
    rw [eX] at hf
    have hf := pn_s2_l hf
    have hf := pn_u0_at hf
    refine lv_iconst (v := (1)) hx hb dX4_isCoveredBefore_37 (by decide) ?_
    cases hf
    rw [hQ]
    exact pn_retz hx hb hr hlocks hP hS rfl rfl dX4_isCoveredBefore_38
  · intro  H locs ls eX hP hS hl
    rw [eX] at hf
    have hf := pn_s2_r hf
    have hf := pn_u0_at hf
    refine lv_iconst (v := (0)) hx hb dX4_isCoveredBefore_45 (by decide) ?_
    cases hf
    rw [hQ]
    exact pn_retz hx hb hr hlocks hP hS rfl rfl dX4_isCoveredBefore_46
def lp_X4_citedBefore_4 (v_t_cases : Int32) (r_t_firstSlot : Nat → Int32) (p1 : Int32) : Nat → Int32 → Int32 → Option (Int32)
  | 0, _, _ => none
  | n + 1, x2, x3 =>
    if v_t_cases ≤ x3 then
  some x2
  else
  if (32 : Int32) ≤ x3 then
  some x2
  else
  pn_rd 32 r_t_firstSlot x3 fun w3 =>
  if p1 ≤ w3 then
  pn_nm (x3 + (1 : Int32)) fun z6 =>
  lp_X4_citedBefore_4 v_t_cases r_t_firstSlot p1 n x2 z6
  else
  pn_nm (x2 ||| ((1 : Int32) <<< (x3 &&& 31))) fun z7 =>
  pn_nm (x3 + (1 : Int32)) fun z8 =>
  lp_X4_citedBefore_4 v_t_cases r_t_firstSlot p1 n z7 z8
def f_X4_citedBefore (N : Nat) (v_t_cases : Int32) (r_t_firstSlot : Nat → Int32) (p1 : Int32) : Option (Int32) :=
  pn_bd1 (lp_X4_citedBefore_4 v_t_cases r_t_firstSlot p1 N (0 : Int32) (0 : Int32)) (fun X4 => (pn_u1 fun x2_w9 => some x2_w9) X4)
set_option maxHeartbeats 4000000 in
set_option maxRecDepth 100000 in
theorem c_X4_citedBefore (l : Launch) (D : va_G) (cI cJ cZ : ClassId) (a_t a_t_paper a_t_linked a_t_caseAt a_t_reasonAt a_t_firstSlot a_t_members a_t_namedBy a_t_foundBy : Nat) (sz : Nat) (v_t_linkedVersion : Int32) (v_t_studiedVersion : Int32) (v_t_present : Int32) (v_t_fulls : Int32) (v_t_cited : Int32) (v_t_alive : Int32) (v_t_dead : Int32) (N : Nat) (v_t_cases : Int32) (r_t_firstSlot : Nat → Int32) (p1 : Int32) (rR : Int32) (hf : f_X4_citedBefore N v_t_cases r_t_firstSlot p1 = some rR) : Met l yX4_citedBefore wsX4_citedBefore { frames := 0, cells := 0, slots := 0, locals := 0 } (pn_Pc D cI cJ cZ [.ref a_t, .int p1] [(a_t, .inr (3, [.ref a_t_paper, .ref a_t_linked, .ref a_t_caseAt, .ref a_t_reasonAt, .ref a_t_firstSlot, .ref a_t_members, .ref a_t_namedBy, .ref a_t_foundBy, .int v_t_linkedVersion, .int v_t_studiedVersion, .int v_t_present, .int v_t_fulls, .int v_t_cases, .int v_t_cited, .int v_t_alive, .int v_t_dead])), (a_t_firstSlot, .inl (cI, 32, .inl r_t_firstSlot))] sz) (pn_Qi D rR [(a_t, .inr (3, [.ref a_t_paper, .ref a_t_linked, .ref a_t_caseAt, .ref a_t_reasonAt, .ref a_t_firstSlot, .ref a_t_members, .ref a_t_namedBy, .ref a_t_foundBy, .int v_t_linkedVersion, .int v_t_studiedVersion, .int v_t_present, .int v_t_fulls, .int v_t_cases, .int v_t_cited, .int v_t_alive, .int v_t_dead])), (a_t_firstSlot, .inl (cI, 32, .inl r_t_firstSlot))] (va_A [(a_t, .inr (3, [.ref a_t_paper, .ref a_t_linked, .ref a_t_caseAt, .ref a_t_reasonAt, .ref a_t_firstSlot, .ref a_t_members, .ref a_t_namedBy, .ref a_t_foundBy, .int v_t_linkedVersion, .int v_t_studiedVersion, .int v_t_present, .int v_t_fulls, .int v_t_cases, .int v_t_cited, .int v_t_alive, .int v_t_dead])), (a_t_firstSlot, .inl (cI, 32, .inl r_t_firstSlot))] sz)) 0 0 (va_A [(a_t, .inr (3, [.ref a_t_paper, .ref a_t_linked, .ref a_t_caseAt, .ref a_t_reasonAt, .ref a_t_firstSlot, .ref a_t_members, .ref a_t_namedBy, .ref a_t_foundBy, .int v_t_linkedVersion, .int v_t_studiedVersion, .int v_t_present, .int v_t_fulls, .int v_t_cases, .int v_t_cited, .int v_t_alive, .int v_t_dead])), (a_t_firstSlot, .inl (cI, 32, .inl r_t_firstSlot))] sz) := by
  refine pn_entry (cc := cX4_citedBefore) (maxL := 4) (ret := (some .int)) (Qf := pn_Qi D rR [(a_t, .inr (3, [.ref a_t_paper, .ref a_t_linked, .ref a_t_caseAt, .ref a_t_reasonAt, .ref a_t_firstSlot, .ref a_t_members, .ref a_t_namedBy, .ref a_t_foundBy, .int v_t_linkedVersion, .int v_t_studiedVersion, .int v_t_present, .int v_t_fulls, .int v_t_cases, .int v_t_cited, .int v_t_alive, .int v_t_dead])), (a_t_firstSlot, .inl (cI, 32, .inl r_t_firstSlot))]) (by decide) rfl (Nat.le_of_ble_eq_true rfl) ?_
  intro p e s m args below meth c A ls H locs Qm hQ hx hb hr hlocks hml hown hts hK hP hD hA hS hl
  have hl : lv_has ls 4 [(0, .ref a_t), (1, .int p1)] := hl
  have hinX4 : ∀ w ∈ wsX40, w ∈ wsX4_citedBefore := by decide +kernel
  have fl_28 := hts (.fieldLink RX4 28 "PointingNotes$Study" "firstSlot" "[I") (by decide +kernel)
  have fl_47 := hts (.fieldLink RX4 47 "PointingNotes$Study" "cases" "I") (by decide +kernel)
  rw [f_X4_citedBefore] at hf
  have lp4 : ∀ (n : Nat) (x2 : Int32) (x3 : Int32) (X : Int32) (H : Heap) (locs : List Loc) (ls : Array Slot), lp_X4_citedBefore_4 v_t_cases r_t_firstSlot p1 n x2 x3 = some X → va_P D vwCl [(a_t, .inr (3, [.ref a_t_paper, .ref a_t_linked, .ref a_t_caseAt, .ref a_t_reasonAt, .ref a_t_firstSlot, .ref a_t_members, .ref a_t_namedBy, .ref a_t_foundBy, .int v_t_linkedVersion, .int v_t_studiedVersion, .int v_t_present, .int v_t_fulls, .int v_t_cases, .int v_t_cited, .int v_t_alive, .int v_t_dead])), (a_t_firstSlot, .inl (cI, 32, .inl r_t_firstSlot))] H → va_S A s.heap H locs → lv_has ls 4 [(0, .ref a_t), (1, .int p1), (2, .int x2), (3, .int x3)] → (∀ (y2 : Int32)  (H : Heap) (locs : List Loc) (ls : Array Slot), X = y2 → va_P D vwCl [(a_t, .inr (3, [.ref a_t_paper, .ref a_t_linked, .ref a_t_caseAt, .ref a_t_reasonAt, .ref a_t_firstSlot, .ref a_t_members, .ref a_t_namedBy, .ref a_t_foundBy, .int v_t_linkedVersion, .int v_t_studiedVersion, .int v_t_present, .int v_t_fulls, .int v_t_cases, .int v_t_cited, .int v_t_alive, .int v_t_dead])), (a_t_firstSlot, .inl (cI, 32, .inl r_t_firstSlot))] H → va_S A s.heap H locs → lv_has ls 4 [(2, .int y2)] → W p l e { frames := 0, cells := 0, slots := 0, locals := 0 } s m args below meth c H locs 0 0 Qm (F0 m 40 ls [])) → W p l e { frames := 0, cells := 0, slots := 0, locals := 0 } s m args below meth c H locs 0 0 Qm (F0 m 4 ls []) := by
    intro n
    induction n with
    | zero => intro x2 x3 X H locs ls hf; cases hf
    | succ n ih =>
      intro x2 x3 X H locs ls hf hP hS hl kx40
      rw [lp_X4_citedBefore_4] at hf
      refine lv_iload_n hx hb dX4_citedBefore_4 rfl (lv_at hl 3 rfl) ?_
      refine lv_aload_n hx hb dX4_citedBefore_5 rfl (lv_at hl 0 rfl) ?_
      refine va_get (D := D) (ci := 3) (v := .int v_t_cases) (C := RX4) (T := TX4) (N := 16) hx hb hts hinX4 hown hK.1 hP 0 rfl rfl 12 (by decide) fl_47 (fun _ h9 => h9) rfl dX4_citedBefore_6 ?_
      refine lv_icmp_ge (tgt := 40) hx hb dX4_citedBefore_9 (by decide) (fun c1 => ?_) (fun c1 => ?_)
      · have hf := pn_ifp c1 hf
        exact kx40 x2 H locs ls (Option.some.inj hf).symm hP hS (lv_sub hl [2] rfl)
      · have hf := pn_ifn c1 hf
        refine lv_iload_n hx hb dX4_citedBefore_12 rfl (lv_at hl 3 rfl) ?_
        refine lv_bipush (v := (32)) hx hb dX4_citedBefore_13 (by decide) ?_
        refine lv_icmp_ge (tgt := 40) hx hb dX4_citedBefore_15 (by decide) (fun c2 => ?_) (fun c2 => ?_)
        · have hf := pn_ifp c2 hf
          exact kx40 x2 H locs ls (Option.some.inj hf).symm hP hS (lv_sub hl [2] rfl)
        · have hf := pn_ifn c2 hf
          refine lv_aload_n hx hb dX4_citedBefore_18 rfl (lv_at hl 0 rfl) ?_
          refine va_get (D := D) (ci := 3) (v := .ref a_t_firstSlot) (C := RX4) (T := TX4) (N := 16) hx hb hts hinX4 hown hK.1 hP 0 rfl rfl 4 (by decide) fl_28 (fun _ h9 => h9) rfl dX4_citedBefore_19 ?_
          refine lv_iload_n hx hb dX4_citedBefore_22 rfl (lv_at hl 3 rfl) ?_
          obtain ⟨hi4, w3, ew3, hf⟩ := pn_rd_at hf
          refine pn_ldI hx hb hK.1 hP 1 0 rfl rfl hi4 ew3 dX4_citedBefore_23 ?_
          refine lv_iload_n hx hb dX4_citedBefore_24 rfl (lv_at hl 1 rfl) ?_
          refine lv_icmp_ge (tgt := 34) hx hb dX4_citedBefore_25 (by decide) (fun c5 => ?_) (fun c5 => ?_)
          · have hf := pn_ifp c5 hf
            obtain ⟨z6, ez6⟩ : ∃ y : Int32, y = x3 + (1) := ⟨_, rfl⟩
            have hf := pn_nm_at ez6 hf
            refine lv_iinc (v := z6) (lv' := [(3, .int z6), (0, .ref a_t), (1, .int p1), (2, .int x2)]) hx hb dX4_citedBefore_34 hl (k := 3) rfl (by rw [ez6]; rfl) (by decide) rfl (fun ls hl => ?_)
            refine lv_goto (tgt := 4) hx hb dX4_citedBefore_37 (by decide) ?_
            exact ih x2 z6 X H locs ls hf hP hS (lv_sub hl [1, 2, 3, 0] rfl) kx40
          · have hf := pn_ifn c5 hf
            refine lv_iload_n hx hb dX4_citedBefore_28 rfl (lv_at hl 2 rfl) ?_
            refine lv_iconst (v := (1)) hx hb dX4_citedBefore_29 (by decide) ?_
            refine lv_iload_n hx hb dX4_citedBefore_30 rfl (lv_at hl 3 rfl) ?_
            refine lv_ishl hx hb dX4_citedBefore_31 ?_
            refine lv_ior hx hb dX4_citedBefore_32 ?_
            refine lv_topi (fun z7 ez7 => ?_)
            have hf := pn_nm_at ez7 hf
            refine lv_istore_n (lv' := [(2, .int z7), (0, .ref a_t), (1, .int p1), (3, .int x3)]) hx hb dX4_citedBefore_33 rfl hl (by decide) rfl (fun ls hl => ?_)
            obtain ⟨z8, ez8⟩ : ∃ y : Int32, y = x3 + (1) := ⟨_, rfl⟩
            have hf := pn_nm_at ez8 hf
            refine lv_iinc (v := z8) (lv' := [(3, .int z8), (2, .int z7), (0, .ref a_t), (1, .int p1)]) hx hb dX4_citedBefore_34 hl (k := 3) rfl (by rw [ez8]; rfl) (by decide) rfl (fun ls hl => ?_)
            refine lv_goto (tgt := 4) hx hb dX4_citedBefore_37 (by decide) ?_
            exact ih z7 z8 X H locs ls hf hP hS (lv_sub hl [2, 3, 1, 0] rfl) kx40
  refine lv_iconst (v := (0)) hx hb dX4_citedBefore_0 (by decide) ?_
  refine lv_istore_n (lv' := [(2, .int (0 : Int32)), (0, .ref a_t), (1, .int p1)]) hx hb dX4_citedBefore_1 rfl hl (by decide) rfl (fun ls hl => ?_)
  refine lv_iconst (v := (0)) hx hb dX4_citedBefore_2 (by decide) ?_
  refine lv_istore_n (lv' := [(3, .int (0 : Int32)), (2, .int (0 : Int32)), (0, .ref a_t), (1, .int p1)]) hx hb dX4_citedBefore_3 rfl hl (by decide) rfl (fun ls hl => ?_)
  obtain ⟨X4, hX4, hf⟩ := pn_bd1_at hf
  refine lp4 N (0 : Int32) (0 : Int32) X4 H locs ls hX4 hP hS (lv_sub hl [2, 3, 1, 0] rfl) ?_
  · intro x2_w9 H locs ls eX hP hS hl
    rw [eX] at hf
    have hf := pn_u1_at hf
    refine lv_iload_n hx hb dX4_citedBefore_40 rfl (lv_at hl 0 rfl) ?_
    cases hf
    rw [hQ]
    exact pn_reti hx hb hr hlocks hP hS rfl dX4_citedBefore_41
