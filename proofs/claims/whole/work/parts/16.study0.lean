theorem hdX4_cases : yX4_cases.cls = RX4 ∧ yX4_cases.cls ≠ "java/lang/invoke/MethodHandle" ∧ yX4_cases.cls ≠ "java/lang/invoke/VarHandle" ∧ (parseMethodDescriptor yX4_cases.desc).map (fun d => d.parameters.length) = some 0 := by decide +kernel
theorem hdX4_alive : yX4_alive.cls = RX4 ∧ yX4_alive.cls ≠ "java/lang/invoke/MethodHandle" ∧ yX4_alive.cls ≠ "java/lang/invoke/VarHandle" ∧ (parseMethodDescriptor yX4_alive.desc).map (fun d => d.parameters.length) = some 0 := by decide +kernel
theorem hdX4_dead : yX4_dead.cls = RX4 ∧ yX4_dead.cls ≠ "java/lang/invoke/MethodHandle" ∧ yX4_dead.cls ≠ "java/lang/invoke/VarHandle" ∧ (parseMethodDescriptor yX4_dead.desc).map (fun d => d.parameters.length) = some 0 := by decide +kernel
theorem hdX4_caseOf : yX4_caseOf.cls = RX4 ∧ yX4_caseOf.cls ≠ "java/lang/invoke/MethodHandle" ∧ yX4_caseOf.cls ≠ "java/lang/invoke/VarHandle" ∧ (parseMethodDescriptor yX4_caseOf.desc).map (fun d => d.parameters.length) = some 1 := by decide +kernel
theorem hdX4_reasonOf : yX4_reasonOf.cls = RX4 ∧ yX4_reasonOf.cls ≠ "java/lang/invoke/MethodHandle" ∧ yX4_reasonOf.cls ≠ "java/lang/invoke/VarHandle" ∧ (parseMethodDescriptor yX4_reasonOf.desc).map (fun d => d.parameters.length) = some 1 := by decide +kernel
theorem hdX4_isFull : yX4_isFull.cls = RX4 ∧ yX4_isFull.cls ≠ "java/lang/invoke/MethodHandle" ∧ yX4_isFull.cls ≠ "java/lang/invoke/VarHandle" ∧ (parseMethodDescriptor yX4_isFull.desc).map (fun d => d.parameters.length) = some 1 := by decide +kernel
theorem hdX4_linkFullReferences : yX4_linkFullReferences.cls = RX4 ∧ yX4_linkFullReferences.cls ≠ "java/lang/invoke/MethodHandle" ∧ yX4_linkFullReferences.cls ≠ "java/lang/invoke/VarHandle" ∧ (parseMethodDescriptor yX4_linkFullReferences.desc).map (fun d => d.parameters.length) = some 0 := by decide +kernel
theorem hdX4_isPresent : yX4_isPresent.cls = RX4 ∧ yX4_isPresent.cls ≠ "java/lang/invoke/MethodHandle" ∧ yX4_isPresent.cls ≠ "java/lang/invoke/VarHandle" ∧ (parseMethodDescriptor yX4_isPresent.desc).map (fun d => d.parameters.length) = some 1 := by decide +kernel
theorem hdX4_presentFullReferences : yX4_presentFullReferences.cls = RX4 ∧ yX4_presentFullReferences.cls ≠ "java/lang/invoke/MethodHandle" ∧ yX4_presentFullReferences.cls ≠ "java/lang/invoke/VarHandle" ∧ (parseMethodDescriptor yX4_presentFullReferences.desc).map (fun d => d.parameters.length) = some 0 := by decide +kernel
theorem hdX4_joinedTo : yX4_joinedTo.cls = RX4 ∧ yX4_joinedTo.cls ≠ "java/lang/invoke/MethodHandle" ∧ yX4_joinedTo.cls ≠ "java/lang/invoke/VarHandle" ∧ (parseMethodDescriptor yX4_joinedTo.desc).map (fun d => d.parameters.length) = some 2 := by decide +kernel
theorem hdX4_addCase : yX4_addCase.cls = RX4 ∧ yX4_addCase.cls ≠ "java/lang/invoke/MethodHandle" ∧ yX4_addCase.cls ≠ "java/lang/invoke/VarHandle" ∧ (parseMethodDescriptor yX4_addCase.desc).map (fun d => d.parameters.length) = some 2 := by decide +kernel
theorem hdX4_joinCases : yX4_joinCases.cls = RX4 ∧ yX4_joinCases.cls ≠ "java/lang/invoke/MethodHandle" ∧ yX4_joinCases.cls ≠ "java/lang/invoke/VarHandle" ∧ (parseMethodDescriptor yX4_joinCases.desc).map (fun d => d.parameters.length) = some 0 := by decide +kernel
theorem hdX4_namedWith : yX4_namedWith.cls = RX4 ∧ yX4_namedWith.cls ≠ "java/lang/invoke/MethodHandle" ∧ yX4_namedWith.cls ≠ "java/lang/invoke/VarHandle" ∧ (parseMethodDescriptor yX4_namedWith.desc).map (fun d => d.parameters.length) = some 1 := by decide +kernel
theorem hdX4_foundByNote : yX4_foundByNote.cls = RX4 ∧ yX4_foundByNote.cls ≠ "java/lang/invoke/MethodHandle" ∧ yX4_foundByNote.cls ≠ "java/lang/invoke/VarHandle" ∧ (parseMethodDescriptor yX4_foundByNote.desc).map (fun d => d.parameters.length) = some 1 := by decide +kernel
theorem hdX4_settle : yX4_settle.cls = RX4 ∧ yX4_settle.cls ≠ "java/lang/invoke/MethodHandle" ∧ yX4_settle.cls ≠ "java/lang/invoke/VarHandle" ∧ (parseMethodDescriptor yX4_settle.desc).map (fun d => d.parameters.length) = some 3 := by decide +kernel
theorem hdX4_settleOnly : yX4_settleOnly.cls = RX4 ∧ yX4_settleOnly.cls ≠ "java/lang/invoke/MethodHandle" ∧ yX4_settleOnly.cls ≠ "java/lang/invoke/VarHandle" ∧ (parseMethodDescriptor yX4_settleOnly.desc).map (fun d => d.parameters.length) = some 2 := by decide +kernel
theorem hdX4_pointedAt : yX4_pointedAt.cls = RX4 ∧ yX4_pointedAt.cls ≠ "java/lang/invoke/MethodHandle" ∧ yX4_pointedAt.cls ≠ "java/lang/invoke/VarHandle" ∧ (parseMethodDescriptor yX4_pointedAt.desc).map (fun d => d.parameters.length) = some 3 := by decide +kernel
def f_X4_cases (v_t_cases : Int32) : Option (Int32) :=
  some v_t_cases
set_option maxHeartbeats 4000000 in
set_option maxRecDepth 100000 in
theorem c_X4_cases (l : Launch) (D : va_G) (cI cJ cZ : ClassId) (a_t a_t_paper a_t_linked a_t_caseAt a_t_reasonAt a_t_firstSlot a_t_members a_t_namedBy a_t_foundBy : Nat) (sz : Nat) (v_t_linkedVersion : Int32) (v_t_studiedVersion : Int32) (v_t_present : Int32) (v_t_fulls : Int32) (v_t_cited : Int32) (v_t_alive : Int32) (v_t_dead : Int32) (v_t_cases : Int32) (rR : Int32) (hf : f_X4_cases v_t_cases = some rR) : Met l yX4_cases wsX4_cases { frames := 0, cells := 0, slots := 0, locals := 0 } (pn_Pc D cI cJ cZ [.ref a_t] [(a_t, .inr (3, [.ref a_t_paper, .ref a_t_linked, .ref a_t_caseAt, .ref a_t_reasonAt, .ref a_t_firstSlot, .ref a_t_members, .ref a_t_namedBy, .ref a_t_foundBy, .int v_t_linkedVersion, .int v_t_studiedVersion, .int v_t_present, .int v_t_fulls, .int v_t_cases, .int v_t_cited, .int v_t_alive, .int v_t_dead]))] sz) (pn_Qi D rR [(a_t, .inr (3, [.ref a_t_paper, .ref a_t_linked, .ref a_t_caseAt, .ref a_t_reasonAt, .ref a_t_firstSlot, .ref a_t_members, .ref a_t_namedBy, .ref a_t_foundBy, .int v_t_linkedVersion, .int v_t_studiedVersion, .int v_t_present, .int v_t_fulls, .int v_t_cases, .int v_t_cited, .int v_t_alive, .int v_t_dead]))] (va_A [(a_t, .inr (3, [.ref a_t_paper, .ref a_t_linked, .ref a_t_caseAt, .ref a_t_reasonAt, .ref a_t_firstSlot, .ref a_t_members, .ref a_t_namedBy, .ref a_t_foundBy, .int v_t_linkedVersion, .int v_t_studiedVersion, .int v_t_present, .int v_t_fulls, .int v_t_cases, .int v_t_cited, .int v_t_alive, .int v_t_dead]))] sz)) 0 0 (va_A [(a_t, .inr (3, [.ref a_t_paper, .ref a_t_linked, .ref a_t_caseAt, .ref a_t_reasonAt, .ref a_t_firstSlot, .ref a_t_members, .ref a_t_namedBy, .ref a_t_foundBy, .int v_t_linkedVersion, .int v_t_studiedVersion, .int v_t_present, .int v_t_fulls, .int v_t_cases, .int v_t_cited, .int v_t_alive, .int v_t_dead]))] sz) := by
  refine pn_entry (cc := cX4_cases) (maxL := 1) (ret := (some .int)) (Qf := pn_Qi D rR [(a_t, .inr (3, [.ref a_t_paper, .ref a_t_linked, .ref a_t_caseAt, .ref a_t_reasonAt, .ref a_t_firstSlot, .ref a_t_members, .ref a_t_namedBy, .ref a_t_foundBy, .int v_t_linkedVersion, .int v_t_studiedVersion, .int v_t_present, .int v_t_fulls, .int v_t_cases, .int v_t_cited, .int v_t_alive, .int v_t_dead]))]) (by decide) rfl (Nat.le_of_ble_eq_true rfl) ?_
  intro p e s m args below meth c A ls H locs Qm hQ hx hb hr hlocks hml hown hts hK hP hD hA hS hl
  have hl : lv_has ls 1 [(0, .ref a_t)] := hl
  have hinX4 : ∀ w ∈ wsX40, w ∈ wsX4_cases := by decide +kernel
  have fl_47 := hts (.fieldLink RX4 47 "PointingNotes$Study" "cases" "I") (by decide +kernel)
  rw [f_X4_cases] at hf
  refine lv_aload_n hx hb dX4_cases_0 rfl (lv_at hl 0 rfl) ?_
  refine va_get (D := D) (ci := 3) (v := .int v_t_cases) (C := RX4) (T := TX4) (N := 16) hx hb hts hinX4 hown hK.1 hP 0 rfl rfl 12 (by decide) fl_47 (fun _ h9 => h9) rfl dX4_cases_1 ?_
  cases hf
  rw [hQ]
  exact pn_reti hx hb hr hlocks hP hS rfl dX4_cases_4
def f_X4_alive (v_t_alive : Int32) : Option (Int32) :=
  some v_t_alive
set_option maxHeartbeats 4000000 in
set_option maxRecDepth 100000 in
theorem c_X4_alive (l : Launch) (D : va_G) (cI cJ cZ : ClassId) (a_t a_t_paper a_t_linked a_t_caseAt a_t_reasonAt a_t_firstSlot a_t_members a_t_namedBy a_t_foundBy : Nat) (sz : Nat) (v_t_linkedVersion : Int32) (v_t_studiedVersion : Int32) (v_t_present : Int32) (v_t_fulls : Int32) (v_t_cases : Int32) (v_t_cited : Int32) (v_t_dead : Int32) (v_t_alive : Int32) (rR : Int32) (hf : f_X4_alive v_t_alive = some rR) : Met l yX4_alive wsX4_alive { frames := 0, cells := 0, slots := 0, locals := 0 } (pn_Pc D cI cJ cZ [.ref a_t] [(a_t, .inr (3, [.ref a_t_paper, .ref a_t_linked, .ref a_t_caseAt, .ref a_t_reasonAt, .ref a_t_firstSlot, .ref a_t_members, .ref a_t_namedBy, .ref a_t_foundBy, .int v_t_linkedVersion, .int v_t_studiedVersion, .int v_t_present, .int v_t_fulls, .int v_t_cases, .int v_t_cited, .int v_t_alive, .int v_t_dead]))] sz) (pn_Qi D rR [(a_t, .inr (3, [.ref a_t_paper, .ref a_t_linked, .ref a_t_caseAt, .ref a_t_reasonAt, .ref a_t_firstSlot, .ref a_t_members, .ref a_t_namedBy, .ref a_t_foundBy, .int v_t_linkedVersion, .int v_t_studiedVersion, .int v_t_present, .int v_t_fulls, .int v_t_cases, .int v_t_cited, .int v_t_alive, .int v_t_dead]))] (va_A [(a_t, .inr (3, [.ref a_t_paper, .ref a_t_linked, .ref a_t_caseAt, .ref a_t_reasonAt, .ref a_t_firstSlot, .ref a_t_members, .ref a_t_namedBy, .ref a_t_foundBy, .int v_t_linkedVersion, .int v_t_studiedVersion, .int v_t_present, .int v_t_fulls, .int v_t_cases, .int v_t_cited, .int v_t_alive, .int v_t_dead]))] sz)) 0 0 (va_A [(a_t, .inr (3, [.ref a_t_paper, .ref a_t_linked, .ref a_t_caseAt, .ref a_t_reasonAt, .ref a_t_firstSlot, .ref a_t_members, .ref a_t_namedBy, .ref a_t_foundBy, .int v_t_linkedVersion, .int v_t_studiedVersion, .int v_t_present, .int v_t_fulls, .int v_t_cases, .int v_t_cited, .int v_t_alive, .int v_t_dead]))] sz) := by
  refine pn_entry (cc := cX4_alive) (maxL := 1) (ret := (some .int)) (Qf := pn_Qi D rR [(a_t, .inr (3, [.ref a_t_paper, .ref a_t_linked, .ref a_t_caseAt, .ref a_t_reasonAt, .ref a_t_firstSlot, .ref a_t_members, .ref a_t_namedBy, .ref a_t_foundBy, .int v_t_linkedVersion, .int v_t_studiedVersion, .int v_t_present, .int v_t_fulls, .int v_t_cases, .int v_t_cited, .int v_t_alive, .int v_t_dead]))]) (by decide) rfl (Nat.le_of_ble_eq_true rfl) ?_
  intro p e s m args below meth c A ls H locs Qm hQ hx hb hr hlocks hml hown hts hK hP hD hA hS hl
  have hl : lv_has ls 1 [(0, .ref a_t)] := hl
  have hinX4 : ∀ w ∈ wsX40, w ∈ wsX4_alive := by decide +kernel
  have fl_50 := hts (.fieldLink RX4 50 "PointingNotes$Study" "alive" "I") (by decide +kernel)
  rw [f_X4_alive] at hf
  refine lv_aload_n hx hb dX4_alive_0 rfl (lv_at hl 0 rfl) ?_
  refine va_get (D := D) (ci := 3) (v := .int v_t_alive) (C := RX4) (T := TX4) (N := 16) hx hb hts hinX4 hown hK.1 hP 0 rfl rfl 14 (by decide) fl_50 (fun _ h9 => h9) rfl dX4_alive_1 ?_
  cases hf
  rw [hQ]
  exact pn_reti hx hb hr hlocks hP hS rfl dX4_alive_4
def f_X4_dead (v_t_dead : Int32) : Option (Int32) :=
  some v_t_dead
set_option maxHeartbeats 4000000 in
set_option maxRecDepth 100000 in
theorem c_X4_dead (l : Launch) (D : va_G) (cI cJ cZ : ClassId) (a_t a_t_paper a_t_linked a_t_caseAt a_t_reasonAt a_t_firstSlot a_t_members a_t_namedBy a_t_foundBy : Nat) (sz : Nat) (v_t_linkedVersion : Int32) (v_t_studiedVersion : Int32) (v_t_present : Int32) (v_t_fulls : Int32) (v_t_cases : Int32) (v_t_cited : Int32) (v_t_alive : Int32) (v_t_dead : Int32) (rR : Int32) (hf : f_X4_dead v_t_dead = some rR) : Met l yX4_dead wsX4_dead { frames := 0, cells := 0, slots := 0, locals := 0 } (pn_Pc D cI cJ cZ [.ref a_t] [(a_t, .inr (3, [.ref a_t_paper, .ref a_t_linked, .ref a_t_caseAt, .ref a_t_reasonAt, .ref a_t_firstSlot, .ref a_t_members, .ref a_t_namedBy, .ref a_t_foundBy, .int v_t_linkedVersion, .int v_t_studiedVersion, .int v_t_present, .int v_t_fulls, .int v_t_cases, .int v_t_cited, .int v_t_alive, .int v_t_dead]))] sz) (pn_Qi D rR [(a_t, .inr (3, [.ref a_t_paper, .ref a_t_linked, .ref a_t_caseAt, .ref a_t_reasonAt, .ref a_t_firstSlot, .ref a_t_members, .ref a_t_namedBy, .ref a_t_foundBy, .int v_t_linkedVersion, .int v_t_studiedVersion, .int v_t_present, .int v_t_fulls, .int v_t_cases, .int v_t_cited, .int v_t_alive, .int v_t_dead]))] (va_A [(a_t, .inr (3, [.ref a_t_paper, .ref a_t_linked, .ref a_t_caseAt, .ref a_t_reasonAt, .ref a_t_firstSlot, .ref a_t_members, .ref a_t_namedBy, .ref a_t_foundBy, .int v_t_linkedVersion, .int v_t_studiedVersion, .int v_t_present, .int v_t_fulls, .int v_t_cases, .int v_t_cited, .int v_t_alive, .int v_t_dead]))] sz)) 0 0 (va_A [(a_t, .inr (3, [.ref a_t_paper, .ref a_t_linked, .ref a_t_caseAt, .ref a_t_reasonAt, .ref a_t_firstSlot, .ref a_t_members, .ref a_t_namedBy, .ref a_t_foundBy, .int v_t_linkedVersion, .int v_t_studiedVersion, .int v_t_present, .int v_t_fulls, .int v_t_cases, .int v_t_cited, .int v_t_alive, .int v_t_dead]))] sz) := by
  refine pn_entry (cc := cX4_dead) (maxL := 1) (ret := (some .int)) (Qf := pn_Qi D rR [(a_t, .inr (3, [.ref a_t_paper, .ref a_t_linked, .ref a_t_caseAt, .ref a_t_reasonAt, .ref a_t_firstSlot, .ref a_t_members, .ref a_t_namedBy, .ref a_t_foundBy, .int v_t_linkedVersion, .int v_t_studiedVersion, .int v_t_present, .int v_t_fulls, .int v_t_cases, .int v_t_cited, .int v_t_alive, .int v_t_dead]))]) (by decide) rfl (Nat.le_of_ble_eq_true rfl) ?_
  intro p e s m args below meth c A ls H locs Qm hQ hx hb hr hlocks hml hown hts hK hP hD hA hS hl
  have hl : lv_has ls 1 [(0, .ref a_t)] := hl
  have hinX4 : ∀ w ∈ wsX40, w ∈ wsX4_dead := by decide +kernel
  have fl_53 := hts (.fieldLink RX4 53 "PointingNotes$Study" "dead" "I") (by decide +kernel)
  rw [f_X4_dead] at hf
  refine lv_aload_n hx hb dX4_dead_0 rfl (lv_at hl 0 rfl) ?_
  refine va_get (D := D) (ci := 3) (v := .int v_t_dead) (C := RX4) (T := TX4) (N := 16) hx hb hts hinX4 hown hK.1 hP 0 rfl rfl 15 (by decide) fl_53 (fun _ h9 => h9) rfl dX4_dead_1 ?_
  cases hf
  rw [hQ]
  exact pn_reti hx hb hr hlocks hP hS rfl dX4_dead_4
def f_X4_caseOf (r_t_caseAt : Nat → Int32) (p1 : Int32) : Option (Int32) :=
  if p1 < 0 then
  some (-1 : Int32)
  else
  if (32 : Int32) ≤ p1 then
  some (-1 : Int32)
  else
  pn_rd 32 r_t_caseAt p1 fun w3 =>
  some w3
set_option maxHeartbeats 4000000 in
set_option maxRecDepth 100000 in
theorem c_X4_caseOf (l : Launch) (D : va_G) (cI cJ cZ : ClassId) (a_t a_t_paper a_t_linked a_t_caseAt a_t_reasonAt a_t_firstSlot a_t_members a_t_namedBy a_t_foundBy : Nat) (sz : Nat) (v_t_linkedVersion : Int32) (v_t_studiedVersion : Int32) (v_t_present : Int32) (v_t_fulls : Int32) (v_t_cases : Int32) (v_t_cited : Int32) (v_t_alive : Int32) (v_t_dead : Int32) (r_t_caseAt : Nat → Int32) (p1 : Int32) (rR : Int32) (hf : f_X4_caseOf r_t_caseAt p1 = some rR) : Met l yX4_caseOf wsX4_caseOf { frames := 0, cells := 0, slots := 0, locals := 0 } (pn_Pc D cI cJ cZ [.ref a_t, .int p1] [(a_t, .inr (3, [.ref a_t_paper, .ref a_t_linked, .ref a_t_caseAt, .ref a_t_reasonAt, .ref a_t_firstSlot, .ref a_t_members, .ref a_t_namedBy, .ref a_t_foundBy, .int v_t_linkedVersion, .int v_t_studiedVersion, .int v_t_present, .int v_t_fulls, .int v_t_cases, .int v_t_cited, .int v_t_alive, .int v_t_dead])), (a_t_caseAt, .inl (cI, 32, .inl r_t_caseAt))] sz) (pn_Qi D rR [(a_t, .inr (3, [.ref a_t_paper, .ref a_t_linked, .ref a_t_caseAt, .ref a_t_reasonAt, .ref a_t_firstSlot, .ref a_t_members, .ref a_t_namedBy, .ref a_t_foundBy, .int v_t_linkedVersion, .int v_t_studiedVersion, .int v_t_present, .int v_t_fulls, .int v_t_cases, .int v_t_cited, .int v_t_alive, .int v_t_dead])), (a_t_caseAt, .inl (cI, 32, .inl r_t_caseAt))] (va_A [(a_t, .inr (3, [.ref a_t_paper, .ref a_t_linked, .ref a_t_caseAt, .ref a_t_reasonAt, .ref a_t_firstSlot, .ref a_t_members, .ref a_t_namedBy, .ref a_t_foundBy, .int v_t_linkedVersion, .int v_t_studiedVersion, .int v_t_present, .int v_t_fulls, .int v_t_cases, .int v_t_cited, .int v_t_alive, .int v_t_dead])), (a_t_caseAt, .inl (cI, 32, .inl r_t_caseAt))] sz)) 0 0 (va_A [(a_t, .inr (3, [.ref a_t_paper, .ref a_t_linked, .ref a_t_caseAt, .ref a_t_reasonAt, .ref a_t_firstSlot, .ref a_t_members, .ref a_t_namedBy, .ref a_t_foundBy, .int v_t_linkedVersion, .int v_t_studiedVersion, .int v_t_present, .int v_t_fulls, .int v_t_cases, .int v_t_cited, .int v_t_alive, .int v_t_dead])), (a_t_caseAt, .inl (cI, 32, .inl r_t_caseAt))] sz) := by
  refine pn_entry (cc := cX4_caseOf) (maxL := 2) (ret := (some .int)) (Qf := pn_Qi D rR [(a_t, .inr (3, [.ref a_t_paper, .ref a_t_linked, .ref a_t_caseAt, .ref a_t_reasonAt, .ref a_t_firstSlot, .ref a_t_members, .ref a_t_namedBy, .ref a_t_foundBy, .int v_t_linkedVersion, .int v_t_studiedVersion, .int v_t_present, .int v_t_fulls, .int v_t_cases, .int v_t_cited, .int v_t_alive, .int v_t_dead])), (a_t_caseAt, .inl (cI, 32, .inl r_t_caseAt))]) (by decide) rfl (Nat.le_of_ble_eq_true rfl) ?_
  intro p e s m args below meth c A ls H locs Qm hQ hx hb hr hlocks hml hown hts hK hP hD hA hS hl
  have hl : lv_has ls 2 [(0, .ref a_t), (1, .int p1)] := hl
  have hinX4 : ∀ w ∈ wsX40, w ∈ wsX4_caseOf := by decide +kernel
  have fl_22 := hts (.fieldLink RX4 22 "PointingNotes$Study" "caseAt" "[I") (by decide +kernel)
  rw [f_X4_caseOf] at hf
  refine lv_iload_n hx hb dX4_caseOf_0 rfl (lv_at hl 1 rfl) ?_
  refine lv_if_lt (tgt := 19) hx hb dX4_caseOf_1 (by decide) (fun c1 => ?_) (fun c1 => ?_)
  · have hf := pn_ifp c1 hf
    refine lv_iconst (v := (-1)) hx hb dX4_caseOf_19 (by decide) ?_
    cases hf
    rw [hQ]
    exact pn_reti hx hb hr hlocks hP hS rfl dX4_caseOf_20
  · have hf := pn_ifn c1 hf
    refine lv_iload_n hx hb dX4_caseOf_4 rfl (lv_at hl 1 rfl) ?_
    refine lv_bipush (v := (32)) hx hb dX4_caseOf_5 (by decide) ?_
    refine lv_icmp_ge (tgt := 19) hx hb dX4_caseOf_7 (by decide) (fun c2 => ?_) (fun c2 => ?_)
    · have hf := pn_ifp c2 hf
      refine lv_iconst (v := (-1)) hx hb dX4_caseOf_19 (by decide) ?_
      cases hf
      rw [hQ]
      exact pn_reti hx hb hr hlocks hP hS rfl dX4_caseOf_20
    · have hf := pn_ifn c2 hf
      refine lv_aload_n hx hb dX4_caseOf_10 rfl (lv_at hl 0 rfl) ?_
      refine va_get (D := D) (ci := 3) (v := .ref a_t_caseAt) (C := RX4) (T := TX4) (N := 16) hx hb hts hinX4 hown hK.1 hP 0 rfl rfl 2 (by decide) fl_22 (fun _ h9 => h9) rfl dX4_caseOf_11 ?_
      refine lv_iload_n hx hb dX4_caseOf_14 rfl (lv_at hl 1 rfl) ?_
      obtain ⟨hi4, w3, ew3, hf⟩ := pn_rd_at hf
      refine pn_ldI hx hb hK.1 hP 1 0 rfl rfl hi4 ew3 dX4_caseOf_15 ?_
      refine lv_goto (tgt := 20) hx hb dX4_caseOf_16 (by decide) ?_
      cases hf
      rw [hQ]
      exact pn_reti hx hb hr hlocks hP hS rfl dX4_caseOf_20
def f_X4_reasonOf (r_t_reasonAt : Nat → Int32) (p1 : Int32) : Option (Int32) :=
  if p1 < 0 then
  some (0 : Int32)
  else
  if (32 : Int32) ≤ p1 then
  some (0 : Int32)
  else
  pn_rd 32 r_t_reasonAt p1 fun w3 =>
  some w3
set_option maxHeartbeats 4000000 in
set_option maxRecDepth 100000 in
theorem c_X4_reasonOf (l : Launch) (D : va_G) (cI cJ cZ : ClassId) (a_t a_t_paper a_t_linked a_t_caseAt a_t_reasonAt a_t_firstSlot a_t_members a_t_namedBy a_t_foundBy : Nat) (sz : Nat) (v_t_linkedVersion : Int32) (v_t_studiedVersion : Int32) (v_t_present : Int32) (v_t_fulls : Int32) (v_t_cases : Int32) (v_t_cited : Int32) (v_t_alive : Int32) (v_t_dead : Int32) (r_t_reasonAt : Nat → Int32) (p1 : Int32) (rR : Int32) (hf : f_X4_reasonOf r_t_reasonAt p1 = some rR) : Met l yX4_reasonOf wsX4_reasonOf { frames := 0, cells := 0, slots := 0, locals := 0 } (pn_Pc D cI cJ cZ [.ref a_t, .int p1] [(a_t, .inr (3, [.ref a_t_paper, .ref a_t_linked, .ref a_t_caseAt, .ref a_t_reasonAt, .ref a_t_firstSlot, .ref a_t_members, .ref a_t_namedBy, .ref a_t_foundBy, .int v_t_linkedVersion, .int v_t_studiedVersion, .int v_t_present, .int v_t_fulls, .int v_t_cases, .int v_t_cited, .int v_t_alive, .int v_t_dead])), (a_t_reasonAt, .inl (cI, 32, .inl r_t_reasonAt))] sz) (pn_Qi D rR [(a_t, .inr (3, [.ref a_t_paper, .ref a_t_linked, .ref a_t_caseAt, .ref a_t_reasonAt, .ref a_t_firstSlot, .ref a_t_members, .ref a_t_namedBy, .ref a_t_foundBy, .int v_t_linkedVersion, .int v_t_studiedVersion, .int v_t_present, .int v_t_fulls, .int v_t_cases, .int v_t_cited, .int v_t_alive, .int v_t_dead])), (a_t_reasonAt, .inl (cI, 32, .inl r_t_reasonAt))] (va_A [(a_t, .inr (3, [.ref a_t_paper, .ref a_t_linked, .ref a_t_caseAt, .ref a_t_reasonAt, .ref a_t_firstSlot, .ref a_t_members, .ref a_t_namedBy, .ref a_t_foundBy, .int v_t_linkedVersion, .int v_t_studiedVersion, .int v_t_present, .int v_t_fulls, .int v_t_cases, .int v_t_cited, .int v_t_alive, .int v_t_dead])), (a_t_reasonAt, .inl (cI, 32, .inl r_t_reasonAt))] sz)) 0 0 (va_A [(a_t, .inr (3, [.ref a_t_paper, .ref a_t_linked, .ref a_t_caseAt, .ref a_t_reasonAt, .ref a_t_firstSlot, .ref a_t_members, .ref a_t_namedBy, .ref a_t_foundBy, .int v_t_linkedVersion, .int v_t_studiedVersion, .int v_t_present, .int v_t_fulls, .int v_t_cases, .int v_t_cited, .int v_t_alive, .int v_t_dead])), (a_t_reasonAt, .inl (cI, 32, .inl r_t_reasonAt))] sz) := by
  refine pn_entry (cc := cX4_reasonOf) (maxL := 2) (ret := (some .int)) (Qf := pn_Qi D rR [(a_t, .inr (3, [.ref a_t_paper, .ref a_t_linked, .ref a_t_caseAt, .ref a_t_reasonAt, .ref a_t_firstSlot, .ref a_t_members, .ref a_t_namedBy, .ref a_t_foundBy, .int v_t_linkedVersion, .int v_t_studiedVersion, .int v_t_present, .int v_t_fulls, .int v_t_cases, .int v_t_cited, .int v_t_alive, .int v_t_dead])), (a_t_reasonAt, .inl (cI, 32, .inl r_t_reasonAt))]) (by decide) rfl (Nat.le_of_ble_eq_true rfl) ?_
  intro p e s m args below meth c A ls H locs Qm hQ hx hb hr hlocks hml hown hts hK hP hD hA hS hl
  have hl : lv_has ls 2 [(0, .ref a_t), (1, .int p1)] := hl
  have hinX4 : ∀ w ∈ wsX40, w ∈ wsX4_reasonOf := by decide +kernel
  have fl_25 := hts (.fieldLink RX4 25 "PointingNotes$Study" "reasonAt" "[I") (by decide +kernel)
  rw [f_X4_reasonOf] at hf
  refine lv_iload_n hx hb dX4_reasonOf_0 rfl (lv_at hl 1 rfl) ?_
  refine lv_if_lt (tgt := 19) hx hb dX4_reasonOf_1 (by decide) (fun c1 => ?_) (fun c1 => ?_)
  · have hf := pn_ifp c1 hf
    refine lv_iconst (v := (0)) hx hb dX4_reasonOf_19 (by decide) ?_
    cases hf
    rw [hQ]
    exact pn_reti hx hb hr hlocks hP hS rfl dX4_reasonOf_20
  · have hf := pn_ifn c1 hf
    refine lv_iload_n hx hb dX4_reasonOf_4 rfl (lv_at hl 1 rfl) ?_
    refine lv_bipush (v := (32)) hx hb dX4_reasonOf_5 (by decide) ?_
    refine lv_icmp_ge (tgt := 19) hx hb dX4_reasonOf_7 (by decide) (fun c2 => ?_) (fun c2 => ?_)
    · have hf := pn_ifp c2 hf
      refine lv_iconst (v := (0)) hx hb dX4_reasonOf_19 (by decide) ?_
      cases hf
      rw [hQ]
      exact pn_reti hx hb hr hlocks hP hS rfl dX4_reasonOf_20
    · have hf := pn_ifn c2 hf
      refine lv_aload_n hx hb dX4_reasonOf_10 rfl (lv_at hl 0 rfl) ?_
      refine va_get (D := D) (ci := 3) (v := .ref a_t_reasonAt) (C := RX4) (T := TX4) (N := 16) hx hb hts hinX4 hown hK.1 hP 0 rfl rfl 3 (by decide) fl_25 (fun _ h9 => h9) rfl dX4_reasonOf_11 ?_
      refine lv_iload_n hx hb dX4_reasonOf_14 rfl (lv_at hl 1 rfl) ?_
      obtain ⟨hi4, w3, ew3, hf⟩ := pn_rd_at hf
      refine pn_ldI hx hb hK.1 hP 1 0 rfl rfl hi4 ew3 dX4_reasonOf_15 ?_
      refine lv_goto (tgt := 20) hx hb dX4_reasonOf_16 (by decide) ?_
      cases hf
      rw [hQ]
      exact pn_reti hx hb hr hlocks hP hS rfl dX4_reasonOf_20
def f_X4_isFull (v_t_fulls : Int32) (p1 : Int32) : Option (Int32) :=
  if ¬ ((v_t_fulls >>> (p1 &&& 31)) &&& (1 : Int32)) = (1 : Int32) then
  some (0 : Int32)
  else
  some (1 : Int32)
set_option maxHeartbeats 4000000 in
set_option maxRecDepth 100000 in
theorem c_X4_isFull (l : Launch) (D : va_G) (cI cJ cZ : ClassId) (a_t a_t_paper a_t_linked a_t_caseAt a_t_reasonAt a_t_firstSlot a_t_members a_t_namedBy a_t_foundBy : Nat) (sz : Nat) (v_t_linkedVersion : Int32) (v_t_studiedVersion : Int32) (v_t_present : Int32) (v_t_cases : Int32) (v_t_cited : Int32) (v_t_alive : Int32) (v_t_dead : Int32) (v_t_fulls : Int32) (p1 : Int32) (rR : Int32) (hf : f_X4_isFull v_t_fulls p1 = some rR) : Met l yX4_isFull wsX4_isFull { frames := 0, cells := 0, slots := 0, locals := 0 } (pn_Pc D cI cJ cZ [.ref a_t, .int p1] [(a_t, .inr (3, [.ref a_t_paper, .ref a_t_linked, .ref a_t_caseAt, .ref a_t_reasonAt, .ref a_t_firstSlot, .ref a_t_members, .ref a_t_namedBy, .ref a_t_foundBy, .int v_t_linkedVersion, .int v_t_studiedVersion, .int v_t_present, .int v_t_fulls, .int v_t_cases, .int v_t_cited, .int v_t_alive, .int v_t_dead]))] sz) (pn_Qi D rR [(a_t, .inr (3, [.ref a_t_paper, .ref a_t_linked, .ref a_t_caseAt, .ref a_t_reasonAt, .ref a_t_firstSlot, .ref a_t_members, .ref a_t_namedBy, .ref a_t_foundBy, .int v_t_linkedVersion, .int v_t_studiedVersion, .int v_t_present, .int v_t_fulls, .int v_t_cases, .int v_t_cited, .int v_t_alive, .int v_t_dead]))] (va_A [(a_t, .inr (3, [.ref a_t_paper, .ref a_t_linked, .ref a_t_caseAt, .ref a_t_reasonAt, .ref a_t_firstSlot, .ref a_t_members, .ref a_t_namedBy, .ref a_t_foundBy, .int v_t_linkedVersion, .int v_t_studiedVersion, .int v_t_present, .int v_t_fulls, .int v_t_cases, .int v_t_cited, .int v_t_alive, .int v_t_dead]))] sz)) 0 0 (va_A [(a_t, .inr (3, [.ref a_t_paper, .ref a_t_linked, .ref a_t_caseAt, .ref a_t_reasonAt, .ref a_t_firstSlot, .ref a_t_members, .ref a_t_namedBy, .ref a_t_foundBy, .int v_t_linkedVersion, .int v_t_studiedVersion, .int v_t_present, .int v_t_fulls, .int v_t_cases, .int v_t_cited, .int v_t_alive, .int v_t_dead]))] sz) := by
  refine pn_entry (cc := cX4_isFull) (maxL := 2) (ret := (some .boolean)) (Qf := pn_Qi D rR [(a_t, .inr (3, [.ref a_t_paper, .ref a_t_linked, .ref a_t_caseAt, .ref a_t_reasonAt, .ref a_t_firstSlot, .ref a_t_members, .ref a_t_namedBy, .ref a_t_foundBy, .int v_t_linkedVersion, .int v_t_studiedVersion, .int v_t_present, .int v_t_fulls, .int v_t_cases, .int v_t_cited, .int v_t_alive, .int v_t_dead]))]) (by decide) rfl (Nat.le_of_ble_eq_true rfl) ?_
  intro p e s m args below meth c A ls H locs Qm hQ hx hb hr hlocks hml hown hts hK hP hD hA hS hl
  have hl : lv_has ls 2 [(0, .ref a_t), (1, .int p1)] := hl
  have hinX4 : ∀ w ∈ wsX40, w ∈ wsX4_isFull := by decide +kernel
  have fl_97 := hts (.fieldLink RX4 97 "PointingNotes$Study" "fulls" "I") (by decide +kernel)
  rw [f_X4_isFull] at hf
  refine lv_aload_n hx hb dX4_isFull_0 rfl (lv_at hl 0 rfl) ?_
  refine va_get (D := D) (ci := 3) (v := .int v_t_fulls) (C := RX4) (T := TX4) (N := 16) hx hb hts hinX4 hown hK.1 hP 0 rfl rfl 11 (by decide) fl_97 (fun _ h9 => h9) rfl dX4_isFull_1 ?_
  refine lv_iload_n hx hb dX4_isFull_4 rfl (lv_at hl 1 rfl) ?_
  refine lv_ishr hx hb dX4_isFull_5 ?_
  refine lv_iconst (v := (1)) hx hb dX4_isFull_6 (by decide) ?_
  refine lv_iand hx hb dX4_isFull_7 ?_
  refine lv_iconst (v := (1)) hx hb dX4_isFull_8 (by decide) ?_
  refine lv_icmp_ne (tgt := 16) hx hb dX4_isFull_9 (by decide) (fun c1 => ?_) (fun c1 => ?_)
  · have hf := pn_ifp c1 hf
    refine lv_iconst (v := (0)) hx hb dX4_isFull_16 (by decide) ?_
    cases hf
    rw [hQ]
    exact pn_retz hx hb hr hlocks hP hS rfl rfl dX4_isFull_17
  · have hf := pn_ifq c1 hf
    refine lv_iconst (v := (1)) hx hb dX4_isFull_12 (by decide) ?_
    refine lv_goto (tgt := 17) hx hb dX4_isFull_13 (by decide) ?_
    cases hf
    rw [hQ]
    exact pn_retz hx hb hr hlocks hP hS rfl rfl dX4_isFull_17
def lp_X4_linkFullReferences_50 (r_t_paper_cites : Nat → Int64) (x1 : Int32) (v_t_fulls : Int32) : Nat → Int32 → (Nat → Int32) → Option ((Nat → Int32))
  | 0, _, _ => none
  | n + 1, x2, r_t_linked =>
    if x1 ≤ x2 then
  some r_t_linked
  else
  pn_bd1 (f_X4_isFull v_t_fulls x2) fun ru2 =>
  if ¬ ru2 = 0 then
  pn_bd1 (f_X1_cite r_t_paper_cites x1) fun ru4 =>
  pn_bd1 (f_X1_cite r_t_paper_cites x2) fun ru5 =>
  pn_bd1 (f_X0_haveCommonReport ru4 ru5) fun ru6 =>
  if ¬ ru6 = 0 then
  pn_rd 32 r_t_linked x1 fun w8 =>
  pn_wrI 32 r_t_linked x1 (w8 ||| ((1 : Int32) <<< (x2 &&& 31))) fun g10 =>
  pn_rd 32 g10 x2 fun w12 =>
  pn_wrI 32 g10 x2 (w12 ||| ((1 : Int32) <<< (x1 &&& 31))) fun g14 =>
  pn_nm (x2 + (1 : Int32)) fun z16 =>
  lp_X4_linkFullReferences_50 r_t_paper_cites x1 v_t_fulls n z16 g14
  else
  pn_nm (x2 + (1 : Int32)) fun z17 =>
  lp_X4_linkFullReferences_50 r_t_paper_cites x1 v_t_fulls n z17 r_t_linked
  else
  pn_nm (x2 + (1 : Int32)) fun z18 =>
  lp_X4_linkFullReferences_50 r_t_paper_cites x1 v_t_fulls n z18 r_t_linked
def lp_X4_linkFullReferences_24 (N : Nat) (r_t_paper_cites : Nat → Int64) (v_t_fulls : Int32) : Nat → Int32 → (Nat → Int32) → Option ((Nat → Int32))
  | 0, _, _ => none
  | n + 1, x1, r_t_linked =>
    if (32 : Int32) ≤ x1 then
  some r_t_linked
  else
  pn_wrI 32 r_t_linked x1 (0 : Int32) fun g20 =>
  pn_bd1 (f_X4_isFull v_t_fulls x1) fun ru22 =>
  if ¬ ru22 = 0 then
  pn_bd1 (lp_X4_linkFullReferences_50 r_t_paper_cites x1 v_t_fulls N (0 : Int32) g20) (fun X50 => (pn_u1 fun r_t_linked_w24 => pn_nm (x1 + (1 : Int32)) fun z25 =>
  lp_X4_linkFullReferences_24 N r_t_paper_cites v_t_fulls n z25 r_t_linked_w24) X50)
  else
  pn_nm (x1 + (1 : Int32)) fun z26 =>
  lp_X4_linkFullReferences_24 N r_t_paper_cites v_t_fulls n z26 g20
def f_X4_linkFullReferences (N : Nat) (v_t_linkedVersion : Int32) (v_t_fulls : Int32) (r_t_linked : Nat → Int32) (v_t_paper_notes : Int32) (v_t_paper_version : Int32) (r_t_paper_cites : Nat → Int64) (r_t_paper_sizes : Nat → Int32) : Option (Int32 × Int32 × (Nat → Int32)) :=
  pn_bd1 (f_X1_version v_t_paper_version) fun ru27 =>
  pn_bd1 (f_X1_fullSlots N v_t_paper_notes r_t_paper_cites r_t_paper_sizes) fun ru28 =>
  pn_bd1 (lp_X4_linkFullReferences_24 N r_t_paper_cites ru28 N (0 : Int32) r_t_linked) (fun X24 => (pn_u1 fun r_t_linked_w29 => some (ru27, ru28, r_t_linked_w29)) X24)
set_option maxHeartbeats 4000000 in
set_option maxRecDepth 100000 in
theorem c_X4_linkFullReferences (l : Launch) (D : va_G) (cI cJ cZ : ClassId) (a_t a_t_paper a_t_linked a_t_caseAt a_t_reasonAt a_t_firstSlot a_t_members a_t_namedBy a_t_foundBy a_t_paper_sizes a_t_paper_cites : Nat) (sz : Nat) (v_t_studiedVersion : Int32) (v_t_present : Int32) (v_t_cases : Int32) (v_t_cited : Int32) (v_t_alive : Int32) (v_t_dead : Int32) (N : Nat) (v_t_linkedVersion : Int32) (v_t_fulls : Int32) (r_t_linked : Nat → Int32) (v_t_paper_notes : Int32) (v_t_paper_version : Int32) (r_t_paper_cites : Nat → Int64) (r_t_paper_sizes : Nat → Int32) (o_t_linkedVersion : Int32) (o_t_fulls : Int32) (o_t_linked : Nat → Int32) (hf : f_X4_linkFullReferences N v_t_linkedVersion v_t_fulls r_t_linked v_t_paper_notes v_t_paper_version r_t_paper_cites r_t_paper_sizes = some (o_t_linkedVersion, o_t_fulls, o_t_linked)) : Met l yX4_linkFullReferences wsX4_linkFullReferences { frames := 2, cells := 0, slots := 0, locals := 45 } (pn_Pc D cI cJ cZ [.ref a_t] [(a_t, .inr (3, [.ref a_t_paper, .ref a_t_linked, .ref a_t_caseAt, .ref a_t_reasonAt, .ref a_t_firstSlot, .ref a_t_members, .ref a_t_namedBy, .ref a_t_foundBy, .int v_t_linkedVersion, .int v_t_studiedVersion, .int v_t_present, .int v_t_fulls, .int v_t_cases, .int v_t_cited, .int v_t_alive, .int v_t_dead])), (a_t_linked, .inl (cI, 32, .inl r_t_linked)), (a_t_paper, .inr (0, [.ref a_t_paper_sizes, .ref a_t_paper_cites, .int v_t_paper_notes, .int v_t_paper_version])), (a_t_paper_cites, .inl (cJ, 32, .inr (.inl r_t_paper_cites))), (a_t_paper_sizes, .inl (cI, 8, .inl r_t_paper_sizes))] sz) (pn_Qv D [(a_t, .inr (3, [.ref a_t_paper, .ref a_t_linked, .ref a_t_caseAt, .ref a_t_reasonAt, .ref a_t_firstSlot, .ref a_t_members, .ref a_t_namedBy, .ref a_t_foundBy, .int o_t_linkedVersion, .int v_t_studiedVersion, .int v_t_present, .int o_t_fulls, .int v_t_cases, .int v_t_cited, .int v_t_alive, .int v_t_dead])), (a_t_linked, .inl (cI, 32, .inl o_t_linked)), (a_t_paper, .inr (0, [.ref a_t_paper_sizes, .ref a_t_paper_cites, .int v_t_paper_notes, .int v_t_paper_version])), (a_t_paper_cites, .inl (cJ, 32, .inr (.inl r_t_paper_cites))), (a_t_paper_sizes, .inl (cI, 8, .inl r_t_paper_sizes))] (va_A [(a_t, .inr (3, [.ref a_t_paper, .ref a_t_linked, .ref a_t_caseAt, .ref a_t_reasonAt, .ref a_t_firstSlot, .ref a_t_members, .ref a_t_namedBy, .ref a_t_foundBy, .int v_t_linkedVersion, .int v_t_studiedVersion, .int v_t_present, .int v_t_fulls, .int v_t_cases, .int v_t_cited, .int v_t_alive, .int v_t_dead])), (a_t_linked, .inl (cI, 32, .inl r_t_linked)), (a_t_paper, .inr (0, [.ref a_t_paper_sizes, .ref a_t_paper_cites, .int v_t_paper_notes, .int v_t_paper_version])), (a_t_paper_cites, .inl (cJ, 32, .inr (.inl r_t_paper_cites))), (a_t_paper_sizes, .inl (cI, 8, .inl r_t_paper_sizes))] sz)) 0 0 (va_A [(a_t, .inr (3, [.ref a_t_paper, .ref a_t_linked, .ref a_t_caseAt, .ref a_t_reasonAt, .ref a_t_firstSlot, .ref a_t_members, .ref a_t_namedBy, .ref a_t_foundBy, .int v_t_linkedVersion, .int v_t_studiedVersion, .int v_t_present, .int v_t_fulls, .int v_t_cases, .int v_t_cited, .int v_t_alive, .int v_t_dead])), (a_t_linked, .inl (cI, 32, .inl r_t_linked)), (a_t_paper, .inr (0, [.ref a_t_paper_sizes, .ref a_t_paper_cites, .int v_t_paper_notes, .int v_t_paper_version])), (a_t_paper_cites, .inl (cJ, 32, .inr (.inl r_t_paper_cites))), (a_t_paper_sizes, .inl (cI, 8, .inl r_t_paper_sizes))] sz) := by
  refine pn_entry (cc := cX4_linkFullReferences) (maxL := 3) (ret := none) (Qf := pn_Qv D [(a_t, .inr (3, [.ref a_t_paper, .ref a_t_linked, .ref a_t_caseAt, .ref a_t_reasonAt, .ref a_t_firstSlot, .ref a_t_members, .ref a_t_namedBy, .ref a_t_foundBy, .int o_t_linkedVersion, .int v_t_studiedVersion, .int v_t_present, .int o_t_fulls, .int v_t_cases, .int v_t_cited, .int v_t_alive, .int v_t_dead])), (a_t_linked, .inl (cI, 32, .inl o_t_linked)), (a_t_paper, .inr (0, [.ref a_t_paper_sizes, .ref a_t_paper_cites, .int v_t_paper_notes, .int v_t_paper_version])), (a_t_paper_cites, .inl (cJ, 32, .inr (.inl r_t_paper_cites))), (a_t_paper_sizes, .inl (cI, 8, .inl r_t_paper_sizes))]) (by decide) rfl (Nat.le_of_ble_eq_true rfl) ?_
  intro p e s m args below meth c A ls H locs Qm hQ hx hb hr hlocks hml hown hts hK hP hD hA hS hl
  have hl : lv_has ls 3 [(0, .ref a_t)] := hl
  have hinX4 : ∀ w ∈ wsX40, w ∈ wsX4_linkFullReferences := by decide +kernel
  have fl_12 := hts (.fieldLink RX4 12 "PointingNotes$Study" "paper" "LPointingNotes$Paper;") (by decide +kernel)
  have fl_18 := hts (.fieldLink RX4 18 "PointingNotes$Study" "linked" "[I") (by decide +kernel)
  have fl_40 := hts (.fieldLink RX4 40 "PointingNotes$Study" "linkedVersion" "I") (by decide +kernel)
  have fl_97 := hts (.fieldLink RX4 97 "PointingNotes$Study" "fulls" "I") (by decide +kernel)
  rw [f_X4_linkFullReferences] at hf
  have lp50 : ∀ (n : Nat) (x1 : Int32) (x2 : Int32) (v_t_linkedVersion : Int32) (v_t_fulls : Int32) (r_t_linked : Nat → Int32) (X : (Nat → Int32)) (H : Heap) (locs : List Loc) (ls : Array Slot), lp_X4_linkFullReferences_50 r_t_paper_cites x1 v_t_fulls n x2 r_t_linked = some X → va_P D vwCl [(a_t, .inr (3, [.ref a_t_paper, .ref a_t_linked, .ref a_t_caseAt, .ref a_t_reasonAt, .ref a_t_firstSlot, .ref a_t_members, .ref a_t_namedBy, .ref a_t_foundBy, .int v_t_linkedVersion, .int v_t_studiedVersion, .int v_t_present, .int v_t_fulls, .int v_t_cases, .int v_t_cited, .int v_t_alive, .int v_t_dead])), (a_t_linked, .inl (cI, 32, .inl r_t_linked)), (a_t_paper, .inr (0, [.ref a_t_paper_sizes, .ref a_t_paper_cites, .int v_t_paper_notes, .int v_t_paper_version])), (a_t_paper_cites, .inl (cJ, 32, .inr (.inl r_t_paper_cites))), (a_t_paper_sizes, .inl (cI, 8, .inl r_t_paper_sizes))] H → va_S A s.heap H locs → lv_has ls 3 [(0, .ref a_t), (1, .int x1), (2, .int x2)] → (∀  (r_t_linked' : Nat → Int32) (H : Heap) (locs : List Loc) (ls : Array Slot), X = r_t_linked' → va_P D vwCl [(a_t, .inr (3, [.ref a_t_paper, .ref a_t_linked, .ref a_t_caseAt, .ref a_t_reasonAt, .ref a_t_firstSlot, .ref a_t_members, .ref a_t_namedBy, .ref a_t_foundBy, .int v_t_linkedVersion, .int v_t_studiedVersion, .int v_t_present, .int v_t_fulls, .int v_t_cases, .int v_t_cited, .int v_t_alive, .int v_t_dead])), (a_t_linked, .inl (cI, 32, .inl (r_t_linked'))), (a_t_paper, .inr (0, [.ref a_t_paper_sizes, .ref a_t_paper_cites, .int v_t_paper_notes, .int v_t_paper_version])), (a_t_paper_cites, .inl (cJ, 32, .inr (.inl r_t_paper_cites))), (a_t_paper_sizes, .inl (cI, 8, .inl r_t_paper_sizes))] H → va_S A s.heap H locs → lv_has ls 3 [(0, .ref a_t), (1, .int x1)] → W p l e { frames := 2, cells := 0, slots := 0, locals := 45 } s m args below meth c H locs 0 0 Qm (F0 m 121 ls [])) → W p l e { frames := 2, cells := 0, slots := 0, locals := 45 } s m args below meth c H locs 0 0 Qm (F0 m 50 ls []) := by
    intro n
    induction n with
    | zero => intro x1 x2 v_t_linkedVersion v_t_fulls r_t_linked X H locs ls hf; cases hf
    | succ n ih =>
      intro x1 x2 v_t_linkedVersion v_t_fulls r_t_linked X H locs ls hf hP hS hl kx121
      rw [lp_X4_linkFullReferences_50] at hf
      refine lv_iload_n hx hb dX4_linkFullReferences_50 rfl (lv_at hl 2 rfl) ?_
      refine lv_iload_n hx hb dX4_linkFullReferences_51 rfl (lv_at hl 1 rfl) ?_
      refine lv_icmp_ge (tgt := 121) hx hb dX4_linkFullReferences_52 (by decide) (fun c1 => ?_) (fun c1 => ?_)
      · have hf := pn_ifp c1 hf
        exact kx121 r_t_linked H locs ls (Option.some.inj hf).symm hP hS (lv_sub hl [0, 1] rfl)
      · have hf := pn_ifn c1 hf
        refine lv_aload_n hx hb dX4_linkFullReferences_55 rfl (lv_at hl 0 rfl) ?_
        refine lv_iload_n hx hb dX4_linkFullReferences_56 rfl (lv_at hl 2 rfl) ?_
        obtain ⟨ru2, hu2, hf⟩ := pn_bd1_at hf
        refine pn_calli [0] (va_runV (As := [.int x2]) (rest := []) ⟨hx, hb, hml, hown, hts⟩ (c_X4_isFull l D cI cJ cZ a_t a_t_paper a_t_linked a_t_caseAt a_t_reasonAt a_t_firstSlot a_t_members a_t_namedBy a_t_foundBy H.size v_t_linkedVersion v_t_studiedVersion v_t_present v_t_cases v_t_cited v_t_alive v_t_dead v_t_fulls x2 ru2 hu2) (cwV 1 hts gX4_linkFullReferences_X4_isFull rfl rfl rfl hdX4_isFull ⟨Nat.le_of_ble_eq_true rfl, Nat.le_of_ble_eq_true rfl⟩) (pn_preV [0] hP (hD.addr rfl) hK rfl rfl (q0 := 0) (ci := 3) rfl rfl) rfl rfl hl.1 rfl (lv_room (Nat.le_of_ble_eq_true rfl)) dX4_linkFullReferences_57 ⟨Nat.zero_le _, Nat.zero_le _⟩) hP (hD.addr rfl) hS hA rfl rfl rfl (fun H locs (hP : va_P D vwCl [(a_t, .inr (3, [.ref a_t_paper, .ref a_t_linked, .ref a_t_caseAt, .ref a_t_reasonAt, .ref a_t_firstSlot, .ref a_t_members, .ref a_t_namedBy, .ref a_t_foundBy, .int v_t_linkedVersion, .int v_t_studiedVersion, .int v_t_present, .int v_t_fulls, .int v_t_cases, .int v_t_cited, .int v_t_alive, .int v_t_dead])), (a_t_linked, .inl (cI, 32, .inl r_t_linked)), (a_t_paper, .inr (0, [.ref a_t_paper_sizes, .ref a_t_paper_cites, .int v_t_paper_notes, .int v_t_paper_version])), (a_t_paper_cites, .inl (cJ, 32, .inr (.inl r_t_paper_cites))), (a_t_paper_sizes, .inl (cI, 8, .inl r_t_paper_sizes))] H) _ hS => ?_)
        refine lv_if_ne (tgt := 66) hx hb dX4_linkFullReferences_60 (by decide) (fun c3 => ?_) (fun c3 => ?_)
        · have hf := pn_ifp c3 hf
          refine lv_aload_n hx hb dX4_linkFullReferences_66 rfl (lv_at hl 0 rfl) ?_
          refine va_get (D := D) (ci := 3) (v := .ref a_t_paper) (C := RX4) (T := TX4) (N := 16) hx hb hts hinX4 hown hK.1 hP 0 rfl rfl 0 (by decide) fl_12 (fun _ h9 => h9) rfl dX4_linkFullReferences_67 ?_
          refine lv_iload_n hx hb dX4_linkFullReferences_70 rfl (lv_at hl 1 rfl) ?_
          obtain ⟨ru4, hu4, hf⟩ := pn_bd1_at hf
          refine pn_calll [2, 3] (va_runV (As := [.int x1]) (rest := []) ⟨hx, hb, hml, hown, hts⟩ (c_X1_cite l D cI cJ cZ a_t_paper a_t_paper_sizes a_t_paper_cites H.size v_t_paper_notes v_t_paper_version r_t_paper_cites x1 ru4 hu4) (cwV 1 hts gX4_linkFullReferences_X1_cite rfl rfl rfl hdX1_cite ⟨Nat.le_of_ble_eq_true rfl, Nat.le_of_ble_eq_true rfl⟩) (pn_preV [2, 3] hP (hD.addr rfl) hK rfl rfl (q0 := 2) (ci := 0) rfl rfl) rfl rfl hl.1 rfl (lv_room (Nat.le_of_ble_eq_true rfl)) dX4_linkFullReferences_71 ⟨Nat.zero_le _, Nat.zero_le _⟩) hP (hD.addr rfl) hS hA rfl rfl rfl (fun H locs (hP : va_P D vwCl [(a_t, .inr (3, [.ref a_t_paper, .ref a_t_linked, .ref a_t_caseAt, .ref a_t_reasonAt, .ref a_t_firstSlot, .ref a_t_members, .ref a_t_namedBy, .ref a_t_foundBy, .int v_t_linkedVersion, .int v_t_studiedVersion, .int v_t_present, .int v_t_fulls, .int v_t_cases, .int v_t_cited, .int v_t_alive, .int v_t_dead])), (a_t_linked, .inl (cI, 32, .inl r_t_linked)), (a_t_paper, .inr (0, [.ref a_t_paper_sizes, .ref a_t_paper_cites, .int v_t_paper_notes, .int v_t_paper_version])), (a_t_paper_cites, .inl (cJ, 32, .inr (.inl r_t_paper_cites))), (a_t_paper_sizes, .inl (cI, 8, .inl r_t_paper_sizes))] H) _ hS => ?_)
          refine lv_aload_n hx hb dX4_linkFullReferences_74 rfl (lv_at hl 0 rfl) ?_
          refine va_get (D := D) (ci := 3) (v := .ref a_t_paper) (C := RX4) (T := TX4) (N := 16) hx hb hts hinX4 hown hK.1 hP 0 rfl rfl 0 (by decide) fl_12 (fun _ h9 => h9) rfl dX4_linkFullReferences_75 ?_
          refine lv_iload_n hx hb dX4_linkFullReferences_78 rfl (lv_at hl 2 rfl) ?_
          obtain ⟨ru5, hu5, hf⟩ := pn_bd1_at hf
          refine pn_calll [2, 3] (va_runV (As := [.int x2]) (rest := [.long ru4]) ⟨hx, hb, hml, hown, hts⟩ (c_X1_cite l D cI cJ cZ a_t_paper a_t_paper_sizes a_t_paper_cites H.size v_t_paper_notes v_t_paper_version r_t_paper_cites x2 ru5 hu5) (cwV 1 hts gX4_linkFullReferences_X1_cite rfl rfl rfl hdX1_cite ⟨Nat.le_of_ble_eq_true rfl, Nat.le_of_ble_eq_true rfl⟩) (pn_preV [2, 3] hP (hD.addr rfl) hK rfl rfl (q0 := 2) (ci := 0) rfl rfl) rfl rfl hl.1 rfl (lv_room (Nat.le_of_ble_eq_true rfl)) dX4_linkFullReferences_79 ⟨Nat.zero_le _, Nat.zero_le _⟩) hP (hD.addr rfl) hS hA rfl rfl rfl (fun H locs (hP : va_P D vwCl [(a_t, .inr (3, [.ref a_t_paper, .ref a_t_linked, .ref a_t_caseAt, .ref a_t_reasonAt, .ref a_t_firstSlot, .ref a_t_members, .ref a_t_namedBy, .ref a_t_foundBy, .int v_t_linkedVersion, .int v_t_studiedVersion, .int v_t_present, .int v_t_fulls, .int v_t_cases, .int v_t_cited, .int v_t_alive, .int v_t_dead])), (a_t_linked, .inl (cI, 32, .inl r_t_linked)), (a_t_paper, .inr (0, [.ref a_t_paper_sizes, .ref a_t_paper_cites, .int v_t_paper_notes, .int v_t_paper_version])), (a_t_paper_cites, .inl (cJ, 32, .inr (.inl r_t_paper_cites))), (a_t_paper_sizes, .inl (cI, 8, .inl r_t_paper_sizes))] H) _ hS => ?_)
          obtain ⟨ru6, hu6, hf⟩ := pn_bd1_at hf
          refine pn_calli [] (va_runS (As := [.long ru4, .long ru5]) (rest := []) ⟨hx, hb, hml, hown, hts⟩ (c_X0_haveCommonReport l D cI cJ cZ H.size ru4 ru5 ru6 hu6) (va_cwS 2 hts gX4_linkFullReferences_X0_haveCommonReport rfl rfl rfl hdX0_haveCommonReport ⟨Nat.le_of_ble_eq_true rfl, Nat.le_of_ble_eq_true rfl⟩) (pn_preS [] hP (hD.addr rfl) hK rfl rfl) rfl rfl hl.1 rfl (lv_room (Nat.le_of_ble_eq_true rfl)) dX4_linkFullReferences_82 ⟨Nat.zero_le _, Nat.zero_le _⟩) hP (hD.addr rfl) hS hA rfl rfl rfl (fun H locs (hP : va_P D vwCl [(a_t, .inr (3, [.ref a_t_paper, .ref a_t_linked, .ref a_t_caseAt, .ref a_t_reasonAt, .ref a_t_firstSlot, .ref a_t_members, .ref a_t_namedBy, .ref a_t_foundBy, .int v_t_linkedVersion, .int v_t_studiedVersion, .int v_t_present, .int v_t_fulls, .int v_t_cases, .int v_t_cited, .int v_t_alive, .int v_t_dead])), (a_t_linked, .inl (cI, 32, .inl r_t_linked)), (a_t_paper, .inr (0, [.ref a_t_paper_sizes, .ref a_t_paper_cites, .int v_t_paper_notes, .int v_t_paper_version])), (a_t_paper_cites, .inl (cJ, 32, .inr (.inl r_t_paper_cites))), (a_t_paper_sizes, .inl (cI, 8, .inl r_t_paper_sizes))] H) _ hS => ?_)
          refine lv_if_ne (tgt := 91) hx hb dX4_linkFullReferences_85 (by decide) (fun c7 => ?_) (fun c7 => ?_)
          · have hf := pn_ifp c7 hf
            refine lv_aload_n hx hb dX4_linkFullReferences_91 rfl (lv_at hl 0 rfl) ?_
            refine va_get (D := D) (ci := 3) (v := .ref a_t_linked) (C := RX4) (T := TX4) (N := 16) hx hb hts hinX4 hown hK.1 hP 0 rfl rfl 1 (by decide) fl_18 (fun _ h9 => h9) rfl dX4_linkFullReferences_92 ?_
            refine lv_iload_n hx hb dX4_linkFullReferences_95 rfl (lv_at hl 1 rfl) ?_
            refine lv_dup2_11 hx hb dX4_linkFullReferences_96 rfl rfl ?_
            obtain ⟨hi9, w8, ew8, hf⟩ := pn_rd_at hf
            refine pn_ldI hx hb hK.1 hP 1 0 rfl rfl hi9 ew8 dX4_linkFullReferences_97 ?_
            refine lv_iconst (v := (1)) hx hb dX4_linkFullReferences_98 (by decide) ?_
            refine lv_iload_n hx hb dX4_linkFullReferences_99 rfl (lv_at hl 2 rfl) ?_
            refine lv_ishl hx hb dX4_linkFullReferences_100 ?_
            refine lv_ior hx hb dX4_linkFullReferences_101 ?_
            obtain ⟨hi11, g10, eg10, hf⟩ := pn_wrI_at hf
            refine pn_stI hx hb hK.1 hP (hD.addr rfl) hS 1 0 rfl rfl hi11 eg10 dX4_linkFullReferences_102 (fun H locs (hP : va_P D vwCl [(a_t, .inr (3, [.ref a_t_paper, .ref a_t_linked, .ref a_t_caseAt, .ref a_t_reasonAt, .ref a_t_firstSlot, .ref a_t_members, .ref a_t_namedBy, .ref a_t_foundBy, .int v_t_linkedVersion, .int v_t_studiedVersion, .int v_t_present, .int v_t_fulls, .int v_t_cases, .int v_t_cited, .int v_t_alive, .int v_t_dead])), (a_t_linked, .inl (cI, 32, .inl g10)), (a_t_paper, .inr (0, [.ref a_t_paper_sizes, .ref a_t_paper_cites, .int v_t_paper_notes, .int v_t_paper_version])), (a_t_paper_cites, .inl (cJ, 32, .inr (.inl r_t_paper_cites))), (a_t_paper_sizes, .inl (cI, 8, .inl r_t_paper_sizes))] H) _ hS => ?_)
            refine lv_aload_n hx hb dX4_linkFullReferences_103 rfl (lv_at hl 0 rfl) ?_
            refine va_get (D := D) (ci := 3) (v := .ref a_t_linked) (C := RX4) (T := TX4) (N := 16) hx hb hts hinX4 hown hK.1 hP 0 rfl rfl 1 (by decide) fl_18 (fun _ h9 => h9) rfl dX4_linkFullReferences_104 ?_
            refine lv_iload_n hx hb dX4_linkFullReferences_107 rfl (lv_at hl 2 rfl) ?_
            refine lv_dup2_11 hx hb dX4_linkFullReferences_108 rfl rfl ?_
            obtain ⟨hi13, w12, ew12, hf⟩ := pn_rd_at hf
            refine pn_ldI hx hb hK.1 hP 1 0 rfl rfl hi13 ew12 dX4_linkFullReferences_109 ?_
            refine lv_iconst (v := (1)) hx hb dX4_linkFullReferences_110 (by decide) ?_
            refine lv_iload_n hx hb dX4_linkFullReferences_111 rfl (lv_at hl 1 rfl) ?_
            refine lv_ishl hx hb dX4_linkFullReferences_112 ?_
            refine lv_ior hx hb dX4_linkFullReferences_113 ?_
            obtain ⟨hi15, g14, eg14, hf⟩ := pn_wrI_at hf
            refine pn_stI hx hb hK.1 hP (hD.addr rfl) hS 1 0 rfl rfl hi15 eg14 dX4_linkFullReferences_114 (fun H locs (hP : va_P D vwCl [(a_t, .inr (3, [.ref a_t_paper, .ref a_t_linked, .ref a_t_caseAt, .ref a_t_reasonAt, .ref a_t_firstSlot, .ref a_t_members, .ref a_t_namedBy, .ref a_t_foundBy, .int v_t_linkedVersion, .int v_t_studiedVersion, .int v_t_present, .int v_t_fulls, .int v_t_cases, .int v_t_cited, .int v_t_alive, .int v_t_dead])), (a_t_linked, .inl (cI, 32, .inl g14)), (a_t_paper, .inr (0, [.ref a_t_paper_sizes, .ref a_t_paper_cites, .int v_t_paper_notes, .int v_t_paper_version])), (a_t_paper_cites, .inl (cJ, 32, .inr (.inl r_t_paper_cites))), (a_t_paper_sizes, .inl (cI, 8, .inl r_t_paper_sizes))] H) _ hS => ?_)
            obtain ⟨z16, ez16⟩ : ∃ y : Int32, y = x2 + (1) := ⟨_, rfl⟩
            have hf := pn_nm_at ez16 hf
            refine lv_iinc (v := z16) (lv' := [(2, .int z16), (0, .ref a_t), (1, .int x1)]) hx hb dX4_linkFullReferences_115 hl (k := 2) rfl (by rw [ez16]; rfl) (by decide) rfl (fun ls hl => ?_)
            refine lv_goto (tgt := 50) hx hb dX4_linkFullReferences_118 (by decide) ?_
            exact ih x1 z16 v_t_linkedVersion v_t_fulls g14 X H locs ls hf hP hS (lv_sub hl [1, 2, 0] rfl) kx121
          · have hf := pn_ifq c7 hf
            refine lv_goto (tgt := 115) hx hb dX4_linkFullReferences_88 (by decide) ?_
            obtain ⟨z17, ez17⟩ : ∃ y : Int32, y = x2 + (1) := ⟨_, rfl⟩
            have hf := pn_nm_at ez17 hf
            refine lv_iinc (v := z17) (lv' := [(2, .int z17), (0, .ref a_t), (1, .int x1)]) hx hb dX4_linkFullReferences_115 hl (k := 2) rfl (by rw [ez17]; rfl) (by decide) rfl (fun ls hl => ?_)
            refine lv_goto (tgt := 50) hx hb dX4_linkFullReferences_118 (by decide) ?_
            exact ih x1 z17 v_t_linkedVersion v_t_fulls r_t_linked X H locs ls hf hP hS (lv_sub hl [1, 2, 0] rfl) kx121
        · have hf := pn_ifq c3 hf
          refine lv_goto (tgt := 115) hx hb dX4_linkFullReferences_63 (by decide) ?_
          obtain ⟨z18, ez18⟩ : ∃ y : Int32, y = x2 + (1) := ⟨_, rfl⟩
          have hf := pn_nm_at ez18 hf
          refine lv_iinc (v := z18) (lv' := [(2, .int z18), (0, .ref a_t), (1, .int x1)]) hx hb dX4_linkFullReferences_115 hl (k := 2) rfl (by rw [ez18]; rfl) (by decide) rfl (fun ls hl => ?_)
          refine lv_goto (tgt := 50) hx hb dX4_linkFullReferences_118 (by decide) ?_
          exact ih x1 z18 v_t_linkedVersion v_t_fulls r_t_linked X H locs ls hf hP hS (lv_sub hl [1, 2, 0] rfl) kx121
  have lp24 : ∀ (n : Nat) (x1 : Int32) (v_t_linkedVersion : Int32) (v_t_fulls : Int32) (r_t_linked : Nat → Int32) (X : (Nat → Int32)) (H : Heap) (locs : List Loc) (ls : Array Slot), lp_X4_linkFullReferences_24 N r_t_paper_cites v_t_fulls n x1 r_t_linked = some X → va_P D vwCl [(a_t, .inr (3, [.ref a_t_paper, .ref a_t_linked, .ref a_t_caseAt, .ref a_t_reasonAt, .ref a_t_firstSlot, .ref a_t_members, .ref a_t_namedBy, .ref a_t_foundBy, .int v_t_linkedVersion, .int v_t_studiedVersion, .int v_t_present, .int v_t_fulls, .int v_t_cases, .int v_t_cited, .int v_t_alive, .int v_t_dead])), (a_t_linked, .inl (cI, 32, .inl r_t_linked)), (a_t_paper, .inr (0, [.ref a_t_paper_sizes, .ref a_t_paper_cites, .int v_t_paper_notes, .int v_t_paper_version])), (a_t_paper_cites, .inl (cJ, 32, .inr (.inl r_t_paper_cites))), (a_t_paper_sizes, .inl (cI, 8, .inl r_t_paper_sizes))] H → va_S A s.heap H locs → lv_has ls 3 [(0, .ref a_t), (1, .int x1)] → (∀  (r_t_linked' : Nat → Int32) (H : Heap) (locs : List Loc) (ls : Array Slot), X = r_t_linked' → va_P D vwCl [(a_t, .inr (3, [.ref a_t_paper, .ref a_t_linked, .ref a_t_caseAt, .ref a_t_reasonAt, .ref a_t_firstSlot, .ref a_t_members, .ref a_t_namedBy, .ref a_t_foundBy, .int v_t_linkedVersion, .int v_t_studiedVersion, .int v_t_present, .int v_t_fulls, .int v_t_cases, .int v_t_cited, .int v_t_alive, .int v_t_dead])), (a_t_linked, .inl (cI, 32, .inl (r_t_linked'))), (a_t_paper, .inr (0, [.ref a_t_paper_sizes, .ref a_t_paper_cites, .int v_t_paper_notes, .int v_t_paper_version])), (a_t_paper_cites, .inl (cJ, 32, .inr (.inl r_t_paper_cites))), (a_t_paper_sizes, .inl (cI, 8, .inl r_t_paper_sizes))] H → va_S A s.heap H locs → lv_has ls 3 [] → W p l e { frames := 2, cells := 0, slots := 0, locals := 45 } s m args below meth c H locs 0 0 Qm (F0 m 127 ls [])) → W p l e { frames := 2, cells := 0, slots := 0, locals := 45 } s m args below meth c H locs 0 0 Qm (F0 m 24 ls []) := by
    intro n
    induction n with
    | zero => intro x1 v_t_linkedVersion v_t_fulls r_t_linked X H locs ls hf; cases hf
    | succ n ih =>
      intro x1 v_t_linkedVersion v_t_fulls r_t_linked X H locs ls hf hP hS hl kx127
      rw [lp_X4_linkFullReferences_24] at hf
      refine lv_iload_n hx hb dX4_linkFullReferences_24 rfl (lv_at hl 1 rfl) ?_
      refine lv_bipush (v := (32)) hx hb dX4_linkFullReferences_25 (by decide) ?_
      refine lv_icmp_ge (tgt := 127) hx hb dX4_linkFullReferences_27 (by decide) (fun c19 => ?_) (fun c19 => ?_)
      · have hf := pn_ifp c19 hf
        exact kx127 r_t_linked H locs ls (Option.some.inj hf).symm hP hS (lv_sub hl [] rfl)
      · have hf := pn_ifn c19 hf
        refine lv_aload_n hx hb dX4_linkFullReferences_30 rfl (lv_at hl 0 rfl) ?_
        refine va_get (D := D) (ci := 3) (v := .ref a_t_linked) (C := RX4) (T := TX4) (N := 16) hx hb hts hinX4 hown hK.1 hP 0 rfl rfl 1 (by decide) fl_18 (fun _ h9 => h9) rfl dX4_linkFullReferences_31 ?_
        refine lv_iload_n hx hb dX4_linkFullReferences_34 rfl (lv_at hl 1 rfl) ?_
        refine lv_iconst (v := (0)) hx hb dX4_linkFullReferences_35 (by decide) ?_
        obtain ⟨hi21, g20, eg20, hf⟩ := pn_wrI_at hf
        refine pn_stI hx hb hK.1 hP (hD.addr rfl) hS 1 0 rfl rfl hi21 eg20 dX4_linkFullReferences_36 (fun H locs (hP : va_P D vwCl [(a_t, .inr (3, [.ref a_t_paper, .ref a_t_linked, .ref a_t_caseAt, .ref a_t_reasonAt, .ref a_t_firstSlot, .ref a_t_members, .ref a_t_namedBy, .ref a_t_foundBy, .int v_t_linkedVersion, .int v_t_studiedVersion, .int v_t_present, .int v_t_fulls, .int v_t_cases, .int v_t_cited, .int v_t_alive, .int v_t_dead])), (a_t_linked, .inl (cI, 32, .inl g20)), (a_t_paper, .inr (0, [.ref a_t_paper_sizes, .ref a_t_paper_cites, .int v_t_paper_notes, .int v_t_paper_version])), (a_t_paper_cites, .inl (cJ, 32, .inr (.inl r_t_paper_cites))), (a_t_paper_sizes, .inl (cI, 8, .inl r_t_paper_sizes))] H) _ hS => ?_)
        refine lv_aload_n hx hb dX4_linkFullReferences_37 rfl (lv_at hl 0 rfl) ?_
        refine lv_iload_n hx hb dX4_linkFullReferences_38 rfl (lv_at hl 1 rfl) ?_
        obtain ⟨ru22, hu22, hf⟩ := pn_bd1_at hf
        refine pn_calli [0] (va_runV (As := [.int x1]) (rest := []) ⟨hx, hb, hml, hown, hts⟩ (c_X4_isFull l D cI cJ cZ a_t a_t_paper a_t_linked a_t_caseAt a_t_reasonAt a_t_firstSlot a_t_members a_t_namedBy a_t_foundBy H.size v_t_linkedVersion v_t_studiedVersion v_t_present v_t_cases v_t_cited v_t_alive v_t_dead v_t_fulls x1 ru22 hu22) (cwV 1 hts gX4_linkFullReferences_X4_isFull rfl rfl rfl hdX4_isFull ⟨Nat.le_of_ble_eq_true rfl, Nat.le_of_ble_eq_true rfl⟩) (pn_preV [0] hP (hD.addr rfl) hK rfl rfl (q0 := 0) (ci := 3) rfl rfl) rfl rfl hl.1 rfl (lv_room (Nat.le_of_ble_eq_true rfl)) dX4_linkFullReferences_39 ⟨Nat.zero_le _, Nat.zero_le _⟩) hP (hD.addr rfl) hS hA rfl rfl rfl (fun H locs (hP : va_P D vwCl [(a_t, .inr (3, [.ref a_t_paper, .ref a_t_linked, .ref a_t_caseAt, .ref a_t_reasonAt, .ref a_t_firstSlot, .ref a_t_members, .ref a_t_namedBy, .ref a_t_foundBy, .int v_t_linkedVersion, .int v_t_studiedVersion, .int v_t_present, .int v_t_fulls, .int v_t_cases, .int v_t_cited, .int v_t_alive, .int v_t_dead])), (a_t_linked, .inl (cI, 32, .inl g20)), (a_t_paper, .inr (0, [.ref a_t_paper_sizes, .ref a_t_paper_cites, .int v_t_paper_notes, .int v_t_paper_version])), (a_t_paper_cites, .inl (cJ, 32, .inr (.inl r_t_paper_cites))), (a_t_paper_sizes, .inl (cI, 8, .inl r_t_paper_sizes))] H) _ hS => ?_)
        refine lv_if_ne (tgt := 48) hx hb dX4_linkFullReferences_42 (by decide) (fun c23 => ?_) (fun c23 => ?_)
        · have hf := pn_ifp c23 hf
          refine lv_iconst (v := (0)) hx hb dX4_linkFullReferences_48 (by decide) ?_
          refine lv_istore_n (lv' := [(2, .int (0 : Int32)), (0, .ref a_t), (1, .int x1)]) hx hb dX4_linkFullReferences_49 rfl hl (by decide) rfl (fun ls hl => ?_)
          obtain ⟨X50, hX50, hf⟩ := pn_bd1_at hf
          refine lp50 N x1 (0 : Int32) v_t_linkedVersion v_t_fulls g20 X50 H locs ls hX50 hP hS (lv_sub hl [1, 2, 0] rfl) ?_
          · intro r_t_linked_w24 H locs ls eX hP hS hl
            rw [eX] at hf
            have hf := pn_u1_at hf
            obtain ⟨z25, ez25⟩ : ∃ y : Int32, y = x1 + (1) := ⟨_, rfl⟩
            have hf := pn_nm_at ez25 hf
            refine lv_iinc (v := z25) (lv' := [(1, .int z25), (0, .ref a_t)]) hx hb dX4_linkFullReferences_121 hl (k := 1) rfl (by rw [ez25]; rfl) (by decide) rfl (fun ls hl => ?_)
            refine lv_goto (tgt := 24) hx hb dX4_linkFullReferences_124 (by decide) ?_
            exact ih z25 v_t_linkedVersion v_t_fulls r_t_linked_w24 X H locs ls hf hP hS (lv_sub hl [1, 0] rfl) kx127
        · have hf := pn_ifq c23 hf
          refine lv_goto (tgt := 121) hx hb dX4_linkFullReferences_45 (by decide) ?_
          obtain ⟨z26, ez26⟩ : ∃ y : Int32, y = x1 + (1) := ⟨_, rfl⟩
          have hf := pn_nm_at ez26 hf
          refine lv_iinc (v := z26) (lv' := [(1, .int z26), (0, .ref a_t)]) hx hb dX4_linkFullReferences_121 hl (k := 1) rfl (by rw [ez26]; rfl) (by decide) rfl (fun ls hl => ?_)
          refine lv_goto (tgt := 24) hx hb dX4_linkFullReferences_124 (by decide) ?_
          exact ih z26 v_t_linkedVersion v_t_fulls g20 X H locs ls hf hP hS (lv_sub hl [1, 0] rfl) kx127
  refine lv_aload_n hx hb dX4_linkFullReferences_0 rfl (lv_at hl 0 rfl) ?_
  refine lv_aload_n hx hb dX4_linkFullReferences_1 rfl (lv_at hl 0 rfl) ?_
  refine va_get (D := D) (ci := 3) (v := .ref a_t_paper) (C := RX4) (T := TX4) (N := 16) hx hb hts hinX4 hown hK.1 hP 0 rfl rfl 0 (by decide) fl_12 (fun _ h9 => h9) rfl dX4_linkFullReferences_2 ?_
  obtain ⟨ru27, hu27, hf⟩ := pn_bd1_at hf
  refine pn_calli [2] (va_runV (As := []) (rest := [.ref a_t]) ⟨hx, hb, hml, hown, hts⟩ (c_X1_version l D cI cJ cZ a_t_paper a_t_paper_sizes a_t_paper_cites H.size v_t_paper_notes v_t_paper_version ru27 hu27) (cwV 0 hts gX4_linkFullReferences_X1_version rfl rfl rfl hdX1_version ⟨Nat.le_of_ble_eq_true rfl, Nat.le_of_ble_eq_true rfl⟩) (pn_preV [2] hP (hD.addr rfl) hK rfl rfl (q0 := 2) (ci := 0) rfl rfl) rfl rfl hl.1 rfl (lv_room (Nat.le_of_ble_eq_true rfl)) dX4_linkFullReferences_5 ⟨Nat.zero_le _, Nat.zero_le _⟩) hP (hD.addr rfl) hS hA rfl rfl rfl (fun H locs (hP : va_P D vwCl [(a_t, .inr (3, [.ref a_t_paper, .ref a_t_linked, .ref a_t_caseAt, .ref a_t_reasonAt, .ref a_t_firstSlot, .ref a_t_members, .ref a_t_namedBy, .ref a_t_foundBy, .int v_t_linkedVersion, .int v_t_studiedVersion, .int v_t_present, .int v_t_fulls, .int v_t_cases, .int v_t_cited, .int v_t_alive, .int v_t_dead])), (a_t_linked, .inl (cI, 32, .inl r_t_linked)), (a_t_paper, .inr (0, [.ref a_t_paper_sizes, .ref a_t_paper_cites, .int v_t_paper_notes, .int v_t_paper_version])), (a_t_paper_cites, .inl (cJ, 32, .inr (.inl r_t_paper_cites))), (a_t_paper_sizes, .inl (cI, 8, .inl r_t_paper_sizes))] H) _ hS => ?_)
  refine va_put (D := D) (ci := 3) (v := .int ru27) (ty := .int) (C := RX4) (T := TX4) (N := 16) hx hb hts hinX4 tyX4 tyX4_ok nmX4 hown hK.1 hP (hD.addr rfl) hS 0 rfl rfl 8 (by decide) fl_40 (fun _ h9 => h9) rfl (by decide +kernel) rfl rfl (Nat.le_of_ble_eq_true rfl) dX4_linkFullReferences_8 (fun H locs (hP : va_P D vwCl [(a_t, .inr (3, [.ref a_t_paper, .ref a_t_linked, .ref a_t_caseAt, .ref a_t_reasonAt, .ref a_t_firstSlot, .ref a_t_members, .ref a_t_namedBy, .ref a_t_foundBy, .int ru27, .int v_t_studiedVersion, .int v_t_present, .int v_t_fulls, .int v_t_cases, .int v_t_cited, .int v_t_alive, .int v_t_dead])), (a_t_linked, .inl (cI, 32, .inl r_t_linked)), (a_t_paper, .inr (0, [.ref a_t_paper_sizes, .ref a_t_paper_cites, .int v_t_paper_notes, .int v_t_paper_version])), (a_t_paper_cites, .inl (cJ, 32, .inr (.inl r_t_paper_cites))), (a_t_paper_sizes, .inl (cI, 8, .inl r_t_paper_sizes))] H) _ hS => ?_)
  refine lv_aload_n hx hb dX4_linkFullReferences_11 rfl (lv_at hl 0 rfl) ?_
  refine lv_aload_n hx hb dX4_linkFullReferences_12 rfl (lv_at hl 0 rfl) ?_
  refine va_get (D := D) (ci := 3) (v := .ref a_t_paper) (C := RX4) (T := TX4) (N := 16) hx hb hts hinX4 hown hK.1 hP 0 rfl rfl 0 (by decide) fl_12 (fun _ h9 => h9) rfl dX4_linkFullReferences_13 ?_
  obtain ⟨ru28, hu28, hf⟩ := pn_bd1_at hf
  refine pn_calli [2, 3, 4] (va_runV (As := []) (rest := [.ref a_t]) ⟨hx, hb, hml, hown, hts⟩ (c_X1_fullSlots l D cI cJ cZ a_t_paper a_t_paper_sizes a_t_paper_cites H.size v_t_paper_version N v_t_paper_notes r_t_paper_cites r_t_paper_sizes ru28 hu28) (cwV 0 hts gX4_linkFullReferences_X1_fullSlots rfl rfl rfl hdX1_fullSlots ⟨Nat.le_of_ble_eq_true rfl, Nat.le_of_ble_eq_true rfl⟩) (pn_preV [2, 3, 4] hP (hD.addr rfl) hK rfl rfl (q0 := 2) (ci := 0) rfl rfl) rfl rfl hl.1 rfl (lv_room (Nat.le_of_ble_eq_true rfl)) dX4_linkFullReferences_16 ⟨Nat.zero_le _, Nat.zero_le _⟩) hP (hD.addr rfl) hS hA rfl rfl rfl (fun H locs (hP : va_P D vwCl [(a_t, .inr (3, [.ref a_t_paper, .ref a_t_linked, .ref a_t_caseAt, .ref a_t_reasonAt, .ref a_t_firstSlot, .ref a_t_members, .ref a_t_namedBy, .ref a_t_foundBy, .int ru27, .int v_t_studiedVersion, .int v_t_present, .int v_t_fulls, .int v_t_cases, .int v_t_cited, .int v_t_alive, .int v_t_dead])), (a_t_linked, .inl (cI, 32, .inl r_t_linked)), (a_t_paper, .inr (0, [.ref a_t_paper_sizes, .ref a_t_paper_cites, .int v_t_paper_notes, .int v_t_paper_version])), (a_t_paper_cites, .inl (cJ, 32, .inr (.inl r_t_paper_cites))), (a_t_paper_sizes, .inl (cI, 8, .inl r_t_paper_sizes))] H) _ hS => ?_)
  refine va_put (D := D) (ci := 3) (v := .int ru28) (ty := .int) (C := RX4) (T := TX4) (N := 16) hx hb hts hinX4 tyX4 tyX4_ok nmX4 hown hK.1 hP (hD.addr rfl) hS 0 rfl rfl 11 (by decide) fl_97 (fun _ h9 => h9) rfl (by decide +kernel) rfl rfl (Nat.le_of_ble_eq_true rfl) dX4_linkFullReferences_19 (fun H locs (hP : va_P D vwCl [(a_t, .inr (3, [.ref a_t_paper, .ref a_t_linked, .ref a_t_caseAt, .ref a_t_reasonAt, .ref a_t_firstSlot, .ref a_t_members, .ref a_t_namedBy, .ref a_t_foundBy, .int ru27, .int v_t_studiedVersion, .int v_t_present, .int ru28, .int v_t_cases, .int v_t_cited, .int v_t_alive, .int v_t_dead])), (a_t_linked, .inl (cI, 32, .inl r_t_linked)), (a_t_paper, .inr (0, [.ref a_t_paper_sizes, .ref a_t_paper_cites, .int v_t_paper_notes, .int v_t_paper_version])), (a_t_paper_cites, .inl (cJ, 32, .inr (.inl r_t_paper_cites))), (a_t_paper_sizes, .inl (cI, 8, .inl r_t_paper_sizes))] H) _ hS => ?_)
  refine lv_iconst (v := (0)) hx hb dX4_linkFullReferences_22 (by decide) ?_
  refine lv_istore_n (lv' := [(1, .int (0 : Int32)), (0, .ref a_t)]) hx hb dX4_linkFullReferences_23 rfl hl (by decide) rfl (fun ls hl => ?_)
  obtain ⟨X24, hX24, hf⟩ := pn_bd1_at hf
  refine lp24 N (0 : Int32) ru27 ru28 r_t_linked X24 H locs ls hX24 hP hS (lv_sub hl [1, 0] rfl) ?_
  · intro r_t_linked_w29 H locs ls eX hP hS hl
    rw [eX] at hf
    have hf := pn_u1_at hf
    cases hf
    rw [hQ]
    exact pn_retv hx hb hr hlocks hP hS dX4_linkFullReferences_127
def f_X4_isPresent (v_t_present : Int32) (p1 : Int32) : Option (Int32) :=
  if p1 < 0 then
  some (0 : Int32)
  else
  if (8 : Int32) ≤ p1 then
  some (0 : Int32)
  else
  if ¬ ((v_t_present >>> (p1 &&& 31)) &&& (1 : Int32)) = (1 : Int32) then
  some (0 : Int32)
  else
  some (1 : Int32)
set_option maxHeartbeats 4000000 in
set_option maxRecDepth 100000 in
theorem c_X4_isPresent (l : Launch) (D : va_G) (cI cJ cZ : ClassId) (a_t a_t_paper a_t_linked a_t_caseAt a_t_reasonAt a_t_firstSlot a_t_members a_t_namedBy a_t_foundBy : Nat) (sz : Nat) (v_t_linkedVersion : Int32) (v_t_studiedVersion : Int32) (v_t_fulls : Int32) (v_t_cases : Int32) (v_t_cited : Int32) (v_t_alive : Int32) (v_t_dead : Int32) (v_t_present : Int32) (p1 : Int32) (rR : Int32) (hf : f_X4_isPresent v_t_present p1 = some rR) : Met l yX4_isPresent wsX4_isPresent { frames := 0, cells := 0, slots := 0, locals := 0 } (pn_Pc D cI cJ cZ [.ref a_t, .int p1] [(a_t, .inr (3, [.ref a_t_paper, .ref a_t_linked, .ref a_t_caseAt, .ref a_t_reasonAt, .ref a_t_firstSlot, .ref a_t_members, .ref a_t_namedBy, .ref a_t_foundBy, .int v_t_linkedVersion, .int v_t_studiedVersion, .int v_t_present, .int v_t_fulls, .int v_t_cases, .int v_t_cited, .int v_t_alive, .int v_t_dead]))] sz) (pn_Qi D rR [(a_t, .inr (3, [.ref a_t_paper, .ref a_t_linked, .ref a_t_caseAt, .ref a_t_reasonAt, .ref a_t_firstSlot, .ref a_t_members, .ref a_t_namedBy, .ref a_t_foundBy, .int v_t_linkedVersion, .int v_t_studiedVersion, .int v_t_present, .int v_t_fulls, .int v_t_cases, .int v_t_cited, .int v_t_alive, .int v_t_dead]))] (va_A [(a_t, .inr (3, [.ref a_t_paper, .ref a_t_linked, .ref a_t_caseAt, .ref a_t_reasonAt, .ref a_t_firstSlot, .ref a_t_members, .ref a_t_namedBy, .ref a_t_foundBy, .int v_t_linkedVersion, .int v_t_studiedVersion, .int v_t_present, .int v_t_fulls, .int v_t_cases, .int v_t_cited, .int v_t_alive, .int v_t_dead]))] sz)) 0 0 (va_A [(a_t, .inr (3, [.ref a_t_paper, .ref a_t_linked, .ref a_t_caseAt, .ref a_t_reasonAt, .ref a_t_firstSlot, .ref a_t_members, .ref a_t_namedBy, .ref a_t_foundBy, .int v_t_linkedVersion, .int v_t_studiedVersion, .int v_t_present, .int v_t_fulls, .int v_t_cases, .int v_t_cited, .int v_t_alive, .int v_t_dead]))] sz) := by
  refine pn_entry (cc := cX4_isPresent) (maxL := 2) (ret := (some .boolean)) (Qf := pn_Qi D rR [(a_t, .inr (3, [.ref a_t_paper, .ref a_t_linked, .ref a_t_caseAt, .ref a_t_reasonAt, .ref a_t_firstSlot, .ref a_t_members, .ref a_t_namedBy, .ref a_t_foundBy, .int v_t_linkedVersion, .int v_t_studiedVersion, .int v_t_present, .int v_t_fulls, .int v_t_cases, .int v_t_cited, .int v_t_alive, .int v_t_dead]))]) (by decide) rfl (Nat.le_of_ble_eq_true rfl) ?_
  intro p e s m args below meth c A ls H locs Qm hQ hx hb hr hlocks hml hown hts hK hP hD hA hS hl
  have hl : lv_has ls 2 [(0, .ref a_t), (1, .int p1)] := hl
  have hinX4 : ∀ w ∈ wsX40, w ∈ wsX4_isPresent := by decide +kernel
  have fl_70 := hts (.fieldLink RX4 70 "PointingNotes$Study" "present" "I") (by decide +kernel)
  rw [f_X4_isPresent] at hf
  refine lv_iload_n hx hb dX4_isPresent_0 rfl (lv_at hl 1 rfl) ?_
  refine lv_if_lt (tgt := 26) hx hb dX4_isPresent_1 (by decide) (fun c1 => ?_) (fun c1 => ?_)
  · have hf := pn_ifp c1 hf
    refine lv_iconst (v := (0)) hx hb dX4_isPresent_26 (by decide) ?_
    cases hf
    rw [hQ]
    exact pn_retz hx hb hr hlocks hP hS rfl rfl dX4_isPresent_27
  · have hf := pn_ifn c1 hf
    refine lv_iload_n hx hb dX4_isPresent_4 rfl (lv_at hl 1 rfl) ?_
    refine lv_bipush (v := (8)) hx hb dX4_isPresent_5 (by decide) ?_
    refine lv_icmp_ge (tgt := 26) hx hb dX4_isPresent_7 (by decide) (fun c2 => ?_) (fun c2 => ?_)
    · have hf := pn_ifp c2 hf
      refine lv_iconst (v := (0)) hx hb dX4_isPresent_26 (by decide) ?_
      cases hf
      rw [hQ]
      exact pn_retz hx hb hr hlocks hP hS rfl rfl dX4_isPresent_27
    · have hf := pn_ifn c2 hf
      refine lv_aload_n hx hb dX4_isPresent_10 rfl (lv_at hl 0 rfl) ?_
      refine va_get (D := D) (ci := 3) (v := .int v_t_present) (C := RX4) (T := TX4) (N := 16) hx hb hts hinX4 hown hK.1 hP 0 rfl rfl 10 (by decide) fl_70 (fun _ h9 => h9) rfl dX4_isPresent_11 ?_
      refine lv_iload_n hx hb dX4_isPresent_14 rfl (lv_at hl 1 rfl) ?_
      refine lv_ishr hx hb dX4_isPresent_15 ?_
      refine lv_iconst (v := (1)) hx hb dX4_isPresent_16 (by decide) ?_
      refine lv_iand hx hb dX4_isPresent_17 ?_
      refine lv_iconst (v := (1)) hx hb dX4_isPresent_18 (by decide) ?_
      refine lv_icmp_ne (tgt := 26) hx hb dX4_isPresent_19 (by decide) (fun c3 => ?_) (fun c3 => ?_)
      · have hf := pn_ifp c3 hf
        refine lv_iconst (v := (0)) hx hb dX4_isPresent_26 (by decide) ?_
        cases hf
        rw [hQ]
        exact pn_retz hx hb hr hlocks hP hS rfl rfl dX4_isPresent_27
      · have hf := pn_ifq c3 hf
        refine lv_iconst (v := (1)) hx hb dX4_isPresent_22 (by decide) ?_
        refine lv_goto (tgt := 27) hx hb dX4_isPresent_23 (by decide) ?_
        cases hf
        rw [hQ]
        exact pn_retz hx hb hr hlocks hP hS rfl rfl dX4_isPresent_27
def lp_X4_presentFullReferences_4 (v_t_present : Int32) : Nat → Int32 → Int32 → Option (Int32)
  | 0, _, _ => none
  | n + 1, x1, x2 =>
    if (8 : Int32) ≤ x2 then
  some x1
  else
  pn_bd1 (f_X4_isPresent v_t_present x2) fun ru2 =>
  if ru2 = 0 then
  pn_nm (x2 + (1 : Int32)) fun z4 =>
  lp_X4_presentFullReferences_4 v_t_present n x1 z4
  else
  pn_bd1 (f_X1_slotOf x2 (0 : Int32)) fun ru5 =>
  pn_nm (x1 ||| ((15 : Int32) <<< (ru5 &&& 31))) fun z6 =>
  pn_nm (x2 + (1 : Int32)) fun z7 =>
  lp_X4_presentFullReferences_4 v_t_present n z6 z7
def f_X4_presentFullReferences (N : Nat) (v_t_present : Int32) (v_t_fulls : Int32) : Option (Int32) :=
  pn_bd1 (lp_X4_presentFullReferences_4 v_t_present N (0 : Int32) (0 : Int32)) (fun X4 => (pn_u1 fun x1_w8 => some (v_t_fulls &&& x1_w8)) X4)
set_option maxHeartbeats 4000000 in
set_option maxRecDepth 100000 in
theorem c_X4_presentFullReferences (l : Launch) (D : va_G) (cI cJ cZ : ClassId) (a_t a_t_paper a_t_linked a_t_caseAt a_t_reasonAt a_t_firstSlot a_t_members a_t_namedBy a_t_foundBy : Nat) (sz : Nat) (v_t_linkedVersion : Int32) (v_t_studiedVersion : Int32) (v_t_cases : Int32) (v_t_cited : Int32) (v_t_alive : Int32) (v_t_dead : Int32) (N : Nat) (v_t_present : Int32) (v_t_fulls : Int32) (rR : Int32) (hf : f_X4_presentFullReferences N v_t_present v_t_fulls = some rR) : Met l yX4_presentFullReferences wsX4_presentFullReferences { frames := 1, cells := 0, slots := 0, locals := 21 } (pn_Pc D cI cJ cZ [.ref a_t] [(a_t, .inr (3, [.ref a_t_paper, .ref a_t_linked, .ref a_t_caseAt, .ref a_t_reasonAt, .ref a_t_firstSlot, .ref a_t_members, .ref a_t_namedBy, .ref a_t_foundBy, .int v_t_linkedVersion, .int v_t_studiedVersion, .int v_t_present, .int v_t_fulls, .int v_t_cases, .int v_t_cited, .int v_t_alive, .int v_t_dead]))] sz) (pn_Qi D rR [(a_t, .inr (3, [.ref a_t_paper, .ref a_t_linked, .ref a_t_caseAt, .ref a_t_reasonAt, .ref a_t_firstSlot, .ref a_t_members, .ref a_t_namedBy, .ref a_t_foundBy, .int v_t_linkedVersion, .int v_t_studiedVersion, .int v_t_present, .int v_t_fulls, .int v_t_cases, .int v_t_cited, .int v_t_alive, .int v_t_dead]))] (va_A [(a_t, .inr (3, [.ref a_t_paper, .ref a_t_linked, .ref a_t_caseAt, .ref a_t_reasonAt, .ref a_t_firstSlot, .ref a_t_members, .ref a_t_namedBy, .ref a_t_foundBy, .int v_t_linkedVersion, .int v_t_studiedVersion, .int v_t_present, .int v_t_fulls, .int v_t_cases, .int v_t_cited, .int v_t_alive, .int v_t_dead]))] sz)) 0 0 (va_A [(a_t, .inr (3, [.ref a_t_paper, .ref a_t_linked, .ref a_t_caseAt, .ref a_t_reasonAt, .ref a_t_firstSlot, .ref a_t_members, .ref a_t_namedBy, .ref a_t_foundBy, .int v_t_linkedVersion, .int v_t_studiedVersion, .int v_t_present, .int v_t_fulls, .int v_t_cases, .int v_t_cited, .int v_t_alive, .int v_t_dead]))] sz) := by
  refine pn_entry (cc := cX4_presentFullReferences) (maxL := 3) (ret := (some .int)) (Qf := pn_Qi D rR [(a_t, .inr (3, [.ref a_t_paper, .ref a_t_linked, .ref a_t_caseAt, .ref a_t_reasonAt, .ref a_t_firstSlot, .ref a_t_members, .ref a_t_namedBy, .ref a_t_foundBy, .int v_t_linkedVersion, .int v_t_studiedVersion, .int v_t_present, .int v_t_fulls, .int v_t_cases, .int v_t_cited, .int v_t_alive, .int v_t_dead]))]) (by decide) rfl (Nat.le_of_ble_eq_true rfl) ?_
  intro p e s m args below meth c A ls H locs Qm hQ hx hb hr hlocks hml hown hts hK hP hD hA hS hl
  have hl : lv_has ls 3 [(0, .ref a_t)] := hl
  have hinX4 : ∀ w ∈ wsX40, w ∈ wsX4_presentFullReferences := by decide +kernel
  have fl_97 := hts (.fieldLink RX4 97 "PointingNotes$Study" "fulls" "I") (by decide +kernel)
  rw [f_X4_presentFullReferences] at hf
  have lp4 : ∀ (n : Nat) (x1 : Int32) (x2 : Int32) (X : Int32) (H : Heap) (locs : List Loc) (ls : Array Slot), lp_X4_presentFullReferences_4 v_t_present n x1 x2 = some X → va_P D vwCl [(a_t, .inr (3, [.ref a_t_paper, .ref a_t_linked, .ref a_t_caseAt, .ref a_t_reasonAt, .ref a_t_firstSlot, .ref a_t_members, .ref a_t_namedBy, .ref a_t_foundBy, .int v_t_linkedVersion, .int v_t_studiedVersion, .int v_t_present, .int v_t_fulls, .int v_t_cases, .int v_t_cited, .int v_t_alive, .int v_t_dead]))] H → va_S A s.heap H locs → lv_has ls 3 [(0, .ref a_t), (1, .int x1), (2, .int x2)] → (∀ (y1 : Int32)  (H : Heap) (locs : List Loc) (ls : Array Slot), X = y1 → va_P D vwCl [(a_t, .inr (3, [.ref a_t_paper, .ref a_t_linked, .ref a_t_caseAt, .ref a_t_reasonAt, .ref a_t_firstSlot, .ref a_t_members, .ref a_t_namedBy, .ref a_t_foundBy, .int v_t_linkedVersion, .int v_t_studiedVersion, .int v_t_present, .int v_t_fulls, .int v_t_cases, .int v_t_cited, .int v_t_alive, .int v_t_dead]))] H → va_S A s.heap H locs → lv_has ls 3 [(0, .ref a_t), (1, .int y1)] → W p l e { frames := 1, cells := 0, slots := 0, locals := 21 } s m args below meth c H locs 0 0 Qm (F0 m 35 ls [])) → W p l e { frames := 1, cells := 0, slots := 0, locals := 21 } s m args below meth c H locs 0 0 Qm (F0 m 4 ls []) := by
    intro n
    induction n with
    | zero => intro x1 x2 X H locs ls hf; cases hf
    | succ n ih =>
      intro x1 x2 X H locs ls hf hP hS hl kx35
      rw [lp_X4_presentFullReferences_4] at hf
      refine lv_iload_n hx hb dX4_presentFullReferences_4 rfl (lv_at hl 2 rfl) ?_
      refine lv_bipush (v := (8)) hx hb dX4_presentFullReferences_5 (by decide) ?_
      refine lv_icmp_ge (tgt := 35) hx hb dX4_presentFullReferences_7 (by decide) (fun c1 => ?_) (fun c1 => ?_)
      · have hf := pn_ifp c1 hf
        exact kx35 x1 H locs ls (Option.some.inj hf).symm hP hS (lv_sub hl [0, 1] rfl)
      · have hf := pn_ifn c1 hf
        refine lv_aload_n hx hb dX4_presentFullReferences_10 rfl (lv_at hl 0 rfl) ?_
        refine lv_iload_n hx hb dX4_presentFullReferences_11 rfl (lv_at hl 2 rfl) ?_
        obtain ⟨ru2, hu2, hf⟩ := pn_bd1_at hf
        refine pn_calli [0] (va_runV (As := [.int x2]) (rest := []) ⟨hx, hb, hml, hown, hts⟩ (c_X4_isPresent l D cI cJ cZ a_t a_t_paper a_t_linked a_t_caseAt a_t_reasonAt a_t_firstSlot a_t_members a_t_namedBy a_t_foundBy H.size v_t_linkedVersion v_t_studiedVersion v_t_fulls v_t_cases v_t_cited v_t_alive v_t_dead v_t_present x2 ru2 hu2) (cwV 1 hts gX4_presentFullReferences_X4_isPresent rfl rfl rfl hdX4_isPresent ⟨Nat.le_of_ble_eq_true rfl, Nat.le_of_ble_eq_true rfl⟩) (pn_preV [0] hP (hD.addr rfl) hK rfl rfl (q0 := 0) (ci := 3) rfl rfl) rfl rfl hl.1 rfl (lv_room (Nat.le_of_ble_eq_true rfl)) dX4_presentFullReferences_12 ⟨Nat.zero_le _, Nat.zero_le _⟩) hP (hD.addr rfl) hS hA rfl rfl rfl (fun H locs (hP : va_P D vwCl [(a_t, .inr (3, [.ref a_t_paper, .ref a_t_linked, .ref a_t_caseAt, .ref a_t_reasonAt, .ref a_t_firstSlot, .ref a_t_members, .ref a_t_namedBy, .ref a_t_foundBy, .int v_t_linkedVersion, .int v_t_studiedVersion, .int v_t_present, .int v_t_fulls, .int v_t_cases, .int v_t_cited, .int v_t_alive, .int v_t_dead]))] H) _ hS => ?_)
        refine lv_if_eq (tgt := 29) hx hb dX4_presentFullReferences_15 (by decide) (fun c3 => ?_) (fun c3 => ?_)
        · have hf := pn_ifp c3 hf
          obtain ⟨z4, ez4⟩ : ∃ y : Int32, y = x2 + (1) := ⟨_, rfl⟩
          have hf := pn_nm_at ez4 hf
          refine lv_iinc (v := z4) (lv' := [(2, .int z4), (0, .ref a_t), (1, .int x1)]) hx hb dX4_presentFullReferences_29 hl (k := 2) rfl (by rw [ez4]; rfl) (by decide) rfl (fun ls hl => ?_)
          refine lv_goto (tgt := 4) hx hb dX4_presentFullReferences_32 (by decide) ?_
          exact ih x1 z4 X H locs ls hf hP hS (lv_sub hl [1, 2, 0] rfl) kx35
        · have hf := pn_ifn c3 hf
          refine lv_iload_n hx hb dX4_presentFullReferences_18 rfl (lv_at hl 1 rfl) ?_
          refine lv_bipush (v := (15)) hx hb dX4_presentFullReferences_19 (by decide) ?_
          refine lv_iload_n hx hb dX4_presentFullReferences_21 rfl (lv_at hl 2 rfl) ?_
          refine lv_iconst (v := (0)) hx hb dX4_presentFullReferences_22 (by decide) ?_
          obtain ⟨ru5, hu5, hf⟩ := pn_bd1_at hf
          refine pn_calli [] (va_runS (As := [.int x2, .int (0 : Int32)]) (rest := [.int (15 : Int32), .int x1]) ⟨hx, hb, hml, hown, hts⟩ (c_X1_slotOf l D cI cJ cZ H.size x2 (0 : Int32) ru5 hu5) (va_cwS 2 hts gX4_presentFullReferences_X1_slotOf rfl rfl rfl hdX1_slotOf ⟨Nat.le_of_ble_eq_true rfl, Nat.le_of_ble_eq_true rfl⟩) (pn_preS [] hP (hD.addr rfl) hK rfl rfl) rfl rfl hl.1 rfl (lv_room (Nat.le_of_ble_eq_true rfl)) dX4_presentFullReferences_23 ⟨Nat.zero_le _, Nat.zero_le _⟩) hP (hD.addr rfl) hS hA rfl rfl rfl (fun H locs (hP : va_P D vwCl [(a_t, .inr (3, [.ref a_t_paper, .ref a_t_linked, .ref a_t_caseAt, .ref a_t_reasonAt, .ref a_t_firstSlot, .ref a_t_members, .ref a_t_namedBy, .ref a_t_foundBy, .int v_t_linkedVersion, .int v_t_studiedVersion, .int v_t_present, .int v_t_fulls, .int v_t_cases, .int v_t_cited, .int v_t_alive, .int v_t_dead]))] H) _ hS => ?_)
          refine lv_ishl hx hb dX4_presentFullReferences_26 ?_
          refine lv_ior hx hb dX4_presentFullReferences_27 ?_
          refine lv_topi (fun z6 ez6 => ?_)
          have hf := pn_nm_at ez6 hf
          refine lv_istore_n (lv' := [(1, .int z6), (0, .ref a_t), (2, .int x2)]) hx hb dX4_presentFullReferences_28 rfl hl (by decide) rfl (fun ls hl => ?_)
          obtain ⟨z7, ez7⟩ : ∃ y : Int32, y = x2 + (1) := ⟨_, rfl⟩
          have hf := pn_nm_at ez7 hf
          refine lv_iinc (v := z7) (lv' := [(2, .int z7), (1, .int z6), (0, .ref a_t)]) hx hb dX4_presentFullReferences_29 hl (k := 2) rfl (by rw [ez7]; rfl) (by decide) rfl (fun ls hl => ?_)
          refine lv_goto (tgt := 4) hx hb dX4_presentFullReferences_32 (by decide) ?_
          exact ih z6 z7 X H locs ls hf hP hS (lv_sub hl [2, 1, 0] rfl) kx35
  refine lv_iconst (v := (0)) hx hb dX4_presentFullReferences_0 (by decide) ?_
  refine lv_istore_n (lv' := [(1, .int (0 : Int32)), (0, .ref a_t)]) hx hb dX4_presentFullReferences_1 rfl hl (by decide) rfl (fun ls hl => ?_)
  refine lv_iconst (v := (0)) hx hb dX4_presentFullReferences_2 (by decide) ?_
  refine lv_istore_n (lv' := [(2, .int (0 : Int32)), (1, .int (0 : Int32)), (0, .ref a_t)]) hx hb dX4_presentFullReferences_3 rfl hl (by decide) rfl (fun ls hl => ?_)
  obtain ⟨X4, hX4, hf⟩ := pn_bd1_at hf
  refine lp4 N (0 : Int32) (0 : Int32) X4 H locs ls hX4 hP hS (lv_sub hl [2, 1, 0] rfl) ?_
  · intro x1_w8 H locs ls eX hP hS hl
    rw [eX] at hf
    have hf := pn_u1_at hf
    refine lv_aload_n hx hb dX4_presentFullReferences_35 rfl (lv_at hl 0 rfl) ?_
    refine va_get (D := D) (ci := 3) (v := .int v_t_fulls) (C := RX4) (T := TX4) (N := 16) hx hb hts hinX4 hown hK.1 hP 0 rfl rfl 11 (by decide) fl_97 (fun _ h9 => h9) rfl dX4_presentFullReferences_36 ?_
    refine lv_iload_n hx hb dX4_presentFullReferences_39 rfl (lv_at hl 1 rfl) ?_
    refine lv_iand hx hb dX4_presentFullReferences_40 ?_
    cases hf
    rw [hQ]
    exact pn_reti hx hb hr hlocks hP hS rfl dX4_presentFullReferences_41
def lp_X4_joinedTo_20 (r_t_linked : Nat → Int32) (p2 : Int32) : Nat → Int32 → Int32 → Option (Int32)
  | 0, _, _ => none
  | n + 1, x3, x6 =>
    if (32 : Int32) ≤ x6 then
  some x3
  else
  if ¬ ((x3 >>> (x6 &&& 31)) &&& (1 : Int32)) = (1 : Int32) then
  pn_nm (x6 + (1 : Int32)) fun z3 =>
  lp_X4_joinedTo_20 r_t_linked p2 n x3 z3
  else
  pn_rd 32 r_t_linked x6 fun w4 =>
  pn_nm (x3 ||| (w4 &&& p2)) fun z6 =>
  pn_nm (x6 + (1 : Int32)) fun z7 =>
  lp_X4_joinedTo_20 r_t_linked p2 n z6 z7
def lp_X4_joinedTo_7 (N : Nat) (r_t_linked : Nat → Int32) (p1 : Int32) (p2 : Int32) : Nat → Int32 → Int32 → Option (Int32 ⊕ Int32)
  | 0, _, _ => none
  | n + 1, x3, x4 =>
    if (32 : Int32) ≤ x4 then
  some (.inr x3)
  else
  pn_bd1 (lp_X4_joinedTo_20 r_t_linked p2 N x3 p1) (fun X20 => (pn_u1 fun x3_w9 => if ¬ x3_w9 = x3 then
  pn_nm (x4 + (1 : Int32)) fun z11 =>
  lp_X4_joinedTo_7 N r_t_linked p1 p2 n x3_w9 z11
  else
  some (.inl x3_w9)) X20)
def f_X4_joinedTo (N : Nat) (r_t_linked : Nat → Int32) (p1 : Int32) (p2 : Int32) : Option (Int32) :=
  pn_nm ((1 : Int32) <<< (p1 &&& 31)) fun z12 =>
  pn_bd1 (lp_X4_joinedTo_7 N r_t_linked p1 p2 N z12 (0 : Int32)) (fun X7 => pn_s2 X7 (pn_u1 fun x3_w13 => some x3_w13) (fun Y7_0 => (pn_u1 fun x3_w14 => some x3_w14) Y7_0))
set_option maxHeartbeats 4000000 in
set_option maxRecDepth 100000 in
theorem c_X4_joinedTo (l : Launch) (D : va_G) (cI cJ cZ : ClassId) (a_t a_t_paper a_t_linked a_t_caseAt a_t_reasonAt a_t_firstSlot a_t_members a_t_namedBy a_t_foundBy : Nat) (sz : Nat) (v_t_linkedVersion : Int32) (v_t_studiedVersion : Int32) (v_t_present : Int32) (v_t_fulls : Int32) (v_t_cases : Int32) (v_t_cited : Int32) (v_t_alive : Int32) (v_t_dead : Int32) (N : Nat) (r_t_linked : Nat → Int32) (p1 : Int32) (p2 : Int32) (rR : Int32) (hf : f_X4_joinedTo N r_t_linked p1 p2 = some rR) : Met l yX4_joinedTo wsX4_joinedTo { frames := 0, cells := 0, slots := 0, locals := 0 } (pn_Pc D cI cJ cZ [.ref a_t, .int p1, .int p2] [(a_t, .inr (3, [.ref a_t_paper, .ref a_t_linked, .ref a_t_caseAt, .ref a_t_reasonAt, .ref a_t_firstSlot, .ref a_t_members, .ref a_t_namedBy, .ref a_t_foundBy, .int v_t_linkedVersion, .int v_t_studiedVersion, .int v_t_present, .int v_t_fulls, .int v_t_cases, .int v_t_cited, .int v_t_alive, .int v_t_dead])), (a_t_linked, .inl (cI, 32, .inl r_t_linked))] sz) (pn_Qi D rR [(a_t, .inr (3, [.ref a_t_paper, .ref a_t_linked, .ref a_t_caseAt, .ref a_t_reasonAt, .ref a_t_firstSlot, .ref a_t_members, .ref a_t_namedBy, .ref a_t_foundBy, .int v_t_linkedVersion, .int v_t_studiedVersion, .int v_t_present, .int v_t_fulls, .int v_t_cases, .int v_t_cited, .int v_t_alive, .int v_t_dead])), (a_t_linked, .inl (cI, 32, .inl r_t_linked))] (va_A [(a_t, .inr (3, [.ref a_t_paper, .ref a_t_linked, .ref a_t_caseAt, .ref a_t_reasonAt, .ref a_t_firstSlot, .ref a_t_members, .ref a_t_namedBy, .ref a_t_foundBy, .int v_t_linkedVersion, .int v_t_studiedVersion, .int v_t_present, .int v_t_fulls, .int v_t_cases, .int v_t_cited, .int v_t_alive, .int v_t_dead])), (a_t_linked, .inl (cI, 32, .inl r_t_linked))] sz)) 0 0 (va_A [(a_t, .inr (3, [.ref a_t_paper, .ref a_t_linked, .ref a_t_caseAt, .ref a_t_reasonAt, .ref a_t_firstSlot, .ref a_t_members, .ref a_t_namedBy, .ref a_t_foundBy, .int v_t_linkedVersion, .int v_t_studiedVersion, .int v_t_present, .int v_t_fulls, .int v_t_cases, .int v_t_cited, .int v_t_alive, .int v_t_dead])), (a_t_linked, .inl (cI, 32, .inl r_t_linked))] sz) := by
  refine pn_entry (cc := cX4_joinedTo) (maxL := 7) (ret := (some .int)) (Qf := pn_Qi D rR [(a_t, .inr (3, [.ref a_t_paper, .ref a_t_linked, .ref a_t_caseAt, .ref a_t_reasonAt, .ref a_t_firstSlot, .ref a_t_members, .ref a_t_namedBy, .ref a_t_foundBy, .int v_t_linkedVersion, .int v_t_studiedVersion, .int v_t_present, .int v_t_fulls, .int v_t_cases, .int v_t_cited, .int v_t_alive, .int v_t_dead])), (a_t_linked, .inl (cI, 32, .inl r_t_linked))]) (by decide) rfl (Nat.le_of_ble_eq_true rfl) ?_
  intro p e s m args below meth c A ls H locs Qm hQ hx hb hr hlocks hml hown hts hK hP hD hA hS hl
  have hl : lv_has ls 7 [(0, .ref a_t), (1, .int p1), (2, .int p2)] := hl
  have hinX4 : ∀ w ∈ wsX40, w ∈ wsX4_joinedTo := by decide +kernel
  have fl_18 := hts (.fieldLink RX4 18 "PointingNotes$Study" "linked" "[I") (by decide +kernel)
  rw [f_X4_joinedTo] at hf
  have lp20 : ∀ (n : Nat) (x3 : Int32) (x4 : Int32) (x5 : Int32) (x6 : Int32) (X : Int32) (H : Heap) (locs : List Loc) (ls : Array Slot), lp_X4_joinedTo_20 r_t_linked p2 n x3 x6 = some X → va_P D vwCl [(a_t, .inr (3, [.ref a_t_paper, .ref a_t_linked, .ref a_t_caseAt, .ref a_t_reasonAt, .ref a_t_firstSlot, .ref a_t_members, .ref a_t_namedBy, .ref a_t_foundBy, .int v_t_linkedVersion, .int v_t_studiedVersion, .int v_t_present, .int v_t_fulls, .int v_t_cases, .int v_t_cited, .int v_t_alive, .int v_t_dead])), (a_t_linked, .inl (cI, 32, .inl r_t_linked))] H → va_S A s.heap H locs → lv_has ls 7 [(0, .ref a_t), (1, .int p1), (2, .int p2), (3, .int x3), (4, .int x4), (5, .int x5), (6, .int x6)] → (∀ (y3 : Int32)  (H : Heap) (locs : List Loc) (ls : Array Slot), X = y3 → va_P D vwCl [(a_t, .inr (3, [.ref a_t_paper, .ref a_t_linked, .ref a_t_caseAt, .ref a_t_reasonAt, .ref a_t_firstSlot, .ref a_t_members, .ref a_t_namedBy, .ref a_t_foundBy, .int v_t_linkedVersion, .int v_t_studiedVersion, .int v_t_present, .int v_t_fulls, .int v_t_cases, .int v_t_cited, .int v_t_alive, .int v_t_dead])), (a_t_linked, .inl (cI, 32, .inl r_t_linked))] H → va_S A s.heap H locs → lv_has ls 7 [(0, .ref a_t), (1, .int p1), (2, .int p2), (3, .int y3), (4, .int x4), (5, .int x5)] → W p l e { frames := 0, cells := 0, slots := 0, locals := 0 } s m args below meth c H locs 0 0 Qm (F0 m 55 ls [])) → W p l e { frames := 0, cells := 0, slots := 0, locals := 0 } s m args below meth c H locs 0 0 Qm (F0 m 20 ls []) := by
    intro n
    induction n with
    | zero => intro x3 x4 x5 x6 X H locs ls hf; cases hf
    | succ n ih =>
      intro x3 x4 x5 x6 X H locs ls hf hP hS hl kx55
      rw [lp_X4_joinedTo_20] at hf
      refine lv_iload hx hb dX4_joinedTo_20 (lv_at hl 6 rfl) ?_
      refine lv_bipush (v := (32)) hx hb dX4_joinedTo_22 (by decide) ?_
      refine lv_icmp_ge (tgt := 55) hx hb dX4_joinedTo_24 (by decide) (fun c1 => ?_) (fun c1 => ?_)
      · have hf := pn_ifp c1 hf
        exact kx55 x3 H locs ls (Option.some.inj hf).symm hP hS (lv_sub hl [0, 1, 2, 3, 4, 5] rfl)
      · have hf := pn_ifn c1 hf
        refine lv_iload_n hx hb dX4_joinedTo_27 rfl (lv_at hl 3 rfl) ?_
        refine lv_iload hx hb dX4_joinedTo_28 (lv_at hl 6 rfl) ?_
        refine lv_ishr hx hb dX4_joinedTo_30 ?_
        refine lv_iconst (v := (1)) hx hb dX4_joinedTo_31 (by decide) ?_
        refine lv_iand hx hb dX4_joinedTo_32 ?_
        refine lv_iconst (v := (1)) hx hb dX4_joinedTo_33 (by decide) ?_
        refine lv_icmp_ne (tgt := 49) hx hb dX4_joinedTo_34 (by decide) (fun c2 => ?_) (fun c2 => ?_)
        · have hf := pn_ifp c2 hf
          obtain ⟨z3, ez3⟩ : ∃ y : Int32, y = x6 + (1) := ⟨_, rfl⟩
          have hf := pn_nm_at ez3 hf
          refine lv_iinc (v := z3) (lv' := [(6, .int z3), (0, .ref a_t), (1, .int p1), (2, .int p2), (3, .int x3), (4, .int x4), (5, .int x5)]) hx hb dX4_joinedTo_49 hl (k := 6) rfl (by rw [ez3]; rfl) (by decide) rfl (fun ls hl => ?_)
          refine lv_goto (tgt := 20) hx hb dX4_joinedTo_52 (by decide) ?_
          exact ih x3 x4 x5 z3 X H locs ls hf hP hS (lv_sub hl [1, 2, 3, 4, 5, 6, 0] rfl) kx55
        · have hf := pn_ifq c2 hf
          refine lv_iload_n hx hb dX4_joinedTo_37 rfl (lv_at hl 3 rfl) ?_
          refine lv_aload_n hx hb dX4_joinedTo_38 rfl (lv_at hl 0 rfl) ?_
          refine va_get (D := D) (ci := 3) (v := .ref a_t_linked) (C := RX4) (T := TX4) (N := 16) hx hb hts hinX4 hown hK.1 hP 0 rfl rfl 1 (by decide) fl_18 (fun _ h9 => h9) rfl dX4_joinedTo_39 ?_
          refine lv_iload hx hb dX4_joinedTo_42 (lv_at hl 6 rfl) ?_
          obtain ⟨hi5, w4, ew4, hf⟩ := pn_rd_at hf
          refine pn_ldI hx hb hK.1 hP 1 0 rfl rfl hi5 ew4 dX4_joinedTo_44 ?_
          refine lv_iload_n hx hb dX4_joinedTo_45 rfl (lv_at hl 2 rfl) ?_
          refine lv_iand hx hb dX4_joinedTo_46 ?_
          refine lv_ior hx hb dX4_joinedTo_47 ?_
          refine lv_topi (fun z6 ez6 => ?_)
          have hf := pn_nm_at ez6 hf
          refine lv_istore_n (lv' := [(3, .int z6), (0, .ref a_t), (1, .int p1), (2, .int p2), (4, .int x4), (5, .int x5), (6, .int x6)]) hx hb dX4_joinedTo_48 rfl hl (by decide) rfl (fun ls hl => ?_)
          obtain ⟨z7, ez7⟩ : ∃ y : Int32, y = x6 + (1) := ⟨_, rfl⟩
          have hf := pn_nm_at ez7 hf
          refine lv_iinc (v := z7) (lv' := [(6, .int z7), (3, .int z6), (0, .ref a_t), (1, .int p1), (2, .int p2), (4, .int x4), (5, .int x5)]) hx hb dX4_joinedTo_49 hl (k := 6) rfl (by rw [ez7]; rfl) (by decide) rfl (fun ls hl => ?_)
          refine lv_goto (tgt := 20) hx hb dX4_joinedTo_52 (by decide) ?_
          exact ih z6 x4 x5 z7 X H locs ls hf hP hS (lv_sub hl [2, 3, 4, 1, 5, 6, 0] rfl) kx55
  have lp7 : ∀ (n : Nat) (x3 : Int32) (x4 : Int32) (X : Int32 ⊕ Int32) (H : Heap) (locs : List Loc) (ls : Array Slot), lp_X4_joinedTo_7 N r_t_linked p1 p2 n x3 x4 = some X → va_P D vwCl [(a_t, .inr (3, [.ref a_t_paper, .ref a_t_linked, .ref a_t_caseAt, .ref a_t_reasonAt, .ref a_t_firstSlot, .ref a_t_members, .ref a_t_namedBy, .ref a_t_foundBy, .int v_t_linkedVersion, .int v_t_studiedVersion, .int v_t_present, .int v_t_fulls, .int v_t_cases, .int v_t_cited, .int v_t_alive, .int v_t_dead])), (a_t_linked, .inl (cI, 32, .inl r_t_linked))] H → va_S A s.heap H locs → lv_has ls 7 [(0, .ref a_t), (1, .int p1), (2, .int p2), (3, .int x3), (4, .int x4)] → (∀ (y3 : Int32)  (H : Heap) (locs : List Loc) (ls : Array Slot), X = .inl y3 → va_P D vwCl [(a_t, .inr (3, [.ref a_t_paper, .ref a_t_linked, .ref a_t_caseAt, .ref a_t_reasonAt, .ref a_t_firstSlot, .ref a_t_members, .ref a_t_namedBy, .ref a_t_foundBy, .int v_t_linkedVersion, .int v_t_studiedVersion, .int v_t_present, .int v_t_fulls, .int v_t_cases, .int v_t_cited, .int v_t_alive, .int v_t_dead])), (a_t_linked, .inl (cI, 32, .inl r_t_linked))] H → va_S A s.heap H locs → lv_has ls 7 [(3, .int y3)] → W p l e { frames := 0, cells := 0, slots := 0, locals := 0 } s m args below meth c H locs 0 0 Qm (F0 m 61 ls [])) → (∀ (y3 : Int32)  (H : Heap) (locs : List Loc) (ls : Array Slot), X = .inr y3 → va_P D vwCl [(a_t, .inr (3, [.ref a_t_paper, .ref a_t_linked, .ref a_t_caseAt, .ref a_t_reasonAt, .ref a_t_firstSlot, .ref a_t_members, .ref a_t_namedBy, .ref a_t_foundBy, .int v_t_linkedVersion, .int v_t_studiedVersion, .int v_t_present, .int v_t_fulls, .int v_t_cases, .int v_t_cited, .int v_t_alive, .int v_t_dead])), (a_t_linked, .inl (cI, 32, .inl r_t_linked))] H → va_S A s.heap H locs → lv_has ls 7 [(3, .int y3)] → W p l e { frames := 0, cells := 0, slots := 0, locals := 0 } s m args below meth c H locs 0 0 Qm (F0 m 69 ls [])) → W p l e { frames := 0, cells := 0, slots := 0, locals := 0 } s m args below meth c H locs 0 0 Qm (F0 m 7 ls []) := by
    intro n
    induction n with
    | zero => intro x3 x4 X H locs ls hf; cases hf
    | succ n ih =>
      intro x3 x4 X H locs ls hf hP hS hl kx61 kx69
      rw [lp_X4_joinedTo_7] at hf
      refine lv_iload hx hb dX4_joinedTo_7 (lv_at hl 4 rfl) ?_
      refine lv_bipush (v := (32)) hx hb dX4_joinedTo_9 (by decide) ?_
      refine lv_icmp_ge (tgt := 69) hx hb dX4_joinedTo_11 (by decide) (fun c8 => ?_) (fun c8 => ?_)
      · have hf := pn_ifp c8 hf
        exact kx69 x3 H locs ls (Option.some.inj hf).symm hP hS (lv_sub hl [3] rfl)
      · have hf := pn_ifn c8 hf
        refine lv_iload_n hx hb dX4_joinedTo_14 rfl (lv_at hl 3 rfl) ?_
        refine lv_istore (lv' := [(5, .int x3), (0, .ref a_t), (1, .int p1), (2, .int p2), (3, .int x3), (4, .int x4)]) hx hb dX4_joinedTo_15 hl (by decide) rfl (fun ls hl => ?_)
        refine lv_iload_n hx hb dX4_joinedTo_17 rfl (lv_at hl 2 rfl) ?_
        refine lv_istore (lv' := [(6, .int p1), (5, .int x3), (0, .ref a_t), (1, .int p1), (2, .int p2), (3, .int x3), (4, .int x4)]) hx hb dX4_joinedTo_18 hl (by decide) rfl (fun ls hl => ?_)
        obtain ⟨X20, hX20, hf⟩ := pn_bd1_at hf
        refine lp20 N x3 x4 x3 p1 X20 H locs ls hX20 hP hS (lv_sub hl [2, 3, 4, 5, 6, 1, 0] rfl) ?_
        · intro x3_w9 H locs ls eX hP hS hl
          rw [eX] at hf
          have hf := pn_u1_at hf
          refine lv_iload_n hx hb dX4_joinedTo_55 rfl (lv_at hl 3 rfl) ?_
          refine lv_iload hx hb dX4_joinedTo_56 (lv_at hl 5 rfl) ?_
          refine lv_icmp_ne (tgt := 63) hx hb dX4_joinedTo_58 (by decide) (fun c10 => ?_) (fun c10 => ?_)
          · have hf := pn_ifp c10 hf
            obtain ⟨z11, ez11⟩ : ∃ y : Int32, y = x4 + (1) := ⟨_, rfl⟩
            have hf := pn_nm_at ez11 hf
            refine lv_iinc (v := z11) (lv' := [(4, .int z11), (0, .ref a_t), (1, .int p1), (2, .int p2), (3, .int x3_w9), (5, .int x3)]) hx hb dX4_joinedTo_63 hl (k := 4) rfl (by rw [ez11]; rfl) (by decide) rfl (fun ls hl => ?_)
            refine lv_goto (tgt := 7) hx hb dX4_joinedTo_66 (by decide) ?_
            exact ih x3_w9 z11 X H locs ls hf hP hS (lv_sub hl [1, 2, 3, 4, 0] rfl) kx61 kx69
          · have hf := pn_ifq c10 hf
            exact kx61 x3_w9 H locs ls (Option.some.inj hf).symm hP hS (lv_sub hl [3] rfl)
  refine lv_iconst (v := (1)) hx hb dX4_joinedTo_0 (by decide) ?_
  refine lv_iload_n hx hb dX4_joinedTo_1 rfl (lv_at hl 1 rfl) ?_
  refine lv_ishl hx hb dX4_joinedTo_2 ?_
  refine lv_topi (fun z12 ez12 => ?_)
  have hf := pn_nm_at ez12 hf
  refine lv_istore_n (lv' := [(3, .int z12), (0, .ref a_t), (1, .int p1), (2, .int p2)]) hx hb dX4_joinedTo_3 rfl hl (by decide) rfl (fun ls hl => ?_)
  refine lv_iconst (v := (0)) hx hb dX4_joinedTo_4 (by decide) ?_
  refine lv_istore (lv' := [(4, .int (0 : Int32)), (3, .int z12), (0, .ref a_t), (1, .int p1), (2, .int p2)]) hx hb dX4_joinedTo_5 hl (by decide) rfl (fun ls hl => ?_)
  obtain ⟨X7, hX7, hf⟩ := pn_bd1_at hf
  refine lp7 N z12 (0 : Int32) X7 H locs ls hX7 hP hS (lv_sub hl [2, 3, 4, 1, 0] rfl) ?_ ?_
  · intro x3_w13 H locs ls eX hP hS hl
    rw [eX] at hf
    have hf := pn_s2_l hf
    have hf := pn_u1_at hf
    refine lv_iload_n hx hb dX4_joinedTo_61 rfl (lv_at hl 0 rfl) ?_
    cases hf
    rw [hQ]
    exact pn_reti hx hb hr hlocks hP hS rfl dX4_joinedTo_62
  · intro x3_w14 H locs ls eX hP hS hl
    rw [eX] at hf
    have hf := pn_s2_r hf
    have hf := pn_u1_at hf
    refine lv_iload_n hx hb dX4_joinedTo_69 rfl (lv_at hl 0 rfl) ?_
    cases hf
    rw [hQ]
    exact pn_reti hx hb hr hlocks hP hS rfl dX4_joinedTo_70
def lp_X4_addCase_66 (p2 : Int32) (v_t_cases : Int32) : Nat → Int32 → (Nat → Int32) → Option ((Nat → Int32))
  | 0, _, _ => none
  | n + 1, x4, r_t_caseAt =>
    if (32 : Int32) ≤ x4 then
  some r_t_caseAt
  else
  if ¬ ((p2 >>> (x4 &&& 31)) &&& (1 : Int32)) = (1 : Int32) then
  pn_nm (x4 + (1 : Int32)) fun z3 =>
  lp_X4_addCase_66 p2 v_t_cases n z3 r_t_caseAt
  else
  pn_wrI 32 r_t_caseAt x4 v_t_cases fun g4 =>
  pn_nm (x4 + (1 : Int32)) fun z6 =>
  lp_X4_addCase_66 p2 v_t_cases n z6 g4
def j_X4_addCase_43 (N : Nat) (p1 : Int32) (p2 : Int32) (v_t_cases : Int32) (r_t_caseAt : Nat → Int32) (r_t_firstSlot : Nat → Int32) (r_t_members : Nat → Int32) (r_t_namedBy : Nat → Int32) : Option (Int32 × (Nat → Int32) × (Nat → Int32) × (Nat → Int32) × (Nat → Int32)) :=
  pn_wrI 32 r_t_firstSlot v_t_cases p1 fun g7 =>
  pn_wrI 32 r_t_members v_t_cases p2 fun g9 =>
  pn_bd1 (lp_X4_addCase_66 p2 v_t_cases N p1 r_t_caseAt) (fun X66 => (pn_u1 fun r_t_caseAt_w11 => pn_nm (v_t_cases + (1 : Int32)) fun z12 =>
  some (z12, r_t_caseAt_w11, g7, g9, r_t_namedBy)) X66)
def f_X4_addCase (N : Nat) (v_t_cases : Int32) (r_t_caseAt : Nat → Int32) (r_t_firstSlot : Nat → Int32) (r_t_members : Nat → Int32) (r_t_namedBy : Nat → Int32) (r_t_paper_cites : Nat → Int64) (p1 : Int32) (p2 : Int32) : Option (Int32 × (Nat → Int32) × (Nat → Int32) × (Nat → Int32) × (Nat → Int32)) :=
  if v_t_cases < (32 : Int32) then
  pn_bd1 (f_X1_cite r_t_paper_cites p1) fun ru14 =>
  pn_bd1 (f_X0_first ru14) fun ru15 =>
  if (6 : Int32) ≤ ru15 then
  j_X4_addCase_43 N p1 p2 v_t_cases r_t_caseAt r_t_firstSlot r_t_members r_t_namedBy
  else
  pn_rd 6 r_t_namedBy ru15 fun w17 =>
  pn_wrI 6 r_t_namedBy ru15 (w17 ||| ((1 : Int32) <<< (v_t_cases &&& 31))) fun g19 =>
  j_X4_addCase_43 N p1 p2 v_t_cases r_t_caseAt r_t_firstSlot r_t_members g19
  else
  some (v_t_cases, r_t_caseAt, r_t_firstSlot, r_t_members, r_t_namedBy)
set_option maxHeartbeats 4000000 in
set_option maxRecDepth 100000 in
theorem c_X4_addCase (l : Launch) (D : va_G) (cI cJ cZ : ClassId) (a_t a_t_paper a_t_linked a_t_caseAt a_t_reasonAt a_t_firstSlot a_t_members a_t_namedBy a_t_foundBy a_t_paper_sizes a_t_paper_cites : Nat) (sz : Nat) (v_t_linkedVersion : Int32) (v_t_studiedVersion : Int32) (v_t_present : Int32) (v_t_fulls : Int32) (v_t_cited : Int32) (v_t_alive : Int32) (v_t_dead : Int32) (v_t_paper_notes : Int32) (v_t_paper_version : Int32) (N : Nat) (v_t_cases : Int32) (r_t_caseAt : Nat → Int32) (r_t_firstSlot : Nat → Int32) (r_t_members : Nat → Int32) (r_t_namedBy : Nat → Int32) (r_t_paper_cites : Nat → Int64) (p1 : Int32) (p2 : Int32) (o_t_cases : Int32) (o_t_caseAt : Nat → Int32) (o_t_firstSlot : Nat → Int32) (o_t_members : Nat → Int32) (o_t_namedBy : Nat → Int32) (hf : f_X4_addCase N v_t_cases r_t_caseAt r_t_firstSlot r_t_members r_t_namedBy r_t_paper_cites p1 p2 = some (o_t_cases, o_t_caseAt, o_t_firstSlot, o_t_members, o_t_namedBy)) : Met l yX4_addCase wsX4_addCase { frames := 1, cells := 0, slots := 0, locals := 21 } (pn_Pc D cI cJ cZ [.ref a_t, .int p1, .int p2] [(a_t, .inr (3, [.ref a_t_paper, .ref a_t_linked, .ref a_t_caseAt, .ref a_t_reasonAt, .ref a_t_firstSlot, .ref a_t_members, .ref a_t_namedBy, .ref a_t_foundBy, .int v_t_linkedVersion, .int v_t_studiedVersion, .int v_t_present, .int v_t_fulls, .int v_t_cases, .int v_t_cited, .int v_t_alive, .int v_t_dead])), (a_t_caseAt, .inl (cI, 32, .inl r_t_caseAt)), (a_t_firstSlot, .inl (cI, 32, .inl r_t_firstSlot)), (a_t_members, .inl (cI, 32, .inl r_t_members)), (a_t_namedBy, .inl (cI, 6, .inl r_t_namedBy)), (a_t_paper, .inr (0, [.ref a_t_paper_sizes, .ref a_t_paper_cites, .int v_t_paper_notes, .int v_t_paper_version])), (a_t_paper_cites, .inl (cJ, 32, .inr (.inl r_t_paper_cites)))] sz) (pn_Qv D [(a_t, .inr (3, [.ref a_t_paper, .ref a_t_linked, .ref a_t_caseAt, .ref a_t_reasonAt, .ref a_t_firstSlot, .ref a_t_members, .ref a_t_namedBy, .ref a_t_foundBy, .int v_t_linkedVersion, .int v_t_studiedVersion, .int v_t_present, .int v_t_fulls, .int o_t_cases, .int v_t_cited, .int v_t_alive, .int v_t_dead])), (a_t_caseAt, .inl (cI, 32, .inl o_t_caseAt)), (a_t_firstSlot, .inl (cI, 32, .inl o_t_firstSlot)), (a_t_members, .inl (cI, 32, .inl o_t_members)), (a_t_namedBy, .inl (cI, 6, .inl o_t_namedBy)), (a_t_paper, .inr (0, [.ref a_t_paper_sizes, .ref a_t_paper_cites, .int v_t_paper_notes, .int v_t_paper_version])), (a_t_paper_cites, .inl (cJ, 32, .inr (.inl r_t_paper_cites)))] (va_A [(a_t, .inr (3, [.ref a_t_paper, .ref a_t_linked, .ref a_t_caseAt, .ref a_t_reasonAt, .ref a_t_firstSlot, .ref a_t_members, .ref a_t_namedBy, .ref a_t_foundBy, .int v_t_linkedVersion, .int v_t_studiedVersion, .int v_t_present, .int v_t_fulls, .int v_t_cases, .int v_t_cited, .int v_t_alive, .int v_t_dead])), (a_t_caseAt, .inl (cI, 32, .inl r_t_caseAt)), (a_t_firstSlot, .inl (cI, 32, .inl r_t_firstSlot)), (a_t_members, .inl (cI, 32, .inl r_t_members)), (a_t_namedBy, .inl (cI, 6, .inl r_t_namedBy)), (a_t_paper, .inr (0, [.ref a_t_paper_sizes, .ref a_t_paper_cites, .int v_t_paper_notes, .int v_t_paper_version])), (a_t_paper_cites, .inl (cJ, 32, .inr (.inl r_t_paper_cites)))] sz)) 0 0 (va_A [(a_t, .inr (3, [.ref a_t_paper, .ref a_t_linked, .ref a_t_caseAt, .ref a_t_reasonAt, .ref a_t_firstSlot, .ref a_t_members, .ref a_t_namedBy, .ref a_t_foundBy, .int v_t_linkedVersion, .int v_t_studiedVersion, .int v_t_present, .int v_t_fulls, .int v_t_cases, .int v_t_cited, .int v_t_alive, .int v_t_dead])), (a_t_caseAt, .inl (cI, 32, .inl r_t_caseAt)), (a_t_firstSlot, .inl (cI, 32, .inl r_t_firstSlot)), (a_t_members, .inl (cI, 32, .inl r_t_members)), (a_t_namedBy, .inl (cI, 6, .inl r_t_namedBy)), (a_t_paper, .inr (0, [.ref a_t_paper_sizes, .ref a_t_paper_cites, .int v_t_paper_notes, .int v_t_paper_version])), (a_t_paper_cites, .inl (cJ, 32, .inr (.inl r_t_paper_cites)))] sz) := by
  refine pn_entry (cc := cX4_addCase) (maxL := 5) (ret := none) (Qf := pn_Qv D [(a_t, .inr (3, [.ref a_t_paper, .ref a_t_linked, .ref a_t_caseAt, .ref a_t_reasonAt, .ref a_t_firstSlot, .ref a_t_members, .ref a_t_namedBy, .ref a_t_foundBy, .int v_t_linkedVersion, .int v_t_studiedVersion, .int v_t_present, .int v_t_fulls, .int o_t_cases, .int v_t_cited, .int v_t_alive, .int v_t_dead])), (a_t_caseAt, .inl (cI, 32, .inl o_t_caseAt)), (a_t_firstSlot, .inl (cI, 32, .inl o_t_firstSlot)), (a_t_members, .inl (cI, 32, .inl o_t_members)), (a_t_namedBy, .inl (cI, 6, .inl o_t_namedBy)), (a_t_paper, .inr (0, [.ref a_t_paper_sizes, .ref a_t_paper_cites, .int v_t_paper_notes, .int v_t_paper_version])), (a_t_paper_cites, .inl (cJ, 32, .inr (.inl r_t_paper_cites)))]) (by decide) rfl (Nat.le_of_ble_eq_true rfl) ?_
  intro p e s m args below meth c A ls H locs Qm hQ hx hb hr hlocks hml hown hts hK hP hD hA hS hl
  have hl : lv_has ls 5 [(0, .ref a_t), (1, .int p1), (2, .int p2)] := hl
  have hinX4 : ∀ w ∈ wsX40, w ∈ wsX4_addCase := by decide +kernel
  have fl_12 := hts (.fieldLink RX4 12 "PointingNotes$Study" "paper" "LPointingNotes$Paper;") (by decide +kernel)
  have fl_22 := hts (.fieldLink RX4 22 "PointingNotes$Study" "caseAt" "[I") (by decide +kernel)
  have fl_28 := hts (.fieldLink RX4 28 "PointingNotes$Study" "firstSlot" "[I") (by decide +kernel)
  have fl_31 := hts (.fieldLink RX4 31 "PointingNotes$Study" "members" "[I") (by decide +kernel)
  have fl_34 := hts (.fieldLink RX4 34 "PointingNotes$Study" "namedBy" "[I") (by decide +kernel)
  have fl_47 := hts (.fieldLink RX4 47 "PointingNotes$Study" "cases" "I") (by decide +kernel)
  rw [f_X4_addCase] at hf
  have lp66 : ∀ (n : Nat) (x4 : Int32) (v_t_cases : Int32) (r_t_caseAt : Nat → Int32) (r_t_firstSlot : Nat → Int32) (r_t_members : Nat → Int32) (r_t_namedBy : Nat → Int32) (X : (Nat → Int32)) (H : Heap) (locs : List Loc) (ls : Array Slot), lp_X4_addCase_66 p2 v_t_cases n x4 r_t_caseAt = some X → va_P D vwCl [(a_t, .inr (3, [.ref a_t_paper, .ref a_t_linked, .ref a_t_caseAt, .ref a_t_reasonAt, .ref a_t_firstSlot, .ref a_t_members, .ref a_t_namedBy, .ref a_t_foundBy, .int v_t_linkedVersion, .int v_t_studiedVersion, .int v_t_present, .int v_t_fulls, .int v_t_cases, .int v_t_cited, .int v_t_alive, .int v_t_dead])), (a_t_caseAt, .inl (cI, 32, .inl r_t_caseAt)), (a_t_firstSlot, .inl (cI, 32, .inl r_t_firstSlot)), (a_t_members, .inl (cI, 32, .inl r_t_members)), (a_t_namedBy, .inl (cI, 6, .inl r_t_namedBy)), (a_t_paper, .inr (0, [.ref a_t_paper_sizes, .ref a_t_paper_cites, .int v_t_paper_notes, .int v_t_paper_version])), (a_t_paper_cites, .inl (cJ, 32, .inr (.inl r_t_paper_cites)))] H → va_S A s.heap H locs → lv_has ls 5 [(0, .ref a_t), (2, .int p2), (4, .int x4)] → (∀  (r_t_caseAt' : Nat → Int32) (H : Heap) (locs : List Loc) (ls : Array Slot), X = r_t_caseAt' → va_P D vwCl [(a_t, .inr (3, [.ref a_t_paper, .ref a_t_linked, .ref a_t_caseAt, .ref a_t_reasonAt, .ref a_t_firstSlot, .ref a_t_members, .ref a_t_namedBy, .ref a_t_foundBy, .int v_t_linkedVersion, .int v_t_studiedVersion, .int v_t_present, .int v_t_fulls, .int v_t_cases, .int v_t_cited, .int v_t_alive, .int v_t_dead])), (a_t_caseAt, .inl (cI, 32, .inl (r_t_caseAt'))), (a_t_firstSlot, .inl (cI, 32, .inl r_t_firstSlot)), (a_t_members, .inl (cI, 32, .inl r_t_members)), (a_t_namedBy, .inl (cI, 6, .inl r_t_namedBy)), (a_t_paper, .inr (0, [.ref a_t_paper_sizes, .ref a_t_paper_cites, .int v_t_paper_notes, .int v_t_paper_version])), (a_t_paper_cites, .inl (cJ, 32, .inr (.inl r_t_paper_cites)))] H → va_S A s.heap H locs → lv_has ls 5 [(0, .ref a_t)] → W p l e { frames := 1, cells := 0, slots := 0, locals := 21 } s m args below meth c H locs 0 0 Qm (F0 m 100 ls [])) → W p l e { frames := 1, cells := 0, slots := 0, locals := 21 } s m args below meth c H locs 0 0 Qm (F0 m 66 ls []) := by
    intro n
    induction n with
    | zero => intro x4 v_t_cases r_t_caseAt r_t_firstSlot r_t_members r_t_namedBy X H locs ls hf; cases hf
    | succ n ih =>
      intro x4 v_t_cases r_t_caseAt r_t_firstSlot r_t_members r_t_namedBy X H locs ls hf hP hS hl kx100
      rw [lp_X4_addCase_66] at hf
      refine lv_iload hx hb dX4_addCase_66 (lv_at hl 2 rfl) ?_
      refine lv_bipush (v := (32)) hx hb dX4_addCase_68 (by decide) ?_
      refine lv_icmp_ge (tgt := 100) hx hb dX4_addCase_70 (by decide) (fun c1 => ?_) (fun c1 => ?_)
      · have hf := pn_ifp c1 hf
        exact kx100 r_t_caseAt H locs ls (Option.some.inj hf).symm hP hS (lv_sub hl [0] rfl)
      · have hf := pn_ifn c1 hf
        refine lv_iload_n hx hb dX4_addCase_73 rfl (lv_at hl 1 rfl) ?_
        refine lv_iload hx hb dX4_addCase_74 (lv_at hl 2 rfl) ?_
        refine lv_ishr hx hb dX4_addCase_76 ?_
        refine lv_iconst (v := (1)) hx hb dX4_addCase_77 (by decide) ?_
        refine lv_iand hx hb dX4_addCase_78 ?_
        refine lv_iconst (v := (1)) hx hb dX4_addCase_79 (by decide) ?_
        refine lv_icmp_ne (tgt := 94) hx hb dX4_addCase_80 (by decide) (fun c2 => ?_) (fun c2 => ?_)
        · have hf := pn_ifp c2 hf
          obtain ⟨z3, ez3⟩ : ∃ y : Int32, y = x4 + (1) := ⟨_, rfl⟩
          have hf := pn_nm_at ez3 hf
          refine lv_iinc (v := z3) (lv' := [(4, .int z3), (0, .ref a_t), (2, .int p2)]) hx hb dX4_addCase_94 hl (k := 2) rfl (by rw [ez3]; rfl) (by decide) rfl (fun ls hl => ?_)
          refine lv_goto (tgt := 66) hx hb dX4_addCase_97 (by decide) ?_
          exact ih z3 v_t_cases r_t_caseAt r_t_firstSlot r_t_members r_t_namedBy X H locs ls hf hP hS (lv_sub hl [1, 2, 0] rfl) kx100
        · have hf := pn_ifq c2 hf
          refine lv_aload_n hx hb dX4_addCase_83 rfl (lv_at hl 0 rfl) ?_
          refine va_get (D := D) (ci := 3) (v := .ref a_t_caseAt) (C := RX4) (T := TX4) (N := 16) hx hb hts hinX4 hown hK.1 hP 0 rfl rfl 2 (by decide) fl_22 (fun _ h9 => h9) rfl dX4_addCase_84 ?_
          refine lv_iload hx hb dX4_addCase_87 (lv_at hl 2 rfl) ?_
          refine lv_aload_n hx hb dX4_addCase_89 rfl (lv_at hl 0 rfl) ?_
          refine va_get (D := D) (ci := 3) (v := .int v_t_cases) (C := RX4) (T := TX4) (N := 16) hx hb hts hinX4 hown hK.1 hP 0 rfl rfl 12 (by decide) fl_47 (fun _ h9 => h9) rfl dX4_addCase_90 ?_
          obtain ⟨hi5, g4, eg4, hf⟩ := pn_wrI_at hf
          refine pn_stI hx hb hK.1 hP (hD.addr rfl) hS 1 0 rfl rfl hi5 eg4 dX4_addCase_93 (fun H locs (hP : va_P D vwCl [(a_t, .inr (3, [.ref a_t_paper, .ref a_t_linked, .ref a_t_caseAt, .ref a_t_reasonAt, .ref a_t_firstSlot, .ref a_t_members, .ref a_t_namedBy, .ref a_t_foundBy, .int v_t_linkedVersion, .int v_t_studiedVersion, .int v_t_present, .int v_t_fulls, .int v_t_cases, .int v_t_cited, .int v_t_alive, .int v_t_dead])), (a_t_caseAt, .inl (cI, 32, .inl g4)), (a_t_firstSlot, .inl (cI, 32, .inl r_t_firstSlot)), (a_t_members, .inl (cI, 32, .inl r_t_members)), (a_t_namedBy, .inl (cI, 6, .inl r_t_namedBy)), (a_t_paper, .inr (0, [.ref a_t_paper_sizes, .ref a_t_paper_cites, .int v_t_paper_notes, .int v_t_paper_version])), (a_t_paper_cites, .inl (cJ, 32, .inr (.inl r_t_paper_cites)))] H) _ hS => ?_)
          obtain ⟨z6, ez6⟩ : ∃ y : Int32, y = x4 + (1) := ⟨_, rfl⟩
          have hf := pn_nm_at ez6 hf
          refine lv_iinc (v := z6) (lv' := [(4, .int z6), (0, .ref a_t), (2, .int p2)]) hx hb dX4_addCase_94 hl (k := 2) rfl (by rw [ez6]; rfl) (by decide) rfl (fun ls hl => ?_)
          refine lv_goto (tgt := 66) hx hb dX4_addCase_97 (by decide) ?_
          exact ih z6 v_t_cases g4 r_t_firstSlot r_t_members r_t_namedBy X H locs ls hf hP hS (lv_sub hl [1, 2, 0] rfl) kx100
  have jn43 : ∀ (v_t_cases : Int32) (r_t_caseAt : Nat → Int32) (r_t_firstSlot : Nat → Int32) (r_t_members : Nat → Int32) (r_t_namedBy : Nat → Int32) (H : Heap) (locs : List Loc) (ls : Array Slot), j_X4_addCase_43 N p1 p2 v_t_cases r_t_caseAt r_t_firstSlot r_t_members r_t_namedBy = some (o_t_cases, o_t_caseAt, o_t_firstSlot, o_t_members, o_t_namedBy) → va_P D vwCl [(a_t, .inr (3, [.ref a_t_paper, .ref a_t_linked, .ref a_t_caseAt, .ref a_t_reasonAt, .ref a_t_firstSlot, .ref a_t_members, .ref a_t_namedBy, .ref a_t_foundBy, .int v_t_linkedVersion, .int v_t_studiedVersion, .int v_t_present, .int v_t_fulls, .int v_t_cases, .int v_t_cited, .int v_t_alive, .int v_t_dead])), (a_t_caseAt, .inl (cI, 32, .inl r_t_caseAt)), (a_t_firstSlot, .inl (cI, 32, .inl r_t_firstSlot)), (a_t_members, .inl (cI, 32, .inl r_t_members)), (a_t_namedBy, .inl (cI, 6, .inl r_t_namedBy)), (a_t_paper, .inr (0, [.ref a_t_paper_sizes, .ref a_t_paper_cites, .int v_t_paper_notes, .int v_t_paper_version])), (a_t_paper_cites, .inl (cJ, 32, .inr (.inl r_t_paper_cites)))] H → va_S A s.heap H locs → lv_has ls 5 [(0, .ref a_t), (1, .int p1), (2, .int p2)] → W p l e { frames := 1, cells := 0, slots := 0, locals := 21 } s m args below meth c H locs 0 0 Qm (F0 m 43 ls []) := by
    intro v_t_cases r_t_caseAt r_t_firstSlot r_t_members r_t_namedBy H locs ls hf hP hS hl
    rw [j_X4_addCase_43] at hf
    refine lv_aload_n hx hb dX4_addCase_43 rfl (lv_at hl 0 rfl) ?_
    refine va_get (D := D) (ci := 3) (v := .ref a_t_firstSlot) (C := RX4) (T := TX4) (N := 16) hx hb hts hinX4 hown hK.1 hP 0 rfl rfl 4 (by decide) fl_28 (fun _ h9 => h9) rfl dX4_addCase_44 ?_
    refine lv_aload_n hx hb dX4_addCase_47 rfl (lv_at hl 0 rfl) ?_
    refine va_get (D := D) (ci := 3) (v := .int v_t_cases) (C := RX4) (T := TX4) (N := 16) hx hb hts hinX4 hown hK.1 hP 0 rfl rfl 12 (by decide) fl_47 (fun _ h9 => h9) rfl dX4_addCase_48 ?_
    refine lv_iload_n hx hb dX4_addCase_51 rfl (lv_at hl 1 rfl) ?_
    obtain ⟨hi8, g7, eg7, hf⟩ := pn_wrI_at hf
    refine pn_stI hx hb hK.1 hP (hD.addr rfl) hS 2 0 rfl rfl hi8 eg7 dX4_addCase_52 (fun H locs (hP : va_P D vwCl [(a_t, .inr (3, [.ref a_t_paper, .ref a_t_linked, .ref a_t_caseAt, .ref a_t_reasonAt, .ref a_t_firstSlot, .ref a_t_members, .ref a_t_namedBy, .ref a_t_foundBy, .int v_t_linkedVersion, .int v_t_studiedVersion, .int v_t_present, .int v_t_fulls, .int v_t_cases, .int v_t_cited, .int v_t_alive, .int v_t_dead])), (a_t_caseAt, .inl (cI, 32, .inl r_t_caseAt)), (a_t_firstSlot, .inl (cI, 32, .inl g7)), (a_t_members, .inl (cI, 32, .inl r_t_members)), (a_t_namedBy, .inl (cI, 6, .inl r_t_namedBy)), (a_t_paper, .inr (0, [.ref a_t_paper_sizes, .ref a_t_paper_cites, .int v_t_paper_notes, .int v_t_paper_version])), (a_t_paper_cites, .inl (cJ, 32, .inr (.inl r_t_paper_cites)))] H) _ hS => ?_)
    refine lv_aload_n hx hb dX4_addCase_53 rfl (lv_at hl 0 rfl) ?_
    refine va_get (D := D) (ci := 3) (v := .ref a_t_members) (C := RX4) (T := TX4) (N := 16) hx hb hts hinX4 hown hK.1 hP 0 rfl rfl 5 (by decide) fl_31 (fun _ h9 => h9) rfl dX4_addCase_54 ?_
    refine lv_aload_n hx hb dX4_addCase_57 rfl (lv_at hl 0 rfl) ?_
    refine va_get (D := D) (ci := 3) (v := .int v_t_cases) (C := RX4) (T := TX4) (N := 16) hx hb hts hinX4 hown hK.1 hP 0 rfl rfl 12 (by decide) fl_47 (fun _ h9 => h9) rfl dX4_addCase_58 ?_
    refine lv_iload_n hx hb dX4_addCase_61 rfl (lv_at hl 2 rfl) ?_
    obtain ⟨hi10, g9, eg9, hf⟩ := pn_wrI_at hf
    refine pn_stI hx hb hK.1 hP (hD.addr rfl) hS 3 0 rfl rfl hi10 eg9 dX4_addCase_62 (fun H locs (hP : va_P D vwCl [(a_t, .inr (3, [.ref a_t_paper, .ref a_t_linked, .ref a_t_caseAt, .ref a_t_reasonAt, .ref a_t_firstSlot, .ref a_t_members, .ref a_t_namedBy, .ref a_t_foundBy, .int v_t_linkedVersion, .int v_t_studiedVersion, .int v_t_present, .int v_t_fulls, .int v_t_cases, .int v_t_cited, .int v_t_alive, .int v_t_dead])), (a_t_caseAt, .inl (cI, 32, .inl r_t_caseAt)), (a_t_firstSlot, .inl (cI, 32, .inl g7)), (a_t_members, .inl (cI, 32, .inl g9)), (a_t_namedBy, .inl (cI, 6, .inl r_t_namedBy)), (a_t_paper, .inr (0, [.ref a_t_paper_sizes, .ref a_t_paper_cites, .int v_t_paper_notes, .int v_t_paper_version])), (a_t_paper_cites, .inl (cJ, 32, .inr (.inl r_t_paper_cites)))] H) _ hS => ?_)
    refine lv_iload_n hx hb dX4_addCase_63 rfl (lv_at hl 1 rfl) ?_
    refine lv_istore (lv' := [(4, .int p1), (0, .ref a_t), (1, .int p1), (2, .int p2)]) hx hb dX4_addCase_64 hl (by decide) rfl (fun ls hl => ?_)
    obtain ⟨X66, hX66, hf⟩ := pn_bd1_at hf
    refine lp66 N p1 v_t_cases r_t_caseAt g7 g9 r_t_namedBy X66 H locs ls hX66 hP hS (lv_sub hl [1, 3, 0] rfl) ?_
    · intro r_t_caseAt_w11 H locs ls eX hP hS hl
      rw [eX] at hf
      have hf := pn_u1_at hf
      refine lv_aload_n hx hb dX4_addCase_100 rfl (lv_at hl 0 rfl) ?_
      refine lv_dup hx hb dX4_addCase_101 rfl ?_
      refine va_get (D := D) (ci := 3) (v := .int v_t_cases) (C := RX4) (T := TX4) (N := 16) hx hb hts hinX4 hown hK.1 hP 0 rfl rfl 12 (by decide) fl_47 (fun _ h9 => h9) rfl dX4_addCase_102 ?_
      refine lv_iconst (v := (1)) hx hb dX4_addCase_105 (by decide) ?_
      refine lv_iadd hx hb dX4_addCase_106 ?_
      refine lv_topi (fun z12 ez12 => ?_)
      have hf := pn_nm_at ez12 hf
      refine va_put (D := D) (ci := 3) (v := .int z12) (ty := .int) (C := RX4) (T := TX4) (N := 16) hx hb hts hinX4 tyX4 tyX4_ok nmX4 hown hK.1 hP (hD.addr rfl) hS 0 rfl rfl 12 (by decide) fl_47 (fun _ h9 => h9) rfl (by decide +kernel) rfl rfl (Nat.le_of_ble_eq_true rfl) dX4_addCase_107 (fun H locs (hP : va_P D vwCl [(a_t, .inr (3, [.ref a_t_paper, .ref a_t_linked, .ref a_t_caseAt, .ref a_t_reasonAt, .ref a_t_firstSlot, .ref a_t_members, .ref a_t_namedBy, .ref a_t_foundBy, .int v_t_linkedVersion, .int v_t_studiedVersion, .int v_t_present, .int v_t_fulls, .int z12, .int v_t_cited, .int v_t_alive, .int v_t_dead])), (a_t_caseAt, .inl (cI, 32, .inl r_t_caseAt_w11)), (a_t_firstSlot, .inl (cI, 32, .inl g7)), (a_t_members, .inl (cI, 32, .inl g9)), (a_t_namedBy, .inl (cI, 6, .inl r_t_namedBy)), (a_t_paper, .inr (0, [.ref a_t_paper_sizes, .ref a_t_paper_cites, .int v_t_paper_notes, .int v_t_paper_version])), (a_t_paper_cites, .inl (cJ, 32, .inr (.inl r_t_paper_cites)))] H) _ hS => ?_)
      cases hf
      rw [hQ]
      exact pn_retv hx hb hr hlocks hP hS dX4_addCase_110
  refine lv_aload_n hx hb dX4_addCase_0 rfl (lv_at hl 0 rfl) ?_
  refine va_get (D := D) (ci := 3) (v := .int v_t_cases) (C := RX4) (T := TX4) (N := 16) hx hb hts hinX4 hown hK.1 hP 0 rfl rfl 12 (by decide) fl_47 (fun _ h9 => h9) rfl dX4_addCase_1 ?_
  refine lv_bipush (v := (32)) hx hb dX4_addCase_4 (by decide) ?_
  refine lv_icmp_lt (tgt := 10) hx hb dX4_addCase_6 (by decide) (fun c13 => ?_) (fun c13 => ?_)
  · have hf := pn_ifp c13 hf
    refine lv_aload_n hx hb dX4_addCase_10 rfl (lv_at hl 0 rfl) ?_
    refine va_get (D := D) (ci := 3) (v := .ref a_t_paper) (C := RX4) (T := TX4) (N := 16) hx hb hts hinX4 hown hK.1 hP 0 rfl rfl 0 (by decide) fl_12 (fun _ h9 => h9) rfl dX4_addCase_11 ?_
    refine lv_iload_n hx hb dX4_addCase_14 rfl (lv_at hl 1 rfl) ?_
    obtain ⟨ru14, hu14, hf⟩ := pn_bd1_at hf
    refine pn_calll [5, 6] (va_runV (As := [.int p1]) (rest := []) ⟨hx, hb, hml, hown, hts⟩ (c_X1_cite l D cI cJ cZ a_t_paper a_t_paper_sizes a_t_paper_cites H.size v_t_paper_notes v_t_paper_version r_t_paper_cites p1 ru14 hu14) (cwV 1 hts gX4_addCase_X1_cite rfl rfl rfl hdX1_cite ⟨Nat.le_of_ble_eq_true rfl, Nat.le_of_ble_eq_true rfl⟩) (pn_preV [5, 6] hP (hD.addr rfl) hK rfl rfl (q0 := 5) (ci := 0) rfl rfl) rfl rfl hl.1 rfl (lv_room (Nat.le_of_ble_eq_true rfl)) dX4_addCase_15 ⟨Nat.zero_le _, Nat.zero_le _⟩) hP (hD.addr rfl) hS hA rfl rfl rfl (fun H locs (hP : va_P D vwCl [(a_t, .inr (3, [.ref a_t_paper, .ref a_t_linked, .ref a_t_caseAt, .ref a_t_reasonAt, .ref a_t_firstSlot, .ref a_t_members, .ref a_t_namedBy, .ref a_t_foundBy, .int v_t_linkedVersion, .int v_t_studiedVersion, .int v_t_present, .int v_t_fulls, .int v_t_cases, .int v_t_cited, .int v_t_alive, .int v_t_dead])), (a_t_caseAt, .inl (cI, 32, .inl r_t_caseAt)), (a_t_firstSlot, .inl (cI, 32, .inl r_t_firstSlot)), (a_t_members, .inl (cI, 32, .inl r_t_members)), (a_t_namedBy, .inl (cI, 6, .inl r_t_namedBy)), (a_t_paper, .inr (0, [.ref a_t_paper_sizes, .ref a_t_paper_cites, .int v_t_paper_notes, .int v_t_paper_version])), (a_t_paper_cites, .inl (cJ, 32, .inr (.inl r_t_paper_cites)))] H) _ hS => ?_)
    obtain ⟨ru15, hu15, hf⟩ := pn_bd1_at hf
    refine pn_calli [] (va_runS (As := [.long ru14]) (rest := []) ⟨hx, hb, hml, hown, hts⟩ (c_X0_first l D cI cJ cZ H.size ru14 ru15 hu15) (va_cwS 1 hts gX4_addCase_X0_first rfl rfl rfl hdX0_first ⟨Nat.le_of_ble_eq_true rfl, Nat.le_of_ble_eq_true rfl⟩) (pn_preS [] hP (hD.addr rfl) hK rfl rfl) rfl rfl hl.1 rfl (lv_room (Nat.le_of_ble_eq_true rfl)) dX4_addCase_18 ⟨Nat.zero_le _, Nat.zero_le _⟩) hP (hD.addr rfl) hS hA rfl rfl rfl (fun H locs (hP : va_P D vwCl [(a_t, .inr (3, [.ref a_t_paper, .ref a_t_linked, .ref a_t_caseAt, .ref a_t_reasonAt, .ref a_t_firstSlot, .ref a_t_members, .ref a_t_namedBy, .ref a_t_foundBy, .int v_t_linkedVersion, .int v_t_studiedVersion, .int v_t_present, .int v_t_fulls, .int v_t_cases, .int v_t_cited, .int v_t_alive, .int v_t_dead])), (a_t_caseAt, .inl (cI, 32, .inl r_t_caseAt)), (a_t_firstSlot, .inl (cI, 32, .inl r_t_firstSlot)), (a_t_members, .inl (cI, 32, .inl r_t_members)), (a_t_namedBy, .inl (cI, 6, .inl r_t_namedBy)), (a_t_paper, .inr (0, [.ref a_t_paper_sizes, .ref a_t_paper_cites, .int v_t_paper_notes, .int v_t_paper_version])), (a_t_paper_cites, .inl (cJ, 32, .inr (.inl r_t_paper_cites)))] H) _ hS => ?_)
    refine lv_istore_n (lv' := [(3, .int ru15), (0, .ref a_t), (1, .int p1), (2, .int p2)]) hx hb dX4_addCase_21 rfl hl (by decide) rfl (fun ls hl => ?_)
    refine lv_iload_n hx hb dX4_addCase_22 rfl (lv_at hl 0 rfl) ?_
    refine lv_bipush (v := (6)) hx hb dX4_addCase_23 (by decide) ?_
    refine lv_icmp_ge (tgt := 43) hx hb dX4_addCase_25 (by decide) (fun c16 => ?_) (fun c16 => ?_)
    · have hf := pn_ifp c16 hf
      exact jn43 v_t_cases r_t_caseAt r_t_firstSlot r_t_members r_t_namedBy H locs ls hf hP hS (lv_sub hl [1, 2, 3] rfl)
    · have hf := pn_ifn c16 hf
      refine lv_aload_n hx hb dX4_addCase_28 rfl (lv_at hl 1 rfl) ?_
      refine va_get (D := D) (ci := 3) (v := .ref a_t_namedBy) (C := RX4) (T := TX4) (N := 16) hx hb hts hinX4 hown hK.1 hP 0 rfl rfl 6 (by decide) fl_34 (fun _ h9 => h9) rfl dX4_addCase_29 ?_
      refine lv_iload_n hx hb dX4_addCase_32 rfl (lv_at hl 0 rfl) ?_
      refine lv_dup2_11 hx hb dX4_addCase_33 rfl rfl ?_
      obtain ⟨hi18, w17, ew17, hf⟩ := pn_rd_at hf
      refine pn_ldI hx hb hK.1 hP 4 0 rfl rfl hi18 ew17 dX4_addCase_34 ?_
      refine lv_iconst (v := (1)) hx hb dX4_addCase_35 (by decide) ?_
      refine lv_aload_n hx hb dX4_addCase_36 rfl (lv_at hl 1 rfl) ?_
      refine va_get (D := D) (ci := 3) (v := .int v_t_cases) (C := RX4) (T := TX4) (N := 16) hx hb hts hinX4 hown hK.1 hP 0 rfl rfl 12 (by decide) fl_47 (fun _ h9 => h9) rfl dX4_addCase_37 ?_
      refine lv_ishl hx hb dX4_addCase_40 ?_
      refine lv_ior hx hb dX4_addCase_41 ?_
      obtain ⟨hi20, g19, eg19, hf⟩ := pn_wrI_at hf
      refine pn_stI hx hb hK.1 hP (hD.addr rfl) hS 4 0 rfl rfl hi20 eg19 dX4_addCase_42 (fun H locs (hP : va_P D vwCl [(a_t, .inr (3, [.ref a_t_paper, .ref a_t_linked, .ref a_t_caseAt, .ref a_t_reasonAt, .ref a_t_firstSlot, .ref a_t_members, .ref a_t_namedBy, .ref a_t_foundBy, .int v_t_linkedVersion, .int v_t_studiedVersion, .int v_t_present, .int v_t_fulls, .int v_t_cases, .int v_t_cited, .int v_t_alive, .int v_t_dead])), (a_t_caseAt, .inl (cI, 32, .inl r_t_caseAt)), (a_t_firstSlot, .inl (cI, 32, .inl r_t_firstSlot)), (a_t_members, .inl (cI, 32, .inl r_t_members)), (a_t_namedBy, .inl (cI, 6, .inl g19)), (a_t_paper, .inr (0, [.ref a_t_paper_sizes, .ref a_t_paper_cites, .int v_t_paper_notes, .int v_t_paper_version])), (a_t_paper_cites, .inl (cJ, 32, .inr (.inl r_t_paper_cites)))] H) _ hS => ?_)
      exact jn43 v_t_cases r_t_caseAt r_t_firstSlot r_t_members g19 H locs ls hf hP hS (lv_sub hl [1, 2, 3] rfl)
  · have hf := pn_ifn c13 hf
    cases hf
    rw [hQ]
    exact pn_retv hx hb hr hlocks hP hS dX4_addCase_9
def lp_X4_joinCases_20 (N : Nat) (r_t_linked : Nat → Int32) (r_t_paper_cites : Nat → Int64) : Nat → Int32 → Int32 → Int32 → (Nat → Int32) → (Nat → Int32) → (Nat → Int32) → (Nat → Int32) → Option (Int32 × (Nat → Int32) × (Nat → Int32) × (Nat → Int32) × (Nat → Int32))
  | 0, _, _, _, _, _, _, _ => none
  | n + 1, x1, x2, v_t_cases, r_t_caseAt, r_t_firstSlot, r_t_members, r_t_namedBy =>
    if (32 : Int32) ≤ x2 then
  some (v_t_cases, r_t_caseAt, r_t_firstSlot, r_t_members, r_t_namedBy)
  else
  if ¬ ((x1 >>> (x2 &&& 31)) &&& (1 : Int32)) = 0 then
  pn_bd1 (f_X4_joinedTo N r_t_linked x2 x1) fun ru3 =>
  pn_nm (x1 &&& (ru3 ^^^ (-1 : Int32))) fun z4 =>
  pn_bd5 (f_X4_addCase N v_t_cases r_t_caseAt r_t_firstSlot r_t_members r_t_namedBy r_t_paper_cites x2 ru3) fun v_t_cases_u5 r_t_caseAt_u5 r_t_firstSlot_u5 r_t_members_u5 r_t_namedBy_u5 =>
  pn_nm (x2 + (1 : Int32)) fun z6 =>
  lp_X4_joinCases_20 N r_t_linked r_t_paper_cites n z4 z6 v_t_cases_u5 r_t_caseAt_u5 r_t_firstSlot_u5 r_t_members_u5 r_t_namedBy_u5
  else
  pn_nm (x2 + (1 : Int32)) fun z7 =>
  lp_X4_joinCases_20 N r_t_linked r_t_paper_cites n x1 z7 v_t_cases r_t_caseAt r_t_firstSlot r_t_members r_t_namedBy
def f_X4_joinCases (N : Nat) (v_t_present : Int32) (v_t_fulls : Int32) (v_t_cases : Int32) (r_t_caseAt : Nat → Int32) (r_t_firstSlot : Nat → Int32) (r_t_linked : Nat → Int32) (r_t_members : Nat → Int32) (r_t_namedBy : Nat → Int32) (r_t_paper_cites : Nat → Int64) : Option (Int32 × (Nat → Int32) × (Nat → Int32) × (Nat → Int32) × (Nat → Int32)) :=
  pn_bd1 (f_J7_fill_53178 N 6 r_t_namedBy (0 : Int32)) fun r_t_namedBy_u8 =>
  pn_bd1 (f_X4_presentFullReferences N v_t_present v_t_fulls) fun ru9 =>
  pn_bd1 (lp_X4_joinCases_20 N r_t_linked r_t_paper_cites N ru9 (0 : Int32) (0 : Int32) r_t_caseAt r_t_firstSlot r_t_members r_t_namedBy_u8) (fun X20 => (pn_u5 fun v_t_cases_w10 r_t_caseAt_w10 r_t_firstSlot_w10 r_t_members_w10 r_t_namedBy_w10 => some (v_t_cases_w10, r_t_caseAt_w10, r_t_firstSlot_w10, r_t_members_w10, r_t_namedBy_w10)) X20)
set_option maxHeartbeats 4000000 in
set_option maxRecDepth 100000 in
theorem c_X4_joinCases (l : Launch) (D : va_G) (cI cJ cZ : ClassId) (a_t a_t_paper a_t_linked a_t_caseAt a_t_reasonAt a_t_firstSlot a_t_members a_t_namedBy a_t_foundBy a_t_paper_sizes a_t_paper_cites : Nat) (sz : Nat) (v_t_linkedVersion : Int32) (v_t_studiedVersion : Int32) (v_t_cited : Int32) (v_t_alive : Int32) (v_t_dead : Int32) (v_t_paper_notes : Int32) (v_t_paper_version : Int32) (N : Nat) (v_t_present : Int32) (v_t_fulls : Int32) (v_t_cases : Int32) (r_t_caseAt : Nat → Int32) (r_t_firstSlot : Nat → Int32) (r_t_linked : Nat → Int32) (r_t_members : Nat → Int32) (r_t_namedBy : Nat → Int32) (r_t_paper_cites : Nat → Int64) (o_t_cases : Int32) (o_t_caseAt : Nat → Int32) (o_t_firstSlot : Nat → Int32) (o_t_members : Nat → Int32) (o_t_namedBy : Nat → Int32) (hf : f_X4_joinCases N v_t_present v_t_fulls v_t_cases r_t_caseAt r_t_firstSlot r_t_linked r_t_members r_t_namedBy r_t_paper_cites = some (o_t_cases, o_t_caseAt, o_t_firstSlot, o_t_members, o_t_namedBy)) : Met l yX4_joinCases wsX4_joinCases { frames := 2, cells := 0, slots := 0, locals := 45 } (pn_Pc D cI cJ cZ [.ref a_t] [(a_t, .inr (3, [.ref a_t_paper, .ref a_t_linked, .ref a_t_caseAt, .ref a_t_reasonAt, .ref a_t_firstSlot, .ref a_t_members, .ref a_t_namedBy, .ref a_t_foundBy, .int v_t_linkedVersion, .int v_t_studiedVersion, .int v_t_present, .int v_t_fulls, .int v_t_cases, .int v_t_cited, .int v_t_alive, .int v_t_dead])), (a_t_caseAt, .inl (cI, 32, .inl r_t_caseAt)), (a_t_firstSlot, .inl (cI, 32, .inl r_t_firstSlot)), (a_t_linked, .inl (cI, 32, .inl r_t_linked)), (a_t_members, .inl (cI, 32, .inl r_t_members)), (a_t_namedBy, .inl (cI, 6, .inl r_t_namedBy)), (a_t_paper, .inr (0, [.ref a_t_paper_sizes, .ref a_t_paper_cites, .int v_t_paper_notes, .int v_t_paper_version])), (a_t_paper_cites, .inl (cJ, 32, .inr (.inl r_t_paper_cites)))] sz) (pn_Qv D [(a_t, .inr (3, [.ref a_t_paper, .ref a_t_linked, .ref a_t_caseAt, .ref a_t_reasonAt, .ref a_t_firstSlot, .ref a_t_members, .ref a_t_namedBy, .ref a_t_foundBy, .int v_t_linkedVersion, .int v_t_studiedVersion, .int v_t_present, .int v_t_fulls, .int o_t_cases, .int v_t_cited, .int v_t_alive, .int v_t_dead])), (a_t_caseAt, .inl (cI, 32, .inl o_t_caseAt)), (a_t_firstSlot, .inl (cI, 32, .inl o_t_firstSlot)), (a_t_linked, .inl (cI, 32, .inl r_t_linked)), (a_t_members, .inl (cI, 32, .inl o_t_members)), (a_t_namedBy, .inl (cI, 6, .inl o_t_namedBy)), (a_t_paper, .inr (0, [.ref a_t_paper_sizes, .ref a_t_paper_cites, .int v_t_paper_notes, .int v_t_paper_version])), (a_t_paper_cites, .inl (cJ, 32, .inr (.inl r_t_paper_cites)))] (va_A [(a_t, .inr (3, [.ref a_t_paper, .ref a_t_linked, .ref a_t_caseAt, .ref a_t_reasonAt, .ref a_t_firstSlot, .ref a_t_members, .ref a_t_namedBy, .ref a_t_foundBy, .int v_t_linkedVersion, .int v_t_studiedVersion, .int v_t_present, .int v_t_fulls, .int v_t_cases, .int v_t_cited, .int v_t_alive, .int v_t_dead])), (a_t_caseAt, .inl (cI, 32, .inl r_t_caseAt)), (a_t_firstSlot, .inl (cI, 32, .inl r_t_firstSlot)), (a_t_linked, .inl (cI, 32, .inl r_t_linked)), (a_t_members, .inl (cI, 32, .inl r_t_members)), (a_t_namedBy, .inl (cI, 6, .inl r_t_namedBy)), (a_t_paper, .inr (0, [.ref a_t_paper_sizes, .ref a_t_paper_cites, .int v_t_paper_notes, .int v_t_paper_version])), (a_t_paper_cites, .inl (cJ, 32, .inr (.inl r_t_paper_cites)))] sz)) 0 0 (va_A [(a_t, .inr (3, [.ref a_t_paper, .ref a_t_linked, .ref a_t_caseAt, .ref a_t_reasonAt, .ref a_t_firstSlot, .ref a_t_members, .ref a_t_namedBy, .ref a_t_foundBy, .int v_t_linkedVersion, .int v_t_studiedVersion, .int v_t_present, .int v_t_fulls, .int v_t_cases, .int v_t_cited, .int v_t_alive, .int v_t_dead])), (a_t_caseAt, .inl (cI, 32, .inl r_t_caseAt)), (a_t_firstSlot, .inl (cI, 32, .inl r_t_firstSlot)), (a_t_linked, .inl (cI, 32, .inl r_t_linked)), (a_t_members, .inl (cI, 32, .inl r_t_members)), (a_t_namedBy, .inl (cI, 6, .inl r_t_namedBy)), (a_t_paper, .inr (0, [.ref a_t_paper_sizes, .ref a_t_paper_cites, .int v_t_paper_notes, .int v_t_paper_version])), (a_t_paper_cites, .inl (cJ, 32, .inr (.inl r_t_paper_cites)))] sz) := by
  refine pn_entry (cc := cX4_joinCases) (maxL := 4) (ret := none) (Qf := pn_Qv D [(a_t, .inr (3, [.ref a_t_paper, .ref a_t_linked, .ref a_t_caseAt, .ref a_t_reasonAt, .ref a_t_firstSlot, .ref a_t_members, .ref a_t_namedBy, .ref a_t_foundBy, .int v_t_linkedVersion, .int v_t_studiedVersion, .int v_t_present, .int v_t_fulls, .int o_t_cases, .int v_t_cited, .int v_t_alive, .int v_t_dead])), (a_t_caseAt, .inl (cI, 32, .inl o_t_caseAt)), (a_t_firstSlot, .inl (cI, 32, .inl o_t_firstSlot)), (a_t_linked, .inl (cI, 32, .inl r_t_linked)), (a_t_members, .inl (cI, 32, .inl o_t_members)), (a_t_namedBy, .inl (cI, 6, .inl o_t_namedBy)), (a_t_paper, .inr (0, [.ref a_t_paper_sizes, .ref a_t_paper_cites, .int v_t_paper_notes, .int v_t_paper_version])), (a_t_paper_cites, .inl (cJ, 32, .inr (.inl r_t_paper_cites)))]) (by decide) rfl (Nat.le_of_ble_eq_true rfl) ?_
  intro p e s m args below meth c A ls H locs Qm hQ hx hb hr hlocks hml hown hts hK hP hD hA hS hl
  have hl : lv_has ls 4 [(0, .ref a_t)] := hl
  have hinX4 : ∀ w ∈ wsX40, w ∈ wsX4_joinCases := by decide +kernel
  have fl_34 := hts (.fieldLink RX4 34 "PointingNotes$Study" "namedBy" "[I") (by decide +kernel)
  have fl_47 := hts (.fieldLink RX4 47 "PointingNotes$Study" "cases" "I") (by decide +kernel)
  rw [f_X4_joinCases] at hf
  have lp20 : ∀ (n : Nat) (x1 : Int32) (x2 : Int32) (v_t_cases : Int32) (r_t_caseAt : Nat → Int32) (r_t_firstSlot : Nat → Int32) (r_t_members : Nat → Int32) (r_t_namedBy : Nat → Int32) (X : Int32 × (Nat → Int32) × (Nat → Int32) × (Nat → Int32) × (Nat → Int32)) (H : Heap) (locs : List Loc) (ls : Array Slot), lp_X4_joinCases_20 N r_t_linked r_t_paper_cites n x1 x2 v_t_cases r_t_caseAt r_t_firstSlot r_t_members r_t_namedBy = some X → va_P D vwCl [(a_t, .inr (3, [.ref a_t_paper, .ref a_t_linked, .ref a_t_caseAt, .ref a_t_reasonAt, .ref a_t_firstSlot, .ref a_t_members, .ref a_t_namedBy, .ref a_t_foundBy, .int v_t_linkedVersion, .int v_t_studiedVersion, .int v_t_present, .int v_t_fulls, .int v_t_cases, .int v_t_cited, .int v_t_alive, .int v_t_dead])), (a_t_caseAt, .inl (cI, 32, .inl r_t_caseAt)), (a_t_firstSlot, .inl (cI, 32, .inl r_t_firstSlot)), (a_t_linked, .inl (cI, 32, .inl r_t_linked)), (a_t_members, .inl (cI, 32, .inl r_t_members)), (a_t_namedBy, .inl (cI, 6, .inl r_t_namedBy)), (a_t_paper, .inr (0, [.ref a_t_paper_sizes, .ref a_t_paper_cites, .int v_t_paper_notes, .int v_t_paper_version])), (a_t_paper_cites, .inl (cJ, 32, .inr (.inl r_t_paper_cites)))] H → va_S A s.heap H locs → lv_has ls 4 [(0, .ref a_t), (1, .int x1), (2, .int x2)] → (∀  (v_t_cases' : Int32) (r_t_caseAt' : Nat → Int32) (r_t_firstSlot' : Nat → Int32) (r_t_members' : Nat → Int32) (r_t_namedBy' : Nat → Int32) (H : Heap) (locs : List Loc) (ls : Array Slot), X = (v_t_cases', r_t_caseAt', r_t_firstSlot', r_t_members', r_t_namedBy') → va_P D vwCl [(a_t, .inr (3, [.ref a_t_paper, .ref a_t_linked, .ref a_t_caseAt, .ref a_t_reasonAt, .ref a_t_firstSlot, .ref a_t_members, .ref a_t_namedBy, .ref a_t_foundBy, .int v_t_linkedVersion, .int v_t_studiedVersion, .int v_t_present, .int v_t_fulls, .int (v_t_cases'), .int v_t_cited, .int v_t_alive, .int v_t_dead])), (a_t_caseAt, .inl (cI, 32, .inl (r_t_caseAt'))), (a_t_firstSlot, .inl (cI, 32, .inl (r_t_firstSlot'))), (a_t_linked, .inl (cI, 32, .inl r_t_linked)), (a_t_members, .inl (cI, 32, .inl (r_t_members'))), (a_t_namedBy, .inl (cI, 6, .inl (r_t_namedBy'))), (a_t_paper, .inr (0, [.ref a_t_paper_sizes, .ref a_t_paper_cites, .int v_t_paper_notes, .int v_t_paper_version])), (a_t_paper_cites, .inl (cJ, 32, .inr (.inl r_t_paper_cites)))] H → va_S A s.heap H locs → lv_has ls 4 [] → W p l e { frames := 2, cells := 0, slots := 0, locals := 45 } s m args below meth c H locs 0 0 Qm (F0 m 62 ls [])) → W p l e { frames := 2, cells := 0, slots := 0, locals := 45 } s m args below meth c H locs 0 0 Qm (F0 m 20 ls []) := by
    intro n
    induction n with
    | zero => intro x1 x2 v_t_cases r_t_caseAt r_t_firstSlot r_t_members r_t_namedBy X H locs ls hf; cases hf
    | succ n ih =>
      intro x1 x2 v_t_cases r_t_caseAt r_t_firstSlot r_t_members r_t_namedBy X H locs ls hf hP hS hl kx62
      rw [lp_X4_joinCases_20] at hf
      refine lv_iload_n hx hb dX4_joinCases_20 rfl (lv_at hl 2 rfl) ?_
      refine lv_bipush (v := (32)) hx hb dX4_joinCases_21 (by decide) ?_
      refine lv_icmp_ge (tgt := 62) hx hb dX4_joinCases_23 (by decide) (fun c1 => ?_) (fun c1 => ?_)
      · have hf := pn_ifp c1 hf
        exact kx62 v_t_cases r_t_caseAt r_t_firstSlot r_t_members r_t_namedBy H locs ls (Option.some.inj hf).symm hP hS (lv_sub hl [] rfl)
      · have hf := pn_ifn c1 hf
        refine lv_iload_n hx hb dX4_joinCases_26 rfl (lv_at hl 1 rfl) ?_
        refine lv_iload_n hx hb dX4_joinCases_27 rfl (lv_at hl 2 rfl) ?_
        refine lv_ishr hx hb dX4_joinCases_28 ?_
        refine lv_iconst (v := (1)) hx hb dX4_joinCases_29 (by decide) ?_
        refine lv_iand hx hb dX4_joinCases_30 ?_
        refine lv_if_ne (tgt := 37) hx hb dX4_joinCases_31 (by decide) (fun c2 => ?_) (fun c2 => ?_)
        · have hf := pn_ifp c2 hf
          refine lv_aload_n hx hb dX4_joinCases_37 rfl (lv_at hl 0 rfl) ?_
          refine lv_iload_n hx hb dX4_joinCases_38 rfl (lv_at hl 2 rfl) ?_
          refine lv_iload_n hx hb dX4_joinCases_39 rfl (lv_at hl 1 rfl) ?_
          obtain ⟨ru3, hu3, hf⟩ := pn_bd1_at hf
          refine pn_calli [0, 3] (va_runV (As := [.int x2, .int x1]) (rest := []) ⟨hx, hb, hml, hown, hts⟩ (c_X4_joinedTo l D cI cJ cZ a_t a_t_paper a_t_linked a_t_caseAt a_t_reasonAt a_t_firstSlot a_t_members a_t_namedBy a_t_foundBy H.size v_t_linkedVersion v_t_studiedVersion v_t_present v_t_fulls v_t_cases v_t_cited v_t_alive v_t_dead N r_t_linked x2 x1 ru3 hu3) (cwV 2 hts gX4_joinCases_X4_joinedTo rfl rfl rfl hdX4_joinedTo ⟨Nat.le_of_ble_eq_true rfl, Nat.le_of_ble_eq_true rfl⟩) (pn_preV [0, 3] hP (hD.addr rfl) hK rfl rfl (q0 := 0) (ci := 3) rfl rfl) rfl rfl hl.1 rfl (lv_room (Nat.le_of_ble_eq_true rfl)) dX4_joinCases_40 ⟨Nat.zero_le _, Nat.zero_le _⟩) hP (hD.addr rfl) hS hA rfl rfl rfl (fun H locs (hP : va_P D vwCl [(a_t, .inr (3, [.ref a_t_paper, .ref a_t_linked, .ref a_t_caseAt, .ref a_t_reasonAt, .ref a_t_firstSlot, .ref a_t_members, .ref a_t_namedBy, .ref a_t_foundBy, .int v_t_linkedVersion, .int v_t_studiedVersion, .int v_t_present, .int v_t_fulls, .int v_t_cases, .int v_t_cited, .int v_t_alive, .int v_t_dead])), (a_t_caseAt, .inl (cI, 32, .inl r_t_caseAt)), (a_t_firstSlot, .inl (cI, 32, .inl r_t_firstSlot)), (a_t_linked, .inl (cI, 32, .inl r_t_linked)), (a_t_members, .inl (cI, 32, .inl r_t_members)), (a_t_namedBy, .inl (cI, 6, .inl r_t_namedBy)), (a_t_paper, .inr (0, [.ref a_t_paper_sizes, .ref a_t_paper_cites, .int v_t_paper_notes, .int v_t_paper_version])), (a_t_paper_cites, .inl (cJ, 32, .inr (.inl r_t_paper_cites)))] H) _ hS => ?_)
          refine lv_istore_n (lv' := [(3, .int ru3), (0, .ref a_t), (1, .int x1), (2, .int x2)]) hx hb dX4_joinCases_43 rfl hl (by decide) rfl (fun ls hl => ?_)
          refine lv_iload_n hx hb dX4_joinCases_44 rfl (lv_at hl 2 rfl) ?_
          refine lv_iload_n hx hb dX4_joinCases_45 rfl (lv_at hl 0 rfl) ?_
          refine lv_iconst (v := (-1)) hx hb dX4_joinCases_46 (by decide) ?_
          refine lv_ixor hx hb dX4_joinCases_47 ?_
          refine lv_iand hx hb dX4_joinCases_48 ?_
          refine lv_topi (fun z4 ez4 => ?_)
          have hf := pn_nm_at ez4 hf
          refine lv_istore_n (lv' := [(1, .int z4), (3, .int ru3), (0, .ref a_t), (2, .int x2)]) hx hb dX4_joinCases_49 rfl hl (by decide) rfl (fun ls hl => ?_)
          refine lv_aload_n hx hb dX4_joinCases_50 rfl (lv_at hl 2 rfl) ?_
          refine lv_iload_n hx hb dX4_joinCases_51 rfl (lv_at hl 3 rfl) ?_
          refine lv_iload_n hx hb dX4_joinCases_52 rfl (lv_at hl 1 rfl) ?_
          obtain ⟨v_t_cases_u5, r_t_caseAt_u5, r_t_firstSlot_u5, r_t_members_u5, r_t_namedBy_u5, hu5, hf⟩ := pn_bd5_at hf
          refine pn_callv [0, 1, 2, 4, 5, 6, 7] (va_runV (As := [.int x2, .int ru3]) (rest := []) ⟨hx, hb, hml, hown, hts⟩ (c_X4_addCase l D cI cJ cZ a_t a_t_paper a_t_linked a_t_caseAt a_t_reasonAt a_t_firstSlot a_t_members a_t_namedBy a_t_foundBy a_t_paper_sizes a_t_paper_cites H.size v_t_linkedVersion v_t_studiedVersion v_t_present v_t_fulls v_t_cited v_t_alive v_t_dead v_t_paper_notes v_t_paper_version N v_t_cases r_t_caseAt r_t_firstSlot r_t_members r_t_namedBy r_t_paper_cites x2 ru3 v_t_cases_u5 r_t_caseAt_u5 r_t_firstSlot_u5 r_t_members_u5 r_t_namedBy_u5 hu5) (cwV 2 hts gX4_joinCases_X4_addCase rfl rfl rfl hdX4_addCase ⟨Nat.le_of_ble_eq_true rfl, Nat.le_of_ble_eq_true rfl⟩) (pn_preV [0, 1, 2, 4, 5, 6, 7] hP (hD.addr rfl) hK rfl rfl (q0 := 0) (ci := 3) rfl rfl) rfl rfl hl.1 rfl (lv_room (Nat.le_of_ble_eq_true rfl)) dX4_joinCases_53 ⟨Nat.zero_le _, Nat.zero_le _⟩) hP (hD.addr rfl) hS hA rfl rfl rfl (fun H locs (hP : va_P D vwCl [(a_t, .inr (3, [.ref a_t_paper, .ref a_t_linked, .ref a_t_caseAt, .ref a_t_reasonAt, .ref a_t_firstSlot, .ref a_t_members, .ref a_t_namedBy, .ref a_t_foundBy, .int v_t_linkedVersion, .int v_t_studiedVersion, .int v_t_present, .int v_t_fulls, .int v_t_cases_u5, .int v_t_cited, .int v_t_alive, .int v_t_dead])), (a_t_caseAt, .inl (cI, 32, .inl r_t_caseAt_u5)), (a_t_firstSlot, .inl (cI, 32, .inl r_t_firstSlot_u5)), (a_t_linked, .inl (cI, 32, .inl r_t_linked)), (a_t_members, .inl (cI, 32, .inl r_t_members_u5)), (a_t_namedBy, .inl (cI, 6, .inl r_t_namedBy_u5)), (a_t_paper, .inr (0, [.ref a_t_paper_sizes, .ref a_t_paper_cites, .int v_t_paper_notes, .int v_t_paper_version])), (a_t_paper_cites, .inl (cJ, 32, .inr (.inl r_t_paper_cites)))] H) _ hS => ?_)
          obtain ⟨z6, ez6⟩ : ∃ y : Int32, y = x2 + (1) := ⟨_, rfl⟩
          have hf := pn_nm_at ez6 hf
          refine lv_iinc (v := z6) (lv' := [(2, .int z6), (1, .int z4), (3, .int ru3), (0, .ref a_t)]) hx hb dX4_joinCases_56 hl (k := 3) rfl (by rw [ez6]; rfl) (by decide) rfl (fun ls hl => ?_)
          refine lv_goto (tgt := 20) hx hb dX4_joinCases_59 (by decide) ?_
          exact ih z4 z6 v_t_cases_u5 r_t_caseAt_u5 r_t_firstSlot_u5 r_t_members_u5 r_t_namedBy_u5 X H locs ls hf hP hS (lv_sub hl [3, 1, 0] rfl) kx62
        · have hf := pn_ifq c2 hf
          refine lv_goto (tgt := 56) hx hb dX4_joinCases_34 (by decide) ?_
          obtain ⟨z7, ez7⟩ : ∃ y : Int32, y = x2 + (1) := ⟨_, rfl⟩
          have hf := pn_nm_at ez7 hf
          refine lv_iinc (v := z7) (lv' := [(2, .int z7), (0, .ref a_t), (1, .int x1)]) hx hb dX4_joinCases_56 hl (k := 2) rfl (by rw [ez7]; rfl) (by decide) rfl (fun ls hl => ?_)
          refine lv_goto (tgt := 20) hx hb dX4_joinCases_59 (by decide) ?_
          exact ih x1 z7 v_t_cases r_t_caseAt r_t_firstSlot r_t_members r_t_namedBy X H locs ls hf hP hS (lv_sub hl [1, 2, 0] rfl) kx62
  refine lv_aload_n hx hb dX4_joinCases_0 rfl (lv_at hl 0 rfl) ?_
  refine lv_iconst (v := (0)) hx hb dX4_joinCases_1 (by decide) ?_
  refine va_put (D := D) (ci := 3) (v := .int (0 : Int32)) (ty := .int) (C := RX4) (T := TX4) (N := 16) hx hb hts hinX4 tyX4 tyX4_ok nmX4 hown hK.1 hP (hD.addr rfl) hS 0 rfl rfl 12 (by decide) fl_47 (fun _ h9 => h9) rfl (by decide +kernel) rfl rfl (Nat.le_of_ble_eq_true rfl) dX4_joinCases_2 (fun H locs (hP : va_P D vwCl [(a_t, .inr (3, [.ref a_t_paper, .ref a_t_linked, .ref a_t_caseAt, .ref a_t_reasonAt, .ref a_t_firstSlot, .ref a_t_members, .ref a_t_namedBy, .ref a_t_foundBy, .int v_t_linkedVersion, .int v_t_studiedVersion, .int v_t_present, .int v_t_fulls, .int ((0 : Int32)), .int v_t_cited, .int v_t_alive, .int v_t_dead])), (a_t_caseAt, .inl (cI, 32, .inl r_t_caseAt)), (a_t_firstSlot, .inl (cI, 32, .inl r_t_firstSlot)), (a_t_linked, .inl (cI, 32, .inl r_t_linked)), (a_t_members, .inl (cI, 32, .inl r_t_members)), (a_t_namedBy, .inl (cI, 6, .inl r_t_namedBy)), (a_t_paper, .inr (0, [.ref a_t_paper_sizes, .ref a_t_paper_cites, .int v_t_paper_notes, .int v_t_paper_version])), (a_t_paper_cites, .inl (cJ, 32, .inr (.inl r_t_paper_cites)))] H) _ hS => ?_)
  refine lv_aload_n hx hb dX4_joinCases_5 rfl (lv_at hl 0 rfl) ?_
  refine va_get (D := D) (ci := 3) (v := .ref a_t_namedBy) (C := RX4) (T := TX4) (N := 16) hx hb hts hinX4 hown hK.1 hP 0 rfl rfl 6 (by decide) fl_34 (fun _ h9 => h9) rfl dX4_joinCases_6 ?_
  refine lv_iconst (v := (0)) hx hb dX4_joinCases_9 (by decide) ?_
  obtain ⟨r_t_namedBy_u8, hu8, hf⟩ := pn_bd1_at hf
  refine pn_callv [5] (va_runS (As := [.ref a_t_namedBy, .int (0 : Int32)]) (rest := []) ⟨hx, hb, hml, hown, hts⟩ (c_J7_fill_53178 l D cI cJ cZ a_t_namedBy H.size N 6 r_t_namedBy (0 : Int32) r_t_namedBy_u8 hu8) (va_cwS 2 hts gX4_joinCases_J7_fill_53178 rfl rfl rfl hdJ7_fill_53178 ⟨Nat.le_of_ble_eq_true rfl, Nat.le_of_ble_eq_true rfl⟩) (pn_preS [5] hP (hD.addr rfl) hK rfl rfl) rfl rfl hl.1 rfl (lv_room (Nat.le_of_ble_eq_true rfl)) dX4_joinCases_10 ⟨Nat.zero_le _, Nat.zero_le _⟩) hP (hD.addr rfl) hS hA rfl rfl rfl (fun H locs (hP : va_P D vwCl [(a_t, .inr (3, [.ref a_t_paper, .ref a_t_linked, .ref a_t_caseAt, .ref a_t_reasonAt, .ref a_t_firstSlot, .ref a_t_members, .ref a_t_namedBy, .ref a_t_foundBy, .int v_t_linkedVersion, .int v_t_studiedVersion, .int v_t_present, .int v_t_fulls, .int ((0 : Int32)), .int v_t_cited, .int v_t_alive, .int v_t_dead])), (a_t_caseAt, .inl (cI, 32, .inl r_t_caseAt)), (a_t_firstSlot, .inl (cI, 32, .inl r_t_firstSlot)), (a_t_linked, .inl (cI, 32, .inl r_t_linked)), (a_t_members, .inl (cI, 32, .inl r_t_members)), (a_t_namedBy, .inl (cI, 6, .inl r_t_namedBy_u8)), (a_t_paper, .inr (0, [.ref a_t_paper_sizes, .ref a_t_paper_cites, .int v_t_paper_notes, .int v_t_paper_version])), (a_t_paper_cites, .inl (cJ, 32, .inr (.inl r_t_paper_cites)))] H) _ hS => ?_)
  refine lv_aload_n hx hb dX4_joinCases_13 rfl (lv_at hl 0 rfl) ?_
  obtain ⟨ru9, hu9, hf⟩ := pn_bd1_at hf
  refine pn_calli [0] (va_runV (As := []) (rest := []) ⟨hx, hb, hml, hown, hts⟩ (c_X4_presentFullReferences l D cI cJ cZ a_t a_t_paper a_t_linked a_t_caseAt a_t_reasonAt a_t_firstSlot a_t_members a_t_namedBy a_t_foundBy H.size v_t_linkedVersion v_t_studiedVersion (0 : Int32) v_t_cited v_t_alive v_t_dead N v_t_present v_t_fulls ru9 hu9) (cwV 0 hts gX4_joinCases_X4_presentFullReferences rfl rfl rfl hdX4_presentFullReferences ⟨Nat.le_of_ble_eq_true rfl, Nat.le_of_ble_eq_true rfl⟩) (pn_preV [0] hP (hD.addr rfl) hK rfl rfl (q0 := 0) (ci := 3) rfl rfl) rfl rfl hl.1 rfl (lv_room (Nat.le_of_ble_eq_true rfl)) dX4_joinCases_14 ⟨Nat.zero_le _, Nat.zero_le _⟩) hP (hD.addr rfl) hS hA rfl rfl rfl (fun H locs (hP : va_P D vwCl [(a_t, .inr (3, [.ref a_t_paper, .ref a_t_linked, .ref a_t_caseAt, .ref a_t_reasonAt, .ref a_t_firstSlot, .ref a_t_members, .ref a_t_namedBy, .ref a_t_foundBy, .int v_t_linkedVersion, .int v_t_studiedVersion, .int v_t_present, .int v_t_fulls, .int ((0 : Int32)), .int v_t_cited, .int v_t_alive, .int v_t_dead])), (a_t_caseAt, .inl (cI, 32, .inl r_t_caseAt)), (a_t_firstSlot, .inl (cI, 32, .inl r_t_firstSlot)), (a_t_linked, .inl (cI, 32, .inl r_t_linked)), (a_t_members, .inl (cI, 32, .inl r_t_members)), (a_t_namedBy, .inl (cI, 6, .inl r_t_namedBy_u8)), (a_t_paper, .inr (0, [.ref a_t_paper_sizes, .ref a_t_paper_cites, .int v_t_paper_notes, .int v_t_paper_version])), (a_t_paper_cites, .inl (cJ, 32, .inr (.inl r_t_paper_cites)))] H) _ hS => ?_)
  refine lv_istore_n (lv' := [(1, .int ru9), (0, .ref a_t)]) hx hb dX4_joinCases_17 rfl hl (by decide) rfl (fun ls hl => ?_)
  refine lv_iconst (v := (0)) hx hb dX4_joinCases_18 (by decide) ?_
  refine lv_istore_n (lv' := [(2, .int (0 : Int32)), (1, .int ru9), (0, .ref a_t)]) hx hb dX4_joinCases_19 rfl hl (by decide) rfl (fun ls hl => ?_)
  obtain ⟨X20, hX20, hf⟩ := pn_bd1_at hf
  refine lp20 N ru9 (0 : Int32) (0 : Int32) r_t_caseAt r_t_firstSlot r_t_members r_t_namedBy_u8 X20 H locs ls hX20 hP hS (lv_sub hl [2, 1, 0] rfl) ?_
  · intro v_t_cases_w10 r_t_caseAt_w10 r_t_firstSlot_w10 r_t_members_w10 r_t_namedBy_w10 H locs ls eX hP hS hl
    rw [eX] at hf
    have hf := pn_u5_at hf
    cases hf
    rw [hQ]
    exact pn_retv hx hb hr hlocks hP hS dX4_joinCases_62
def f_X4_namedWith (r_t_namedBy : Nat → Int32) (p1 : Int32) : Option (Int32) :=
  if p1 < 0 then
  some (0 : Int32)
  else
  if (6 : Int32) ≤ p1 then
  some (0 : Int32)
  else
  pn_rd 6 r_t_namedBy p1 fun w3 =>
  some w3
set_option maxHeartbeats 4000000 in
set_option maxRecDepth 100000 in
theorem c_X4_namedWith (l : Launch) (D : va_G) (cI cJ cZ : ClassId) (a_t a_t_paper a_t_linked a_t_caseAt a_t_reasonAt a_t_firstSlot a_t_members a_t_namedBy a_t_foundBy : Nat) (sz : Nat) (v_t_linkedVersion : Int32) (v_t_studiedVersion : Int32) (v_t_present : Int32) (v_t_fulls : Int32) (v_t_cases : Int32) (v_t_cited : Int32) (v_t_alive : Int32) (v_t_dead : Int32) (r_t_namedBy : Nat → Int32) (p1 : Int32) (rR : Int32) (hf : f_X4_namedWith r_t_namedBy p1 = some rR) : Met l yX4_namedWith wsX4_namedWith { frames := 0, cells := 0, slots := 0, locals := 0 } (pn_Pc D cI cJ cZ [.ref a_t, .int p1] [(a_t, .inr (3, [.ref a_t_paper, .ref a_t_linked, .ref a_t_caseAt, .ref a_t_reasonAt, .ref a_t_firstSlot, .ref a_t_members, .ref a_t_namedBy, .ref a_t_foundBy, .int v_t_linkedVersion, .int v_t_studiedVersion, .int v_t_present, .int v_t_fulls, .int v_t_cases, .int v_t_cited, .int v_t_alive, .int v_t_dead])), (a_t_namedBy, .inl (cI, 6, .inl r_t_namedBy))] sz) (pn_Qi D rR [(a_t, .inr (3, [.ref a_t_paper, .ref a_t_linked, .ref a_t_caseAt, .ref a_t_reasonAt, .ref a_t_firstSlot, .ref a_t_members, .ref a_t_namedBy, .ref a_t_foundBy, .int v_t_linkedVersion, .int v_t_studiedVersion, .int v_t_present, .int v_t_fulls, .int v_t_cases, .int v_t_cited, .int v_t_alive, .int v_t_dead])), (a_t_namedBy, .inl (cI, 6, .inl r_t_namedBy))] (va_A [(a_t, .inr (3, [.ref a_t_paper, .ref a_t_linked, .ref a_t_caseAt, .ref a_t_reasonAt, .ref a_t_firstSlot, .ref a_t_members, .ref a_t_namedBy, .ref a_t_foundBy, .int v_t_linkedVersion, .int v_t_studiedVersion, .int v_t_present, .int v_t_fulls, .int v_t_cases, .int v_t_cited, .int v_t_alive, .int v_t_dead])), (a_t_namedBy, .inl (cI, 6, .inl r_t_namedBy))] sz)) 0 0 (va_A [(a_t, .inr (3, [.ref a_t_paper, .ref a_t_linked, .ref a_t_caseAt, .ref a_t_reasonAt, .ref a_t_firstSlot, .ref a_t_members, .ref a_t_namedBy, .ref a_t_foundBy, .int v_t_linkedVersion, .int v_t_studiedVersion, .int v_t_present, .int v_t_fulls, .int v_t_cases, .int v_t_cited, .int v_t_alive, .int v_t_dead])), (a_t_namedBy, .inl (cI, 6, .inl r_t_namedBy))] sz) := by
  refine pn_entry (cc := cX4_namedWith) (maxL := 2) (ret := (some .int)) (Qf := pn_Qi D rR [(a_t, .inr (3, [.ref a_t_paper, .ref a_t_linked, .ref a_t_caseAt, .ref a_t_reasonAt, .ref a_t_firstSlot, .ref a_t_members, .ref a_t_namedBy, .ref a_t_foundBy, .int v_t_linkedVersion, .int v_t_studiedVersion, .int v_t_present, .int v_t_fulls, .int v_t_cases, .int v_t_cited, .int v_t_alive, .int v_t_dead])), (a_t_namedBy, .inl (cI, 6, .inl r_t_namedBy))]) (by decide) rfl (Nat.le_of_ble_eq_true rfl) ?_
  intro p e s m args below meth c A ls H locs Qm hQ hx hb hr hlocks hml hown hts hK hP hD hA hS hl
  have hl : lv_has ls 2 [(0, .ref a_t), (1, .int p1)] := hl
  have hinX4 : ∀ w ∈ wsX40, w ∈ wsX4_namedWith := by decide +kernel
  have fl_34 := hts (.fieldLink RX4 34 "PointingNotes$Study" "namedBy" "[I") (by decide +kernel)
  rw [f_X4_namedWith] at hf
  refine lv_iload_n hx hb dX4_namedWith_0 rfl (lv_at hl 1 rfl) ?_
  refine lv_if_lt (tgt := 19) hx hb dX4_namedWith_1 (by decide) (fun c1 => ?_) (fun c1 => ?_)
  · have hf := pn_ifp c1 hf
    refine lv_iconst (v := (0)) hx hb dX4_namedWith_19 (by decide) ?_
    cases hf
    rw [hQ]
    exact pn_reti hx hb hr hlocks hP hS rfl dX4_namedWith_20
  · have hf := pn_ifn c1 hf
    refine lv_iload_n hx hb dX4_namedWith_4 rfl (lv_at hl 1 rfl) ?_
    refine lv_bipush (v := (6)) hx hb dX4_namedWith_5 (by decide) ?_
    refine lv_icmp_ge (tgt := 19) hx hb dX4_namedWith_7 (by decide) (fun c2 => ?_) (fun c2 => ?_)
    · have hf := pn_ifp c2 hf
      refine lv_iconst (v := (0)) hx hb dX4_namedWith_19 (by decide) ?_
      cases hf
      rw [hQ]
      exact pn_reti hx hb hr hlocks hP hS rfl dX4_namedWith_20
    · have hf := pn_ifn c2 hf
      refine lv_aload_n hx hb dX4_namedWith_10 rfl (lv_at hl 0 rfl) ?_
      refine va_get (D := D) (ci := 3) (v := .ref a_t_namedBy) (C := RX4) (T := TX4) (N := 16) hx hb hts hinX4 hown hK.1 hP 0 rfl rfl 6 (by decide) fl_34 (fun _ h9 => h9) rfl dX4_namedWith_11 ?_
      refine lv_iload_n hx hb dX4_namedWith_14 rfl (lv_at hl 1 rfl) ?_
      obtain ⟨hi4, w3, ew3, hf⟩ := pn_rd_at hf
      refine pn_ldI hx hb hK.1 hP 1 0 rfl rfl hi4 ew3 dX4_namedWith_15 ?_
      refine lv_goto (tgt := 20) hx hb dX4_namedWith_16 (by decide) ?_
      cases hf
      rw [hQ]
      exact pn_reti hx hb hr hlocks hP hS rfl dX4_namedWith_20
def f_X4_foundByNote (r_t_foundBy : Nat → Int32) (p1 : Int32) : Option (Int32) :=
  if p1 < 0 then
  some (0 : Int32)
  else
  if (8 : Int32) ≤ p1 then
  some (0 : Int32)
  else
  pn_rd 8 r_t_foundBy p1 fun w3 =>
  some w3
set_option maxHeartbeats 4000000 in
set_option maxRecDepth 100000 in
theorem c_X4_foundByNote (l : Launch) (D : va_G) (cI cJ cZ : ClassId) (a_t a_t_paper a_t_linked a_t_caseAt a_t_reasonAt a_t_firstSlot a_t_members a_t_namedBy a_t_foundBy : Nat) (sz : Nat) (v_t_linkedVersion : Int32) (v_t_studiedVersion : Int32) (v_t_present : Int32) (v_t_fulls : Int32) (v_t_cases : Int32) (v_t_cited : Int32) (v_t_alive : Int32) (v_t_dead : Int32) (r_t_foundBy : Nat → Int32) (p1 : Int32) (rR : Int32) (hf : f_X4_foundByNote r_t_foundBy p1 = some rR) : Met l yX4_foundByNote wsX4_foundByNote { frames := 0, cells := 0, slots := 0, locals := 0 } (pn_Pc D cI cJ cZ [.ref a_t, .int p1] [(a_t, .inr (3, [.ref a_t_paper, .ref a_t_linked, .ref a_t_caseAt, .ref a_t_reasonAt, .ref a_t_firstSlot, .ref a_t_members, .ref a_t_namedBy, .ref a_t_foundBy, .int v_t_linkedVersion, .int v_t_studiedVersion, .int v_t_present, .int v_t_fulls, .int v_t_cases, .int v_t_cited, .int v_t_alive, .int v_t_dead])), (a_t_foundBy, .inl (cI, 8, .inl r_t_foundBy))] sz) (pn_Qi D rR [(a_t, .inr (3, [.ref a_t_paper, .ref a_t_linked, .ref a_t_caseAt, .ref a_t_reasonAt, .ref a_t_firstSlot, .ref a_t_members, .ref a_t_namedBy, .ref a_t_foundBy, .int v_t_linkedVersion, .int v_t_studiedVersion, .int v_t_present, .int v_t_fulls, .int v_t_cases, .int v_t_cited, .int v_t_alive, .int v_t_dead])), (a_t_foundBy, .inl (cI, 8, .inl r_t_foundBy))] (va_A [(a_t, .inr (3, [.ref a_t_paper, .ref a_t_linked, .ref a_t_caseAt, .ref a_t_reasonAt, .ref a_t_firstSlot, .ref a_t_members, .ref a_t_namedBy, .ref a_t_foundBy, .int v_t_linkedVersion, .int v_t_studiedVersion, .int v_t_present, .int v_t_fulls, .int v_t_cases, .int v_t_cited, .int v_t_alive, .int v_t_dead])), (a_t_foundBy, .inl (cI, 8, .inl r_t_foundBy))] sz)) 0 0 (va_A [(a_t, .inr (3, [.ref a_t_paper, .ref a_t_linked, .ref a_t_caseAt, .ref a_t_reasonAt, .ref a_t_firstSlot, .ref a_t_members, .ref a_t_namedBy, .ref a_t_foundBy, .int v_t_linkedVersion, .int v_t_studiedVersion, .int v_t_present, .int v_t_fulls, .int v_t_cases, .int v_t_cited, .int v_t_alive, .int v_t_dead])), (a_t_foundBy, .inl (cI, 8, .inl r_t_foundBy))] sz) := by
  refine pn_entry (cc := cX4_foundByNote) (maxL := 2) (ret := (some .int)) (Qf := pn_Qi D rR [(a_t, .inr (3, [.ref a_t_paper, .ref a_t_linked, .ref a_t_caseAt, .ref a_t_reasonAt, .ref a_t_firstSlot, .ref a_t_members, .ref a_t_namedBy, .ref a_t_foundBy, .int v_t_linkedVersion, .int v_t_studiedVersion, .int v_t_present, .int v_t_fulls, .int v_t_cases, .int v_t_cited, .int v_t_alive, .int v_t_dead])), (a_t_foundBy, .inl (cI, 8, .inl r_t_foundBy))]) (by decide) rfl (Nat.le_of_ble_eq_true rfl) ?_
  intro p e s m args below meth c A ls H locs Qm hQ hx hb hr hlocks hml hown hts hK hP hD hA hS hl
  have hl : lv_has ls 2 [(0, .ref a_t), (1, .int p1)] := hl
  have hinX4 : ∀ w ∈ wsX40, w ∈ wsX4_foundByNote := by decide +kernel
  have fl_37 := hts (.fieldLink RX4 37 "PointingNotes$Study" "foundBy" "[I") (by decide +kernel)
  rw [f_X4_foundByNote] at hf
  refine lv_iload_n hx hb dX4_foundByNote_0 rfl (lv_at hl 1 rfl) ?_
  refine lv_if_lt (tgt := 19) hx hb dX4_foundByNote_1 (by decide) (fun c1 => ?_) (fun c1 => ?_)
  · have hf := pn_ifp c1 hf
    refine lv_iconst (v := (0)) hx hb dX4_foundByNote_19 (by decide) ?_
    cases hf
    rw [hQ]
    exact pn_reti hx hb hr hlocks hP hS rfl dX4_foundByNote_20
  · have hf := pn_ifn c1 hf
    refine lv_iload_n hx hb dX4_foundByNote_4 rfl (lv_at hl 1 rfl) ?_
    refine lv_bipush (v := (8)) hx hb dX4_foundByNote_5 (by decide) ?_
    refine lv_icmp_ge (tgt := 19) hx hb dX4_foundByNote_7 (by decide) (fun c2 => ?_) (fun c2 => ?_)
    · have hf := pn_ifp c2 hf
      refine lv_iconst (v := (0)) hx hb dX4_foundByNote_19 (by decide) ?_
      cases hf
      rw [hQ]
      exact pn_reti hx hb hr hlocks hP hS rfl dX4_foundByNote_20
    · have hf := pn_ifn c2 hf
      refine lv_aload_n hx hb dX4_foundByNote_10 rfl (lv_at hl 0 rfl) ?_
      refine va_get (D := D) (ci := 3) (v := .ref a_t_foundBy) (C := RX4) (T := TX4) (N := 16) hx hb hts hinX4 hown hK.1 hP 0 rfl rfl 7 (by decide) fl_37 (fun _ h9 => h9) rfl dX4_foundByNote_11 ?_
      refine lv_iload_n hx hb dX4_foundByNote_14 rfl (lv_at hl 1 rfl) ?_
      obtain ⟨hi4, w3, ew3, hf⟩ := pn_rd_at hf
      refine pn_ldI hx hb hK.1 hP 1 0 rfl rfl hi4 ew3 dX4_foundByNote_15 ?_
      refine lv_goto (tgt := 20) hx hb dX4_foundByNote_16 (by decide) ?_
      cases hf
      rw [hQ]
      exact pn_reti hx hb hr hlocks hP hS rfl dX4_foundByNote_20
def j_X4_settle_44 (p2 : Int32) (x4 : Int32) (s1 : Int32) (s2 : Int32) (v_t_alive : Int32) (v_t_dead : Int32) (r_t_caseAt : Nat → Int32) (r_t_foundBy : Nat → Int32) (r_t_reasonAt : Nat → Int32) : Option (Int32 × Int32 × (Nat → Int32) × (Nat → Int32) × (Nat → Int32)) :=
  pn_wrI 32 r_t_reasonAt s1 s2 fun g1 =>
  if 0 ≤ p2 then
  pn_nm (v_t_alive + (1 : Int32)) fun z4 =>
  pn_rd 8 r_t_foundBy x4 fun w5 =>
  pn_wrI 8 r_t_foundBy x4 (w5 ||| ((1 : Int32) <<< (p2 &&& 31))) fun g7 =>
  some (z4, v_t_dead, r_t_caseAt, g7, g1)
  else
  pn_nm (v_t_dead + (1 : Int32)) fun z9 =>
  some (v_t_alive, z9, r_t_caseAt, r_t_foundBy, g1)
def f_X4_settle (v_t_alive : Int32) (v_t_dead : Int32) (r_t_caseAt : Nat → Int32) (r_t_foundBy : Nat → Int32) (r_t_reasonAt : Nat → Int32) (p1 : Int32) (p2 : Int32) (p3 : Int32) : Option (Int32 × Int32 × (Nat → Int32) × (Nat → Int32) × (Nat → Int32)) :=
  pn_nm (p1 / (4 : Int32)) fun z10 =>
  if p1 < 0 then
  some (v_t_alive, v_t_dead, r_t_caseAt, r_t_foundBy, r_t_reasonAt)
  else
  if (32 : Int32) ≤ p1 then
  some (v_t_alive, v_t_dead, r_t_caseAt, r_t_foundBy, r_t_reasonAt)
  else
  if z10 < (8 : Int32) then
  pn_wrI 32 r_t_caseAt p1 p2 fun g14 =>
  if 0 ≤ p2 then
  j_X4_settle_44 p2 z10 p1 (0 : Int32) v_t_alive v_t_dead g14 r_t_foundBy r_t_reasonAt
  else
  j_X4_settle_44 p2 z10 p1 p3 v_t_alive v_t_dead g14 r_t_foundBy r_t_reasonAt
  else
  some (v_t_alive, v_t_dead, r_t_caseAt, r_t_foundBy, r_t_reasonAt)
set_option maxHeartbeats 4000000 in
set_option maxRecDepth 100000 in
theorem c_X4_settle (l : Launch) (D : va_G) (cI cJ cZ : ClassId) (a_t a_t_paper a_t_linked a_t_caseAt a_t_reasonAt a_t_firstSlot a_t_members a_t_namedBy a_t_foundBy : Nat) (sz : Nat) (v_t_linkedVersion : Int32) (v_t_studiedVersion : Int32) (v_t_present : Int32) (v_t_fulls : Int32) (v_t_cases : Int32) (v_t_cited : Int32) (v_t_alive : Int32) (v_t_dead : Int32) (r_t_caseAt : Nat → Int32) (r_t_foundBy : Nat → Int32) (r_t_reasonAt : Nat → Int32) (p1 : Int32) (p2 : Int32) (p3 : Int32) (o_t_alive : Int32) (o_t_dead : Int32) (o_t_caseAt : Nat → Int32) (o_t_foundBy : Nat → Int32) (o_t_reasonAt : Nat → Int32) (hf : f_X4_settle v_t_alive v_t_dead r_t_caseAt r_t_foundBy r_t_reasonAt p1 p2 p3 = some (o_t_alive, o_t_dead, o_t_caseAt, o_t_foundBy, o_t_reasonAt)) : Met l yX4_settle wsX4_settle { frames := 0, cells := 0, slots := 0, locals := 0 } (pn_Pc D cI cJ cZ [.ref a_t, .int p1, .int p2, .int p3] [(a_t, .inr (3, [.ref a_t_paper, .ref a_t_linked, .ref a_t_caseAt, .ref a_t_reasonAt, .ref a_t_firstSlot, .ref a_t_members, .ref a_t_namedBy, .ref a_t_foundBy, .int v_t_linkedVersion, .int v_t_studiedVersion, .int v_t_present, .int v_t_fulls, .int v_t_cases, .int v_t_cited, .int v_t_alive, .int v_t_dead])), (a_t_caseAt, .inl (cI, 32, .inl r_t_caseAt)), (a_t_foundBy, .inl (cI, 8, .inl r_t_foundBy)), (a_t_reasonAt, .inl (cI, 32, .inl r_t_reasonAt))] sz) (pn_Qv D [(a_t, .inr (3, [.ref a_t_paper, .ref a_t_linked, .ref a_t_caseAt, .ref a_t_reasonAt, .ref a_t_firstSlot, .ref a_t_members, .ref a_t_namedBy, .ref a_t_foundBy, .int v_t_linkedVersion, .int v_t_studiedVersion, .int v_t_present, .int v_t_fulls, .int v_t_cases, .int v_t_cited, .int o_t_alive, .int o_t_dead])), (a_t_caseAt, .inl (cI, 32, .inl o_t_caseAt)), (a_t_foundBy, .inl (cI, 8, .inl o_t_foundBy)), (a_t_reasonAt, .inl (cI, 32, .inl o_t_reasonAt))] (va_A [(a_t, .inr (3, [.ref a_t_paper, .ref a_t_linked, .ref a_t_caseAt, .ref a_t_reasonAt, .ref a_t_firstSlot, .ref a_t_members, .ref a_t_namedBy, .ref a_t_foundBy, .int v_t_linkedVersion, .int v_t_studiedVersion, .int v_t_present, .int v_t_fulls, .int v_t_cases, .int v_t_cited, .int v_t_alive, .int v_t_dead])), (a_t_caseAt, .inl (cI, 32, .inl r_t_caseAt)), (a_t_foundBy, .inl (cI, 8, .inl r_t_foundBy)), (a_t_reasonAt, .inl (cI, 32, .inl r_t_reasonAt))] sz)) 0 0 (va_A [(a_t, .inr (3, [.ref a_t_paper, .ref a_t_linked, .ref a_t_caseAt, .ref a_t_reasonAt, .ref a_t_firstSlot, .ref a_t_members, .ref a_t_namedBy, .ref a_t_foundBy, .int v_t_linkedVersion, .int v_t_studiedVersion, .int v_t_present, .int v_t_fulls, .int v_t_cases, .int v_t_cited, .int v_t_alive, .int v_t_dead])), (a_t_caseAt, .inl (cI, 32, .inl r_t_caseAt)), (a_t_foundBy, .inl (cI, 8, .inl r_t_foundBy)), (a_t_reasonAt, .inl (cI, 32, .inl r_t_reasonAt))] sz) := by
  refine pn_entry (cc := cX4_settle) (maxL := 5) (ret := none) (Qf := pn_Qv D [(a_t, .inr (3, [.ref a_t_paper, .ref a_t_linked, .ref a_t_caseAt, .ref a_t_reasonAt, .ref a_t_firstSlot, .ref a_t_members, .ref a_t_namedBy, .ref a_t_foundBy, .int v_t_linkedVersion, .int v_t_studiedVersion, .int v_t_present, .int v_t_fulls, .int v_t_cases, .int v_t_cited, .int o_t_alive, .int o_t_dead])), (a_t_caseAt, .inl (cI, 32, .inl o_t_caseAt)), (a_t_foundBy, .inl (cI, 8, .inl o_t_foundBy)), (a_t_reasonAt, .inl (cI, 32, .inl o_t_reasonAt))]) (by decide) rfl (Nat.le_of_ble_eq_true rfl) ?_
  intro p e s m args below meth c A ls H locs Qm hQ hx hb hr hlocks hml hown hts hK hP hD hA hS hl
  have hl : lv_has ls 5 [(0, .ref a_t), (1, .int p1), (2, .int p2), (3, .int p3)] := hl
  have hinX4 : ∀ w ∈ wsX40, w ∈ wsX4_settle := by decide +kernel
  have fl_22 := hts (.fieldLink RX4 22 "PointingNotes$Study" "caseAt" "[I") (by decide +kernel)
  have fl_25 := hts (.fieldLink RX4 25 "PointingNotes$Study" "reasonAt" "[I") (by decide +kernel)
  have fl_37 := hts (.fieldLink RX4 37 "PointingNotes$Study" "foundBy" "[I") (by decide +kernel)
  have fl_50 := hts (.fieldLink RX4 50 "PointingNotes$Study" "alive" "I") (by decide +kernel)
  have fl_53 := hts (.fieldLink RX4 53 "PointingNotes$Study" "dead" "I") (by decide +kernel)
  rw [f_X4_settle] at hf
  have jn44 : ∀ (x4 : Int32) (s1 : Int32) (s2 : Int32) (v_t_alive : Int32) (v_t_dead : Int32) (r_t_caseAt : Nat → Int32) (r_t_foundBy : Nat → Int32) (r_t_reasonAt : Nat → Int32) (H : Heap) (locs : List Loc) (ls : Array Slot), j_X4_settle_44 p2 x4 s1 s2 v_t_alive v_t_dead r_t_caseAt r_t_foundBy r_t_reasonAt = some (o_t_alive, o_t_dead, o_t_caseAt, o_t_foundBy, o_t_reasonAt) → va_P D vwCl [(a_t, .inr (3, [.ref a_t_paper, .ref a_t_linked, .ref a_t_caseAt, .ref a_t_reasonAt, .ref a_t_firstSlot, .ref a_t_members, .ref a_t_namedBy, .ref a_t_foundBy, .int v_t_linkedVersion, .int v_t_studiedVersion, .int v_t_present, .int v_t_fulls, .int v_t_cases, .int v_t_cited, .int v_t_alive, .int v_t_dead])), (a_t_caseAt, .inl (cI, 32, .inl r_t_caseAt)), (a_t_foundBy, .inl (cI, 8, .inl r_t_foundBy)), (a_t_reasonAt, .inl (cI, 32, .inl r_t_reasonAt))] H → va_S A s.heap H locs → lv_has ls 5 [(0, .ref a_t), (2, .int p2), (4, .int x4)] → W p l e { frames := 0, cells := 0, slots := 0, locals := 0 } s m args below meth c H locs 0 0 Qm (F0 m 44 ls [.int s2, .int s1, .ref a_t_reasonAt]) := by
    intro x4 s1 s2 v_t_alive v_t_dead r_t_caseAt r_t_foundBy r_t_reasonAt H locs ls hf hP hS hl
    rw [j_X4_settle_44] at hf
    obtain ⟨hi2, g1, eg1, hf⟩ := pn_wrI_at hf
    refine pn_stI hx hb hK.1 hP (hD.addr rfl) hS 3 0 rfl rfl hi2 eg1 dX4_settle_44 (fun H locs (hP : va_P D vwCl [(a_t, .inr (3, [.ref a_t_paper, .ref a_t_linked, .ref a_t_caseAt, .ref a_t_reasonAt, .ref a_t_firstSlot, .ref a_t_members, .ref a_t_namedBy, .ref a_t_foundBy, .int v_t_linkedVersion, .int v_t_studiedVersion, .int v_t_present, .int v_t_fulls, .int v_t_cases, .int v_t_cited, .int v_t_alive, .int v_t_dead])), (a_t_caseAt, .inl (cI, 32, .inl r_t_caseAt)), (a_t_foundBy, .inl (cI, 8, .inl r_t_foundBy)), (a_t_reasonAt, .inl (cI, 32, .inl g1))] H) _ hS => ?_)
    refine lv_iload_n hx hb dX4_settle_45 rfl (lv_at hl 1 rfl) ?_
    refine lv_if_ge (tgt := 62) hx hb dX4_settle_46 (by decide) (fun c3 => ?_) (fun c3 => ?_)
    · have hf := pn_ifp c3 hf
      refine lv_aload_n hx hb dX4_settle_62 rfl (lv_at hl 0 rfl) ?_
      refine lv_dup hx hb dX4_settle_63 rfl ?_
      refine va_get (D := D) (ci := 3) (v := .int v_t_alive) (C := RX4) (T := TX4) (N := 16) hx hb hts hinX4 hown hK.1 hP 0 rfl rfl 14 (by decide) fl_50 (fun _ h9 => h9) rfl dX4_settle_64 ?_
      refine lv_iconst (v := (1)) hx hb dX4_settle_67 (by decide) ?_
      refine lv_iadd hx hb dX4_settle_68 ?_
      refine lv_topi (fun z4 ez4 => ?_)
      have hf := pn_nm_at ez4 hf
      refine va_put (D := D) (ci := 3) (v := .int z4) (ty := .int) (C := RX4) (T := TX4) (N := 16) hx hb hts hinX4 tyX4 tyX4_ok nmX4 hown hK.1 hP (hD.addr rfl) hS 0 rfl rfl 14 (by decide) fl_50 (fun _ h9 => h9) rfl (by decide +kernel) rfl rfl (Nat.le_of_ble_eq_true rfl) dX4_settle_69 (fun H locs (hP : va_P D vwCl [(a_t, .inr (3, [.ref a_t_paper, .ref a_t_linked, .ref a_t_caseAt, .ref a_t_reasonAt, .ref a_t_firstSlot, .ref a_t_members, .ref a_t_namedBy, .ref a_t_foundBy, .int v_t_linkedVersion, .int v_t_studiedVersion, .int v_t_present, .int v_t_fulls, .int v_t_cases, .int v_t_cited, .int z4, .int v_t_dead])), (a_t_caseAt, .inl (cI, 32, .inl r_t_caseAt)), (a_t_foundBy, .inl (cI, 8, .inl r_t_foundBy)), (a_t_reasonAt, .inl (cI, 32, .inl g1))] H) _ hS => ?_)
      refine lv_aload_n hx hb dX4_settle_72 rfl (lv_at hl 0 rfl) ?_
      refine va_get (D := D) (ci := 3) (v := .ref a_t_foundBy) (C := RX4) (T := TX4) (N := 16) hx hb hts hinX4 hown hK.1 hP 0 rfl rfl 7 (by decide) fl_37 (fun _ h9 => h9) rfl dX4_settle_73 ?_
      refine lv_iload hx hb dX4_settle_76 (lv_at hl 2 rfl) ?_
      refine lv_dup2_11 hx hb dX4_settle_78 rfl rfl ?_
      obtain ⟨hi6, w5, ew5, hf⟩ := pn_rd_at hf
      refine pn_ldI hx hb hK.1 hP 2 0 rfl rfl hi6 ew5 dX4_settle_79 ?_
      refine lv_iconst (v := (1)) hx hb dX4_settle_80 (by decide) ?_
      refine lv_iload_n hx hb dX4_settle_81 rfl (lv_at hl 1 rfl) ?_
      refine lv_ishl hx hb dX4_settle_82 ?_
      refine lv_ior hx hb dX4_settle_83 ?_
      obtain ⟨hi8, g7, eg7, hf⟩ := pn_wrI_at hf
      refine pn_stI hx hb hK.1 hP (hD.addr rfl) hS 2 0 rfl rfl hi8 eg7 dX4_settle_84 (fun H locs (hP : va_P D vwCl [(a_t, .inr (3, [.ref a_t_paper, .ref a_t_linked, .ref a_t_caseAt, .ref a_t_reasonAt, .ref a_t_firstSlot, .ref a_t_members, .ref a_t_namedBy, .ref a_t_foundBy, .int v_t_linkedVersion, .int v_t_studiedVersion, .int v_t_present, .int v_t_fulls, .int v_t_cases, .int v_t_cited, .int z4, .int v_t_dead])), (a_t_caseAt, .inl (cI, 32, .inl r_t_caseAt)), (a_t_foundBy, .inl (cI, 8, .inl g7)), (a_t_reasonAt, .inl (cI, 32, .inl g1))] H) _ hS => ?_)
      cases hf
      rw [hQ]
      exact pn_retv hx hb hr hlocks hP hS dX4_settle_85
    · have hf := pn_ifn c3 hf
      refine lv_aload_n hx hb dX4_settle_49 rfl (lv_at hl 0 rfl) ?_
      refine lv_dup hx hb dX4_settle_50 rfl ?_
      refine va_get (D := D) (ci := 3) (v := .int v_t_dead) (C := RX4) (T := TX4) (N := 16) hx hb hts hinX4 hown hK.1 hP 0 rfl rfl 15 (by decide) fl_53 (fun _ h9 => h9) rfl dX4_settle_51 ?_
      refine lv_iconst (v := (1)) hx hb dX4_settle_54 (by decide) ?_
      refine lv_iadd hx hb dX4_settle_55 ?_
      refine lv_topi (fun z9 ez9 => ?_)
      have hf := pn_nm_at ez9 hf
      refine va_put (D := D) (ci := 3) (v := .int z9) (ty := .int) (C := RX4) (T := TX4) (N := 16) hx hb hts hinX4 tyX4 tyX4_ok nmX4 hown hK.1 hP (hD.addr rfl) hS 0 rfl rfl 15 (by decide) fl_53 (fun _ h9 => h9) rfl (by decide +kernel) rfl rfl (Nat.le_of_ble_eq_true rfl) dX4_settle_56 (fun H locs (hP : va_P D vwCl [(a_t, .inr (3, [.ref a_t_paper, .ref a_t_linked, .ref a_t_caseAt, .ref a_t_reasonAt, .ref a_t_firstSlot, .ref a_t_members, .ref a_t_namedBy, .ref a_t_foundBy, .int v_t_linkedVersion, .int v_t_studiedVersion, .int v_t_present, .int v_t_fulls, .int v_t_cases, .int v_t_cited, .int v_t_alive, .int z9])), (a_t_caseAt, .inl (cI, 32, .inl r_t_caseAt)), (a_t_foundBy, .inl (cI, 8, .inl r_t_foundBy)), (a_t_reasonAt, .inl (cI, 32, .inl g1))] H) _ hS => ?_)
      refine lv_goto (tgt := 85) hx hb dX4_settle_59 (by decide) ?_
      cases hf
      rw [hQ]
      exact pn_retv hx hb hr hlocks hP hS dX4_settle_85
  refine lv_iload_n hx hb dX4_settle_0 rfl (lv_at hl 1 rfl) ?_
  refine lv_iconst (v := (4)) hx hb dX4_settle_1 (by decide) ?_
  refine lv_idiv hx hb dX4_settle_2 (by decide) ?_
  refine lv_topi (fun z10 ez10 => ?_)
  have hf := pn_nm_at ez10 hf
  refine lv_istore (lv' := [(4, .int z10), (0, .ref a_t), (1, .int p1), (2, .int p2), (3, .int p3)]) hx hb dX4_settle_3 hl (by decide) rfl (fun ls hl => ?_)
  refine lv_iload_n hx hb dX4_settle_5 rfl (lv_at hl 2 rfl) ?_
  refine lv_if_lt (tgt := 22) hx hb dX4_settle_6 (by decide) (fun c11 => ?_) (fun c11 => ?_)
  · have hf := pn_ifp c11 hf
    cases hf
    rw [hQ]
    exact pn_retv hx hb hr hlocks hP hS dX4_settle_22
  · have hf := pn_ifn c11 hf
    refine lv_iload_n hx hb dX4_settle_9 rfl (lv_at hl 2 rfl) ?_
    refine lv_bipush (v := (32)) hx hb dX4_settle_10 (by decide) ?_
    refine lv_icmp_ge (tgt := 22) hx hb dX4_settle_12 (by decide) (fun c12 => ?_) (fun c12 => ?_)
    · have hf := pn_ifp c12 hf
      cases hf
      rw [hQ]
      exact pn_retv hx hb hr hlocks hP hS dX4_settle_22
    · have hf := pn_ifn c12 hf
      refine lv_iload hx hb dX4_settle_15 (lv_at hl 0 rfl) ?_
      refine lv_bipush (v := (8)) hx hb dX4_settle_17 (by decide) ?_
      refine lv_icmp_lt (tgt := 23) hx hb dX4_settle_19 (by decide) (fun c13 => ?_) (fun c13 => ?_)
      · have hf := pn_ifp c13 hf
        refine lv_aload_n hx hb dX4_settle_23 rfl (lv_at hl 1 rfl) ?_
        refine va_get (D := D) (ci := 3) (v := .ref a_t_caseAt) (C := RX4) (T := TX4) (N := 16) hx hb hts hinX4 hown hK.1 hP 0 rfl rfl 2 (by decide) fl_22 (fun _ h9 => h9) rfl dX4_settle_24 ?_
        refine lv_iload_n hx hb dX4_settle_27 rfl (lv_at hl 2 rfl) ?_
        refine lv_iload_n hx hb dX4_settle_28 rfl (lv_at hl 3 rfl) ?_
        obtain ⟨hi15, g14, eg14, hf⟩ := pn_wrI_at hf
        refine pn_stI hx hb hK.1 hP (hD.addr rfl) hS 1 0 rfl rfl hi15 eg14 dX4_settle_29 (fun H locs (hP : va_P D vwCl [(a_t, .inr (3, [.ref a_t_paper, .ref a_t_linked, .ref a_t_caseAt, .ref a_t_reasonAt, .ref a_t_firstSlot, .ref a_t_members, .ref a_t_namedBy, .ref a_t_foundBy, .int v_t_linkedVersion, .int v_t_studiedVersion, .int v_t_present, .int v_t_fulls, .int v_t_cases, .int v_t_cited, .int v_t_alive, .int v_t_dead])), (a_t_caseAt, .inl (cI, 32, .inl g14)), (a_t_foundBy, .inl (cI, 8, .inl r_t_foundBy)), (a_t_reasonAt, .inl (cI, 32, .inl r_t_reasonAt))] H) _ hS => ?_)
        refine lv_aload_n hx hb dX4_settle_30 rfl (lv_at hl 1 rfl) ?_
        refine va_get (D := D) (ci := 3) (v := .ref a_t_reasonAt) (C := RX4) (T := TX4) (N := 16) hx hb hts hinX4 hown hK.1 hP 0 rfl rfl 3 (by decide) fl_25 (fun _ h9 => h9) rfl dX4_settle_31 ?_
        refine lv_iload_n hx hb dX4_settle_34 rfl (lv_at hl 2 rfl) ?_
        refine lv_iload_n hx hb dX4_settle_35 rfl (lv_at hl 3 rfl) ?_
        refine lv_if_ge (tgt := 43) hx hb dX4_settle_36 (by decide) (fun c16 => ?_) (fun c16 => ?_)
        · have hf := pn_ifp c16 hf
          refine lv_iconst (v := (0)) hx hb dX4_settle_43 (by decide) ?_
          exact jn44 z10 p1 (0 : Int32) v_t_alive v_t_dead g14 r_t_foundBy r_t_reasonAt H locs ls hf hP hS (lv_sub hl [1, 3, 0] rfl)
        · have hf := pn_ifn c16 hf
          refine lv_iload_n hx hb dX4_settle_39 rfl (lv_at hl 4 rfl) ?_
          refine lv_goto (tgt := 44) hx hb dX4_settle_40 (by decide) ?_
          exact jn44 z10 p1 p3 v_t_alive v_t_dead g14 r_t_foundBy r_t_reasonAt H locs ls hf hP hS (lv_sub hl [1, 3, 0] rfl)
      · have hf := pn_ifn c13 hf
        cases hf
        rw [hQ]
        exact pn_retv hx hb hr hlocks hP hS dX4_settle_22
def j_X4_settleOnly_20 (p1 : Int32) (x3 : Int32) (s0 : Int32) (v_t_alive : Int32) (v_t_dead : Int32) (r_t_caseAt : Nat → Int32) (r_t_foundBy : Nat → Int32) (r_t_reasonAt : Nat → Int32) : Option (Int32 × Int32 × (Nat → Int32) × (Nat → Int32) × (Nat → Int32)) :=
  if ¬ x3 = 0 then
  pn_bd5 (f_X4_settle v_t_alive v_t_dead r_t_caseAt r_t_foundBy r_t_reasonAt p1 s0 (2 : Int32)) fun v_t_alive_u2 v_t_dead_u2 r_t_caseAt_u2 r_t_foundBy_u2 r_t_reasonAt_u2 =>
  some (v_t_alive_u2, v_t_dead_u2, r_t_caseAt_u2, r_t_foundBy_u2, r_t_reasonAt_u2)
  else
  pn_bd5 (f_X4_settle v_t_alive v_t_dead r_t_caseAt r_t_foundBy r_t_reasonAt p1 s0 (1 : Int32)) fun v_t_alive_u3 v_t_dead_u3 r_t_caseAt_u3 r_t_foundBy_u3 r_t_reasonAt_u3 =>
  some (v_t_alive_u3, v_t_dead_u3, r_t_caseAt_u3, r_t_foundBy_u3, r_t_reasonAt_u3)
def f_X4_settleOnly (v_t_alive : Int32) (v_t_dead : Int32) (r_t_caseAt : Nat → Int32) (r_t_foundBy : Nat → Int32) (r_t_reasonAt : Nat → Int32) (p1 : Int32) (p2 : Int32) : Option (Int32 × Int32 × (Nat → Int32) × (Nat → Int32) × (Nat → Int32)) :=
  pn_bd1 (f_J6_bitCount_0f7a4 p2) fun ru4 =>
  if ¬ ru4 = (1 : Int32) then
  j_X4_settleOnly_20 p1 ru4 (-1 : Int32) v_t_alive v_t_dead r_t_caseAt r_t_foundBy r_t_reasonAt
  else
  pn_bd1 (f_J6_bitCount_0f7a4 (p2 - (1 : Int32))) fun ru6 =>
  j_X4_settleOnly_20 p1 ru4 ru6 v_t_alive v_t_dead r_t_caseAt r_t_foundBy r_t_reasonAt
set_option maxHeartbeats 4000000 in
set_option maxRecDepth 100000 in
theorem c_X4_settleOnly (l : Launch) (D : va_G) (cI cJ cZ : ClassId) (a_t a_t_paper a_t_linked a_t_caseAt a_t_reasonAt a_t_firstSlot a_t_members a_t_namedBy a_t_foundBy : Nat) (sz : Nat) (v_t_linkedVersion : Int32) (v_t_studiedVersion : Int32) (v_t_present : Int32) (v_t_fulls : Int32) (v_t_cases : Int32) (v_t_cited : Int32) (v_t_alive : Int32) (v_t_dead : Int32) (r_t_caseAt : Nat → Int32) (r_t_foundBy : Nat → Int32) (r_t_reasonAt : Nat → Int32) (p1 : Int32) (p2 : Int32) (o_t_alive : Int32) (o_t_dead : Int32) (o_t_caseAt : Nat → Int32) (o_t_foundBy : Nat → Int32) (o_t_reasonAt : Nat → Int32) (hf : f_X4_settleOnly v_t_alive v_t_dead r_t_caseAt r_t_foundBy r_t_reasonAt p1 p2 = some (o_t_alive, o_t_dead, o_t_caseAt, o_t_foundBy, o_t_reasonAt)) : Met l yX4_settleOnly wsX4_settleOnly { frames := 1, cells := 0, slots := 0, locals := 24 } (pn_Pc D cI cJ cZ [.ref a_t, .int p1, .int p2] [(a_t, .inr (3, [.ref a_t_paper, .ref a_t_linked, .ref a_t_caseAt, .ref a_t_reasonAt, .ref a_t_firstSlot, .ref a_t_members, .ref a_t_namedBy, .ref a_t_foundBy, .int v_t_linkedVersion, .int v_t_studiedVersion, .int v_t_present, .int v_t_fulls, .int v_t_cases, .int v_t_cited, .int v_t_alive, .int v_t_dead])), (a_t_caseAt, .inl (cI, 32, .inl r_t_caseAt)), (a_t_foundBy, .inl (cI, 8, .inl r_t_foundBy)), (a_t_reasonAt, .inl (cI, 32, .inl r_t_reasonAt))] sz) (pn_Qv D [(a_t, .inr (3, [.ref a_t_paper, .ref a_t_linked, .ref a_t_caseAt, .ref a_t_reasonAt, .ref a_t_firstSlot, .ref a_t_members, .ref a_t_namedBy, .ref a_t_foundBy, .int v_t_linkedVersion, .int v_t_studiedVersion, .int v_t_present, .int v_t_fulls, .int v_t_cases, .int v_t_cited, .int o_t_alive, .int o_t_dead])), (a_t_caseAt, .inl (cI, 32, .inl o_t_caseAt)), (a_t_foundBy, .inl (cI, 8, .inl o_t_foundBy)), (a_t_reasonAt, .inl (cI, 32, .inl o_t_reasonAt))] (va_A [(a_t, .inr (3, [.ref a_t_paper, .ref a_t_linked, .ref a_t_caseAt, .ref a_t_reasonAt, .ref a_t_firstSlot, .ref a_t_members, .ref a_t_namedBy, .ref a_t_foundBy, .int v_t_linkedVersion, .int v_t_studiedVersion, .int v_t_present, .int v_t_fulls, .int v_t_cases, .int v_t_cited, .int v_t_alive, .int v_t_dead])), (a_t_caseAt, .inl (cI, 32, .inl r_t_caseAt)), (a_t_foundBy, .inl (cI, 8, .inl r_t_foundBy)), (a_t_reasonAt, .inl (cI, 32, .inl r_t_reasonAt))] sz)) 0 0 (va_A [(a_t, .inr (3, [.ref a_t_paper, .ref a_t_linked, .ref a_t_caseAt, .ref a_t_reasonAt, .ref a_t_firstSlot, .ref a_t_members, .ref a_t_namedBy, .ref a_t_foundBy, .int v_t_linkedVersion, .int v_t_studiedVersion, .int v_t_present, .int v_t_fulls, .int v_t_cases, .int v_t_cited, .int v_t_alive, .int v_t_dead])), (a_t_caseAt, .inl (cI, 32, .inl r_t_caseAt)), (a_t_foundBy, .inl (cI, 8, .inl r_t_foundBy)), (a_t_reasonAt, .inl (cI, 32, .inl r_t_reasonAt))] sz) := by
  refine pn_entry (cc := cX4_settleOnly) (maxL := 5) (ret := none) (Qf := pn_Qv D [(a_t, .inr (3, [.ref a_t_paper, .ref a_t_linked, .ref a_t_caseAt, .ref a_t_reasonAt, .ref a_t_firstSlot, .ref a_t_members, .ref a_t_namedBy, .ref a_t_foundBy, .int v_t_linkedVersion, .int v_t_studiedVersion, .int v_t_present, .int v_t_fulls, .int v_t_cases, .int v_t_cited, .int o_t_alive, .int o_t_dead])), (a_t_caseAt, .inl (cI, 32, .inl o_t_caseAt)), (a_t_foundBy, .inl (cI, 8, .inl o_t_foundBy)), (a_t_reasonAt, .inl (cI, 32, .inl o_t_reasonAt))]) (by decide) rfl (Nat.le_of_ble_eq_true rfl) ?_
  intro p e s m args below meth c A ls H locs Qm hQ hx hb hr hlocks hml hown hts hK hP hD hA hS hl
  have hl : lv_has ls 5 [(0, .ref a_t), (1, .int p1), (2, .int p2)] := hl
  rw [f_X4_settleOnly] at hf
  have jn20 : ∀ (x3 : Int32) (s0 : Int32) (v_t_alive : Int32) (v_t_dead : Int32) (r_t_caseAt : Nat → Int32) (r_t_foundBy : Nat → Int32) (r_t_reasonAt : Nat → Int32) (H : Heap) (locs : List Loc) (ls : Array Slot), j_X4_settleOnly_20 p1 x3 s0 v_t_alive v_t_dead r_t_caseAt r_t_foundBy r_t_reasonAt = some (o_t_alive, o_t_dead, o_t_caseAt, o_t_foundBy, o_t_reasonAt) → va_P D vwCl [(a_t, .inr (3, [.ref a_t_paper, .ref a_t_linked, .ref a_t_caseAt, .ref a_t_reasonAt, .ref a_t_firstSlot, .ref a_t_members, .ref a_t_namedBy, .ref a_t_foundBy, .int v_t_linkedVersion, .int v_t_studiedVersion, .int v_t_present, .int v_t_fulls, .int v_t_cases, .int v_t_cited, .int v_t_alive, .int v_t_dead])), (a_t_caseAt, .inl (cI, 32, .inl r_t_caseAt)), (a_t_foundBy, .inl (cI, 8, .inl r_t_foundBy)), (a_t_reasonAt, .inl (cI, 32, .inl r_t_reasonAt))] H → va_S A s.heap H locs → lv_has ls 5 [(0, .ref a_t), (1, .int p1), (3, .int x3)] → W p l e { frames := 1, cells := 0, slots := 0, locals := 24 } s m args below meth c H locs 0 0 Qm (F0 m 20 ls [.int s0]) := by
    intro x3 s0 v_t_alive v_t_dead r_t_caseAt r_t_foundBy r_t_reasonAt H locs ls hf hP hS hl
    rw [j_X4_settleOnly_20] at hf
    refine lv_istore (lv' := [(4, .int s0), (0, .ref a_t), (1, .int p1), (3, .int x3)]) hx hb dX4_settleOnly_20 hl (by decide) rfl (fun ls hl => ?_)
    refine lv_aload_n hx hb dX4_settleOnly_22 rfl (lv_at hl 1 rfl) ?_
    refine lv_iload_n hx hb dX4_settleOnly_23 rfl (lv_at hl 2 rfl) ?_
    refine lv_iload hx hb dX4_settleOnly_24 (lv_at hl 0 rfl) ?_
    refine lv_iload_n hx hb dX4_settleOnly_26 rfl (lv_at hl 3 rfl) ?_
    refine lv_if_ne (tgt := 34) hx hb dX4_settleOnly_27 (by decide) (fun c1 => ?_) (fun c1 => ?_)
    · have hf := pn_ifp c1 hf
      refine lv_iconst (v := (2)) hx hb dX4_settleOnly_34 (by decide) ?_
      obtain ⟨v_t_alive_u2, v_t_dead_u2, r_t_caseAt_u2, r_t_foundBy_u2, r_t_reasonAt_u2, hu2, hf⟩ := pn_bd5_at hf
      refine pn_callv [0, 1, 2, 3] (va_runV (As := [.int p1, .int s0, .int (2 : Int32)]) (rest := []) ⟨hx, hb, hml, hown, hts⟩ (c_X4_settle l D cI cJ cZ a_t a_t_paper a_t_linked a_t_caseAt a_t_reasonAt a_t_firstSlot a_t_members a_t_namedBy a_t_foundBy H.size v_t_linkedVersion v_t_studiedVersion v_t_present v_t_fulls v_t_cases v_t_cited v_t_alive v_t_dead r_t_caseAt r_t_foundBy r_t_reasonAt p1 s0 (2 : Int32) v_t_alive_u2 v_t_dead_u2 r_t_caseAt_u2 r_t_foundBy_u2 r_t_reasonAt_u2 hu2) (cwV 3 hts gX4_settleOnly_X4_settle rfl rfl rfl hdX4_settle ⟨Nat.le_of_ble_eq_true rfl, Nat.le_of_ble_eq_true rfl⟩) (pn_preV [0, 1, 2, 3] hP (hD.addr rfl) hK rfl rfl (q0 := 0) (ci := 3) rfl rfl) rfl rfl hl.1 rfl (lv_room (Nat.le_of_ble_eq_true rfl)) dX4_settleOnly_35 ⟨Nat.zero_le _, Nat.zero_le _⟩) hP (hD.addr rfl) hS hA rfl rfl rfl (fun H locs (hP : va_P D vwCl [(a_t, .inr (3, [.ref a_t_paper, .ref a_t_linked, .ref a_t_caseAt, .ref a_t_reasonAt, .ref a_t_firstSlot, .ref a_t_members, .ref a_t_namedBy, .ref a_t_foundBy, .int v_t_linkedVersion, .int v_t_studiedVersion, .int v_t_present, .int v_t_fulls, .int v_t_cases, .int v_t_cited, .int v_t_alive_u2, .int v_t_dead_u2])), (a_t_caseAt, .inl (cI, 32, .inl r_t_caseAt_u2)), (a_t_foundBy, .inl (cI, 8, .inl r_t_foundBy_u2)), (a_t_reasonAt, .inl (cI, 32, .inl r_t_reasonAt_u2))] H) _ hS => ?_)
      cases hf
      rw [hQ]
      exact pn_retv hx hb hr hlocks hP hS dX4_settleOnly_38
    · have hf := pn_ifq c1 hf
      refine lv_iconst (v := (1)) hx hb dX4_settleOnly_30 (by decide) ?_
      refine lv_goto (tgt := 35) hx hb dX4_settleOnly_31 (by decide) ?_
      obtain ⟨v_t_alive_u3, v_t_dead_u3, r_t_caseAt_u3, r_t_foundBy_u3, r_t_reasonAt_u3, hu3, hf⟩ := pn_bd5_at hf
      refine pn_callv [0, 1, 2, 3] (va_runV (As := [.int p1, .int s0, .int (1 : Int32)]) (rest := []) ⟨hx, hb, hml, hown, hts⟩ (c_X4_settle l D cI cJ cZ a_t a_t_paper a_t_linked a_t_caseAt a_t_reasonAt a_t_firstSlot a_t_members a_t_namedBy a_t_foundBy H.size v_t_linkedVersion v_t_studiedVersion v_t_present v_t_fulls v_t_cases v_t_cited v_t_alive v_t_dead r_t_caseAt r_t_foundBy r_t_reasonAt p1 s0 (1 : Int32) v_t_alive_u3 v_t_dead_u3 r_t_caseAt_u3 r_t_foundBy_u3 r_t_reasonAt_u3 hu3) (cwV 3 hts gX4_settleOnly_X4_settle rfl rfl rfl hdX4_settle ⟨Nat.le_of_ble_eq_true rfl, Nat.le_of_ble_eq_true rfl⟩) (pn_preV [0, 1, 2, 3] hP (hD.addr rfl) hK rfl rfl (q0 := 0) (ci := 3) rfl rfl) rfl rfl hl.1 rfl (lv_room (Nat.le_of_ble_eq_true rfl)) dX4_settleOnly_35 ⟨Nat.zero_le _, Nat.zero_le _⟩) hP (hD.addr rfl) hS hA rfl rfl rfl (fun H locs (hP : va_P D vwCl [(a_t, .inr (3, [.ref a_t_paper, .ref a_t_linked, .ref a_t_caseAt, .ref a_t_reasonAt, .ref a_t_firstSlot, .ref a_t_members, .ref a_t_namedBy, .ref a_t_foundBy, .int v_t_linkedVersion, .int v_t_studiedVersion, .int v_t_present, .int v_t_fulls, .int v_t_cases, .int v_t_cited, .int v_t_alive_u3, .int v_t_dead_u3])), (a_t_caseAt, .inl (cI, 32, .inl r_t_caseAt_u3)), (a_t_foundBy, .inl (cI, 8, .inl r_t_foundBy_u3)), (a_t_reasonAt, .inl (cI, 32, .inl r_t_reasonAt_u3))] H) _ hS => ?_)
      cases hf
      rw [hQ]
      exact pn_retv hx hb hr hlocks hP hS dX4_settleOnly_38
  refine lv_iload_n hx hb dX4_settleOnly_0 rfl (lv_at hl 2 rfl) ?_
  obtain ⟨ru4, hu4, hf⟩ := pn_bd1_at hf
  refine pn_calli [] (va_runS (As := [.int p2]) (rest := []) ⟨hx, hb, hml, hown, hts⟩ (c_J6_bitCount_0f7a4 l D cI cJ cZ H.size p2 ru4 hu4) (va_cwS 1 hts gX4_settleOnly_J6_bitCount_0f7a4 rfl rfl rfl hdJ6_bitCount_0f7a4 ⟨Nat.le_of_ble_eq_true rfl, Nat.le_of_ble_eq_true rfl⟩) (pn_preS [] hP (hD.addr rfl) hK rfl rfl) rfl rfl hl.1 rfl (lv_room (Nat.le_of_ble_eq_true rfl)) dX4_settleOnly_1 ⟨Nat.zero_le _, Nat.zero_le _⟩) hP (hD.addr rfl) hS hA rfl rfl rfl (fun H locs (hP : va_P D vwCl [(a_t, .inr (3, [.ref a_t_paper, .ref a_t_linked, .ref a_t_caseAt, .ref a_t_reasonAt, .ref a_t_firstSlot, .ref a_t_members, .ref a_t_namedBy, .ref a_t_foundBy, .int v_t_linkedVersion, .int v_t_studiedVersion, .int v_t_present, .int v_t_fulls, .int v_t_cases, .int v_t_cited, .int v_t_alive, .int v_t_dead])), (a_t_caseAt, .inl (cI, 32, .inl r_t_caseAt)), (a_t_foundBy, .inl (cI, 8, .inl r_t_foundBy)), (a_t_reasonAt, .inl (cI, 32, .inl r_t_reasonAt))] H) _ hS => ?_)
  refine lv_istore_n (lv' := [(3, .int ru4), (0, .ref a_t), (1, .int p1), (2, .int p2)]) hx hb dX4_settleOnly_4 rfl hl (by decide) rfl (fun ls hl => ?_)
  refine lv_iload_n hx hb dX4_settleOnly_5 rfl (lv_at hl 0 rfl) ?_
  refine lv_iconst (v := (1)) hx hb dX4_settleOnly_6 (by decide) ?_
  refine lv_icmp_ne (tgt := 19) hx hb dX4_settleOnly_7 (by decide) (fun c5 => ?_) (fun c5 => ?_)
  · have hf := pn_ifp c5 hf
    refine lv_iconst (v := (-1)) hx hb dX4_settleOnly_19 (by decide) ?_
    exact jn20 ru4 (-1 : Int32) v_t_alive v_t_dead r_t_caseAt r_t_foundBy r_t_reasonAt H locs ls hf hP hS (lv_sub hl [1, 2, 0] rfl)
  · have hf := pn_ifq c5 hf
    refine lv_iload_n hx hb dX4_settleOnly_10 rfl (lv_at hl 3 rfl) ?_
    refine lv_iconst (v := (1)) hx hb dX4_settleOnly_11 (by decide) ?_
    refine lv_isub hx hb dX4_settleOnly_12 ?_
    obtain ⟨ru6, hu6, hf⟩ := pn_bd1_at hf
    refine pn_calli [] (va_runS (As := [.int (p2 - (1 : Int32))]) (rest := []) ⟨hx, hb, hml, hown, hts⟩ (c_J6_bitCount_0f7a4 l D cI cJ cZ H.size (p2 - (1 : Int32)) ru6 hu6) (va_cwS 1 hts gX4_settleOnly_J6_bitCount_0f7a4 rfl rfl rfl hdJ6_bitCount_0f7a4 ⟨Nat.le_of_ble_eq_true rfl, Nat.le_of_ble_eq_true rfl⟩) (pn_preS [] hP (hD.addr rfl) hK rfl rfl) rfl rfl hl.1 rfl (lv_room (Nat.le_of_ble_eq_true rfl)) dX4_settleOnly_13 ⟨Nat.zero_le _, Nat.zero_le _⟩) hP (hD.addr rfl) hS hA rfl rfl rfl (fun H locs (hP : va_P D vwCl [(a_t, .inr (3, [.ref a_t_paper, .ref a_t_linked, .ref a_t_caseAt, .ref a_t_reasonAt, .ref a_t_firstSlot, .ref a_t_members, .ref a_t_namedBy, .ref a_t_foundBy, .int v_t_linkedVersion, .int v_t_studiedVersion, .int v_t_present, .int v_t_fulls, .int v_t_cases, .int v_t_cited, .int v_t_alive, .int v_t_dead])), (a_t_caseAt, .inl (cI, 32, .inl r_t_caseAt)), (a_t_foundBy, .inl (cI, 8, .inl r_t_foundBy)), (a_t_reasonAt, .inl (cI, 32, .inl r_t_reasonAt))] H) _ hS => ?_)
    refine lv_goto (tgt := 20) hx hb dX4_settleOnly_16 (by decide) ?_
    exact jn20 ru4 ru6 v_t_alive v_t_dead r_t_caseAt r_t_foundBy r_t_reasonAt H locs ls hf hP hS (lv_sub hl [1, 2, 0] rfl)
def f_X4_pointedAt (v_t_paper_notes : Int32) (r_t_paper_sizes : Nat → Int32) (p1 : Int32) (p2 : Int32) (p3 : Int32) : Option (Int32) :=
  if p2 ≤ 0 then
  if p3 < 0 then
  some (-1 : Int32)
  else
  pn_bd1 (f_X1_size v_t_paper_notes r_t_paper_sizes p3) fun ru3 =>
  if ¬ ru3 = (1 : Int32) then
  some (-1 : Int32)
  else
  pn_bd1 (f_X1_slotOf p3 (0 : Int32)) fun ru5 =>
  some ru5
  else
  pn_bd1 (f_X1_slotOf p1 (p2 - (1 : Int32))) fun ru6 =>
  some ru6
set_option maxHeartbeats 4000000 in
set_option maxRecDepth 100000 in
theorem c_X4_pointedAt (l : Launch) (D : va_G) (cI cJ cZ : ClassId) (a_t a_t_paper a_t_linked a_t_caseAt a_t_reasonAt a_t_firstSlot a_t_members a_t_namedBy a_t_foundBy a_t_paper_sizes a_t_paper_cites : Nat) (sz : Nat) (v_t_linkedVersion : Int32) (v_t_studiedVersion : Int32) (v_t_present : Int32) (v_t_fulls : Int32) (v_t_cases : Int32) (v_t_cited : Int32) (v_t_alive : Int32) (v_t_dead : Int32) (v_t_paper_version : Int32) (v_t_paper_notes : Int32) (r_t_paper_sizes : Nat → Int32) (p1 : Int32) (p2 : Int32) (p3 : Int32) (rR : Int32) (hf : f_X4_pointedAt v_t_paper_notes r_t_paper_sizes p1 p2 p3 = some rR) : Met l yX4_pointedAt wsX4_pointedAt { frames := 1, cells := 0, slots := 0, locals := 21 } (pn_Pc D cI cJ cZ [.ref a_t, .int p1, .int p2, .int p3] [(a_t, .inr (3, [.ref a_t_paper, .ref a_t_linked, .ref a_t_caseAt, .ref a_t_reasonAt, .ref a_t_firstSlot, .ref a_t_members, .ref a_t_namedBy, .ref a_t_foundBy, .int v_t_linkedVersion, .int v_t_studiedVersion, .int v_t_present, .int v_t_fulls, .int v_t_cases, .int v_t_cited, .int v_t_alive, .int v_t_dead])), (a_t_paper, .inr (0, [.ref a_t_paper_sizes, .ref a_t_paper_cites, .int v_t_paper_notes, .int v_t_paper_version])), (a_t_paper_sizes, .inl (cI, 8, .inl r_t_paper_sizes))] sz) (pn_Qi D rR [(a_t, .inr (3, [.ref a_t_paper, .ref a_t_linked, .ref a_t_caseAt, .ref a_t_reasonAt, .ref a_t_firstSlot, .ref a_t_members, .ref a_t_namedBy, .ref a_t_foundBy, .int v_t_linkedVersion, .int v_t_studiedVersion, .int v_t_present, .int v_t_fulls, .int v_t_cases, .int v_t_cited, .int v_t_alive, .int v_t_dead])), (a_t_paper, .inr (0, [.ref a_t_paper_sizes, .ref a_t_paper_cites, .int v_t_paper_notes, .int v_t_paper_version])), (a_t_paper_sizes, .inl (cI, 8, .inl r_t_paper_sizes))] (va_A [(a_t, .inr (3, [.ref a_t_paper, .ref a_t_linked, .ref a_t_caseAt, .ref a_t_reasonAt, .ref a_t_firstSlot, .ref a_t_members, .ref a_t_namedBy, .ref a_t_foundBy, .int v_t_linkedVersion, .int v_t_studiedVersion, .int v_t_present, .int v_t_fulls, .int v_t_cases, .int v_t_cited, .int v_t_alive, .int v_t_dead])), (a_t_paper, .inr (0, [.ref a_t_paper_sizes, .ref a_t_paper_cites, .int v_t_paper_notes, .int v_t_paper_version])), (a_t_paper_sizes, .inl (cI, 8, .inl r_t_paper_sizes))] sz)) 0 0 (va_A [(a_t, .inr (3, [.ref a_t_paper, .ref a_t_linked, .ref a_t_caseAt, .ref a_t_reasonAt, .ref a_t_firstSlot, .ref a_t_members, .ref a_t_namedBy, .ref a_t_foundBy, .int v_t_linkedVersion, .int v_t_studiedVersion, .int v_t_present, .int v_t_fulls, .int v_t_cases, .int v_t_cited, .int v_t_alive, .int v_t_dead])), (a_t_paper, .inr (0, [.ref a_t_paper_sizes, .ref a_t_paper_cites, .int v_t_paper_notes, .int v_t_paper_version])), (a_t_paper_sizes, .inl (cI, 8, .inl r_t_paper_sizes))] sz) := by
  refine pn_entry (cc := cX4_pointedAt) (maxL := 4) (ret := (some .int)) (Qf := pn_Qi D rR [(a_t, .inr (3, [.ref a_t_paper, .ref a_t_linked, .ref a_t_caseAt, .ref a_t_reasonAt, .ref a_t_firstSlot, .ref a_t_members, .ref a_t_namedBy, .ref a_t_foundBy, .int v_t_linkedVersion, .int v_t_studiedVersion, .int v_t_present, .int v_t_fulls, .int v_t_cases, .int v_t_cited, .int v_t_alive, .int v_t_dead])), (a_t_paper, .inr (0, [.ref a_t_paper_sizes, .ref a_t_paper_cites, .int v_t_paper_notes, .int v_t_paper_version])), (a_t_paper_sizes, .inl (cI, 8, .inl r_t_paper_sizes))]) (by decide) rfl (Nat.le_of_ble_eq_true rfl) ?_
  intro p e s m args below meth c A ls H locs Qm hQ hx hb hr hlocks hml hown hts hK hP hD hA hS hl
  have hl : lv_has ls 4 [(0, .ref a_t), (1, .int p1), (2, .int p2), (3, .int p3)] := hl
  have hinX4 : ∀ w ∈ wsX40, w ∈ wsX4_pointedAt := by decide +kernel
  have fl_12 := hts (.fieldLink RX4 12 "PointingNotes$Study" "paper" "LPointingNotes$Paper;") (by decide +kernel)
  rw [f_X4_pointedAt] at hf
  refine lv_iload_n hx hb dX4_pointedAt_0 rfl (lv_at hl 2 rfl) ?_
  refine lv_if_le (tgt := 12) hx hb dX4_pointedAt_1 (by decide) (fun c1 => ?_) (fun c1 => ?_)
  · have hf := pn_ifp c1 hf
    refine lv_iload_n hx hb dX4_pointedAt_12 rfl (lv_at hl 3 rfl) ?_
    refine lv_if_lt (tgt := 36) hx hb dX4_pointedAt_13 (by decide) (fun c2 => ?_) (fun c2 => ?_)
    · have hf := pn_ifp c2 hf
      refine lv_iconst (v := (-1)) hx hb dX4_pointedAt_36 (by decide) ?_
      cases hf
      rw [hQ]
      exact pn_reti hx hb hr hlocks hP hS rfl dX4_pointedAt_37
    · have hf := pn_ifn c2 hf
      refine lv_aload_n hx hb dX4_pointedAt_16 rfl (lv_at hl 0 rfl) ?_
      refine va_get (D := D) (ci := 3) (v := .ref a_t_paper) (C := RX4) (T := TX4) (N := 16) hx hb hts hinX4 hown hK.1 hP 0 rfl rfl 0 (by decide) fl_12 (fun _ h9 => h9) rfl dX4_pointedAt_17 ?_
      refine lv_iload_n hx hb dX4_pointedAt_20 rfl (lv_at hl 3 rfl) ?_
      obtain ⟨ru3, hu3, hf⟩ := pn_bd1_at hf
      refine pn_calli [1, 2] (va_runV (As := [.int p3]) (rest := []) ⟨hx, hb, hml, hown, hts⟩ (c_X1_size l D cI cJ cZ a_t_paper a_t_paper_sizes a_t_paper_cites H.size v_t_paper_version v_t_paper_notes r_t_paper_sizes p3 ru3 hu3) (cwV 1 hts gX4_pointedAt_X1_size rfl rfl rfl hdX1_size ⟨Nat.le_of_ble_eq_true rfl, Nat.le_of_ble_eq_true rfl⟩) (pn_preV [1, 2] hP (hD.addr rfl) hK rfl rfl (q0 := 1) (ci := 0) rfl rfl) rfl rfl hl.1 rfl (lv_room (Nat.le_of_ble_eq_true rfl)) dX4_pointedAt_21 ⟨Nat.zero_le _, Nat.zero_le _⟩) hP (hD.addr rfl) hS hA rfl rfl rfl (fun H locs (hP : va_P D vwCl [(a_t, .inr (3, [.ref a_t_paper, .ref a_t_linked, .ref a_t_caseAt, .ref a_t_reasonAt, .ref a_t_firstSlot, .ref a_t_members, .ref a_t_namedBy, .ref a_t_foundBy, .int v_t_linkedVersion, .int v_t_studiedVersion, .int v_t_present, .int v_t_fulls, .int v_t_cases, .int v_t_cited, .int v_t_alive, .int v_t_dead])), (a_t_paper, .inr (0, [.ref a_t_paper_sizes, .ref a_t_paper_cites, .int v_t_paper_notes, .int v_t_paper_version])), (a_t_paper_sizes, .inl (cI, 8, .inl r_t_paper_sizes))] H) _ hS => ?_)
      refine lv_iconst (v := (1)) hx hb dX4_pointedAt_24 (by decide) ?_
      refine lv_icmp_ne (tgt := 36) hx hb dX4_pointedAt_25 (by decide) (fun c4 => ?_) (fun c4 => ?_)
      · have hf := pn_ifp c4 hf
        refine lv_iconst (v := (-1)) hx hb dX4_pointedAt_36 (by decide) ?_
        cases hf
        rw [hQ]
        exact pn_reti hx hb hr hlocks hP hS rfl dX4_pointedAt_37
      · have hf := pn_ifq c4 hf
        refine lv_iload_n hx hb dX4_pointedAt_28 rfl (lv_at hl 3 rfl) ?_
        refine lv_iconst (v := (0)) hx hb dX4_pointedAt_29 (by decide) ?_
        obtain ⟨ru5, hu5, hf⟩ := pn_bd1_at hf
        refine pn_calli [] (va_runS (As := [.int p3, .int (0 : Int32)]) (rest := []) ⟨hx, hb, hml, hown, hts⟩ (c_X1_slotOf l D cI cJ cZ H.size p3 (0 : Int32) ru5 hu5) (va_cwS 2 hts gX4_pointedAt_X1_slotOf rfl rfl rfl hdX1_slotOf ⟨Nat.le_of_ble_eq_true rfl, Nat.le_of_ble_eq_true rfl⟩) (pn_preS [] hP (hD.addr rfl) hK rfl rfl) rfl rfl hl.1 rfl (lv_room (Nat.le_of_ble_eq_true rfl)) dX4_pointedAt_30 ⟨Nat.zero_le _, Nat.zero_le _⟩) hP (hD.addr rfl) hS hA rfl rfl rfl (fun H locs (hP : va_P D vwCl [(a_t, .inr (3, [.ref a_t_paper, .ref a_t_linked, .ref a_t_caseAt, .ref a_t_reasonAt, .ref a_t_firstSlot, .ref a_t_members, .ref a_t_namedBy, .ref a_t_foundBy, .int v_t_linkedVersion, .int v_t_studiedVersion, .int v_t_present, .int v_t_fulls, .int v_t_cases, .int v_t_cited, .int v_t_alive, .int v_t_dead])), (a_t_paper, .inr (0, [.ref a_t_paper_sizes, .ref a_t_paper_cites, .int v_t_paper_notes, .int v_t_paper_version])), (a_t_paper_sizes, .inl (cI, 8, .inl r_t_paper_sizes))] H) _ hS => ?_)
        refine lv_goto (tgt := 37) hx hb dX4_pointedAt_33 (by decide) ?_
        cases hf
        rw [hQ]
        exact pn_reti hx hb hr hlocks hP hS rfl dX4_pointedAt_37
  · have hf := pn_ifn c1 hf
    refine lv_iload_n hx hb dX4_pointedAt_4 rfl (lv_at hl 1 rfl) ?_
    refine lv_iload_n hx hb dX4_pointedAt_5 rfl (lv_at hl 2 rfl) ?_
    refine lv_iconst (v := (1)) hx hb dX4_pointedAt_6 (by decide) ?_
    refine lv_isub hx hb dX4_pointedAt_7 ?_
    obtain ⟨ru6, hu6, hf⟩ := pn_bd1_at hf
    refine pn_calli [] (va_runS (As := [.int p1, .int (p2 - (1 : Int32))]) (rest := []) ⟨hx, hb, hml, hown, hts⟩ (c_X1_slotOf l D cI cJ cZ H.size p1 (p2 - (1 : Int32)) ru6 hu6) (va_cwS 2 hts gX4_pointedAt_X1_slotOf rfl rfl rfl hdX1_slotOf ⟨Nat.le_of_ble_eq_true rfl, Nat.le_of_ble_eq_true rfl⟩) (pn_preS [] hP (hD.addr rfl) hK rfl rfl) rfl rfl hl.1 rfl (lv_room (Nat.le_of_ble_eq_true rfl)) dX4_pointedAt_8 ⟨Nat.zero_le _, Nat.zero_le _⟩) hP (hD.addr rfl) hS hA rfl rfl rfl (fun H locs (hP : va_P D vwCl [(a_t, .inr (3, [.ref a_t_paper, .ref a_t_linked, .ref a_t_caseAt, .ref a_t_reasonAt, .ref a_t_firstSlot, .ref a_t_members, .ref a_t_namedBy, .ref a_t_foundBy, .int v_t_linkedVersion, .int v_t_studiedVersion, .int v_t_present, .int v_t_fulls, .int v_t_cases, .int v_t_cited, .int v_t_alive, .int v_t_dead])), (a_t_paper, .inr (0, [.ref a_t_paper_sizes, .ref a_t_paper_cites, .int v_t_paper_notes, .int v_t_paper_version])), (a_t_paper_sizes, .inl (cI, 8, .inl r_t_paper_sizes))] H) _ hS => ?_)
    cases hf
    rw [hQ]
    exact pn_reti hx hb hr hlocks hP hS rfl dX4_pointedAt_11
